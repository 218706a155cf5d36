theorem xs_keepL {w : mr_Wd} {n0 nx ct fk : Int} {g f im : Nat → Int} {S I : Nat → Nat → Int} {Po : Option mr_AV → mr_Wd → Prop} (hX : mr_XS w (n0, g, f, nx, ct, S, I, im, fk)) (k : ∀ w' : mr_Wd, mr_XS w' (n0, g, f, (nx + 1) % 8, min (ct + 1) 8, (fun i => if i = nx.toNat then f else S i), I, im, fk) → w' 17 = w 17 → mr_Fr w w' → Po none w') : T_X1_keep [vR 5 0, vR 3 0] w Po := by
  obtain ⟨⟨sd, h0⟩, h1, h2, h3, h4, h5, h6, h7, ⟨m0, cl0, ct0, R0, F0, hS⟩, ⟨rv, rk, rs, rn, ro, rl_, rln, rmd, ra, rb, h11, hrv, hrs⟩, h12, ⟨f13, h13⟩, ⟨nm, h14, hnm⟩, h15, h16, ⟨r17, h17⟩, hn0, hB, hnx, hct, hSB, hIB, him, hfk⟩ := hX
  refine ⟨nx, ct, S, f, rfl, ⟨h5, h6⟩, ⟨h3, h4⟩, hnx, hct, k _ ⟨⟨sd, h0⟩, h1, h2, h3, h4, rfl, rfl, h7, ⟨m0, cl0, ct0, R0, F0, hS⟩, ⟨rv, rk, rs, rn, ro, rl_, rln, rmd, ra, rb, h11, hrv, hrs⟩, h12, ⟨f13, h13⟩, ⟨nm, h14, hnm⟩, h15, h16, ⟨r17, h17⟩, hn0, hB, ⟨by omega, by omega⟩, ⟨by omega, by omega⟩, (fun i => ?_), hIB, him, hfk⟩ rfl (((mr_Fr.rf w).up _ (by decide)).up _ (by decide))⟩
  show mr_Bd (if i = nx.toNat then f else S i)
  split
  · exact hB
  · exact hSB i
def T_X6_come (a : List mr_AV) (w : mr_Wd) (Po : Option mr_AV → mr_Wd → Prop) : Prop := ∃ (n0 nx ct fk : Int) (g f im : Nat → Int) (S I : Nat → Nat → Int) (p x y z : Int), a = [vR 0 0, vI p, vI x, vI y, vI z] ∧ mr_XS w (n0, g, f, nx, ct, S, I, im, fk) ∧ InR p ∧ InR x ∧ InR y ∧ InR z ∧ ((mr_pk f p ∧ mr_ro f x y z) → (∀ w' : mr_Wd, mr_XS w' (n0, g, mr_abs f (mr_l3 x y z) p mr_Zz mr_Zz, (nx + 1) % 8, min (ct + 1) 8, (fun i => if i = nx.toNat then f else S i), I, im, fk) → mr_Fr w w' → Po (some (vI (mr_sz (mr_abs f (mr_l3 x y z) p mr_Zz mr_Zz) p 0))) w')) ∧ (¬ (mr_pk f p ∧ mr_ro f x y z) → Po (some (vI (-1))) w)
set_option maxHeartbeats 4000000 in
set_option maxRecDepth 20000 in
theorem ok_X6_come (l : Launch) (G : mr_G) : mr_Ok l G yX6_come cX6_come 5 (some .int) 5 114 T_X6_come := by
  refine mr_Ok.of (by decide +kernel) ?_
  rintro a w Po ⟨n0, nx, ct, fk, g, f, im, S, I, p, x, y, z, rfl, hX, h_p, h_x, h_y, h_z, hP, hR⟩
  refine ⟨Nat.le_of_ble_eq_true rfl, ?_⟩
  show mr_J l G RX6 cX6_come 5 (some .int) 5 114 Po 0 [some (vR 0 0), some (vI p), some (vI x), some (vI y), some (vI z)] [] w
  obtain ⟨⟨sd, h0⟩, h1, h2, h3, h4, h5, h6, h7, ⟨m0, cl0, ct0, R0, F0, hS⟩, ⟨rv, rk, rs, rn, ro, rl_, rln, rmd, ra, rb, h11, hrv, hrs⟩, h12, ⟨f13, h13⟩, ⟨nm, h14, hnm⟩, h15, h16, ⟨r17, h17⟩, hn0, hB, hnx, hct, hSB, hIB, him, hfk⟩ := id hX
  refine mr_aload_n dX6_come_0 rfl ?_
  refine mr_iload_n dX6_come_1 rfl ?_
  refine mr_iload_n dX6_come_2 rfl ?_
  refine mr_iload_n dX6_come_3 rfl ?_
  refine mr_iload dX6_come_4 rfl ?_
  refine mr_callV (as := [_, _, _, _]) dX6_come_6 (ok_X6_takeRow l G) ml_X6_141 cl_X6_takeRow cv_X6_takeRow (by decide) rfl rfl (Nat.le_of_ble_eq_true rfl) (by assumption) ?_
  refine ⟨_, _, _, _, _, _, _, _, _, _, _, _, _, rfl, hX, h_p, h_x, h_y, h_z, ?_, ?_⟩
  · intro hy w1 hX1 hl1 hF1
    obtain ⟨⟨sd, h0⟩, h1, h2, h3, h4, h5, h6, h7, ⟨m0, cl0, ct0, R0, F0, hS⟩, ⟨rv, rk, rs, rn, ro, rl_, rln, rmd, ra, rb, h11, hrv, hrs⟩, h12, ⟨f13, h13⟩, ⟨nm, h14, hnm⟩, h15, h16, ⟨r17, h17⟩, hn0, hB, hnx, hct, hSB, hIB, him, hfk⟩ := id hX1
    dsimp only [Option.toList_some, Option.toList_none, List.cons_append, List.nil_append]
    refine mr_if_ne (tgt := 14) dX6_come_9 (by decide) (by omega) (fun _ => ?_) (fun h => absurd h (by decide))
    refine mr_aload_n dX6_come_14 rfl ?_
    refine mr_get dX6_come_15 fl_X6_26 (by assumption) rfl ?_
    refine mr_aload_n dX6_come_18 rfl ?_
    refine mr_get dX6_come_19 fl_X6_19 (by assumption) rfl ?_
    refine mr_callV (as := [_]) dX6_come_22 (ok_X1_keep l G) ml_X6_167 cl_X1_keep cv_X1_keep (by decide) rfl rfl (Nat.le_of_ble_eq_true rfl) (by assumption) ?_
    refine xs_keepL hX1 (fun w2 hX2 hl2 hF2 => ?_)
    obtain ⟨⟨sd, h0⟩, h1, h2, h3, h4, h5, h6, h7, ⟨m0, cl0, ct0, R0, F0, hS⟩, ⟨rv, rk, rs, rn, ro, rl_, rln, rmd, ra, rb, h11, hrv, hrs⟩, h12, ⟨f13, h13⟩, ⟨nm, h14, hnm⟩, h15, h16, ⟨r17, h17⟩, hn0, hB, hnx, hct, hSB, hIB, him, hfk⟩ := id hX2
    have hl2 : w2 17 = eA 0 3 (mr_l3 x y z) := hl2.trans hl1
    dsimp only [Option.toList_some, Option.toList_none, List.cons_append, List.nil_append]
    refine mr_aload_n dX6_come_25 rfl ?_
    refine mr_get dX6_come_26 fl_X6_33 (by assumption) rfl ?_
    refine mr_aload_n dX6_come_29 rfl ?_
    refine mr_get dX6_come_30 fl_X6_19 (by assumption) rfl ?_
    refine mr_iload_n dX6_come_33 rfl ?_
    refine mr_aload_n dX6_come_34 rfl ?_
    refine mr_get dX6_come_35 fl_X6_55 (by assumption) rfl ?_
    refine mr_callV (as := [_, _, _]) dX6_come_38 (ok_X3_absorb l G) ml_X6_170 cl_X3_absorb cv_X3_absorb (by decide) rfl rfl (Nat.le_of_ble_eq_true rfl) (by assumption) ?_
    refine xs_absorb hX2 (by omega) hy.1.2 hl2 (mr_l3_bd hB hy.2) (fun w3 hX3 hF3 => ?_)
    obtain ⟨⟨sd, h0⟩, h1, h2, h3, h4, h5, h6, h7, ⟨m0, cl0, ct0, R0, F0, hS⟩, ⟨rv, rk, rs, rn, ro, rl_, rln, rmd, ra, rb, h11, hrv, hrs⟩, h12, ⟨f13, h13⟩, ⟨nm, h14, hnm⟩, h15, h16, ⟨r17, h17⟩, hn0, hB, hnx, hct, hSB, hIB, him, hfk⟩ := id hX3
    dsimp only [Option.toList_some, Option.toList_none, List.cons_append, List.nil_append]
    refine mr_aload_n dX6_come_41 rfl ?_
    refine mr_get dX6_come_42 fl_X6_19 (by assumption) rfl ?_
    refine mr_iload_n dX6_come_45 rfl ?_
    refine mr_callV (as := [_]) dX6_come_46 (ok_X0_sizeOf l G) ml_X6_127 cl_X0_sizeOf cv_X0_sizeOf (by decide) rfl rfl (Nat.le_of_ble_eq_true rfl) (by assumption) ?_
    refine ⟨_, _, _, rfl, ⟨h3, h4⟩, hB, (by assumption), ?_⟩
    dsimp only [Option.toList_some, Option.toList_none, List.cons_append, List.nil_append]
    refine mr_iret rfl dX6_come_49 ?_
    first | exact hP hy w3 hX3 (hF1.tr (hF2.tr hF3)) | exact hR hy
  · intro hy
    dsimp only [Option.toList_some, Option.toList_none, List.cons_append, List.nil_append]
    refine mr_if_ne (tgt := 14) dX6_come_9 (by decide) (by omega) (fun h => absurd h (by decide)) (fun _ => ?_)
    refine mr_iconst dX6_come_12 ?_
    refine mr_iret rfl dX6_come_13 ?_
    first | exact hP hy w3 hX3 (hF1.tr (hF2.tr hF3)) | exact hR hy
def T_X6_clear (a : List mr_AV) (w : mr_Wd) (Po : Option mr_AV → mr_Wd → Prop) : Prop := ∃ (n0 nx ct fk : Int) (g f im : Nat → Int) (S I : Nat → Nat → Int) (p b : Int), a = [vR 0 0, vI p, vI b] ∧ mr_XS w (n0, g, f, nx, ct, S, I, im, fk) ∧ InR p ∧ InR b ∧ (mr_pk f p → (∀ w' : mr_Wd, mr_XS w' (n0, g, mr_pA f p (fun c a => if a = c then (if b ≠ 0 then 1 else 0) else 0), (nx + 1) % 8, min (ct + 1) 8, (fun i => if i = nx.toNat then f else S i), I, im, fk) → mr_Fr w w' → Po (some (vI (mr_sz (mr_pA f p (fun c a => if a = c then (if b ≠ 0 then 1 else 0) else 0)) p 0))) w')) ∧ (¬ mr_pk f p → Po (some (vI (-1))) w)
set_option maxHeartbeats 4000000 in
set_option maxRecDepth 20000 in
theorem ok_X6_clear (l : Launch) (G : mr_G) : mr_Ok l G yX6_clear cX6_clear 3 (some .int) 5 114 T_X6_clear := by
  refine mr_Ok.of (by decide +kernel) ?_
  rintro a w Po ⟨n0, nx, ct, fk, g, f, im, S, I, p, b, rfl, hX, h_p, h_b, hP, hR⟩
  refine ⟨Nat.le_of_ble_eq_true rfl, ?_⟩
  show mr_J l G RX6 cX6_clear 3 (some .int) 5 114 Po 0 [some (vR 0 0), some (vI p), some (vI b)] [] w
  obtain ⟨⟨sd, h0⟩, h1, h2, h3, h4, h5, h6, h7, ⟨m0, cl0, ct0, R0, F0, hS⟩, ⟨rv, rk, rs, rn, ro, rl_, rln, rmd, ra, rb, h11, hrv, hrs⟩, h12, ⟨f13, h13⟩, ⟨nm, h14, hnm⟩, h15, h16, ⟨r17, h17⟩, hn0, hB, hnx, hct, hSB, hIB, him, hfk⟩ := id hX
  refine mr_aload_n dX6_clear_0 rfl ?_
  refine mr_get dX6_clear_1 fl_X6_19 (by assumption) rfl ?_
  refine mr_iload_n dX6_clear_4 rfl ?_
  refine mr_callV (as := [_]) dX6_clear_5 (ok_X0_hasPlace l G) ml_X6_124 cl_X0_hasPlace cv_X0_hasPlace (by decide) rfl rfl (Nat.le_of_ble_eq_true rfl) (by assumption) ?_
  refine ⟨3, _, _, rfl, ⟨h3, h4⟩, hB, h_p, ?_, ?_⟩
  · intro hy
    dsimp only [Option.toList_some, Option.toList_none, List.cons_append, List.nil_append]
    refine mr_if_ne (tgt := 13) dX6_clear_8 (by decide) (by omega) (fun _ => ?_) (fun h => absurd h (by decide))
    refine mr_aload_n dX6_clear_13 rfl ?_
    refine mr_get dX6_clear_14 fl_X6_26 (by assumption) rfl ?_
    refine mr_aload_n dX6_clear_17 rfl ?_
    refine mr_get dX6_clear_18 fl_X6_19 (by assumption) rfl ?_
    refine mr_callV (as := [_]) dX6_clear_21 (ok_X1_keep l G) ml_X6_167 cl_X1_keep cv_X1_keep (by decide) rfl rfl (Nat.le_of_ble_eq_true rfl) (by assumption) ?_
    refine xs_keep hX (fun w1 hX1 hF1 => ?_)
    obtain ⟨⟨sd, h0⟩, h1, h2, h3, h4, h5, h6, h7, ⟨m0, cl0, ct0, R0, F0, hS⟩, ⟨rv, rk, rs, rn, ro, rl_, rln, rmd, ra, rb, h11, hrv, hrs⟩, h12, ⟨f13, h13⟩, ⟨nm, h14, hnm⟩, h15, h16, ⟨r17, h17⟩, hn0, hB, hnx, hct, hSB, hIB, him, hfk⟩ := id hX1
    dsimp only [Option.toList_some, Option.toList_none, List.cons_append, List.nil_append]
    refine mr_aload_n dX6_clear_24 rfl ?_
    refine mr_get dX6_clear_25 fl_X6_19 (by assumption) rfl ?_
    refine mr_iload_n dX6_clear_28 rfl ?_
    refine mr_iload_n dX6_clear_29 rfl ?_
    refine mr_if_eq (tgt := 37) dX6_clear_30 (by decide) (by omega) (fun hc_30 => ?_) (fun hc_30 => ?_)
    · refine mr_iconst dX6_clear_37 ?_
      refine mr_callV (as := [_, _]) dX6_clear_38 (ok_X0_setPlain l G) ml_X6_174 cl_X0_setPlain cv_X0_setPlain (by decide) rfl rfl (Nat.le_of_ble_eq_true rfl) (by assumption) ?_
      rw [show (if b ≠ 0 then (1 : Int) else 0) = 0 from if_neg (fun z => z hc_30)] at hP
      refine xs_setPlain hX1 hy.2 (by decide) (fun w2 hX2 hF2 => ?_)
      obtain ⟨⟨sd, h0⟩, h1, h2, h3, h4, h5, h6, h7, ⟨m0, cl0, ct0, R0, F0, hS⟩, ⟨rv, rk, rs, rn, ro, rl_, rln, rmd, ra, rb, h11, hrv, hrs⟩, h12, ⟨f13, h13⟩, ⟨nm, h14, hnm⟩, h15, h16, ⟨r17, h17⟩, hn0, hB, hnx, hct, hSB, hIB, him, hfk⟩ := id hX2
      dsimp only [Option.toList_some, Option.toList_none, List.cons_append, List.nil_append]
      refine mr_aload_n dX6_clear_41 rfl ?_
      refine mr_get dX6_clear_42 fl_X6_19 (by assumption) rfl ?_
      refine mr_iload_n dX6_clear_45 rfl ?_
      refine mr_callV (as := [_]) dX6_clear_46 (ok_X0_sizeOf l G) ml_X6_127 cl_X0_sizeOf cv_X0_sizeOf (by decide) rfl rfl (Nat.le_of_ble_eq_true rfl) (by assumption) ?_
      refine ⟨_, _, _, rfl, ⟨h3, h4⟩, hB, (by assumption), ?_⟩
      dsimp only [Option.toList_some, Option.toList_none, List.cons_append, List.nil_append]
      refine mr_iret rfl dX6_clear_49 ?_
      first | exact hP hy w2 hX2 (hF1.tr hF2) | exact hR hy
    · refine mr_iconst dX6_clear_33 ?_
      refine mr_goto (tgt := 38) dX6_clear_34 (by decide) ?_
      refine mr_callV (as := [_, _]) dX6_clear_38 (ok_X0_setPlain l G) ml_X6_174 cl_X0_setPlain cv_X0_setPlain (by decide) rfl rfl (Nat.le_of_ble_eq_true rfl) (by assumption) ?_
      rw [show (if b ≠ 0 then (1 : Int) else 0) = 1 from if_pos hc_30] at hP
      refine xs_setPlain hX1 hy.2 (by decide) (fun w2 hX2 hF2 => ?_)
      obtain ⟨⟨sd, h0⟩, h1, h2, h3, h4, h5, h6, h7, ⟨m0, cl0, ct0, R0, F0, hS⟩, ⟨rv, rk, rs, rn, ro, rl_, rln, rmd, ra, rb, h11, hrv, hrs⟩, h12, ⟨f13, h13⟩, ⟨nm, h14, hnm⟩, h15, h16, ⟨r17, h17⟩, hn0, hB, hnx, hct, hSB, hIB, him, hfk⟩ := id hX2
      dsimp only [Option.toList_some, Option.toList_none, List.cons_append, List.nil_append]
      refine mr_aload_n dX6_clear_41 rfl ?_
      refine mr_get dX6_clear_42 fl_X6_19 (by assumption) rfl ?_
      refine mr_iload_n dX6_clear_45 rfl ?_
      refine mr_callV (as := [_]) dX6_clear_46 (ok_X0_sizeOf l G) ml_X6_127 cl_X0_sizeOf cv_X0_sizeOf (by decide) rfl rfl (Nat.le_of_ble_eq_true rfl) (by assumption) ?_
      refine ⟨_, _, _, rfl, ⟨h3, h4⟩, hB, (by assumption), ?_⟩
      dsimp only [Option.toList_some, Option.toList_none, List.cons_append, List.nil_append]
      refine mr_iret rfl dX6_clear_49 ?_
      first | exact hP hy w2 hX2 (hF1.tr hF2) | exact hR hy
  · intro hy
    dsimp only [Option.toList_some, Option.toList_none, List.cons_append, List.nil_append]
    refine mr_if_ne (tgt := 13) dX6_clear_8 (by decide) (by omega) (fun h => absurd h (by decide)) (fun _ => ?_)
    refine mr_iconst dX6_clear_11 ?_
    refine mr_iret rfl dX6_clear_12 ?_
    first | exact hP hy w2 hX2 (hF1.tr hF2) | exact hR hy
def T_X6_join (a : List mr_AV) (w : mr_Wd) (Po : Option mr_AV → mr_Wd → Prop) : Prop := ∃ (n0 nx ct fk : Int) (g f im : Nat → Int) (S I : Nat → Nat → Int) (s t b q : Int), a = [vR 0 0, vI s, vI t, vI b, vI q] ∧ mr_XS w (n0, g, f, nx, ct, S, I, im, fk) ∧ InR s ∧ InR t ∧ InR b ∧ InR q ∧ ((mr_pk f s ∧ mr_pk f t ∧ mr_pk f q) → b = 0 → (∀ (R1 F1 : Nat → Nat → Int) (w' : mr_Wd), mr_XS w' (n0, g, mr_pA f q (fun c a => mr_sh (f 1) (mr_shp (f 0) (f 1) (0 + f 1 + f 1) (mr_tbJ (f 1) 0 f s t R1) F1) (0 + c) (0 + a)), (nx + 1) % 8, min (ct + 1) 8, (fun i => if i = nx.toNat then f else S i), I, im, fk) → mr_Fr w w' → Po (some (vI (mr_sz (mr_pA f q (fun c a => mr_sh (f 1) (mr_shp (f 0) (f 1) (0 + f 1 + f 1) (mr_tbJ (f 1) 0 f s t R1) F1) (0 + c) (0 + a))) q 0))) w')) ∧ ((mr_pk f s ∧ mr_pk f t ∧ mr_pk f q) → b ≠ 0 → (∀ (R1 F1 : Nat → Nat → Int) (w' : mr_Wd), mr_XS w' (n0, g, mr_pA f q (fun c a => mr_sh (2 * f 1) (mr_shp (f 0) (2 * f 1) (0 + f 1 + f 1) (mr_tbJ (2 * f 1) 1 f s t R1) F1) (f 1 + c) (f 1 + a)), (nx + 1) % 8, min (ct + 1) 8, (fun i => if i = nx.toNat then f else S i), I, im, fk) → mr_Fr w w' → Po (some (vI (mr_sz (mr_pA f q (fun c a => mr_sh (2 * f 1) (mr_shp (f 0) (2 * f 1) (0 + f 1 + f 1) (mr_tbJ (2 * f 1) 1 f s t R1) F1) (f 1 + c) (f 1 + a))) q 0))) w')) ∧ (¬ (mr_pk f s ∧ mr_pk f t ∧ mr_pk f q) → Po (some (vI (-1))) w)
set_option maxHeartbeats 4000000 in
set_option maxRecDepth 20000 in
theorem ok_X6_join (l : Launch) (G : mr_G) : mr_Ok l G yX6_join cX6_join 5 (some .int) 5 114 T_X6_join := by
  refine mr_Ok.of (by decide +kernel) ?_
  rintro a w Po ⟨n0, nx, ct, fk, g, f, im, S, I, s, t, b, q, rfl, hX, h_s, h_t, h_b, h_q, hP, hQ, hR⟩
  refine ⟨Nat.le_of_ble_eq_true rfl, ?_⟩
  show mr_J l G RX6 cX6_join 5 (some .int) 5 114 Po 0 [some (vR 0 0), some (vI s), some (vI t), some (vI b), some (vI q)] [] w
  obtain ⟨⟨sd, h0⟩, h1, h2, h3, h4, h5, h6, h7, ⟨m0, cl0, ct0, R0, F0, hS⟩, ⟨rv, rk, rs, rn, ro, rl_, rln, rmd, ra, rb, h11, hrv, hrs⟩, h12, ⟨f13, h13⟩, ⟨nm, h14, hnm⟩, h15, h16, ⟨r17, h17⟩, hn0, hB, hnx, hct, hSB, hIB, him, hfk⟩ := id hX
  refine mr_aload_n dX6_join_0 rfl ?_
  refine mr_get dX6_join_1 fl_X6_19 (by assumption) rfl ?_
  refine mr_iload_n dX6_join_4 rfl ?_
  refine mr_callV (as := [_]) dX6_join_5 (ok_X0_hasPlace l G) ml_X6_124 cl_X0_hasPlace cv_X0_hasPlace (by decide) rfl rfl (Nat.le_of_ble_eq_true rfl) (by assumption) ?_
  refine ⟨3, _, _, rfl, ⟨h3, h4⟩, hB, h_s, ?_, ?_⟩
  · intro hy1
    dsimp only [Option.toList_some, Option.toList_none, List.cons_append, List.nil_append]
    refine mr_if_eq (tgt := 34) dX6_join_8 (by decide) (by omega) (fun h => absurd h (by decide)) (fun _ => ?_)
    refine mr_aload_n dX6_join_11 rfl ?_
    refine mr_get dX6_join_12 fl_X6_19 (by assumption) rfl ?_
    refine mr_iload_n dX6_join_15 rfl ?_
    refine mr_callV (as := [_]) dX6_join_16 (ok_X0_hasPlace l G) ml_X6_124 cl_X0_hasPlace cv_X0_hasPlace (by decide) rfl rfl (Nat.le_of_ble_eq_true rfl) (by assumption) ?_
    refine ⟨3, _, _, rfl, ⟨h3, h4⟩, hB, h_t, ?_, ?_⟩
    · intro hy2
      dsimp only [Option.toList_some, Option.toList_none, List.cons_append, List.nil_append]
      refine mr_if_eq (tgt := 34) dX6_join_19 (by decide) (by omega) (fun h => absurd h (by decide)) (fun _ => ?_)
      refine mr_aload_n dX6_join_22 rfl ?_
      refine mr_get dX6_join_23 fl_X6_19 (by assumption) rfl ?_
      refine mr_iload dX6_join_26 rfl ?_
      refine mr_callV (as := [_]) dX6_join_28 (ok_X0_hasPlace l G) ml_X6_124 cl_X0_hasPlace cv_X0_hasPlace (by decide) rfl rfl (Nat.le_of_ble_eq_true rfl) (by assumption) ?_
      refine ⟨3, _, _, rfl, ⟨h3, h4⟩, hB, h_q, ?_, ?_⟩
      · intro hy3
        dsimp only [Option.toList_some, Option.toList_none, List.cons_append, List.nil_append]
        refine mr_if_ne (tgt := 36) dX6_join_31 (by decide) (by omega) (fun _ => ?_) (fun h => absurd h (by decide))
        refine mr_aload_n dX6_join_36 rfl ?_
        refine mr_get dX6_join_37 fl_X6_26 (by assumption) rfl ?_
        refine mr_aload_n dX6_join_40 rfl ?_
        refine mr_get dX6_join_41 fl_X6_19 (by assumption) rfl ?_
        refine mr_callV (as := [_]) dX6_join_44 (ok_X1_keep l G) ml_X6_167 cl_X1_keep cv_X1_keep (by decide) rfl rfl (Nat.le_of_ble_eq_true rfl) (by assumption) ?_
        refine xs_keep hX (fun w1 hX1 hF1 => ?_)
        obtain ⟨⟨sd, h0⟩, h1, h2, h3, h4, h5, h6, h7, ⟨m0, cl0, ct0, R0, F0, hS⟩, ⟨rv, rk, rs, rn, ro, rl_, rln, rmd, ra, rb, h11, hrv, hrs⟩, h12, ⟨f13, h13⟩, ⟨nm, h14, hnm⟩, h15, h16, ⟨r17, h17⟩, hn0, hB, hnx, hct, hSB, hIB, him, hfk⟩ := id hX1
        dsimp only [Option.toList_some, Option.toList_none, List.cons_append, List.nil_append]
        refine mr_iload_n dX6_join_47 rfl ?_
        refine mr_if_eq (tgt := 69) dX6_join_48 (by decide) (by omega) (fun hc_48 => ?_) (fun hc_48 => ?_)
        · refine mr_aload_n dX6_join_69 rfl ?_
          refine mr_get dX6_join_70 fl_X6_33 (by assumption) rfl ?_
          refine mr_aload_n dX6_join_73 rfl ?_
          refine mr_get dX6_join_74 fl_X6_19 (by assumption) rfl ?_
          refine mr_iload_n dX6_join_77 rfl ?_
          refine mr_iload_n dX6_join_78 rfl ?_
          refine mr_iload dX6_join_79 rfl ?_
          refine mr_callV (as := [_, _, _, _]) dX6_join_81 (ok_X3_putJoined l G) ml_X6_182 cl_X3_putJoined cv_X3_putJoined (by decide) rfl rfl (Nat.le_of_ble_eq_true rfl) (by assumption) ?_
          refine xs_X3_putJoined hX1 (by omega) hy1.2 hy2.2 hy3.2 (fun R1 F1 w2 hX2 hF2 => ?_)
          obtain ⟨⟨sd, h0⟩, h1, h2, h3, h4, h5, h6, h7, ⟨m0, cl0, ct0, R0, F0, hS⟩, ⟨rv, rk, rs, rn, ro, rl_, rln, rmd, ra, rb, h11, hrv, hrs⟩, h12, ⟨f13, h13⟩, ⟨nm, h14, hnm⟩, h15, h16, ⟨r17, h17⟩, hn0, hB, hnx, hct, hSB, hIB, him, hfk⟩ := id hX2
          dsimp only [Option.toList_some, Option.toList_none, List.cons_append, List.nil_append]
          refine mr_aload_n dX6_join_84 rfl ?_
          refine mr_get dX6_join_85 fl_X6_19 (by assumption) rfl ?_
          refine mr_iload dX6_join_88 rfl ?_
          refine mr_callV (as := [_]) dX6_join_90 (ok_X0_sizeOf l G) ml_X6_127 cl_X0_sizeOf cv_X0_sizeOf (by decide) rfl rfl (Nat.le_of_ble_eq_true rfl) (by assumption) ?_
          refine ⟨_, _, _, rfl, ⟨h3, h4⟩, hB, (by assumption), ?_⟩
          dsimp only [Option.toList_some, Option.toList_none, List.cons_append, List.nil_append]
          refine mr_iret rfl dX6_join_93 ?_
          first | exact hP ⟨hy1, hy2, hy3⟩ hc_48 R1 F1 w2 hX2 (hF1.tr hF2) | exact hQ ⟨hy1, hy2, hy3⟩ hc_48 R1 F1 w2 hX2 (hF1.tr hF2) | exact hR (fun z => hy1 z.1) | exact hR (fun z => hy2 z.2.1) | exact hR (fun z => hy3 z.2.2)
        · refine mr_aload_n dX6_join_51 rfl ?_
          refine mr_get dX6_join_52 fl_X6_33 (by assumption) rfl ?_
          refine mr_aload_n dX6_join_55 rfl ?_
          refine mr_get dX6_join_56 fl_X6_19 (by assumption) rfl ?_
          refine mr_iload_n dX6_join_59 rfl ?_
          refine mr_iload_n dX6_join_60 rfl ?_
          refine mr_iload dX6_join_61 rfl ?_
          refine mr_callV (as := [_, _, _, _]) dX6_join_63 (ok_X3_putMet l G) ml_X6_178 cl_X3_putMet cv_X3_putMet (by decide) rfl rfl (Nat.le_of_ble_eq_true rfl) (by assumption) ?_
          refine xs_X3_putMet hX1 (by omega) hy1.2 hy2.2 hy3.2 (fun R1 F1 w2 hX2 hF2 => ?_)
          obtain ⟨⟨sd, h0⟩, h1, h2, h3, h4, h5, h6, h7, ⟨m0, cl0, ct0, R0, F0, hS⟩, ⟨rv, rk, rs, rn, ro, rl_, rln, rmd, ra, rb, h11, hrv, hrs⟩, h12, ⟨f13, h13⟩, ⟨nm, h14, hnm⟩, h15, h16, ⟨r17, h17⟩, hn0, hB, hnx, hct, hSB, hIB, him, hfk⟩ := id hX2
          dsimp only [Option.toList_some, Option.toList_none, List.cons_append, List.nil_append]
          refine mr_goto (tgt := 84) dX6_join_66 (by decide) ?_
          refine mr_aload_n dX6_join_84 rfl ?_
          refine mr_get dX6_join_85 fl_X6_19 (by assumption) rfl ?_
          refine mr_iload dX6_join_88 rfl ?_
          refine mr_callV (as := [_]) dX6_join_90 (ok_X0_sizeOf l G) ml_X6_127 cl_X0_sizeOf cv_X0_sizeOf (by decide) rfl rfl (Nat.le_of_ble_eq_true rfl) (by assumption) ?_
          refine ⟨_, _, _, rfl, ⟨h3, h4⟩, hB, (by assumption), ?_⟩
          dsimp only [Option.toList_some, Option.toList_none, List.cons_append, List.nil_append]
          refine mr_iret rfl dX6_join_93 ?_
          first | exact hP ⟨hy1, hy2, hy3⟩ hc_48 R1 F1 w2 hX2 (hF1.tr hF2) | exact hQ ⟨hy1, hy2, hy3⟩ hc_48 R1 F1 w2 hX2 (hF1.tr hF2) | exact hR (fun z => hy1 z.1) | exact hR (fun z => hy2 z.2.1) | exact hR (fun z => hy3 z.2.2)
      · intro hy3
        dsimp only [Option.toList_some, Option.toList_none, List.cons_append, List.nil_append]
        refine mr_if_ne (tgt := 36) dX6_join_31 (by decide) (by omega) (fun h => absurd h (by decide)) (fun _ => ?_)
        refine mr_iconst dX6_join_34 ?_
        refine mr_iret rfl dX6_join_35 ?_
        first | exact hP ⟨hy1, hy2, hy3⟩ hc_48 R1 F1 w2 hX2 (hF1.tr hF2) | exact hQ ⟨hy1, hy2, hy3⟩ hc_48 R1 F1 w2 hX2 (hF1.tr hF2) | exact hR (fun z => hy1 z.1) | exact hR (fun z => hy2 z.2.1) | exact hR (fun z => hy3 z.2.2)
    · intro hy2
      dsimp only [Option.toList_some, Option.toList_none, List.cons_append, List.nil_append]
      refine mr_if_eq (tgt := 34) dX6_join_19 (by decide) (by omega) (fun _ => ?_) (fun h => absurd h (by decide))
      refine mr_iconst dX6_join_34 ?_
      refine mr_iret rfl dX6_join_35 ?_
      first | exact hP ⟨hy1, hy2, hy3⟩ hc_48 R1 F1 w2 hX2 (hF1.tr hF2) | exact hQ ⟨hy1, hy2, hy3⟩ hc_48 R1 F1 w2 hX2 (hF1.tr hF2) | exact hR (fun z => hy1 z.1) | exact hR (fun z => hy2 z.2.1) | exact hR (fun z => hy3 z.2.2)
  · intro hy1
    dsimp only [Option.toList_some, Option.toList_none, List.cons_append, List.nil_append]
    refine mr_if_eq (tgt := 34) dX6_join_8 (by decide) (by omega) (fun _ => ?_) (fun h => absurd h (by decide))
    refine mr_iconst dX6_join_34 ?_
    refine mr_iret rfl dX6_join_35 ?_
    first | exact hP ⟨hy1, hy2, hy3⟩ hc_48 R1 F1 w2 hX2 (hF1.tr hF2) | exact hQ ⟨hy1, hy2, hy3⟩ hc_48 R1 F1 w2 hX2 (hF1.tr hF2) | exact hR (fun z => hy1 z.1) | exact hR (fun z => hy2 z.2.1) | exact hR (fun z => hy3 z.2.2)
def T_X6_upright (a : List mr_AV) (w : mr_Wd) (Po : Option mr_AV → mr_Wd → Prop) : Prop := ∃ (n0 nx ct fk : Int) (g f im : Nat → Int) (S I : Nat → Nat → Int) (s q : Int), a = [vR 0 0, vI s, vI q] ∧ mr_XS w (n0, g, f, nx, ct, S, I, im, fk) ∧ InR s ∧ InR q ∧ ((mr_pk f s ∧ mr_pk f q) → (∀ (R1 F1 : Nat → Nat → Int) (w' : mr_Wd), mr_XS w' (n0, g, mr_pA f q (fun c a => mr_sh (2 * f 1) (mr_shp (f 0) (2 * f 1) (0 + f 1) (mr_tbU f s R1) F1) (f 1 + c) (f 1 + a)), (nx + 1) % 8, min (ct + 1) 8, (fun i => if i = nx.toNat then f else S i), I, im, fk) → mr_Fr w w' → Po (some (vI (mr_sz (mr_pA f q (fun c a => mr_sh (2 * f 1) (mr_shp (f 0) (2 * f 1) (0 + f 1) (mr_tbU f s R1) F1) (f 1 + c) (f 1 + a))) q 0))) w')) ∧ (¬ (mr_pk f s ∧ mr_pk f q) → Po (some (vI (-1))) w)
set_option maxHeartbeats 4000000 in
set_option maxRecDepth 20000 in
theorem ok_X6_upright (l : Launch) (G : mr_G) : mr_Ok l G yX6_upright cX6_upright 3 (some .int) 5 114 T_X6_upright := by
  refine mr_Ok.of (by decide +kernel) ?_
  rintro a w Po ⟨n0, nx, ct, fk, g, f, im, S, I, s, q, rfl, hX, h_s, h_q, hP, hR⟩
  refine ⟨Nat.le_of_ble_eq_true rfl, ?_⟩
  show mr_J l G RX6 cX6_upright 3 (some .int) 5 114 Po 0 [some (vR 0 0), some (vI s), some (vI q)] [] w
  obtain ⟨⟨sd, h0⟩, h1, h2, h3, h4, h5, h6, h7, ⟨m0, cl0, ct0, R0, F0, hS⟩, ⟨rv, rk, rs, rn, ro, rl_, rln, rmd, ra, rb, h11, hrv, hrs⟩, h12, ⟨f13, h13⟩, ⟨nm, h14, hnm⟩, h15, h16, ⟨r17, h17⟩, hn0, hB, hnx, hct, hSB, hIB, him, hfk⟩ := id hX
  refine mr_aload_n dX6_upright_0 rfl ?_
  refine mr_get dX6_upright_1 fl_X6_19 (by assumption) rfl ?_
  refine mr_iload_n dX6_upright_4 rfl ?_
  refine mr_callV (as := [_]) dX6_upright_5 (ok_X0_hasPlace l G) ml_X6_124 cl_X0_hasPlace cv_X0_hasPlace (by decide) rfl rfl (Nat.le_of_ble_eq_true rfl) (by assumption) ?_
  refine ⟨3, _, _, rfl, ⟨h3, h4⟩, hB, h_s, ?_, ?_⟩
  · intro hy1
    dsimp only [Option.toList_some, Option.toList_none, List.cons_append, List.nil_append]
    refine mr_if_eq (tgt := 22) dX6_upright_8 (by decide) (by omega) (fun h => absurd h (by decide)) (fun _ => ?_)
    refine mr_aload_n dX6_upright_11 rfl ?_
    refine mr_get dX6_upright_12 fl_X6_19 (by assumption) rfl ?_
    refine mr_iload_n dX6_upright_15 rfl ?_
    refine mr_callV (as := [_]) dX6_upright_16 (ok_X0_hasPlace l G) ml_X6_124 cl_X0_hasPlace cv_X0_hasPlace (by decide) rfl rfl (Nat.le_of_ble_eq_true rfl) (by assumption) ?_
    refine ⟨3, _, _, rfl, ⟨h3, h4⟩, hB, h_q, ?_, ?_⟩
    · intro hy3
      dsimp only [Option.toList_some, Option.toList_none, List.cons_append, List.nil_append]
      refine mr_if_ne (tgt := 24) dX6_upright_19 (by decide) (by omega) (fun _ => ?_) (fun h => absurd h (by decide))
      refine mr_aload_n dX6_upright_24 rfl ?_
      refine mr_get dX6_upright_25 fl_X6_26 (by assumption) rfl ?_
      refine mr_aload_n dX6_upright_28 rfl ?_
      refine mr_get dX6_upright_29 fl_X6_19 (by assumption) rfl ?_
      refine mr_callV (as := [_]) dX6_upright_32 (ok_X1_keep l G) ml_X6_167 cl_X1_keep cv_X1_keep (by decide) rfl rfl (Nat.le_of_ble_eq_true rfl) (by assumption) ?_
      refine xs_keep hX (fun w1 hX1 hF1 => ?_)
      obtain ⟨⟨sd, h0⟩, h1, h2, h3, h4, h5, h6, h7, ⟨m0, cl0, ct0, R0, F0, hS⟩, ⟨rv, rk, rs, rn, ro, rl_, rln, rmd, ra, rb, h11, hrv, hrs⟩, h12, ⟨f13, h13⟩, ⟨nm, h14, hnm⟩, h15, h16, ⟨r17, h17⟩, hn0, hB, hnx, hct, hSB, hIB, him, hfk⟩ := id hX1
      dsimp only [Option.toList_some, Option.toList_none, List.cons_append, List.nil_append]
      refine mr_aload_n dX6_upright_35 rfl ?_
      refine mr_get dX6_upright_36 fl_X6_33 (by assumption) rfl ?_
      refine mr_aload_n dX6_upright_39 rfl ?_
      refine mr_get dX6_upright_40 fl_X6_19 (by assumption) rfl ?_
      refine mr_iload_n dX6_upright_43 rfl ?_
      refine mr_iload_n dX6_upright_44 rfl ?_
      refine mr_callV (as := [_, _, _]) dX6_upright_45 (ok_X3_putUpright l G) ml_X6_185 cl_X3_putUpright cv_X3_putUpright (by decide) rfl rfl (Nat.le_of_ble_eq_true rfl) (by assumption) ?_
      refine xs_X3_putUpright hX1 (by omega) hy1.2 hy3.2 (fun R1 F1 w2 hX2 hF2 => ?_)
      obtain ⟨⟨sd, h0⟩, h1, h2, h3, h4, h5, h6, h7, ⟨m0, cl0, ct0, R0, F0, hS⟩, ⟨rv, rk, rs, rn, ro, rl_, rln, rmd, ra, rb, h11, hrv, hrs⟩, h12, ⟨f13, h13⟩, ⟨nm, h14, hnm⟩, h15, h16, ⟨r17, h17⟩, hn0, hB, hnx, hct, hSB, hIB, him, hfk⟩ := id hX2
      dsimp only [Option.toList_some, Option.toList_none, List.cons_append, List.nil_append]
      refine mr_aload_n dX6_upright_48 rfl ?_
      refine mr_get dX6_upright_49 fl_X6_19 (by assumption) rfl ?_
      refine mr_iload_n dX6_upright_52 rfl ?_
      refine mr_callV (as := [_]) dX6_upright_53 (ok_X0_sizeOf l G) ml_X6_127 cl_X0_sizeOf cv_X0_sizeOf (by decide) rfl rfl (Nat.le_of_ble_eq_true rfl) (by assumption) ?_
      refine ⟨_, _, _, rfl, ⟨h3, h4⟩, hB, (by assumption), ?_⟩
      dsimp only [Option.toList_some, Option.toList_none, List.cons_append, List.nil_append]
      refine mr_iret rfl dX6_upright_56 ?_
      first | exact hP ⟨hy1, hy3⟩ R1 F1 w2 hX2 (hF1.tr hF2) | exact hR (fun z => hy1 z.1) | exact hR (fun z => hy3 z.2)
    · intro hy3
      dsimp only [Option.toList_some, Option.toList_none, List.cons_append, List.nil_append]
      refine mr_if_ne (tgt := 24) dX6_upright_19 (by decide) (by omega) (fun h => absurd h (by decide)) (fun _ => ?_)
      refine mr_iconst dX6_upright_22 ?_
      refine mr_iret rfl dX6_upright_23 ?_
      first | exact hP ⟨hy1, hy3⟩ R1 F1 w2 hX2 (hF1.tr hF2) | exact hR (fun z => hy1 z.1) | exact hR (fun z => hy3 z.2)
  · intro hy1
    dsimp only [Option.toList_some, Option.toList_none, List.cons_append, List.nil_append]
    refine mr_if_eq (tgt := 22) dX6_upright_8 (by decide) (by omega) (fun _ => ?_) (fun h => absurd h (by decide))
    refine mr_iconst dX6_upright_22 ?_
    refine mr_iret rfl dX6_upright_23 ?_
    first | exact hP ⟨hy1, hy3⟩ R1 F1 w2 hX2 (hF1.tr hF2) | exact hR (fun z => hy1 z.1) | exact hR (fun z => hy3 z.2)
def T_X6_times (a : List mr_AV) (w : mr_Wd) (Po : Option mr_AV → mr_Wd → Prop) : Prop := ∃ (n0 nx ct fk : Int) (g f im : Nat → Int) (S I : Nat → Nat → Int) (s u b q : Int), a = [vR 0 0, vI s, vI u, vI b, vI q] ∧ mr_XS w (n0, g, f, nx, ct, S, I, im, fk) ∧ InR s ∧ InR u ∧ InR b ∧ InR q ∧ ((mr_pk f s ∧ mr_pk f q ∧ 0 ≤ u ∧ u < f 0) → b = 0 → (∀ (R1 F1 : Nat → Nat → Int) (w' : mr_Wd), mr_XS w' (n0, g, mr_pA f q (fun c a => mr_sh (f 1) (mr_shp (f 0) (f 1) (0 + f 1) (mr_tbT u f s R1) F1) (0 + c) (0 + a)), (nx + 1) % 8, min (ct + 1) 8, (fun i => if i = nx.toNat then f else S i), I, im, fk) → mr_Fr w w' → Po (some (vI (mr_sz (mr_pA f q (fun c a => mr_sh (f 1) (mr_shp (f 0) (f 1) (0 + f 1) (mr_tbT u f s R1) F1) (0 + c) (0 + a))) q 0))) w')) ∧ ((mr_pk f s ∧ mr_pk f q ∧ 0 ≤ u ∧ u < f 0) → b ≠ 0 → (∀ (R1 F1 : Nat → Nat → Int) (w' : mr_Wd), mr_XS w' (n0, g, mr_pA f q (fun c a => mr_sh (2 * f 1) (mr_shp (f 0) (2 * f 1) (0 + f 1 + f 1) (mr_tbB u f s R1) F1) (f 1 + c) (f 1 + a)), (nx + 1) % 8, min (ct + 1) 8, (fun i => if i = nx.toNat then f else S i), I, im, fk) → mr_Fr w w' → Po (some (vI (mr_sz (mr_pA f q (fun c a => mr_sh (2 * f 1) (mr_shp (f 0) (2 * f 1) (0 + f 1 + f 1) (mr_tbB u f s R1) F1) (f 1 + c) (f 1 + a))) q 0))) w')) ∧ (¬ (mr_pk f s ∧ mr_pk f q ∧ 0 ≤ u ∧ u < f 0) → Po (some (vI (-1))) w)
set_option maxHeartbeats 4000000 in
set_option maxRecDepth 20000 in
theorem ok_X6_times (l : Launch) (G : mr_G) : mr_Ok l G yX6_times cX6_times 5 (some .int) 5 114 T_X6_times := by
  refine mr_Ok.of (by decide +kernel) ?_
  rintro a w Po ⟨n0, nx, ct, fk, g, f, im, S, I, s, u, b, q, rfl, hX, h_s, h_u, h_b, h_q, hP, hQ, hR⟩
  refine ⟨Nat.le_of_ble_eq_true rfl, ?_⟩
  show mr_J l G RX6 cX6_times 5 (some .int) 5 114 Po 0 [some (vR 0 0), some (vI s), some (vI u), some (vI b), some (vI q)] [] w
  obtain ⟨⟨sd, h0⟩, h1, h2, h3, h4, h5, h6, h7, ⟨m0, cl0, ct0, R0, F0, hS⟩, ⟨rv, rk, rs, rn, ro, rl_, rln, rmd, ra, rb, h11, hrv, hrs⟩, h12, ⟨f13, h13⟩, ⟨nm, h14, hnm⟩, h15, h16, ⟨r17, h17⟩, hn0, hB, hnx, hct, hSB, hIB, him, hfk⟩ := id hX
  have hf0 := hB.1 0
  refine mr_aload_n dX6_times_0 rfl ?_
  refine mr_get dX6_times_1 fl_X6_19 (by assumption) rfl ?_
  refine mr_iload_n dX6_times_4 rfl ?_
  refine mr_callV (as := [_]) dX6_times_5 (ok_X0_hasPlace l G) ml_X6_124 cl_X0_hasPlace cv_X0_hasPlace (by decide) rfl rfl (Nat.le_of_ble_eq_true rfl) (by assumption) ?_
  refine ⟨3, _, _, rfl, ⟨h3, h4⟩, hB, h_s, ?_, ?_⟩
  · intro hy1
    dsimp only [Option.toList_some, Option.toList_none, List.cons_append, List.nil_append]
    refine mr_if_eq (tgt := 34) dX6_times_8 (by decide) (by omega) (fun h => absurd h (by decide)) (fun _ => ?_)
    refine mr_aload_n dX6_times_11 rfl ?_
    refine mr_get dX6_times_12 fl_X6_19 (by assumption) rfl ?_
    refine mr_iload dX6_times_15 rfl ?_
    refine mr_callV (as := [_]) dX6_times_17 (ok_X0_hasPlace l G) ml_X6_124 cl_X0_hasPlace cv_X0_hasPlace (by decide) rfl rfl (Nat.le_of_ble_eq_true rfl) (by assumption) ?_
    refine ⟨3, _, _, rfl, ⟨h3, h4⟩, hB, h_q, ?_, ?_⟩
    · intro hy3
      dsimp only [Option.toList_some, Option.toList_none, List.cons_append, List.nil_append]
      refine mr_if_eq (tgt := 34) dX6_times_20 (by decide) (by omega) (fun h => absurd h (by decide)) (fun _ => ?_)
      refine mr_aload_n dX6_times_23 rfl ?_
      refine mr_get dX6_times_24 fl_X6_19 (by assumption) rfl ?_
      refine mr_iload_n dX6_times_27 rfl ?_
      refine mr_callV (as := [_]) dX6_times_28 (ok_X0_hasNumber l G) ml_X6_189 cl_X0_hasNumber cv_X0_hasNumber (by decide) rfl rfl (Nat.le_of_ble_eq_true rfl) (by assumption) ?_
      refine ⟨3, _, _, rfl, ⟨h3, h4⟩, hB, h_u, ?_, ?_⟩
      · intro hy2
        dsimp only [Option.toList_some, Option.toList_none, List.cons_append, List.nil_append]
        refine mr_if_ne (tgt := 36) dX6_times_31 (by decide) (by omega) (fun _ => ?_) (fun h => absurd h (by decide))
        refine mr_aload_n dX6_times_36 rfl ?_
        refine mr_get dX6_times_37 fl_X6_26 (by assumption) rfl ?_
        refine mr_aload_n dX6_times_40 rfl ?_
        refine mr_get dX6_times_41 fl_X6_19 (by assumption) rfl ?_
        refine mr_callV (as := [_]) dX6_times_44 (ok_X1_keep l G) ml_X6_167 cl_X1_keep cv_X1_keep (by decide) rfl rfl (Nat.le_of_ble_eq_true rfl) (by assumption) ?_
        refine xs_keep hX (fun w1 hX1 hF1 => ?_)
        obtain ⟨⟨sd, h0⟩, h1, h2, h3, h4, h5, h6, h7, ⟨m0, cl0, ct0, R0, F0, hS⟩, ⟨rv, rk, rs, rn, ro, rl_, rln, rmd, ra, rb, h11, hrv, hrs⟩, h12, ⟨f13, h13⟩, ⟨nm, h14, hnm⟩, h15, h16, ⟨r17, h17⟩, hn0, hB, hnx, hct, hSB, hIB, him, hfk⟩ := id hX1
        dsimp only [Option.toList_some, Option.toList_none, List.cons_append, List.nil_append]
        refine mr_iload_n dX6_times_47 rfl ?_
        refine mr_if_eq (tgt := 69) dX6_times_48 (by decide) (by omega) (fun hc_48 => ?_) (fun hc_48 => ?_)
        · refine mr_aload_n dX6_times_69 rfl ?_
          refine mr_get dX6_times_70 fl_X6_33 (by assumption) rfl ?_
          refine mr_aload_n dX6_times_73 rfl ?_
          refine mr_get dX6_times_74 fl_X6_19 (by assumption) rfl ?_
          refine mr_iload_n dX6_times_77 rfl ?_
          refine mr_iload_n dX6_times_78 rfl ?_
          refine mr_iload dX6_times_79 rfl ?_
          refine mr_callV (as := [_, _, _, _]) dX6_times_81 (ok_X3_putTimes l G) ml_X6_195 cl_X3_putTimes cv_X3_putTimes (by decide) rfl rfl (Nat.le_of_ble_eq_true rfl) (by assumption) ?_
          refine xs_X3_putTimes hX1 (by omega) hy1.2 ⟨by omega, by omega⟩ hy3.2 (fun R1 F1 w2 hX2 hF2 => ?_)
          obtain ⟨⟨sd, h0⟩, h1, h2, h3, h4, h5, h6, h7, ⟨m0, cl0, ct0, R0, F0, hS⟩, ⟨rv, rk, rs, rn, ro, rl_, rln, rmd, ra, rb, h11, hrv, hrs⟩, h12, ⟨f13, h13⟩, ⟨nm, h14, hnm⟩, h15, h16, ⟨r17, h17⟩, hn0, hB, hnx, hct, hSB, hIB, him, hfk⟩ := id hX2
          dsimp only [Option.toList_some, Option.toList_none, List.cons_append, List.nil_append]
          refine mr_aload_n dX6_times_84 rfl ?_
          refine mr_get dX6_times_85 fl_X6_19 (by assumption) rfl ?_
          refine mr_iload dX6_times_88 rfl ?_
          refine mr_callV (as := [_]) dX6_times_90 (ok_X0_sizeOf l G) ml_X6_127 cl_X0_sizeOf cv_X0_sizeOf (by decide) rfl rfl (Nat.le_of_ble_eq_true rfl) (by assumption) ?_
          refine ⟨_, _, _, rfl, ⟨h3, h4⟩, hB, (by assumption), ?_⟩
          dsimp only [Option.toList_some, Option.toList_none, List.cons_append, List.nil_append]
          refine mr_iret rfl dX6_times_93 ?_
          first | exact hP ⟨hy1, hy3, hy2⟩ hc_48 R1 F1 w2 hX2 (hF1.tr hF2) | exact hQ ⟨hy1, hy3, hy2⟩ hc_48 R1 F1 w2 hX2 (hF1.tr hF2) | exact hR (fun z => hy1 z.1) | exact hR (fun z => hy3 z.2.1) | exact hR (fun z => hy2 z.2.2)
        · refine mr_aload_n dX6_times_51 rfl ?_
          refine mr_get dX6_times_52 fl_X6_33 (by assumption) rfl ?_
          refine mr_aload_n dX6_times_55 rfl ?_
          refine mr_get dX6_times_56 fl_X6_19 (by assumption) rfl ?_
          refine mr_iload_n dX6_times_59 rfl ?_
          refine mr_iload_n dX6_times_60 rfl ?_
          refine mr_iload dX6_times_61 rfl ?_
          refine mr_callV (as := [_, _, _, _]) dX6_times_63 (ok_X3_putBy l G) ml_X6_192 cl_X3_putBy cv_X3_putBy (by decide) rfl rfl (Nat.le_of_ble_eq_true rfl) (by assumption) ?_
          refine xs_X3_putBy hX1 (by omega) hy1.2 ⟨by omega, by omega⟩ hy3.2 (fun R1 F1 w2 hX2 hF2 => ?_)
          obtain ⟨⟨sd, h0⟩, h1, h2, h3, h4, h5, h6, h7, ⟨m0, cl0, ct0, R0, F0, hS⟩, ⟨rv, rk, rs, rn, ro, rl_, rln, rmd, ra, rb, h11, hrv, hrs⟩, h12, ⟨f13, h13⟩, ⟨nm, h14, hnm⟩, h15, h16, ⟨r17, h17⟩, hn0, hB, hnx, hct, hSB, hIB, him, hfk⟩ := id hX2
          dsimp only [Option.toList_some, Option.toList_none, List.cons_append, List.nil_append]
          refine mr_goto (tgt := 84) dX6_times_66 (by decide) ?_
          refine mr_aload_n dX6_times_84 rfl ?_
          refine mr_get dX6_times_85 fl_X6_19 (by assumption) rfl ?_
          refine mr_iload dX6_times_88 rfl ?_
          refine mr_callV (as := [_]) dX6_times_90 (ok_X0_sizeOf l G) ml_X6_127 cl_X0_sizeOf cv_X0_sizeOf (by decide) rfl rfl (Nat.le_of_ble_eq_true rfl) (by assumption) ?_
          refine ⟨_, _, _, rfl, ⟨h3, h4⟩, hB, (by assumption), ?_⟩
          dsimp only [Option.toList_some, Option.toList_none, List.cons_append, List.nil_append]
          refine mr_iret rfl dX6_times_93 ?_
          first | exact hP ⟨hy1, hy3, hy2⟩ hc_48 R1 F1 w2 hX2 (hF1.tr hF2) | exact hQ ⟨hy1, hy3, hy2⟩ hc_48 R1 F1 w2 hX2 (hF1.tr hF2) | exact hR (fun z => hy1 z.1) | exact hR (fun z => hy3 z.2.1) | exact hR (fun z => hy2 z.2.2)
      · intro hy2
        dsimp only [Option.toList_some, Option.toList_none, List.cons_append, List.nil_append]
        refine mr_if_ne (tgt := 36) dX6_times_31 (by decide) (by omega) (fun h => absurd h (by decide)) (fun _ => ?_)
        refine mr_iconst dX6_times_34 ?_
        refine mr_iret rfl dX6_times_35 ?_
        first | exact hP ⟨hy1, hy3, hy2⟩ hc_48 R1 F1 w2 hX2 (hF1.tr hF2) | exact hQ ⟨hy1, hy3, hy2⟩ hc_48 R1 F1 w2 hX2 (hF1.tr hF2) | exact hR (fun z => hy1 z.1) | exact hR (fun z => hy3 z.2.1) | exact hR (fun z => hy2 z.2.2)
    · intro hy3
      dsimp only [Option.toList_some, Option.toList_none, List.cons_append, List.nil_append]
      refine mr_if_eq (tgt := 34) dX6_times_20 (by decide) (by omega) (fun _ => ?_) (fun h => absurd h (by decide))
      refine mr_iconst dX6_times_34 ?_
      refine mr_iret rfl dX6_times_35 ?_
      first | exact hP ⟨hy1, hy3, hy2⟩ hc_48 R1 F1 w2 hX2 (hF1.tr hF2) | exact hQ ⟨hy1, hy3, hy2⟩ hc_48 R1 F1 w2 hX2 (hF1.tr hF2) | exact hR (fun z => hy1 z.1) | exact hR (fun z => hy3 z.2.1) | exact hR (fun z => hy2 z.2.2)
  · intro hy1
    dsimp only [Option.toList_some, Option.toList_none, List.cons_append, List.nil_append]
    refine mr_if_eq (tgt := 34) dX6_times_8 (by decide) (by omega) (fun _ => ?_) (fun h => absurd h (by decide))
    refine mr_iconst dX6_times_34 ?_
    refine mr_iret rfl dX6_times_35 ?_
    first | exact hP ⟨hy1, hy3, hy2⟩ hc_48 R1 F1 w2 hX2 (hF1.tr hF2) | exact hQ ⟨hy1, hy3, hy2⟩ hc_48 R1 F1 w2 hX2 (hF1.tr hF2) | exact hR (fun z => hy1 z.1) | exact hR (fun z => hy3 z.2.1) | exact hR (fun z => hy2 z.2.2)
def T_X6_kernel (a : List mr_AV) (w : mr_Wd) (Po : Option mr_AV → mr_Wd → Prop) : Prop := ∃ (n0 nx ct fk : Int) (g f im : Nat → Int) (S I : Nat → Nat → Int) (q : Int), a = [vR 0 0, vI q] ∧ mr_XS w (n0, g, f, nx, ct, S, I, im, fk) ∧ InR q ∧ (mr_pk f q → (∀ (R1 F1 : Nat → Nat → Int) (w' : mr_Wd), mr_XS w' (n0, g, mr_pA f q (fun c a => mr_sh (f 2 + f 1) (mr_shp (f 0) (f 2 + f 1) (0 + f 1) (mr_tbK f R1) F1) (f 2 + c) (f 2 + a)), (nx + 1) % 8, min (ct + 1) 8, (fun i => if i = nx.toNat then f else S i), I, im, fk) → mr_Fr w w' → Po (some (vI (mr_sz (mr_pA f q (fun c a => mr_sh (f 2 + f 1) (mr_shp (f 0) (f 2 + f 1) (0 + f 1) (mr_tbK f R1) F1) (f 2 + c) (f 2 + a))) q 0))) w')) ∧ (¬ mr_pk f q → Po (some (vI (-1))) w)
set_option maxHeartbeats 4000000 in
set_option maxRecDepth 20000 in
theorem ok_X6_kernel (l : Launch) (G : mr_G) : mr_Ok l G yX6_kernel cX6_kernel 2 (some .int) 5 114 T_X6_kernel := by
  refine mr_Ok.of (by decide +kernel) ?_
  rintro a w Po ⟨n0, nx, ct, fk, g, f, im, S, I, q, rfl, hX, h_q, hP, hR⟩
  refine ⟨Nat.le_of_ble_eq_true rfl, ?_⟩
  show mr_J l G RX6 cX6_kernel 2 (some .int) 5 114 Po 0 [some (vR 0 0), some (vI q)] [] w
  obtain ⟨⟨sd, h0⟩, h1, h2, h3, h4, h5, h6, h7, ⟨m0, cl0, ct0, R0, F0, hS⟩, ⟨rv, rk, rs, rn, ro, rl_, rln, rmd, ra, rb, h11, hrv, hrs⟩, h12, ⟨f13, h13⟩, ⟨nm, h14, hnm⟩, h15, h16, ⟨r17, h17⟩, hn0, hB, hnx, hct, hSB, hIB, him, hfk⟩ := id hX
  refine mr_aload_n dX6_kernel_0 rfl ?_
  refine mr_get dX6_kernel_1 fl_X6_19 (by assumption) rfl ?_
  refine mr_iload_n dX6_kernel_4 rfl ?_
  refine mr_callV (as := [_]) dX6_kernel_5 (ok_X0_hasPlace l G) ml_X6_124 cl_X0_hasPlace cv_X0_hasPlace (by decide) rfl rfl (Nat.le_of_ble_eq_true rfl) (by assumption) ?_
  refine ⟨3, _, _, rfl, ⟨h3, h4⟩, hB, h_q, ?_, ?_⟩
  · intro hy
    dsimp only [Option.toList_some, Option.toList_none, List.cons_append, List.nil_append]
    refine mr_if_ne (tgt := 13) dX6_kernel_8 (by decide) (by omega) (fun _ => ?_) (fun h => absurd h (by decide))
    refine mr_aload_n dX6_kernel_13 rfl ?_
    refine mr_get dX6_kernel_14 fl_X6_26 (by assumption) rfl ?_
    refine mr_aload_n dX6_kernel_17 rfl ?_
    refine mr_get dX6_kernel_18 fl_X6_19 (by assumption) rfl ?_
    refine mr_callV (as := [_]) dX6_kernel_21 (ok_X1_keep l G) ml_X6_167 cl_X1_keep cv_X1_keep (by decide) rfl rfl (Nat.le_of_ble_eq_true rfl) (by assumption) ?_
    refine xs_keep hX (fun w1 hX1 hF1 => ?_)
    obtain ⟨⟨sd, h0⟩, h1, h2, h3, h4, h5, h6, h7, ⟨m0, cl0, ct0, R0, F0, hS⟩, ⟨rv, rk, rs, rn, ro, rl_, rln, rmd, ra, rb, h11, hrv, hrs⟩, h12, ⟨f13, h13⟩, ⟨nm, h14, hnm⟩, h15, h16, ⟨r17, h17⟩, hn0, hB, hnx, hct, hSB, hIB, him, hfk⟩ := id hX1
    dsimp only [Option.toList_some, Option.toList_none, List.cons_append, List.nil_append]
    refine mr_aload_n dX6_kernel_24 rfl ?_
    refine mr_get dX6_kernel_25 fl_X6_33 (by assumption) rfl ?_
    refine mr_aload_n dX6_kernel_28 rfl ?_
    refine mr_get dX6_kernel_29 fl_X6_19 (by assumption) rfl ?_
    refine mr_iload_n dX6_kernel_32 rfl ?_
    refine mr_callV (as := [_, _]) dX6_kernel_33 (ok_X3_putKernel l G) ml_X6_231 cl_X3_putKernel cv_X3_putKernel (by decide) rfl rfl (Nat.le_of_ble_eq_true rfl) (by assumption) ?_
    refine xs_X3_putKernel hX1 (by omega) hy.2 (fun R1 F1 w2 hX2 hF2 => ?_)
    obtain ⟨⟨sd, h0⟩, h1, h2, h3, h4, h5, h6, h7, ⟨m0, cl0, ct0, R0, F0, hS⟩, ⟨rv, rk, rs, rn, ro, rl_, rln, rmd, ra, rb, h11, hrv, hrs⟩, h12, ⟨f13, h13⟩, ⟨nm, h14, hnm⟩, h15, h16, ⟨r17, h17⟩, hn0, hB, hnx, hct, hSB, hIB, him, hfk⟩ := id hX2
    dsimp only [Option.toList_some, Option.toList_none, List.cons_append, List.nil_append]
    refine mr_aload_n dX6_kernel_36 rfl ?_
    refine mr_get dX6_kernel_37 fl_X6_19 (by assumption) rfl ?_
    refine mr_iload_n dX6_kernel_40 rfl ?_
    refine mr_callV (as := [_]) dX6_kernel_41 (ok_X0_sizeOf l G) ml_X6_127 cl_X0_sizeOf cv_X0_sizeOf (by decide) rfl rfl (Nat.le_of_ble_eq_true rfl) (by assumption) ?_
    refine ⟨_, _, _, rfl, ⟨h3, h4⟩, hB, (by assumption), ?_⟩
    dsimp only [Option.toList_some, Option.toList_none, List.cons_append, List.nil_append]
    refine mr_iret rfl dX6_kernel_44 ?_
    first | exact hP hy R1 F1 w2 hX2 (hF1.tr hF2) | exact hR hy
  · intro hy
    dsimp only [Option.toList_some, Option.toList_none, List.cons_append, List.nil_append]
    refine mr_if_ne (tgt := 13) dX6_kernel_8 (by decide) (by omega) (fun h => absurd h (by decide)) (fun _ => ?_)
    refine mr_iconst dX6_kernel_11 ?_
    refine mr_iret rfl dX6_kernel_12 ?_
    first | exact hP hy R1 F1 w2 hX2 (hF1.tr hF2) | exact hR hy
def T_X6_equation (a : List mr_AV) (w : mr_Wd) (Po : Option mr_AV → mr_Wd → Prop) : Prop := ∃ (n0 nx ct fk : Int) (g f im : Nat → Int) (S I : Nat → Nat → Int) (i h : Int), a = [vR 0 0, vI i, vI h] ∧ mr_XS w (n0, g, f, nx, ct, S, I, im, fk) ∧ InR i ∧ InR h ∧ Po (some (vI (if (0 ≤ i ∧ i < f 2 ∧ 0 ≤ h ∧ h ≤ 3) then mr_se f i h else -1))) w
set_option maxHeartbeats 4000000 in
set_option maxRecDepth 20000 in
theorem ok_X6_equation (l : Launch) (G : mr_G) : mr_Ok l G yX6_equation cX6_equation 3 (some .int) 2 44 T_X6_equation := by
  refine mr_Ok.of (by decide +kernel) ?_
  rintro a w Po ⟨n0, nx, ct, fk, g, f, im, S, I, i, h, rfl, hX, h_i, h_h, hP⟩
  refine ⟨Nat.le_of_ble_eq_true rfl, ?_⟩
  show mr_J l G RX6 cX6_equation 3 (some .int) 2 44 Po 0 [some (vR 0 0), some (vI i), some (vI h)] [] w
  obtain ⟨⟨sd, h0⟩, h1, h2, h3, h4, h5, h6, h7, ⟨m0, cl0, ct0, R0, F0, hS⟩, ⟨rv, rk, rs, rn, ro, rl_, rln, rmd, ra, rb, h11, hrv, hrs⟩, h12, ⟨f13, h13⟩, ⟨nm, h14, hnm⟩, h15, h16, ⟨r17, h17⟩, hn0, hB, hnx, hct, hSB, hIB, him, hfk⟩ := id hX
  have hf2 := hB.1 2
  refine mr_iload_n dX6_equation_0 rfl ?_
  refine mr_if_lt (tgt := 24) dX6_equation_1 (by decide) (by omega) (fun hc_1 => ?_) (fun hc_1 => ?_)
  · refine mr_iconst dX6_equation_24 ?_
    refine mr_iret rfl dX6_equation_25 ?_
    first | (rw [if_pos (by omega)] at hP; exact hP) | (rw [if_neg (by omega)] at hP; exact hP)
  · refine mr_iload_n dX6_equation_4 rfl ?_
    refine mr_aload_n dX6_equation_5 rfl ?_
    refine mr_get dX6_equation_6 fl_X6_19 (by assumption) rfl ?_
    refine mr_callV (as := []) dX6_equation_9 (ok_X0_equationCount l G) ml_X6_103 cl_X0_equationCount cv_X0_equationCount (by decide) rfl rfl (Nat.le_of_ble_eq_true rfl) (by assumption) ?_
    refine ⟨_, _, rfl, ⟨h3, h4⟩, ?_⟩
    dsimp only [Option.toList_some, Option.toList_none, List.cons_append, List.nil_append]
    refine mr_icmp_ge (tgt := 24) dX6_equation_12 (by decide) h_i ⟨by omega, by omega⟩ (fun hc_12 => ?_) (fun hc_12 => ?_)
    · refine mr_iconst dX6_equation_24 ?_
      refine mr_iret rfl dX6_equation_25 ?_
      first | (rw [if_pos (by omega)] at hP; exact hP) | (rw [if_neg (by omega)] at hP; exact hP)
    · refine mr_iload_n dX6_equation_15 rfl ?_
      refine mr_if_lt (tgt := 24) dX6_equation_16 (by decide) (by omega) (fun hc_16 => ?_) (fun hc_16 => ?_)
      · refine mr_iconst dX6_equation_24 ?_
        refine mr_iret rfl dX6_equation_25 ?_
        first | (rw [if_pos (by omega)] at hP; exact hP) | (rw [if_neg (by omega)] at hP; exact hP)
      · refine mr_iload_n dX6_equation_19 rfl ?_
        refine mr_iconst dX6_equation_20 ?_
        refine mr_icmp_le (tgt := 26) dX6_equation_21 (by decide) (by omega) (by omega) (fun hc_21 => ?_) (fun hc_21 => ?_)
        · refine mr_aload_n dX6_equation_26 rfl ?_
          refine mr_get dX6_equation_27 fl_X6_19 (by assumption) rfl ?_
          refine mr_iload_n dX6_equation_30 rfl ?_
          refine mr_iload_n dX6_equation_31 rfl ?_
          refine mr_callV (as := [_, _]) dX6_equation_32 (ok_X0_sideAt l G) ml_X6_216 cl_X0_sideAt cv_X0_sideAt (by decide) rfl rfl (Nat.le_of_ble_eq_true rfl) (by assumption) ?_
          refine ⟨_, _, _, _, rfl, ⟨h3, h4⟩, h_i, h_h, ?_⟩
          dsimp only [Option.toList_some, Option.toList_none, List.cons_append, List.nil_append]
          refine mr_iret rfl dX6_equation_35 ?_
          first | (rw [if_pos (by omega)] at hP; exact hP) | (rw [if_neg (by omega)] at hP; exact hP)
        · refine mr_iconst dX6_equation_24 ?_
          refine mr_iret rfl dX6_equation_25 ?_
          first | (rw [if_pos (by omega)] at hP; exact hP) | (rw [if_neg (by omega)] at hP; exact hP)
def T_X6_drop (a : List mr_AV) (w : mr_Wd) (Po : Option mr_AV → mr_Wd → Prop) : Prop := ∃ (n0 nx ct fk : Int) (g f im : Nat → Int) (S I : Nat → Nat → Int) (i : Int), a = [vR 0 0, vI i] ∧ mr_XS w (n0, g, f, nx, ct, S, I, im, fk) ∧ InR i ∧ ((0 ≤ i ∧ i < f 2) → (∀ w' : mr_Wd, mr_XS w' (n0, g, mr_fs (mr_rml 3 i f) 2 (max 0 (min (f 2 - 1) 3)), (nx + 1) % 8, min (ct + 1) 8, (fun i => if i = nx.toNat then f else S i), I, im, fk) → mr_Fr w w' → Po (some (vI (f 2 - 1))) w')) ∧ (¬ (0 ≤ i ∧ i < f 2) → Po (some (vI (-1))) w)
set_option maxHeartbeats 4000000 in
set_option maxRecDepth 20000 in
theorem ok_X6_drop (l : Launch) (G : mr_G) : mr_Ok l G yX6_drop cX6_drop 2 (some .int) 3 68 T_X6_drop := by
  refine mr_Ok.of (by decide +kernel) ?_
  rintro a w Po ⟨n0, nx, ct, fk, g, f, im, S, I, i, rfl, hX, h_i, hP, hR⟩
  refine ⟨Nat.le_of_ble_eq_true rfl, ?_⟩
  show mr_J l G RX6 cX6_drop 2 (some .int) 3 68 Po 0 [some (vR 0 0), some (vI i)] [] w
  obtain ⟨⟨sd, h0⟩, h1, h2, h3, h4, h5, h6, h7, ⟨m0, cl0, ct0, R0, F0, hS⟩, ⟨rv, rk, rs, rn, ro, rl_, rln, rmd, ra, rb, h11, hrv, hrs⟩, h12, ⟨f13, h13⟩, ⟨nm, h14, hnm⟩, h15, h16, ⟨r17, h17⟩, hn0, hB, hnx, hct, hSB, hIB, him, hfk⟩ := id hX
  have hf2 := hB.1 2
  have hf22 := hB.2.2
  refine mr_iload_n dX6_drop_0 rfl ?_
  refine mr_if_lt (tgt := 15) dX6_drop_1 (by decide) (by omega) (fun hc_1 => ?_) (fun hc_1 => ?_)
  · refine mr_iconst dX6_drop_15 ?_
    refine mr_iret rfl dX6_drop_16 ?_
    first | (have h9 := hP (by omega) w2 hX2 (hF1.tr hF2); rw [mr_fs_same, show max 0 (min (f 2 - 1) 3) = f 2 - 1 by omega]; exact h9) | exact hR (by omega)
  · refine mr_iload_n dX6_drop_4 rfl ?_
    refine mr_aload_n dX6_drop_5 rfl ?_
    refine mr_get dX6_drop_6 fl_X6_19 (by assumption) rfl ?_
    refine mr_callV (as := []) dX6_drop_9 (ok_X0_equationCount l G) ml_X6_103 cl_X0_equationCount cv_X0_equationCount (by decide) rfl rfl (Nat.le_of_ble_eq_true rfl) (by assumption) ?_
    refine ⟨_, _, rfl, ⟨h3, h4⟩, ?_⟩
    dsimp only [Option.toList_some, Option.toList_none, List.cons_append, List.nil_append]
    refine mr_icmp_lt (tgt := 17) dX6_drop_12 (by decide) h_i ⟨by omega, by omega⟩ (fun hc_12 => ?_) (fun hc_12 => ?_)
    · refine mr_aload_n dX6_drop_17 rfl ?_
      refine mr_get dX6_drop_18 fl_X6_26 (by assumption) rfl ?_
      refine mr_aload_n dX6_drop_21 rfl ?_
      refine mr_get dX6_drop_22 fl_X6_19 (by assumption) rfl ?_
      refine mr_callV (as := [_]) dX6_drop_25 (ok_X1_keep l G) ml_X6_167 cl_X1_keep cv_X1_keep (by decide) rfl rfl (Nat.le_of_ble_eq_true rfl) (by assumption) ?_
      refine xs_keep hX (fun w1 hX1 hF1 => ?_)
      obtain ⟨⟨sd, h0⟩, h1, h2, h3, h4, h5, h6, h7, ⟨m0, cl0, ct0, R0, F0, hS⟩, ⟨rv, rk, rs, rn, ro, rl_, rln, rmd, ra, rb, h11, hrv, hrs⟩, h12, ⟨f13, h13⟩, ⟨nm, h14, hnm⟩, h15, h16, ⟨r17, h17⟩, hn0, hB, hnx, hct, hSB, hIB, him, hfk⟩ := id hX1
      dsimp only [Option.toList_some, Option.toList_none, List.cons_append, List.nil_append]
      refine mr_aload_n dX6_drop_28 rfl ?_
      refine mr_get dX6_drop_29 fl_X6_19 (by assumption) rfl ?_
      refine mr_iload_n dX6_drop_32 rfl ?_
      refine mr_callV (as := [_]) dX6_drop_33 (ok_X0_removeEquation l G) ml_X6_213 cl_X0_removeEquation cv_X0_removeEquation (by decide) rfl rfl (Nat.le_of_ble_eq_true rfl) (by assumption) ?_
      refine xs_remEq hX1 ⟨by omega, by omega⟩ (fun w2 hX2 hF2 => ?_)
      obtain ⟨⟨sd, h0⟩, h1, h2, h3, h4, h5, h6, h7, ⟨m0, cl0, ct0, R0, F0, hS⟩, ⟨rv, rk, rs, rn, ro, rl_, rln, rmd, ra, rb, h11, hrv, hrs⟩, h12, ⟨f13, h13⟩, ⟨nm, h14, hnm⟩, h15, h16, ⟨r17, h17⟩, hn0, hB, hnx, hct, hSB, hIB, him, hfk⟩ := id hX2
      dsimp only [Option.toList_some, Option.toList_none, List.cons_append, List.nil_append]
      refine mr_aload_n dX6_drop_36 rfl ?_
      refine mr_get dX6_drop_37 fl_X6_19 (by assumption) rfl ?_
      refine mr_callV (as := []) dX6_drop_40 (ok_X0_equationCount l G) ml_X6_103 cl_X0_equationCount cv_X0_equationCount (by decide) rfl rfl (Nat.le_of_ble_eq_true rfl) (by assumption) ?_
      refine ⟨_, _, rfl, ⟨h3, h4⟩, ?_⟩
      dsimp only [Option.toList_some, Option.toList_none, List.cons_append, List.nil_append]
      refine mr_iret rfl dX6_drop_43 ?_
      first | (have h9 := hP (by omega) w2 hX2 (hF1.tr hF2); rw [mr_fs_same, show max 0 (min (f 2 - 1) 3) = f 2 - 1 by omega]; exact h9) | exact hR (by omega)
    · refine mr_iconst dX6_drop_15 ?_
      refine mr_iret rfl dX6_drop_16 ?_
      first | (have h9 := hP (by omega) w2 hX2 (hF1.tr hF2); rw [mr_fs_same, show max 0 (min (f 2 - 1) 3) = f 2 - 1 by omega]; exact h9) | exact hR (by omega)
def T_X6_equate (a : List mr_AV) (w : mr_Wd) (Po : Option mr_AV → mr_Wd → Prop) : Prop := ∃ (n0 nx ct fk : Int) (g f im : Nat → Int) (S I : Nat → Nat → Int) (i x y z v : Int), a = [vR 0 0, vI i, vI x, vI y, vI z, vI v] ∧ mr_XS w (n0, g, f, nx, ct, S, I, im, fk) ∧ InR i ∧ InR x ∧ InR y ∧ InR z ∧ InR v ∧ (((0 ≤ i ∧ i ≤ f 2 ∧ i < 3) ∧ (0 ≤ v ∧ v < f 0) ∧ mr_ro f x y z) → (∀ w' : mr_Wd, mr_XS w' (n0, g, mr_seq (if i = f 2 then mr_fs f 2 (max 0 (min (i + 1) 3)) else f) i (mr_l3 x y z) v, (nx + 1) % 8, min (ct + 1) 8, (fun i => if i = nx.toNat then f else S i), I, im, fk) → mr_Fr w w' → Po (some (vI (if i = f 2 then i + 1 else f 2))) w')) ∧ (¬ ((0 ≤ i ∧ i ≤ f 2 ∧ i < 3) ∧ (0 ≤ v ∧ v < f 0) ∧ mr_ro f x y z) → Po (some (vI (-1))) w)
set_option maxHeartbeats 4000000 in
set_option maxRecDepth 20000 in
theorem ok_X6_equate (l : Launch) (G : mr_G) : mr_Ok l G yX6_equate cX6_equate 6 (some .int) 3 69 T_X6_equate := by
  refine mr_Ok.of (by decide +kernel) ?_
  rintro a w Po ⟨n0, nx, ct, fk, g, f, im, S, I, i, x, y, z, v, rfl, hX, h_i, h_x, h_y, h_z, h_v, hP, hR⟩
  refine ⟨Nat.le_of_ble_eq_true rfl, ?_⟩
  show mr_J l G RX6 cX6_equate 6 (some .int) 3 69 Po 0 [some (vR 0 0), some (vI i), some (vI x), some (vI y), some (vI z), some (vI v)] [] w
  obtain ⟨⟨sd, h0⟩, h1, h2, h3, h4, h5, h6, h7, ⟨m0, cl0, ct0, R0, F0, hS⟩, ⟨rv, rk, rs, rn, ro, rl_, rln, rmd, ra, rb, h11, hrv, hrs⟩, h12, ⟨f13, h13⟩, ⟨nm, h14, hnm⟩, h15, h16, ⟨r17, h17⟩, hn0, hB, hnx, hct, hSB, hIB, him, hfk⟩ := id hX
  have hB0 := hB
  have hf2 := hB.1 2
  have hf22 := hB.2.2
  have hf0 := hB.1 0
  refine mr_iload_n dX6_equate_0 rfl ?_
  refine mr_if_lt (tgt := 20) dX6_equate_1 (by decide) (by omega) (fun hc_1 => ?_) (fun hc_1 => ?_)
  · refine mr_iconst dX6_equate_20 ?_
    refine mr_iret rfl dX6_equate_21 ?_
    first
      | (have h9 := hP ⟨⟨by omega, by omega, by omega⟩, hy1, hy2⟩; rw [if_neg hc_69, if_neg hc_69] at h9; rw [mr_seq_lo _ _ _ _ (by decide)]; exact h9 w4 hX4 (hF1.tr (hF3.tr hF4)))
      | (have h9 := hP ⟨⟨by omega, by omega, by omega⟩, hy1, hy2⟩; rw [if_pos hc_69, if_pos hc_69] at h9; rw [mr_seq_lo _ _ _ _ (by decide), mr_fs_same, show max 0 (min (i + 1) 3) = i + 1 by omega]; exact h9 w4 hX4 (hF1.tr (hF2.tr (hF3.tr hF4))))
      | exact hR (fun z => by omega)
      | exact hR (fun z => hy1 z.2.1)
      | exact hR (fun z => hy2 z.2.2)
  · refine mr_iload_n dX6_equate_4 rfl ?_
    refine mr_aload_n dX6_equate_5 rfl ?_
    refine mr_get dX6_equate_6 fl_X6_19 (by assumption) rfl ?_
    refine mr_callV (as := []) dX6_equate_9 (ok_X0_equationCount l G) ml_X6_103 cl_X0_equationCount cv_X0_equationCount (by decide) rfl rfl (Nat.le_of_ble_eq_true rfl) (by assumption) ?_
    refine ⟨_, _, rfl, ⟨h3, h4⟩, ?_⟩
    dsimp only [Option.toList_some, Option.toList_none, List.cons_append, List.nil_append]
    refine mr_icmp_gt (tgt := 20) dX6_equate_12 (by decide) h_i ⟨by omega, by omega⟩ (fun hc_12 => ?_) (fun hc_12 => ?_)
    · refine mr_iconst dX6_equate_20 ?_
      refine mr_iret rfl dX6_equate_21 ?_
      first
        | (have h9 := hP ⟨⟨by omega, by omega, by omega⟩, hy1, hy2⟩; rw [if_neg hc_69, if_neg hc_69] at h9; rw [mr_seq_lo _ _ _ _ (by decide)]; exact h9 w4 hX4 (hF1.tr (hF3.tr hF4)))
        | (have h9 := hP ⟨⟨by omega, by omega, by omega⟩, hy1, hy2⟩; rw [if_pos hc_69, if_pos hc_69] at h9; rw [mr_seq_lo _ _ _ _ (by decide), mr_fs_same, show max 0 (min (i + 1) 3) = i + 1 by omega]; exact h9 w4 hX4 (hF1.tr (hF2.tr (hF3.tr hF4))))
        | exact hR (fun z => by omega)
        | exact hR (fun z => hy1 z.2.1)
        | exact hR (fun z => hy2 z.2.2)
    · refine mr_iload_n dX6_equate_15 rfl ?_
      refine mr_iconst dX6_equate_16 ?_
      refine mr_icmp_lt (tgt := 22) dX6_equate_17 (by decide) (by omega) (by omega) (fun hc_17 => ?_) (fun hc_17 => ?_)
      · refine mr_aload_n dX6_equate_22 rfl ?_
        refine mr_get dX6_equate_23 fl_X6_19 (by assumption) rfl ?_
        refine mr_iload dX6_equate_26 rfl ?_
        refine mr_callV (as := [_]) dX6_equate_28 (ok_X0_hasNumber l G) ml_X6_189 cl_X0_hasNumber cv_X0_hasNumber (by decide) rfl rfl (Nat.le_of_ble_eq_true rfl) (by assumption) ?_
        refine ⟨3, _, _, rfl, ⟨h3, h4⟩, hB, h_v, ?_, ?_⟩
        · intro hy1
          dsimp only [Option.toList_some, Option.toList_none, List.cons_append, List.nil_append]
          refine mr_if_eq (tgt := 48) dX6_equate_31 (by decide) (by omega) (fun h => absurd h (by decide)) (fun _ => ?_)
          refine mr_aload_n dX6_equate_34 rfl ?_
          refine mr_get dX6_equate_35 fl_X6_19 (by assumption) rfl ?_
          refine mr_iload_n dX6_equate_38 rfl ?_
          refine mr_iload_n dX6_equate_39 rfl ?_
          refine mr_iload dX6_equate_40 rfl ?_
          refine mr_callV (as := [_, _, _]) dX6_equate_42 (ok_X0_hasRow l G) ml_X6_198 cl_X0_hasRow cv_X0_hasRow (by decide) rfl rfl (Nat.le_of_ble_eq_true rfl) (by assumption) ?_
          refine ⟨3, _, _, _, _, rfl, ⟨h3, h4⟩, hB, h_x, h_y, h_z, ?_, ?_⟩
          · intro hy2
            dsimp only [Option.toList_some, Option.toList_none, List.cons_append, List.nil_append]
            refine mr_if_ne (tgt := 50) dX6_equate_45 (by decide) (by omega) (fun _ => ?_) (fun h => absurd h (by decide))
            refine mr_aload_n dX6_equate_50 rfl ?_
            refine mr_get dX6_equate_51 fl_X6_26 (by assumption) rfl ?_
            refine mr_aload_n dX6_equate_54 rfl ?_
            refine mr_get dX6_equate_55 fl_X6_19 (by assumption) rfl ?_
            refine mr_callV (as := [_]) dX6_equate_58 (ok_X1_keep l G) ml_X6_167 cl_X1_keep cv_X1_keep (by decide) rfl rfl (Nat.le_of_ble_eq_true rfl) (by assumption) ?_
            refine xs_keep hX (fun w1 hX1 hF1 => ?_)
            obtain ⟨⟨sd, h0⟩, h1, h2, h3, h4, h5, h6, h7, ⟨m0, cl0, ct0, R0, F0, hS⟩, ⟨rv, rk, rs, rn, ro, rl_, rln, rmd, ra, rb, h11, hrv, hrs⟩, h12, ⟨f13, h13⟩, ⟨nm, h14, hnm⟩, h15, h16, ⟨r17, h17⟩, hn0, hB, hnx, hct, hSB, hIB, him, hfk⟩ := id hX1
            dsimp only [Option.toList_some, Option.toList_none, List.cons_append, List.nil_append]
            refine mr_iload_n dX6_equate_61 rfl ?_
            refine mr_aload_n dX6_equate_62 rfl ?_
            refine mr_get dX6_equate_63 fl_X6_19 (by assumption) rfl ?_
            refine mr_callV (as := []) dX6_equate_66 (ok_X0_equationCount l G) ml_X6_103 cl_X0_equationCount cv_X0_equationCount (by decide) rfl rfl (Nat.le_of_ble_eq_true rfl) (by assumption) ?_
            refine ⟨_, _, rfl, ⟨h3, h4⟩, ?_⟩
            dsimp only [Option.toList_some, Option.toList_none, List.cons_append, List.nil_append]
            refine mr_icmp_ne (tgt := 82) dX6_equate_69 (by decide) h_i ⟨by omega, by omega⟩ (fun hc_69 => ?_) (fun hc_69 => ?_)
            · refine mr_aload_n dX6_equate_82 rfl ?_
              refine mr_iload_n dX6_equate_83 rfl ?_
              refine mr_iload_n dX6_equate_84 rfl ?_
              refine mr_iload dX6_equate_85 rfl ?_
              refine mr_callV (as := [_, _, _]) dX6_equate_87 (ok_X6_setLine l G) ml_X6_205 cl_X6_setLine cv_X6_setLine (by decide) rfl rfl (Nat.le_of_ble_eq_true rfl) (by assumption) ?_
              refine ⟨_, _, _, _, _, _, _, _, _, _, _, _, rfl, hX1, (fun w3 hX3 hl3 hF3 => ?_)⟩
              obtain ⟨⟨sd, h0⟩, h1, h2, h3, h4, h5, h6, h7, ⟨m0, cl0, ct0, R0, F0, hS⟩, ⟨rv, rk, rs, rn, ro, rl_, rln, rmd, ra, rb, h11, hrv, hrs⟩, h12, ⟨f13, h13⟩, ⟨nm, h14, hnm⟩, h15, h16, ⟨r17, h17⟩, hn0, hB, hnx, hct, hSB, hIB, him, hfk⟩ := id hX3
              dsimp only [Option.toList_some, Option.toList_none, List.cons_append, List.nil_append]
              refine mr_aload_n dX6_equate_90 rfl ?_
              refine mr_get dX6_equate_91 fl_X6_19 (by assumption) rfl ?_
              refine mr_iload_n dX6_equate_94 rfl ?_
              refine mr_aload_n dX6_equate_95 rfl ?_
              refine mr_get dX6_equate_96 fl_X6_55 (by assumption) rfl ?_
              refine mr_iload dX6_equate_99 rfl ?_
              refine mr_callV (as := [_, _, _]) dX6_equate_101 (ok_X0_setEquation l G) ml_X6_209 cl_X0_setEquation cv_X0_setEquation (by decide) rfl rfl (Nat.le_of_ble_eq_true rfl) (by assumption) ?_
              refine xs_setEq hX3 h_i ⟨by omega, by omega⟩ hl3 (mr_l3_bd (f := f) hB0 hy2) (fun w4 hX4 hl4 hF4 => ?_)
              obtain ⟨⟨sd, h0⟩, h1, h2, h3, h4, h5, h6, h7, ⟨m0, cl0, ct0, R0, F0, hS⟩, ⟨rv, rk, rs, rn, ro, rl_, rln, rmd, ra, rb, h11, hrv, hrs⟩, h12, ⟨f13, h13⟩, ⟨nm, h14, hnm⟩, h15, h16, ⟨r17, h17⟩, hn0, hB, hnx, hct, hSB, hIB, him, hfk⟩ := id hX4
              dsimp only [Option.toList_some, Option.toList_none, List.cons_append, List.nil_append]
              refine mr_aload_n dX6_equate_104 rfl ?_
              refine mr_get dX6_equate_105 fl_X6_19 (by assumption) rfl ?_
              refine mr_callV (as := []) dX6_equate_108 (ok_X0_equationCount l G) ml_X6_103 cl_X0_equationCount cv_X0_equationCount (by decide) rfl rfl (Nat.le_of_ble_eq_true rfl) (by assumption) ?_
              refine ⟨_, _, rfl, ⟨h3, h4⟩, ?_⟩
              dsimp only [Option.toList_some, Option.toList_none, List.cons_append, List.nil_append]
              refine mr_iret rfl dX6_equate_111 ?_
              first
                | (have h9 := hP ⟨⟨by omega, by omega, by omega⟩, hy1, hy2⟩; rw [if_neg hc_69, if_neg hc_69] at h9; rw [mr_seq_lo _ _ _ _ (by decide)]; exact h9 w4 hX4 (hF1.tr (hF3.tr hF4)))
                | (have h9 := hP ⟨⟨by omega, by omega, by omega⟩, hy1, hy2⟩; rw [if_pos hc_69, if_pos hc_69] at h9; rw [mr_seq_lo _ _ _ _ (by decide), mr_fs_same, show max 0 (min (i + 1) 3) = i + 1 by omega]; exact h9 w4 hX4 (hF1.tr (hF2.tr (hF3.tr hF4))))
                | exact hR (fun z => by omega)
                | exact hR (fun z => hy1 z.2.1)
                | exact hR (fun z => hy2 z.2.2)
            · refine mr_aload_n dX6_equate_72 rfl ?_
              refine mr_get dX6_equate_73 fl_X6_19 (by assumption) rfl ?_
              refine mr_iload_n dX6_equate_76 rfl ?_
              refine mr_iconst dX6_equate_77 ?_
              refine mr_iadd dX6_equate_78 ?_
              refine mr_callV (as := [_]) dX6_equate_79 (ok_X0_setEquationCount l G) ml_X6_202 cl_X0_setEquationCount cv_X0_setEquationCount (by decide) rfl rfl (Nat.le_of_ble_eq_true rfl) (by assumption) ?_
              refine xs_setEqC hX1 ⟨by omega, by omega⟩ (fun w2 hX2 hF2 => ?_)
              obtain ⟨⟨sd, h0⟩, h1, h2, h3, h4, h5, h6, h7, ⟨m0, cl0, ct0, R0, F0, hS⟩, ⟨rv, rk, rs, rn, ro, rl_, rln, rmd, ra, rb, h11, hrv, hrs⟩, h12, ⟨f13, h13⟩, ⟨nm, h14, hnm⟩, h15, h16, ⟨r17, h17⟩, hn0, hB, hnx, hct, hSB, hIB, him, hfk⟩ := id hX2
              dsimp only [Option.toList_some, Option.toList_none, List.cons_append, List.nil_append]
              refine mr_aload_n dX6_equate_82 rfl ?_
              refine mr_iload_n dX6_equate_83 rfl ?_
              refine mr_iload_n dX6_equate_84 rfl ?_
              refine mr_iload dX6_equate_85 rfl ?_
              refine mr_callV (as := [_, _, _]) dX6_equate_87 (ok_X6_setLine l G) ml_X6_205 cl_X6_setLine cv_X6_setLine (by decide) rfl rfl (Nat.le_of_ble_eq_true rfl) (by assumption) ?_
              refine ⟨_, _, _, _, _, _, _, _, _, _, _, _, rfl, hX2, (fun w3 hX3 hl3 hF3 => ?_)⟩
              obtain ⟨⟨sd, h0⟩, h1, h2, h3, h4, h5, h6, h7, ⟨m0, cl0, ct0, R0, F0, hS⟩, ⟨rv, rk, rs, rn, ro, rl_, rln, rmd, ra, rb, h11, hrv, hrs⟩, h12, ⟨f13, h13⟩, ⟨nm, h14, hnm⟩, h15, h16, ⟨r17, h17⟩, hn0, hB, hnx, hct, hSB, hIB, him, hfk⟩ := id hX3
              dsimp only [Option.toList_some, Option.toList_none, List.cons_append, List.nil_append]
              refine mr_aload_n dX6_equate_90 rfl ?_
              refine mr_get dX6_equate_91 fl_X6_19 (by assumption) rfl ?_
              refine mr_iload_n dX6_equate_94 rfl ?_
              refine mr_aload_n dX6_equate_95 rfl ?_
              refine mr_get dX6_equate_96 fl_X6_55 (by assumption) rfl ?_
              refine mr_iload dX6_equate_99 rfl ?_
              refine mr_callV (as := [_, _, _]) dX6_equate_101 (ok_X0_setEquation l G) ml_X6_209 cl_X0_setEquation cv_X0_setEquation (by decide) rfl rfl (Nat.le_of_ble_eq_true rfl) (by assumption) ?_
              refine xs_setEq hX3 h_i ⟨by omega, by omega⟩ hl3 (mr_l3_bd (f := f) hB0 hy2) (fun w4 hX4 hl4 hF4 => ?_)
              obtain ⟨⟨sd, h0⟩, h1, h2, h3, h4, h5, h6, h7, ⟨m0, cl0, ct0, R0, F0, hS⟩, ⟨rv, rk, rs, rn, ro, rl_, rln, rmd, ra, rb, h11, hrv, hrs⟩, h12, ⟨f13, h13⟩, ⟨nm, h14, hnm⟩, h15, h16, ⟨r17, h17⟩, hn0, hB, hnx, hct, hSB, hIB, him, hfk⟩ := id hX4
              dsimp only [Option.toList_some, Option.toList_none, List.cons_append, List.nil_append]
              refine mr_aload_n dX6_equate_104 rfl ?_
              refine mr_get dX6_equate_105 fl_X6_19 (by assumption) rfl ?_
              refine mr_callV (as := []) dX6_equate_108 (ok_X0_equationCount l G) ml_X6_103 cl_X0_equationCount cv_X0_equationCount (by decide) rfl rfl (Nat.le_of_ble_eq_true rfl) (by assumption) ?_
              refine ⟨_, _, rfl, ⟨h3, h4⟩, ?_⟩
              dsimp only [Option.toList_some, Option.toList_none, List.cons_append, List.nil_append]
              refine mr_iret rfl dX6_equate_111 ?_
              first
                | (have h9 := hP ⟨⟨by omega, by omega, by omega⟩, hy1, hy2⟩; rw [if_neg hc_69, if_neg hc_69] at h9; rw [mr_seq_lo _ _ _ _ (by decide)]; exact h9 w4 hX4 (hF1.tr (hF3.tr hF4)))
                | (have h9 := hP ⟨⟨by omega, by omega, by omega⟩, hy1, hy2⟩; rw [if_pos hc_69, if_pos hc_69] at h9; rw [mr_seq_lo _ _ _ _ (by decide), mr_fs_same, show max 0 (min (i + 1) 3) = i + 1 by omega]; exact h9 w4 hX4 (hF1.tr (hF2.tr (hF3.tr hF4))))
                | exact hR (fun z => by omega)
                | exact hR (fun z => hy1 z.2.1)
                | exact hR (fun z => hy2 z.2.2)
          · intro hy2
            dsimp only [Option.toList_some, Option.toList_none, List.cons_append, List.nil_append]
            refine mr_if_ne (tgt := 50) dX6_equate_45 (by decide) (by omega) (fun h => absurd h (by decide)) (fun _ => ?_)
            refine mr_iconst dX6_equate_48 ?_
            refine mr_iret rfl dX6_equate_49 ?_
            first
              | (have h9 := hP ⟨⟨by omega, by omega, by omega⟩, hy1, hy2⟩; rw [if_neg hc_69, if_neg hc_69] at h9; rw [mr_seq_lo _ _ _ _ (by decide)]; exact h9 w4 hX4 (hF1.tr (hF3.tr hF4)))
              | (have h9 := hP ⟨⟨by omega, by omega, by omega⟩, hy1, hy2⟩; rw [if_pos hc_69, if_pos hc_69] at h9; rw [mr_seq_lo _ _ _ _ (by decide), mr_fs_same, show max 0 (min (i + 1) 3) = i + 1 by omega]; exact h9 w4 hX4 (hF1.tr (hF2.tr (hF3.tr hF4))))
              | exact hR (fun z => by omega)
              | exact hR (fun z => hy1 z.2.1)
              | exact hR (fun z => hy2 z.2.2)
        · intro hy1
          dsimp only [Option.toList_some, Option.toList_none, List.cons_append, List.nil_append]
          refine mr_if_eq (tgt := 48) dX6_equate_31 (by decide) (by omega) (fun _ => ?_) (fun h => absurd h (by decide))
          refine mr_iconst dX6_equate_48 ?_
          refine mr_iret rfl dX6_equate_49 ?_
          first
            | (have h9 := hP ⟨⟨by omega, by omega, by omega⟩, hy1, hy2⟩; rw [if_neg hc_69, if_neg hc_69] at h9; rw [mr_seq_lo _ _ _ _ (by decide)]; exact h9 w4 hX4 (hF1.tr (hF3.tr hF4)))
            | (have h9 := hP ⟨⟨by omega, by omega, by omega⟩, hy1, hy2⟩; rw [if_pos hc_69, if_pos hc_69] at h9; rw [mr_seq_lo _ _ _ _ (by decide), mr_fs_same, show max 0 (min (i + 1) 3) = i + 1 by omega]; exact h9 w4 hX4 (hF1.tr (hF2.tr (hF3.tr hF4))))
            | exact hR (fun z => by omega)
            | exact hR (fun z => hy1 z.2.1)
            | exact hR (fun z => hy2 z.2.2)
      · refine mr_iconst dX6_equate_20 ?_
        refine mr_iret rfl dX6_equate_21 ?_
        first
          | (have h9 := hP ⟨⟨by omega, by omega, by omega⟩, hy1, hy2⟩; rw [if_neg hc_69, if_neg hc_69] at h9; rw [mr_seq_lo _ _ _ _ (by decide)]; exact h9 w4 hX4 (hF1.tr (hF3.tr hF4)))
          | (have h9 := hP ⟨⟨by omega, by omega, by omega⟩, hy1, hy2⟩; rw [if_pos hc_69, if_pos hc_69] at h9; rw [mr_seq_lo _ _ _ _ (by decide), mr_fs_same, show max 0 (min (i + 1) 3) = i + 1 by omega]; exact h9 w4 hX4 (hF1.tr (hF2.tr (hF3.tr hF4))))
          | exact hR (fun z => by omega)
          | exact hR (fun z => hy1 z.2.1)
          | exact hR (fun z => hy2 z.2.2)
def T_X6_solutions (a : List mr_AV) (w : mr_Wd) (Po : Option mr_AV → mr_Wd → Prop) : Prop := ∃ (n0 nx ct fk : Int) (g f im : Nat → Int) (S I : Nat → Nat → Int), a = [vR 0 0] ∧ mr_XS w (n0, g, f, nx, ct, S, I, im, fk) ∧ (0 < f 0 → ∀ (R1 F1 : Nat → Nat → Int) (w' : mr_Wd), mr_XS w' (n0, g, f, nx, ct, S, I, im, fk) → mr_Fr w w' → Po (some (vI (if mr_sh (f 2 + 1 + f 1) (mr_shp (f 0) (f 2 + 1 + f 1) (0 + 1 + f 1) (mr_tbS f R1) F1) (f 2) (f 2) = 1 then mr_sbl (f 0) (f 2 + 1 + f 1) (mr_shp (f 0) (f 2 + 1 + f 1) (0 + 1 + f 1) (mr_tbS f R1) F1) ((f 2 + 1 + f 1) - (f 2 + 1)).toNat (f 2 + 1) 1 else 0))) w') ∧ (f 0 ≤ 0 → Po (some (vI (-1))) w)
set_option maxHeartbeats 4000000 in
set_option maxRecDepth 20000 in
theorem ok_X6_solutions (l : Launch) (G : mr_G) : mr_Ok l G yX6_solutions cX6_solutions 1 (some .int) 5 112 T_X6_solutions := by
  refine mr_Ok.of (by decide +kernel) ?_
  rintro a w Po ⟨n0, nx, ct, fk, g, f, im, S, I, rfl, hX, hP, hR⟩
  refine ⟨Nat.le_of_ble_eq_true rfl, ?_⟩
  show mr_J l G RX6 cX6_solutions 1 (some .int) 5 112 Po 0 [some (vR 0 0)] [] w
  obtain ⟨⟨sd, h0⟩, h1, h2, h3, h4, h5, h6, h7, ⟨m0, cl0, ct0, R0, F0, hS⟩, ⟨rv, rk, rs, rn, ro, rl_, rln, rmd, ra, rb, h11, hrv, hrs⟩, h12, ⟨f13, h13⟩, ⟨nm, h14, hnm⟩, h15, h16, ⟨r17, h17⟩, hn0, hB, hnx, hct, hSB, hIB, him, hfk⟩ := id hX
  have hf0 := hB.1 0
  refine mr_aload_n dX6_solutions_0 rfl ?_
  refine mr_get dX6_solutions_1 fl_X6_19 (by assumption) rfl ?_
  refine mr_callV (as := []) dX6_solutions_4 (ok_X0_modulus l G) ml_X6_97 cl_X0_modulus cv_X0_modulus (by decide) rfl rfl (Nat.le_of_ble_eq_true rfl) (by assumption) ?_
  refine ⟨_, _, rfl, ⟨h3, h4⟩, ?_⟩
  dsimp only [Option.toList_some, Option.toList_none, List.cons_append, List.nil_append]
  refine mr_if_le (tgt := 24) dX6_solutions_7 (by decide) ⟨by omega, by omega⟩ (fun hc_7 => ?_) (fun hc_7 => ?_)
  · refine mr_iconst dX6_solutions_24 ?_
    refine mr_iret rfl dX6_solutions_25 ?_
    first | exact hP hc_7 R1 F1 w1 hX1 hF1 | exact hR hc_7
  · refine mr_aload_n dX6_solutions_10 rfl ?_
    refine mr_get dX6_solutions_11 fl_X6_33 (by assumption) rfl ?_
    refine mr_aload_n dX6_solutions_14 rfl ?_
    refine mr_get dX6_solutions_15 fl_X6_19 (by assumption) rfl ?_
    refine mr_callV (as := [_]) dX6_solutions_18 (ok_X3_countSolutions l G) ml_X6_220 cl_X3_countSolutions cv_X3_countSolutions (by decide) rfl rfl (Nat.le_of_ble_eq_true rfl) (by assumption) ?_
    refine xs_count hX (by omega) (fun R1 F1 w1 hX1 hF1 => ?_)
    dsimp only [Option.toList_some, Option.toList_none, List.cons_append, List.nil_append]
    refine mr_goto (tgt := 25) dX6_solutions_21 (by decide) ?_
    refine mr_iret rfl dX6_solutions_25 ?_
    first | exact hP hc_7 R1 F1 w1 hX1 hF1 | exact hR hc_7
def T_X6_solution (a : List mr_AV) (w : mr_Wd) (Po : Option mr_AV → mr_Wd → Prop) : Prop := ∃ (n0 nx ct fk : Int) (g f im : Nat → Int) (S I : Nat → Nat → Int), a = [vR 0 0] ∧ mr_XS w (n0, g, f, nx, ct, S, I, im, fk) ∧ (0 < f 0 → ∀ (R1 F1 : Nat → Nat → Int) (w' : mr_Wd), mr_sh (f 2 + 1 + f 1) (mr_shp (f 0) (f 2 + 1 + f 1) (0 + 1 + f 1) (mr_tbS f R1) F1) (f 2) (f 2) = 1 → mr_XS w' (n0, g, f, nx, ct, S, I, im, fk) → mr_Fr w w' → Po (some (vI (mr_tb (fun j : Nat => mr_sh (f 2 + 1 + f 1) (mr_shp (f 0) (f 2 + 1 + f 1) (0 + 1 + f 1) (mr_tbS f R1) F1) (f 2) (f 2 + 1 + (j : Int)))))) w') ∧ (0 < f 0 → ∀ (R1 F1 : Nat → Nat → Int) (w' : mr_Wd), mr_sh (f 2 + 1 + f 1) (mr_shp (f 0) (f 2 + 1 + f 1) (0 + 1 + f 1) (mr_tbS f R1) F1) (f 2) (f 2) ≠ 1 → mr_XS w' (n0, g, f, nx, ct, S, I, im, fk) → mr_Fr w w' → Po (some (vI (-1))) w') ∧ (f 0 ≤ 0 → Po (some (vI (-1))) w)
set_option maxHeartbeats 4000000 in
set_option maxRecDepth 20000 in
theorem ok_X6_solution (l : Launch) (G : mr_G) : mr_Ok l G yX6_solution cX6_solution 1 (some .int) 5 115 T_X6_solution := by
  refine mr_Ok.of (by decide +kernel) ?_
  rintro a w Po ⟨n0, nx, ct, fk, g, f, im, S, I, rfl, hX, hP, hQ, hR⟩
  refine ⟨Nat.le_of_ble_eq_true rfl, ?_⟩
  show mr_J l G RX6 cX6_solution 1 (some .int) 5 115 Po 0 [some (vR 0 0)] [] w
  obtain ⟨⟨sd, h0⟩, h1, h2, h3, h4, h5, h6, h7, ⟨m0, cl0, ct0, R0, F0, hS⟩, ⟨rv, rk, rs, rn, ro, rl_, rln, rmd, ra, rb, h11, hrv, hrs⟩, h12, ⟨f13, h13⟩, ⟨nm, h14, hnm⟩, h15, h16, ⟨r17, h17⟩, hn0, hB, hnx, hct, hSB, hIB, him, hfk⟩ := id hX
  have hf0 := hB.1 0
  refine mr_aload_n dX6_solution_0 rfl ?_
  refine mr_get dX6_solution_1 fl_X6_19 (by assumption) rfl ?_
  refine mr_callV (as := []) dX6_solution_4 (ok_X0_modulus l G) ml_X6_97 cl_X0_modulus cv_X0_modulus (by decide) rfl rfl (Nat.le_of_ble_eq_true rfl) (by assumption) ?_
  refine ⟨_, _, rfl, ⟨h3, h4⟩, ?_⟩
  dsimp only [Option.toList_some, Option.toList_none, List.cons_append, List.nil_append]
  refine mr_if_eq (tgt := 28) dX6_solution_7 (by decide) ⟨by omega, by omega⟩ (fun hc_7 => ?_) (fun hc_7 => ?_)
  · refine mr_iconst dX6_solution_28 ?_
    refine mr_iret rfl dX6_solution_29 ?_
    first | exact hP (by omega) R1 F1 w1 hs1 hX1 hF1 | exact hQ (by omega) R1 F1 w1 hs1 hX1 hF1 | exact hR (by omega)
  · refine mr_aload_n dX6_solution_10 rfl ?_
    refine mr_get dX6_solution_11 fl_X6_33 (by assumption) rfl ?_
    refine mr_aload_n dX6_solution_14 rfl ?_
    refine mr_get dX6_solution_15 fl_X6_19 (by assumption) rfl ?_
    refine mr_aload_n dX6_solution_18 rfl ?_
    refine mr_get dX6_solution_19 fl_X6_55 (by assumption) rfl ?_
    refine mr_callV (as := [_, _]) dX6_solution_22 (ok_X3_findSolution l G) ml_X6_224 cl_X3_findSolution cv_X3_findSolution (by decide) rfl rfl (Nat.le_of_ble_eq_true rfl) (by assumption) ?_
    refine xs_findS hX (by omega) (fun R1 F1 w1 hs1 hX1 hl1 hF1 => ?_) (fun R1 F1 w1 hs1 hX1 hF1 => ?_)
    · obtain ⟨⟨sd, h0⟩, h1, h2, h3, h4, h5, h6, h7, ⟨m0, cl0, ct0, R0, F0, hS⟩, ⟨rv, rk, rs, rn, ro, rl_, rln, rmd, ra, rb, h11, hrv, hrs⟩, h12, ⟨f13, h13⟩, ⟨nm, h14, hnm⟩, h15, h16, ⟨r17, h17⟩, hn0, hB, hnx, hct, hSB, hIB, him, hfk⟩ := id hX1
      dsimp only [Option.toList_some, Option.toList_none, List.cons_append, List.nil_append]
      refine mr_if_ne (tgt := 30) dX6_solution_25 (by decide) (by omega) (fun _ => ?_) (fun h => absurd h (by decide))
      refine mr_aload_n dX6_solution_30 rfl ?_
      refine mr_callV (as := []) dX6_solution_31 (ok_X6_toldBack l G) ml_X6_121 cl_X6_toldBack cv_X6_toldBack (by decide) rfl rfl (Nat.le_of_ble_eq_true rfl) (by assumption) ?_
      refine ⟨_, _, _, rfl, h0, hl1, ?_⟩
      dsimp only [Option.toList_some, Option.toList_none, List.cons_append, List.nil_append]
      refine mr_iret rfl dX6_solution_34 ?_
      first | exact hP (by omega) R1 F1 w1 hs1 hX1 hF1 | exact hQ (by omega) R1 F1 w1 hs1 hX1 hF1 | exact hR (by omega)
    · obtain ⟨⟨sd, h0⟩, h1, h2, h3, h4, h5, h6, h7, ⟨m0, cl0, ct0, R0, F0, hS⟩, ⟨rv, rk, rs, rn, ro, rl_, rln, rmd, ra, rb, h11, hrv, hrs⟩, h12, ⟨f13, h13⟩, ⟨nm, h14, hnm⟩, h15, h16, ⟨r17, h17⟩, hn0, hB, hnx, hct, hSB, hIB, him, hfk⟩ := id hX1
      dsimp only [Option.toList_some, Option.toList_none, List.cons_append, List.nil_append]
      refine mr_if_ne (tgt := 30) dX6_solution_25 (by decide) (by omega) (fun h => absurd h (by decide)) (fun _ => ?_)
      refine mr_iconst dX6_solution_28 ?_
      refine mr_iret rfl dX6_solution_29 ?_
      first | exact hP (by omega) R1 F1 w1 hs1 hX1 hF1 | exact hQ (by omega) R1 F1 w1 hs1 hX1 hF1 | exact hR (by omega)
def T_X6_witness (a : List mr_AV) (w : mr_Wd) (Po : Option mr_AV → mr_Wd → Prop) : Prop := ∃ (n0 nx ct fk : Int) (g f im : Nat → Int) (S I : Nat → Nat → Int), a = [vR 0 0] ∧ mr_XS w (n0, g, f, nx, ct, S, I, im, fk) ∧ (0 < f 0 → ∀ (R1 F1 : Nat → Nat → Int) (j : Int) (w' : mr_Wd), 0 ≤ j → j < f 2 → mr_wsh f (mr_shW f R1 F1) j → (∀ j' : Int, j < j' → j' < f 2 → ¬ mr_wsh f (mr_shW f R1 F1) j') → mr_XS w' (n0, g, f, nx, ct, S, I, im, fk) → mr_Fr w w' → Po (some (vI (mr_tb (mr_wr f (mr_shW f R1 F1) j)))) w') ∧ (0 < f 0 → ∀ (R1 F1 : Nat → Nat → Int) (w' : mr_Wd), (∀ j : Int, 0 ≤ j → j < f 2 → ¬ mr_wsh f (mr_shW f R1 F1) j) → mr_XS w' (n0, g, f, nx, ct, S, I, im, fk) → mr_Fr w w' → Po (some (vI (-1))) w') ∧ (f 0 ≤ 0 → Po (some (vI (-1))) w)
set_option maxHeartbeats 4000000 in
set_option maxRecDepth 20000 in
theorem ok_X6_witness (l : Launch) (G : mr_G) : mr_Ok l G yX6_witness cX6_witness 1 (some .int) 4 94 T_X6_witness := by
  refine mr_Ok.of (by decide +kernel) ?_
  rintro a w Po ⟨n0, nx, ct, fk, g, f, im, S, I, rfl, hX, hP, hQ, hR⟩
  refine ⟨Nat.le_of_ble_eq_true rfl, ?_⟩
  show mr_J l G RX6 cX6_witness 1 (some .int) 4 94 Po 0 [some (vR 0 0)] [] w
  obtain ⟨⟨sd, h0⟩, h1, h2, h3, h4, h5, h6, h7, ⟨m0, cl0, ct0, R0, F0, hS⟩, ⟨rv, rk, rs, rn, ro, rl_, rln, rmd, ra, rb, h11, hrv, hrs⟩, h12, ⟨f13, h13⟩, ⟨nm, h14, hnm⟩, h15, h16, ⟨r17, h17⟩, hn0, hB, hnx, hct, hSB, hIB, him, hfk⟩ := id hX
  have hf0 := hB.1 0
  refine mr_aload_n dX6_witness_0 rfl ?_
  refine mr_get dX6_witness_1 fl_X6_19 (by assumption) rfl ?_
  refine mr_callV (as := []) dX6_witness_4 (ok_X0_modulus l G) ml_X6_97 cl_X0_modulus cv_X0_modulus (by decide) rfl rfl (Nat.le_of_ble_eq_true rfl) (by assumption) ?_
  refine ⟨_, _, rfl, ⟨h3, h4⟩, ?_⟩
  dsimp only [Option.toList_some, Option.toList_none, List.cons_append, List.nil_append]
  refine mr_if_eq (tgt := 28) dX6_witness_7 (by decide) ⟨by omega, by omega⟩ (fun hc_7 => ?_) (fun hc_7 => ?_)
  · refine mr_iconst dX6_witness_28 ?_
    refine mr_iret rfl dX6_witness_29 ?_
    first | exact hP (by omega) R1 F1 j w1 z1 z2 z3 z4 hX1 hF1 | exact hQ (by omega) R1 F1 w1 z1 hX1 hF1 | exact hR (by omega)
  · refine mr_aload_n dX6_witness_10 rfl ?_
    refine mr_get dX6_witness_11 fl_X6_33 (by assumption) rfl ?_
    refine mr_aload_n dX6_witness_14 rfl ?_
    refine mr_get dX6_witness_15 fl_X6_19 (by assumption) rfl ?_
    refine mr_aload_n dX6_witness_18 rfl ?_
    refine mr_get dX6_witness_19 fl_X6_55 (by assumption) rfl ?_
    refine mr_callV (as := [_, _]) dX6_witness_22 (ok_X3_findWitness l G) ml_X6_228 cl_X3_findWitness cv_X3_findWitness (by decide) rfl rfl (Nat.le_of_ble_eq_true rfl) (by assumption) ?_
    refine xs_findW hX (by omega) (fun R1 F1 j w1 z1 z2 z3 z4 hX1 hl1 hF1 => ?_) (fun R1 F1 w1 z1 hX1 hF1 => ?_)
    · obtain ⟨⟨sd, h0⟩, h1, h2, h3, h4, h5, h6, h7, ⟨m0, cl0, ct0, R0, F0, hS⟩, ⟨rv, rk, rs, rn, ro, rl_, rln, rmd, ra, rb, h11, hrv, hrs⟩, h12, ⟨f13, h13⟩, ⟨nm, h14, hnm⟩, h15, h16, ⟨r17, h17⟩, hn0, hB, hnx, hct, hSB, hIB, him, hfk⟩ := id hX1
      dsimp only [Option.toList_some, Option.toList_none, List.cons_append, List.nil_append]
      refine mr_if_ne (tgt := 30) dX6_witness_25 (by decide) (by omega) (fun _ => ?_) (fun h => absurd h (by decide))
      refine mr_aload_n dX6_witness_30 rfl ?_
      refine mr_callV (as := []) dX6_witness_31 (ok_X6_toldBack l G) ml_X6_121 cl_X6_toldBack cv_X6_toldBack (by decide) rfl rfl (Nat.le_of_ble_eq_true rfl) (by assumption) ?_
      refine ⟨_, _, _, rfl, h0, hl1, ?_⟩
      dsimp only [Option.toList_some, Option.toList_none, List.cons_append, List.nil_append]
      refine mr_iret rfl dX6_witness_34 ?_
      first | exact hP (by omega) R1 F1 j w1 z1 z2 z3 z4 hX1 hF1 | exact hQ (by omega) R1 F1 w1 z1 hX1 hF1 | exact hR (by omega)
    · obtain ⟨⟨sd, h0⟩, h1, h2, h3, h4, h5, h6, h7, ⟨m0, cl0, ct0, R0, F0, hS⟩, ⟨rv, rk, rs, rn, ro, rl_, rln, rmd, ra, rb, h11, hrv, hrs⟩, h12, ⟨f13, h13⟩, ⟨nm, h14, hnm⟩, h15, h16, ⟨r17, h17⟩, hn0, hB, hnx, hct, hSB, hIB, him, hfk⟩ := id hX1
      dsimp only [Option.toList_some, Option.toList_none, List.cons_append, List.nil_append]
      refine mr_if_ne (tgt := 30) dX6_witness_25 (by decide) (by omega) (fun h => absurd h (by decide)) (fun _ => ?_)
      refine mr_iconst dX6_witness_28 ?_
      refine mr_iret rfl dX6_witness_29 ?_
      first | exact hP (by omega) R1 F1 j w1 z1 z2 z3 z4 hX1 hF1 | exact hQ (by omega) R1 F1 w1 z1 hX1 hF1 | exact hR (by omega)
def T_X6_undo (a : List mr_AV) (w : mr_Wd) (Po : Option mr_AV → mr_Wd → Prop) : Prop := ∃ (n0 nx ct fk : Int) (g f im : Nat → Int) (S I : Nat → Nat → Int), a = [vR 0 0] ∧ mr_XS w (n0, g, f, nx, ct, S, I, im, fk) ∧ (0 < ct → (∀ w' : mr_Wd, mr_XS w' (n0, g, S ((nx - 1) % 8).toNat, (nx - 1) % 8, ct - 1, S, I, im, fk) → mr_Fr w w' → Po (some (vI (ct - 1))) w')) ∧ (ct = 0 → Po (some (vI (-1))) w)
set_option maxHeartbeats 4000000 in
set_option maxRecDepth 20000 in
theorem ok_X6_undo (l : Launch) (G : mr_G) : mr_Ok l G yX6_undo cX6_undo 1 (some .int) 3 63 T_X6_undo := by
  refine mr_Ok.of (by decide +kernel) ?_
  rintro a w Po ⟨n0, nx, ct, fk, g, f, im, S, I, rfl, hX, hP, hR⟩
  refine ⟨Nat.le_of_ble_eq_true rfl, ?_⟩
  show mr_J l G RX6 cX6_undo 1 (some .int) 3 63 Po 0 [some (vR 0 0)] [] w
  obtain ⟨⟨sd, h0⟩, h1, h2, h3, h4, h5, h6, h7, ⟨m0, cl0, ct0, R0, F0, hS⟩, ⟨rv, rk, rs, rn, ro, rl_, rln, rmd, ra, rb, h11, hrv, hrs⟩, h12, ⟨f13, h13⟩, ⟨nm, h14, hnm⟩, h15, h16, ⟨r17, h17⟩, hn0, hB, hnx, hct, hSB, hIB, him, hfk⟩ := id hX
  refine mr_aload_n dX6_undo_0 rfl ?_
  refine mr_get dX6_undo_1 fl_X6_26 (by assumption) rfl ?_
  refine mr_aload_n dX6_undo_4 rfl ?_
  refine mr_get dX6_undo_5 fl_X6_19 (by assumption) rfl ?_
  refine mr_callV (as := [_]) dX6_undo_8 (ok_X1_goBack l G) ml_X6_241 cl_X1_goBack cv_X1_goBack (by decide) rfl rfl (Nat.le_of_ble_eq_true rfl) (by assumption) ?_
  refine xs_goBack hX (fun hy w1 hX1 hF1 => ?_) (fun hy => ?_)
  · obtain ⟨⟨sd, h0⟩, h1, h2, h3, h4, h5, h6, h7, ⟨m0, cl0, ct0, R0, F0, hS⟩, ⟨rv, rk, rs, rn, ro, rl_, rln, rmd, ra, rb, h11, hrv, hrs⟩, h12, ⟨f13, h13⟩, ⟨nm, h14, hnm⟩, h15, h16, ⟨r17, h17⟩, hn0, hB, hnx, hct, hSB, hIB, him, hfk⟩ := id hX1
    dsimp only [Option.toList_some, Option.toList_none, List.cons_append, List.nil_append]
    refine mr_if_eq (tgt := 24) dX6_undo_11 (by decide) (by omega) (fun h => absurd h (by decide)) (fun _ => ?_)
    refine mr_aload_n dX6_undo_14 rfl ?_
    refine mr_get dX6_undo_15 fl_X6_26 (by assumption) rfl ?_
    refine mr_callV (as := []) dX6_undo_18 (ok_X1_count l G) ml_X6_106 cl_X1_count cv_X1_count (by decide) rfl rfl (Nat.le_of_ble_eq_true rfl) (by assumption) ?_
    refine ⟨_, _, _, rfl, ⟨h5, h6⟩, ?_⟩
    dsimp only [Option.toList_some, Option.toList_none, List.cons_append, List.nil_append]
    refine mr_goto (tgt := 25) dX6_undo_21 (by decide) ?_
    refine mr_iret rfl dX6_undo_25 ?_
    first | exact hP hy w1 hX1 hF1 | exact hR hy
  · skip
    dsimp only [Option.toList_some, Option.toList_none, List.cons_append, List.nil_append]
    refine mr_if_eq (tgt := 24) dX6_undo_11 (by decide) (by omega) (fun _ => ?_) (fun h => absurd h (by decide))
    refine mr_iconst dX6_undo_24 ?_
    refine mr_iret rfl dX6_undo_25 ?_
    first | exact hP hy w1 hX1 hF1 | exact hR hy
def T_X6_image (a : List mr_AV) (w : mr_Wd) (Po : Option mr_AV → mr_Wd → Prop) : Prop := ∃ (n0 nx ct fk : Int) (g f im : Nat → Int) (S I : Nat → Nat → Int) (x : Int), a = [vR 0 0, vI x] ∧ mr_XS w (n0, g, f, nx, ct, S, I, im, fk) ∧ InR x ∧ ((0 ≤ x ∧ x < 2) → (∀ w' : mr_Wd, mr_XS w' (n0, g, f, nx, ct, S, (fun q => if q = x.toNat then f else I q), mr_fs im x.toNat 1, fk) → mr_Fr w w' → Po (some (vI 1)) w')) ∧ (¬ (0 ≤ x ∧ x < 2) → Po (some (vI 0)) w)
set_option maxHeartbeats 4000000 in
set_option maxRecDepth 20000 in
theorem ok_X6_image (l : Launch) (G : mr_G) : mr_Ok l G yX6_image cX6_image 2 (some .boolean) 2 42 T_X6_image := by
  refine mr_Ok.of (by decide +kernel) ?_
  rintro a w Po ⟨n0, nx, ct, fk, g, f, im, S, I, x, rfl, hX, h_x, hP, hR⟩
  refine ⟨Nat.le_of_ble_eq_true rfl, ?_⟩
  show mr_J l G RX6 cX6_image 2 (some .boolean) 2 42 Po 0 [some (vR 0 0), some (vI x)] [] w
  obtain ⟨⟨sd, h0⟩, h1, h2, h3, h4, h5, h6, h7, ⟨m0, cl0, ct0, R0, F0, hS⟩, ⟨rv, rk, rs, rn, ro, rl_, rln, rmd, ra, rb, h11, hrv, hrs⟩, h12, ⟨f13, h13⟩, ⟨nm, h14, hnm⟩, h15, h16, ⟨r17, h17⟩, hn0, hB, hnx, hct, hSB, hIB, him, hfk⟩ := id hX
  refine mr_iload_n dX6_image_0 rfl ?_
  refine mr_if_lt (tgt := 9) dX6_image_1 (by decide) (by omega) (fun hc_1 => ?_) (fun hc_1 => ?_)
  · refine mr_iconst dX6_image_9 ?_
    refine mr_zret rfl (Or.inl rfl) dX6_image_10 ?_
    exact hR (by omega)
  · refine mr_iload_n dX6_image_4 rfl ?_
    refine mr_iconst dX6_image_5 ?_
    refine mr_icmp_lt (tgt := 11) dX6_image_6 (by decide) (by omega) (by omega) (fun hc_6 => ?_) (fun hc_6 => ?_)
    · refine mr_aload_n dX6_image_11 rfl ?_
      refine mr_get dX6_image_12 fl_X6_19 (by assumption) rfl ?_
      refine mr_aload_n dX6_image_15 rfl ?_
      refine mr_get dX6_image_16 fl_X6_48 (by assumption) rfl ?_
      refine mr_iload_n dX6_image_19 rfl ?_
      refine mr_aald dX6_image_20 (by assumption) (by omega) (by omega) (by decide) ?_
      refine mr_callV (as := [_]) dX6_image_21 (ok_X0_copyTo l G) ml_X6_245 cl_X0_copyTo cv_X0_copyTo (by decide) rfl rfl (Nat.le_of_ble_eq_true rfl) (by assumption) ?_
      refine xs_image hX (by omega) (fun w1 hX1 hF1 => ?_)
      obtain ⟨⟨sd, h0⟩, h1, h2, h3, h4, h5, h6, h7, ⟨m0, cl0, ct0, R0, F0, hS⟩, ⟨rv, rk, rs, rn, ro, rl_, rln, rmd, ra, rb, h11, hrv, hrs⟩, h12, ⟨f13, h13⟩, ⟨nm, h14, hnm⟩, h15, h16, ⟨r17, h17⟩, hn0, hB, hnx, hct, hSB, hIB, him, hfk⟩ := id hX1
      dsimp only [Option.toList_some, Option.toList_none, List.cons_append, List.nil_append]
      refine mr_aload_n dX6_image_24 rfl ?_
      refine mr_get dX6_image_25 fl_X6_51 (by assumption) rfl ?_
      refine mr_iload_n dX6_image_28 rfl ?_
      refine mr_iconst dX6_image_29 ?_
      refine mr_zast dX6_image_30 (by assumption) (by omega) (by omega) (by decide) (Or.inr rfl) ?_
      refine mr_iconst dX6_image_31 ?_
      refine mr_zret rfl (Or.inr rfl) dX6_image_32 ?_
      refine hP (by omega) _ ⟨⟨sd, h0⟩, h1, h2, h3, h4, h5, h6, h7, ⟨m0, cl0, ct0, R0, F0, hS⟩, ⟨rv, rk, rs, rn, ro, rl_, rln, rmd, ra, rb, h11, hrv, hrs⟩, h12, ⟨f13, h13⟩, ⟨nm, h14, hnm⟩, h15, rfl, ⟨r17, h17⟩, hn0, hB, hnx, hct, hSB, hIB, (fun i => ?_), hfk⟩ (hF1.up _ (by decide))
      show mr_fs im x.toNat 1 i = 0 ∨ mr_fs im x.toNat 1 i = 1
      unfold mr_fs
      split
      · exact Or.inr rfl
      · exact him i
    · refine mr_iconst dX6_image_9 ?_
      refine mr_zret rfl (Or.inl rfl) dX6_image_10 ?_
      exact hR (by omega)
def T_X6_restore (a : List mr_AV) (w : mr_Wd) (Po : Option mr_AV → mr_Wd → Prop) : Prop := ∃ (n0 nx ct fk : Int) (g f im : Nat → Int) (S I : Nat → Nat → Int) (x : Int), a = [vR 0 0, vI x] ∧ mr_XS w (n0, g, f, nx, ct, S, I, im, fk) ∧ InR x ∧ ((0 ≤ x ∧ x < 2) → im x.toNat ≠ 0 → (∀ w' : mr_Wd, mr_XS w' (n0, g, I x.toNat, nx, 0, S, I, im, fk) → mr_Fr w w' → Po (some (vI 1)) w')) ∧ (¬ (0 ≤ x ∧ x < 2) → Po (some (vI 0)) w) ∧ ((0 ≤ x ∧ x < 2) → im x.toNat = 0 → Po (some (vI 0)) w)
set_option maxHeartbeats 4000000 in
set_option maxRecDepth 20000 in
theorem ok_X6_restore (l : Launch) (G : mr_G) : mr_Ok l G yX6_restore cX6_restore 2 (some .boolean) 2 42 T_X6_restore := by
  refine mr_Ok.of (by decide +kernel) ?_
  rintro a w Po ⟨n0, nx, ct, fk, g, f, im, S, I, x, rfl, hX, h_x, hP, hR, hQ⟩
  refine ⟨Nat.le_of_ble_eq_true rfl, ?_⟩
  show mr_J l G RX6 cX6_restore 2 (some .boolean) 2 42 Po 0 [some (vR 0 0), some (vI x)] [] w
  obtain ⟨⟨sd, h0⟩, h1, h2, h3, h4, h5, h6, h7, ⟨m0, cl0, ct0, R0, F0, hS⟩, ⟨rv, rk, rs, rn, ro, rl_, rln, rmd, ra, rb, h11, hrv, hrs⟩, h12, ⟨f13, h13⟩, ⟨nm, h14, hnm⟩, h15, h16, ⟨r17, h17⟩, hn0, hB, hnx, hct, hSB, hIB, him, hfk⟩ := id hX
  refine mr_iload_n dX6_restore_0 rfl ?_
  refine mr_if_lt (tgt := 18) dX6_restore_1 (by decide) (by omega) (fun hc_1 => ?_) (fun hc_1 => ?_)
  · refine mr_iconst dX6_restore_18 ?_
    refine mr_zret rfl (Or.inl rfl) dX6_restore_19 ?_
    first | exact hP (by omega) hc_15 w2 hX2 (hF1.tr hF2) | exact hR (by omega) | exact hQ (by omega) hc_15
  · refine mr_iload_n dX6_restore_4 rfl ?_
    refine mr_iconst dX6_restore_5 ?_
    refine mr_icmp_ge (tgt := 18) dX6_restore_6 (by decide) (by omega) (by omega) (fun hc_6 => ?_) (fun hc_6 => ?_)
    · refine mr_iconst dX6_restore_18 ?_
      refine mr_zret rfl (Or.inl rfl) dX6_restore_19 ?_
      first | exact hP (by omega) hc_15 w2 hX2 (hF1.tr hF2) | exact hR (by omega) | exact hQ (by omega) hc_15
    · refine mr_aload_n dX6_restore_9 rfl ?_
      refine mr_get dX6_restore_10 fl_X6_51 (by assumption) rfl ?_
      refine mr_iload_n dX6_restore_13 rfl ?_
      refine mr_zald dX6_restore_14 (by assumption) (by omega) (by omega) (by decide) ?_
      refine mr_if_ne (tgt := 20) dX6_restore_15 (by decide) (by have := him x.toNat; omega) (fun hc_15 => ?_) (fun hc_15 => ?_)
      · refine mr_aload_n dX6_restore_20 rfl ?_
        refine mr_get dX6_restore_21 fl_X6_19 (by assumption) rfl ?_
        refine mr_aload_n dX6_restore_24 rfl ?_
        refine mr_get dX6_restore_25 fl_X6_48 (by assumption) rfl ?_
        refine mr_iload_n dX6_restore_28 rfl ?_
        refine mr_aald dX6_restore_29 (by assumption) (by omega) (by omega) (by decide) ?_
        refine mr_callV (as := [_]) dX6_restore_30 (ok_X0_copyFrom l G) ml_X6_249 cl_X0_copyFrom cv_X0_copyFrom (by decide) rfl rfl (Nat.le_of_ble_eq_true rfl) (by assumption) ?_
        refine xs_restore hX (by omega) (fun w1 hX1 hF1 => ?_)
        obtain ⟨⟨sd, h0⟩, h1, h2, h3, h4, h5, h6, h7, ⟨m0, cl0, ct0, R0, F0, hS⟩, ⟨rv, rk, rs, rn, ro, rl_, rln, rmd, ra, rb, h11, hrv, hrs⟩, h12, ⟨f13, h13⟩, ⟨nm, h14, hnm⟩, h15, h16, ⟨r17, h17⟩, hn0, hB, hnx, hct, hSB, hIB, him, hfk⟩ := id hX1
        dsimp only [Option.toList_some, Option.toList_none, List.cons_append, List.nil_append]
        refine mr_aload_n dX6_restore_33 rfl ?_
        refine mr_get dX6_restore_34 fl_X6_26 (by assumption) rfl ?_
        refine mr_callV (as := []) dX6_restore_37 (ok_X1_forget l G) ml_X6_91 cl_X1_forget cv_X1_forget (by decide) rfl rfl (Nat.le_of_ble_eq_true rfl) (by assumption) ?_
        refine xs_forget hX1 (fun w2 hX2 hF2 => ?_)
        dsimp only [Option.toList_some, Option.toList_none, List.cons_append, List.nil_append]
        refine mr_iconst dX6_restore_40 ?_
        refine mr_zret rfl (Or.inr rfl) dX6_restore_41 ?_
        first | exact hP (by omega) hc_15 w2 hX2 (hF1.tr hF2) | exact hR (by omega) | exact hQ (by omega) hc_15
      · refine mr_iconst dX6_restore_18 ?_
        refine mr_zret rfl (Or.inl rfl) dX6_restore_19 ?_
        first | exact hP (by omega) hc_15 w2 hX2 (hF1.tr hF2) | exact hR (by omega) | exact hQ (by omega) hc_15
