def T_X6_hasColumn (a : List mr_AV) (w : mr_Wd) (Po : Option mr_AV → mr_Wd → Prop) : Prop := ∃ (n0 nx ct fk : Int) (g f im : Nat → Int) (S I : Nat → Nat → Int) (p c : Int), a = [vR 0 0, vI p, vI c] ∧ mr_XS w (n0, g, f, nx, ct, S, I, im, fk) ∧ InR p ∧ InR c ∧ (mr_pk f p ∧ 0 ≤ c ∧ c < f 1 → Po (some (vI 1)) w) ∧ (¬ (mr_pk f p ∧ 0 ≤ c ∧ c < f 1) → Po (some (vI 0)) w)
set_option maxHeartbeats 4000000 in
set_option maxRecDepth 20000 in
theorem ok_X6_hasColumn (l : Launch) (G : mr_G) : mr_Ok l G yX6_hasColumn cX6_hasColumn 3 (some .boolean) 1 21 T_X6_hasColumn := by
  refine mr_Ok.of (by decide +kernel) ?_
  rintro a w Po ⟨n0, nx, ct, fk, g, f, im, S, I, p, c, rfl, hX, h_p, h_c, hP, hQ⟩
  refine ⟨Nat.le_of_ble_eq_true rfl, ?_⟩
  show mr_J l G RX6 cX6_hasColumn 3 (some .boolean) 1 21 Po 0 [some (vR 0 0), some (vI p), some (vI c)] [] w
  obtain ⟨⟨sd, h0⟩, h1, h2, h3, h4, h5, h6, h7, ⟨m0, cl0, ct0, R0, F0, hS⟩, ⟨rv, rk, rs, rn, ro, rl_, rln, rmd, ra, rb, h11, hrv, hrs⟩, h12, ⟨f13, h13⟩, ⟨nm, h14, hnm⟩, h15, h16, ⟨r17, h17⟩, hn0, hB, hnx, hct, hSB, hIB, him, hfk⟩ := id hX
  have hf1 := hB.1 1
  refine mr_aload_n dX6_hasColumn_0 rfl ?_
  refine mr_get dX6_hasColumn_1 fl_X6_19 (by assumption) rfl ?_
  refine mr_iload_n dX6_hasColumn_4 rfl ?_
  refine mr_callV (as := [_]) dX6_hasColumn_5 (ok_X0_hasPlace l G) ml_X6_124 cl_X0_hasPlace cv_X0_hasPlace (by decide) rfl rfl (Nat.le_of_ble_eq_true rfl) (by assumption) ?_
  refine ⟨3, _, _, rfl, ⟨h3, h4⟩, hB, h_p, ?_, ?_⟩
  · intro hy1
    dsimp only [Option.toList_some, Option.toList_none, List.cons_append, List.nil_append]
    refine mr_if_eq (tgt := 30) dX6_hasColumn_8 (by decide) (by omega) (fun h => absurd h (by decide)) (fun _ => ?_)
    refine mr_iload_n dX6_hasColumn_11 rfl ?_
    refine mr_if_lt (tgt := 30) dX6_hasColumn_12 (by decide) (by omega) (fun hc_12 => ?_) (fun hc_12 => ?_)
    · refine mr_iconst dX6_hasColumn_30 ?_
      refine mr_zret rfl (Or.inl rfl) dX6_hasColumn_31 ?_
      first | exact hP ⟨hy1, by omega, by omega⟩ | exact hQ (fun z => hy1 z.1) | exact hQ (fun z => by omega)
    · refine mr_iload_n dX6_hasColumn_15 rfl ?_
      refine mr_aload_n dX6_hasColumn_16 rfl ?_
      refine mr_get dX6_hasColumn_17 fl_X6_19 (by assumption) rfl ?_
      refine mr_callV (as := []) dX6_hasColumn_20 (ok_X0_width l G) ml_X6_100 cl_X0_width cv_X0_width (by decide) rfl rfl (Nat.le_of_ble_eq_true rfl) (by assumption) ?_
      refine ⟨_, _, rfl, ⟨h3, h4⟩, ?_⟩
      dsimp only [Option.toList_some, Option.toList_none, List.cons_append, List.nil_append]
      refine mr_icmp_ge (tgt := 30) dX6_hasColumn_23 (by decide) h_c ⟨by omega, by omega⟩ (fun hc_23 => ?_) (fun hc_23 => ?_)
      · refine mr_iconst dX6_hasColumn_30 ?_
        refine mr_zret rfl (Or.inl rfl) dX6_hasColumn_31 ?_
        first | exact hP ⟨hy1, by omega, by omega⟩ | exact hQ (fun z => hy1 z.1) | exact hQ (fun z => by omega)
      · refine mr_iconst dX6_hasColumn_26 ?_
        refine mr_goto (tgt := 31) dX6_hasColumn_27 (by decide) ?_
        refine mr_zret rfl (Or.inr rfl) dX6_hasColumn_31 ?_
        first | exact hP ⟨hy1, by omega, by omega⟩ | exact hQ (fun z => hy1 z.1) | exact hQ (fun z => by omega)
  · intro hy1
    dsimp only [Option.toList_some, Option.toList_none, List.cons_append, List.nil_append]
    refine mr_if_eq (tgt := 30) dX6_hasColumn_8 (by decide) (by omega) (fun _ => ?_) (fun h => absurd h (by decide))
    refine mr_iconst dX6_hasColumn_30 ?_
    refine mr_zret rfl (Or.inl rfl) dX6_hasColumn_31 ?_
    first | exact hP ⟨hy1, by omega, by omega⟩ | exact hQ (fun z => hy1 z.1) | exact hQ (fun z => by omega)
def T_X6_setLine (a : List mr_AV) (w : mr_Wd) (Po : Option mr_AV → mr_Wd → Prop) : Prop := ∃ (n0 nx ct fk : Int) (g f im : Nat → Int) (S I : Nat → Nat → Int) (x y z : Int), a = [vR 0 0, vI x, vI y, vI z] ∧ mr_XS w (n0, g, f, nx, ct, S, I, im, fk) ∧ (∀ w' : mr_Wd, mr_XS w' (n0, g, f, nx, ct, S, I, im, fk) → w' 17 = eA 0 3 (mr_l3 x y z) → mr_Fr w w' → Po none w')
set_option maxHeartbeats 4000000 in
set_option maxRecDepth 20000 in
theorem ok_X6_setLine (l : Launch) (G : mr_G) : mr_Ok l G yX6_setLine cX6_setLine 4 none 0 0 T_X6_setLine := by
  refine mr_Ok.of (by decide +kernel) ?_
  rintro a w Po ⟨n0, nx, ct, fk, g, f, im, S, I, x, y, z, rfl, hX, hP⟩
  refine ⟨Nat.le_of_ble_eq_true rfl, ?_⟩
  show mr_J l G RX6 cX6_setLine 4 none 0 0 Po 0 [some (vR 0 0), some (vI x), some (vI y), some (vI z)] [] w
  obtain ⟨⟨sd, h0⟩, h1, h2, h3, h4, h5, h6, h7, ⟨m0, cl0, ct0, R0, F0, hS⟩, ⟨rv, rk, rs, rn, ro, rl_, rln, rmd, ra, rb, h11, hrv, hrs⟩, h12, ⟨f13, h13⟩, ⟨nm, h14, hnm⟩, h15, h16, ⟨r17, h17⟩, hn0, hB, hnx, hct, hSB, hIB, him, hfk⟩ := id hX
  have LKL : True := trivial
  refine mr_aload_n dX6_setLine_0 rfl ?_
  refine mr_get dX6_setLine_1 fl_X6_55 h0 rfl ?_
  refine mr_iconst dX6_setLine_4 ?_
  refine mr_iload_n dX6_setLine_5 rfl ?_
  refine mr_iast dX6_setLine_6 h17 (by omega) (by omega) (by decide) ?_
  try rw [mr_up_up]
  refine mr_aload_n dX6_setLine_7 rfl ?_
  refine mr_get dX6_setLine_8 fl_X6_55 (mr_lk h0 (by decide)) rfl ?_
  refine mr_iconst dX6_setLine_11 ?_
  refine mr_iload_n dX6_setLine_12 rfl ?_
  refine mr_iast dX6_setLine_13 (mr_up_same _ _ _) (by omega) (by omega) (by decide) ?_
  try rw [mr_up_up]
  refine mr_aload_n dX6_setLine_14 rfl ?_
  refine mr_get dX6_setLine_15 fl_X6_55 (mr_lk h0 (by decide)) rfl ?_
  refine mr_iconst dX6_setLine_18 ?_
  refine mr_iload_n dX6_setLine_19 rfl ?_
  refine mr_iast dX6_setLine_20 (mr_up_same _ _ _) (by omega) (by omega) (by decide) ?_
  try rw [mr_up_up]
  refine mr_extA (mr_up_same _ _ _) (g := mr_l3 x y z) (fun j hj => ?_) ?_
  · rcases (show j = 0 ∨ j = 1 ∨ j = 2 by omega) with rfl | rfl | rfl <;> rfl
  · rw [mr_up_up]
    exact mr_vret rfl dX6_setLine_21 (hP _ ⟨⟨sd, h0⟩, h1, h2, h3, h4, h5, h6, h7, ⟨m0, cl0, ct0, R0, F0, hS⟩, ⟨rv, rk, rs, rn, ro, rl_, rln, rmd, ra, rb, h11, hrv, hrs⟩, h12, ⟨f13, h13⟩, ⟨nm, h14, hnm⟩, h15, h16, ⟨_, rfl⟩, hn0, hB, hnx, hct, hSB, hIB, him, hfk⟩ rfl ((mr_Fr.rf w).up _ (by decide)))
def T_X6_takeRow (a : List mr_AV) (w : mr_Wd) (Po : Option mr_AV → mr_Wd → Prop) : Prop := ∃ (n0 nx ct fk : Int) (g f im : Nat → Int) (S I : Nat → Nat → Int) (p x y z : Int), a = [vR 0 0, vI p, vI x, vI y, vI z] ∧ mr_XS w (n0, g, f, nx, ct, S, I, im, fk) ∧ InR p ∧ InR x ∧ InR y ∧ InR z ∧ (mr_pk f p ∧ mr_ro f x y z → ∀ w' : mr_Wd, mr_XS w' (n0, g, f, nx, ct, S, I, im, fk) → w' 17 = eA 0 3 (mr_l3 x y z) → mr_Fr w w' → Po (some (vI 1)) w') ∧ (¬ (mr_pk f p ∧ mr_ro f x y z) → Po (some (vI 0)) w)
set_option maxHeartbeats 4000000 in
set_option maxRecDepth 20000 in
theorem ok_X6_takeRow (l : Launch) (G : mr_G) : mr_Ok l G yX6_takeRow cX6_takeRow 5 (some .boolean) 3 66 T_X6_takeRow := by
  refine mr_Ok.of (by decide +kernel) ?_
  rintro a w Po ⟨n0, nx, ct, fk, g, f, im, S, I, p, x, y, z, rfl, hX, h_p, h_x, h_y, h_z, hP, hQ⟩
  refine ⟨Nat.le_of_ble_eq_true rfl, ?_⟩
  show mr_J l G RX6 cX6_takeRow 5 (some .boolean) 3 66 Po 0 [some (vR 0 0), some (vI p), some (vI x), some (vI y), some (vI z)] [] w
  obtain ⟨⟨sd, h0⟩, h1, h2, h3, h4, h5, h6, h7, ⟨m0, cl0, ct0, R0, F0, hS⟩, ⟨rv, rk, rs, rn, ro, rl_, rln, rmd, ra, rb, h11, hrv, hrs⟩, h12, ⟨f13, h13⟩, ⟨nm, h14, hnm⟩, h15, h16, ⟨r17, h17⟩, hn0, hB, hnx, hct, hSB, hIB, him, hfk⟩ := id hX
  refine mr_aload_n dX6_takeRow_0 rfl ?_
  refine mr_get dX6_takeRow_1 fl_X6_19 (by assumption) rfl ?_
  refine mr_iload_n dX6_takeRow_4 rfl ?_
  refine mr_callV (as := [_]) dX6_takeRow_5 (ok_X0_hasPlace l G) ml_X6_124 cl_X0_hasPlace cv_X0_hasPlace (by decide) rfl rfl (Nat.le_of_ble_eq_true rfl) (by assumption) ?_
  refine ⟨3, _, _, rfl, ⟨h3, h4⟩, hB, h_p, ?_, ?_⟩
  · intro hy1
    dsimp only [Option.toList_some, Option.toList_none, List.cons_append, List.nil_append]
    refine mr_if_eq (tgt := 25) dX6_takeRow_8 (by decide) (by omega) (fun h => absurd h (by decide)) (fun _ => ?_)
    refine mr_aload_n dX6_takeRow_11 rfl ?_
    refine mr_get dX6_takeRow_12 fl_X6_19 (by assumption) rfl ?_
    refine mr_iload_n dX6_takeRow_15 rfl ?_
    refine mr_iload_n dX6_takeRow_16 rfl ?_
    refine mr_iload dX6_takeRow_17 rfl ?_
    refine mr_callV (as := [_, _, _]) dX6_takeRow_19 (ok_X0_hasRow l G) ml_X6_198 cl_X0_hasRow cv_X0_hasRow (by decide) rfl rfl (Nat.le_of_ble_eq_true rfl) (by assumption) ?_
    refine ⟨3, _, _, _, _, rfl, ⟨h3, h4⟩, hB, h_x, h_y, h_z, ?_, ?_⟩
    · intro hy2
      dsimp only [Option.toList_some, Option.toList_none, List.cons_append, List.nil_append]
      refine mr_if_ne (tgt := 27) dX6_takeRow_22 (by decide) (by omega) (fun _ => ?_) (fun h => absurd h (by decide))
      refine mr_aload_n dX6_takeRow_27 rfl ?_
      refine mr_iload_n dX6_takeRow_28 rfl ?_
      refine mr_iload_n dX6_takeRow_29 rfl ?_
      refine mr_iload dX6_takeRow_30 rfl ?_
      refine mr_callV (as := [_, _, _]) dX6_takeRow_32 (ok_X6_setLine l G) ml_X6_205 cl_X6_setLine cv_X6_setLine (by decide) rfl rfl (Nat.le_of_ble_eq_true rfl) (by assumption) ?_
      refine ⟨_, _, _, _, _, _, _, _, _, _, _, _, rfl, hX, (fun w1 hX1 hl1 hF1 => ?_)⟩
      dsimp only [Option.toList_some, Option.toList_none, List.cons_append, List.nil_append]
      refine mr_iconst dX6_takeRow_35 ?_
      refine mr_zret rfl (Or.inr rfl) dX6_takeRow_36 ?_
      first | exact hP ⟨hy1, hy2⟩ w1 hX1 hl1 hF1 | exact hQ (fun z => hy1 z.1) | exact hQ (fun z => hy2 z.2)
    · intro hy2
      dsimp only [Option.toList_some, Option.toList_none, List.cons_append, List.nil_append]
      refine mr_if_ne (tgt := 27) dX6_takeRow_22 (by decide) (by omega) (fun h => absurd h (by decide)) (fun _ => ?_)
      refine mr_iconst dX6_takeRow_25 ?_
      refine mr_zret rfl (Or.inl rfl) dX6_takeRow_26 ?_
      first | exact hP ⟨hy1, hy2⟩ w1 hX1 hl1 hF1 | exact hQ (fun z => hy1 z.1) | exact hQ (fun z => hy2 z.2)
  · intro hy1
    dsimp only [Option.toList_some, Option.toList_none, List.cons_append, List.nil_append]
    refine mr_if_eq (tgt := 25) dX6_takeRow_8 (by decide) (by omega) (fun _ => ?_) (fun h => absurd h (by decide))
    refine mr_iconst dX6_takeRow_25 ?_
    refine mr_zret rfl (Or.inl rfl) dX6_takeRow_26 ?_
    first | exact hP ⟨hy1, hy2⟩ w1 hX1 hl1 hF1 | exact hQ (fun z => hy1 z.1) | exact hQ (fun z => hy2 z.2)
def T_X6_toldBack (a : List mr_AV) (w : mr_Wd) (Po : Option mr_AV → mr_Wd → Prop) : Prop := ∃ (fk sd : Int) (r : Nat → Int), a = [vR 0 0] ∧ w 0 = eX0 fk sd ∧ w 17 = eA 0 3 r ∧ Po (some (vI (mr_tb r))) w
set_option maxHeartbeats 4000000 in
set_option maxRecDepth 20000 in
theorem ok_X6_toldBack (l : Launch) (G : mr_G) : mr_Ok l G yX6_toldBack cX6_toldBack 1 (some .int) 0 0 T_X6_toldBack := by
  refine mr_Ok.of (by decide +kernel) ?_
  rintro a w Po ⟨fk, sd, r, rfl, h0, h17, hP⟩
  refine ⟨Nat.le_of_ble_eq_true rfl, ?_⟩
  show mr_J l G RX6 cX6_toldBack 1 (some .int) 0 0 Po 0 [some (vR 0 0)] [] w
  refine mr_sipush dX6_toldBack_0 rfl ?_
  refine mr_aload_n dX6_toldBack_3 rfl ?_
  refine mr_get dX6_toldBack_4 fl_X6_55 (by assumption) rfl ?_
  refine mr_iconst dX6_toldBack_7 ?_
  refine mr_iald dX6_toldBack_8 (by assumption) (by omega) (by omega) (by decide) ?_
  refine mr_imul dX6_toldBack_9 ?_
  refine mr_bipush dX6_toldBack_10 rfl ?_
  refine mr_aload_n dX6_toldBack_12 rfl ?_
  refine mr_get dX6_toldBack_13 fl_X6_55 (by assumption) rfl ?_
  refine mr_iconst dX6_toldBack_16 ?_
  refine mr_iald dX6_toldBack_17 (by assumption) (by omega) (by omega) (by decide) ?_
  refine mr_imul dX6_toldBack_18 ?_
  refine mr_iadd dX6_toldBack_19 ?_
  refine mr_aload_n dX6_toldBack_20 rfl ?_
  refine mr_get dX6_toldBack_21 fl_X6_55 (by assumption) rfl ?_
  refine mr_iconst dX6_toldBack_24 ?_
  refine mr_iald dX6_toldBack_25 (by assumption) (by omega) (by omega) (by decide) ?_
  refine mr_iadd dX6_toldBack_26 ?_
  refine mr_iret rfl dX6_toldBack_27 ?_
  exact hP
def T_X6_isZero (a : List mr_AV) (w : mr_Wd) (Po : Option mr_AV → mr_Wd → Prop) : Prop := ∃ (q : Nat) (r : Nat → Int), a = [vR q 0] ∧ w q = eA 0 3 r ∧ mr_Rd r ∧ (r 0 = 0 ∧ r 1 = 0 ∧ r 2 = 0 → Po (some (vI 1)) w) ∧ (¬ (r 0 = 0 ∧ r 1 = 0 ∧ r 2 = 0) → Po (some (vI 0)) w)
set_option maxHeartbeats 4000000 in
set_option maxRecDepth 20000 in
theorem ok_X6_isZero (l : Launch) (G : mr_G) : mr_Ok l G yX6_isZero cX6_isZero 5 (some .boolean) 0 0 T_X6_isZero := by
  refine mr_Ok.of (by decide +kernel) ?_
  rintro a w Po ⟨q, r, rfl, hq, hr, hP, hQ⟩
  refine ⟨Nat.le_of_ble_eq_true rfl, ?_⟩
  show mr_J l G RX6 cX6_isZero 5 (some .boolean) 0 0 Po 0 [some (vR q 0), none, none, none, none] [] w
  have hr0 := hr 0
  have hr1 := hr 1
  have hr2 := hr 2
  refine mr_aload_n dX6_isZero_0 rfl ?_
  refine mr_astore_n dX6_isZero_1 rfl (by decide) ?_
  refine mr_aload_n dX6_isZero_2 rfl ?_
  refine mr_alen dX6_isZero_3 (by assumption) (by decide) ?_
  refine mr_istore_n dX6_isZero_4 rfl (by decide) ?_
  refine mr_iconst dX6_isZero_5 ?_
  refine mr_istore_n dX6_isZero_6 rfl (by decide) ?_
  refine mr_iload_n dX6_isZero_7 rfl ?_
  refine mr_iload_n dX6_isZero_8 rfl ?_
  refine mr_icmp_ge (tgt := 30) dX6_isZero_9 (by decide) (by omega) (by omega) (fun h => absurd h (by decide)) (fun _ => ?_)
  refine mr_aload_n dX6_isZero_12 rfl ?_
  refine mr_iload_n dX6_isZero_13 rfl ?_
  refine mr_iald dX6_isZero_14 (by assumption) (by omega) (by omega) (by decide) ?_
  refine mr_istore dX6_isZero_15 rfl (by decide) ?_
  refine mr_iload dX6_isZero_17 rfl ?_
  refine mr_if_eq (tgt := 24) dX6_isZero_19 (by decide) (by first | exact ⟨by show -2147483648 ≤ r 0; omega, by show r 0 < 2147483648; omega⟩ | exact ⟨by show -2147483648 ≤ r 1; omega, by show r 1 < 2147483648; omega⟩ | exact ⟨by show -2147483648 ≤ r 2; omega, by show r 2 < 2147483648; omega⟩) (fun hz1 => ?_) (fun hz1 => ?_)
  · refine mr_iinc dX6_isZero_24 rfl (by decide) rfl ?_
    refine mr_goto (tgt := 7) dX6_isZero_27 (by decide) ?_
    refine mr_iload_n dX6_isZero_7 rfl ?_
    refine mr_iload_n dX6_isZero_8 rfl ?_
    refine mr_icmp_ge (tgt := 30) dX6_isZero_9 (by decide) (by omega) (by omega) (fun h => absurd h (by decide)) (fun _ => ?_)
    refine mr_aload_n dX6_isZero_12 rfl ?_
    refine mr_iload_n dX6_isZero_13 rfl ?_
    refine mr_iald dX6_isZero_14 (by assumption) (by omega) (by omega) (by decide) ?_
    refine mr_istore dX6_isZero_15 rfl (by decide) ?_
    refine mr_iload dX6_isZero_17 rfl ?_
    refine mr_if_eq (tgt := 24) dX6_isZero_19 (by decide) (by first | exact ⟨by show -2147483648 ≤ r 0; omega, by show r 0 < 2147483648; omega⟩ | exact ⟨by show -2147483648 ≤ r 1; omega, by show r 1 < 2147483648; omega⟩ | exact ⟨by show -2147483648 ≤ r 2; omega, by show r 2 < 2147483648; omega⟩) (fun hz2 => ?_) (fun hz2 => ?_)
    · refine mr_iinc dX6_isZero_24 rfl (by decide) rfl ?_
      refine mr_goto (tgt := 7) dX6_isZero_27 (by decide) ?_
      refine mr_iload_n dX6_isZero_7 rfl ?_
      refine mr_iload_n dX6_isZero_8 rfl ?_
      refine mr_icmp_ge (tgt := 30) dX6_isZero_9 (by decide) (by omega) (by omega) (fun h => absurd h (by decide)) (fun _ => ?_)
      refine mr_aload_n dX6_isZero_12 rfl ?_
      refine mr_iload_n dX6_isZero_13 rfl ?_
      refine mr_iald dX6_isZero_14 (by assumption) (by omega) (by omega) (by decide) ?_
      refine mr_istore dX6_isZero_15 rfl (by decide) ?_
      refine mr_iload dX6_isZero_17 rfl ?_
      refine mr_if_eq (tgt := 24) dX6_isZero_19 (by decide) (by first | exact ⟨by show -2147483648 ≤ r 0; omega, by show r 0 < 2147483648; omega⟩ | exact ⟨by show -2147483648 ≤ r 1; omega, by show r 1 < 2147483648; omega⟩ | exact ⟨by show -2147483648 ≤ r 2; omega, by show r 2 < 2147483648; omega⟩) (fun hz3 => ?_) (fun hz3 => ?_)
      · refine mr_iinc dX6_isZero_24 rfl (by decide) rfl ?_
        refine mr_goto (tgt := 7) dX6_isZero_27 (by decide) ?_
        refine mr_iload_n dX6_isZero_7 rfl ?_
        refine mr_iload_n dX6_isZero_8 rfl ?_
        refine mr_icmp_ge (tgt := 30) dX6_isZero_9 (by decide) (by omega) (by omega) (fun _ => ?_) (fun h => absurd h (by decide))
        refine mr_iconst dX6_isZero_30 ?_
        refine mr_zret rfl (Or.inr rfl) dX6_isZero_31 ?_
        first | exact hP ⟨hz1, hz2, hz3⟩ | exact hQ (fun z => hz1 z.1) | exact hQ (fun z => hz2 z.2.1) | exact hQ (fun z => hz3 z.2.2)
      · refine mr_iconst dX6_isZero_22 ?_
        refine mr_zret rfl (Or.inl rfl) dX6_isZero_23 ?_
        first | exact hP ⟨hz1, hz2, hz3⟩ | exact hQ (fun z => hz1 z.1) | exact hQ (fun z => hz2 z.2.1) | exact hQ (fun z => hz3 z.2.2)
    · refine mr_iconst dX6_isZero_22 ?_
      refine mr_zret rfl (Or.inl rfl) dX6_isZero_23 ?_
      first | exact hP ⟨hz1, hz2, hz3⟩ | exact hQ (fun z => hz1 z.1) | exact hQ (fun z => hz2 z.2.1) | exact hQ (fun z => hz3 z.2.2)
  · refine mr_iconst dX6_isZero_22 ?_
    refine mr_zret rfl (Or.inl rfl) dX6_isZero_23 ?_
    first | exact hP ⟨hz1, hz2, hz3⟩ | exact hQ (fun z => hz1 z.1) | exact hQ (fun z => hz2 z.2.1) | exact hQ (fun z => hz3 z.2.2)
theorem mr_lsl_bd {f : Nat → Int} (hB : mr_Bd f) (p : Int) : ∀ (n : Nat) (c : Int) {r : Nat → Int}, mr_Rd r → mr_Rd (mr_lsl f p n c r)
  | 0, c, r, h => h
  | n + 1, c, r, h => by
    unfold mr_lsl
    split
    · exact mr_lsl_bd hB p n (c + 1) (mr_lst_bd hB h p c)
    · exact h
/-- a ROW is in a MODULE: nought is left of it -/
def mr_mem0 (f : Nat → Int) (p : Int) (r : Nat → Int) : Prop := mr_lsl f p 3 0 r 0 = 0 ∧ mr_lsl f p 3 0 r 1 = 0 ∧ mr_lsl f p 3 0 r 2 = 0
def mr_ins (f : Nat → Int) (s t : Int) : Prop := ∀ c : Int, 0 ≤ c → c < f 1 → mr_mem0 f t (fun j => mr_fa f s c j)
theorem mr_faR {f : Nat → Int} (hB : mr_Bd f) (p c : Int) : mr_Rd (fun j => mr_fa f p c j) := fun j => mr_fa_bd hB p c j
set_option maxHeartbeats 4000000 in
set_option maxRecDepth 20000 in
theorem lp_X6_isInside (l : Launch) (G : mr_G) {Po : Option mr_AV → mr_Wd → Prop} {w0 : mr_Wd} {n0 nx ct fk : Int} {g f im : Nat → Int} {S I : Nat → Nat → Int} {s t : Int} (h_s : InR s) (h_t : InR t) (hP : mr_ins f s t → ∀ w' : mr_Wd, mr_XS w' (n0, g, f, nx, ct, S, I, im, fk) → mr_Fr w0 w' → Po (some (vI 1)) w') (hQ : ¬ mr_ins f s t → ∀ w' : mr_Wd, mr_XS w' (n0, g, f, nx, ct, S, I, im, fk) → mr_Fr w0 w' → Po (some (vI 0)) w') : ∀ (n : Nat) (c : Int) (w : mr_Wd), 0 ≤ c → c + n = f 1 → mr_XS w (n0, g, f, nx, ct, S, I, im, fk) → mr_Fr w0 w → (∀ c' : Int, 0 ≤ c' → c' < c → mr_mem0 f t (fun j => mr_fa f s c' j)) → mr_J l G RX6 cX6_isInside 4 (some .boolean) 4 95 Po 2 [some (vR 0 0), some (vI s), some (vI t), some (vI c)] [] w := by
  intro n
  induction n with
  | zero =>
    intro c w hc hn hX hFr hz
    obtain ⟨⟨sd, h0⟩, h1, h2, h3, h4, h5, h6, h7, ⟨m0, cl0, ct0, R0, F0, hS⟩, ⟨rv, rk, rs, rn, ro, rl_, rln, rmd, ra, rb, h11, hrv, hrs⟩, h12, ⟨f13, h13⟩, ⟨nm, h14, hnm⟩, h15, h16, ⟨r17, h17⟩, hn0, hB, hnx, hct, hSB, hIB, him, hfk⟩ := id hX
    have hf1 := hB.2.1
    refine mr_iload_n dX6_isInside_2 rfl ?_
    refine mr_aload_n dX6_isInside_3 rfl ?_
    refine mr_get dX6_isInside_4 fl_X6_19 (by assumption) rfl ?_
    refine mr_callV (as := []) dX6_isInside_7 (ok_X0_width l G) ml_X6_100 cl_X0_width cv_X0_width (by decide) rfl rfl (Nat.le_of_ble_eq_true rfl) (by assumption) ?_
    refine ⟨_, _, rfl, ⟨h3, h4⟩, ?_⟩
    dsimp only [Option.toList_some, Option.toList_none, List.cons_append, List.nil_append]
    refine mr_icmp_ge (tgt := 56) dX6_isInside_10 (by decide) ⟨by omega, by omega⟩ ⟨by omega, by omega⟩ (fun hc_10 => ?_) (fun hc_10 => absurd hc_10 (by omega))
    refine mr_iconst dX6_isInside_56 ?_
    refine mr_zret rfl (Or.inr rfl) dX6_isInside_57 ?_
    exact hP (fun c2 g1 g2 => hz c2 g1 (by omega)) w hX hFr
  | succ n ih =>
    intro c w hc hn hX hFr hz
    obtain ⟨⟨sd, h0⟩, h1, h2, h3, h4, h5, h6, h7, ⟨m0, cl0, ct0, R0, F0, hS⟩, ⟨rv, rk, rs, rn, ro, rl_, rln, rmd, ra, rb, h11, hrv, hrs⟩, h12, ⟨f13, h13⟩, ⟨nm, h14, hnm⟩, h15, h16, ⟨r17, h17⟩, hn0, hB, hnx, hct, hSB, hIB, him, hfk⟩ := id hX
    have hf1 := hB.2.1
    refine mr_iload_n dX6_isInside_2 rfl ?_
    refine mr_aload_n dX6_isInside_3 rfl ?_
    refine mr_get dX6_isInside_4 fl_X6_19 (by assumption) rfl ?_
    refine mr_callV (as := []) dX6_isInside_7 (ok_X0_width l G) ml_X6_100 cl_X0_width cv_X0_width (by decide) rfl rfl (Nat.le_of_ble_eq_true rfl) (by assumption) ?_
    refine ⟨_, _, rfl, ⟨h3, h4⟩, ?_⟩
    dsimp only [Option.toList_some, Option.toList_none, List.cons_append, List.nil_append]
    refine mr_icmp_ge (tgt := 56) dX6_isInside_10 (by decide) ⟨by omega, by omega⟩ ⟨by omega, by omega⟩ (fun hc_10 => absurd hc_10 (by omega)) (fun hc_10 => ?_)
    refine mr_aload_n dX6_isInside_13 rfl ?_
    refine mr_get dX6_isInside_14 fl_X6_19 (by assumption) rfl ?_
    refine mr_iload_n dX6_isInside_17 rfl ?_
    refine mr_iload_n dX6_isInside_18 rfl ?_
    refine mr_aload_n dX6_isInside_19 rfl ?_
    refine mr_get dX6_isInside_20 fl_X6_55 (by assumption) rfl ?_
    refine mr_callV (as := [_, _, _]) dX6_isInside_23 (ok_X0_copyForm l G) ml_X6_117 cl_X0_copyForm cv_X0_copyForm (by decide) rfl rfl (Nat.le_of_ble_eq_true rfl) (by assumption) ?_
    refine xs_copyForm hX h_s ⟨by omega, by omega⟩ (fun w1 hX1 hl1 hF1 => ?_)
    obtain ⟨⟨sd, h0⟩, h1, h2, h3, h4, h5, h6, h7, ⟨m0, cl0, ct0, R0, F0, hS⟩, ⟨rv, rk, rs, rn, ro, rl_, rln, rmd, ra, rb, h11, hrv, hrs⟩, h12, ⟨f13, h13⟩, ⟨nm, h14, hnm⟩, h15, h16, ⟨r17, h17⟩, hn0, hB, hnx, hct, hSB, hIB, him, hfk⟩ := id hX1
    dsimp only [Option.toList_some, Option.toList_none, List.cons_append, List.nil_append]
    refine mr_aload_n dX6_isInside_26 rfl ?_
    refine mr_get dX6_isInside_27 fl_X6_19 (by assumption) rfl ?_
    refine mr_iload_n dX6_isInside_30 rfl ?_
    refine mr_aload_n dX6_isInside_31 rfl ?_
    refine mr_get dX6_isInside_32 fl_X6_55 (by assumption) rfl ?_
    refine mr_callV (as := [_, _]) dX6_isInside_35 (ok_X0_lessen l G) ml_X6_149 cl_X0_lessen cv_X0_lessen (by decide) rfl rfl (Nat.le_of_ble_eq_true rfl) (by assumption) ?_
    refine xs_lessen hX1 h_t hl1 (mr_faR hB s c) (fun w2 hX2 hl2 hF2 => ?_)
    obtain ⟨⟨sd, h0⟩, h1, h2, h3, h4, h5, h6, h7, ⟨m0, cl0, ct0, R0, F0, hS⟩, ⟨rv, rk, rs, rn, ro, rl_, rln, rmd, ra, rb, h11, hrv, hrs⟩, h12, ⟨f13, h13⟩, ⟨nm, h14, hnm⟩, h15, h16, ⟨r17, h17⟩, hn0, hB, hnx, hct, hSB, hIB, him, hfk⟩ := id hX2
    dsimp only [Option.toList_some, Option.toList_none, List.cons_append, List.nil_append]
    refine mr_aload_n dX6_isInside_38 rfl ?_
    refine mr_get dX6_isInside_39 fl_X6_55 (by assumption) rfl ?_
    refine mr_callS (as := [_]) dX6_isInside_42 (ok_X6_isZero l G) ml_X6_153 cl_X6_isZero cs_X6_isZero (by decide) rfl rfl (Nat.le_of_ble_eq_true rfl) ?_
    refine ⟨17, _, rfl, (by assumption), (mr_lsl_bd hB t 3 0 (mr_faR hB s c)), ?_, ?_⟩
    · intro hzz
      dsimp only [Option.toList_some, Option.toList_none, List.cons_append, List.nil_append]
      refine mr_if_ne (tgt := 50) dX6_isInside_45 (by decide) (by omega) (fun _ => ?_) (fun h => absurd h (by decide))
      refine mr_iinc dX6_isInside_50 rfl (by decide) rfl ?_
      refine mr_goto (tgt := 2) dX6_isInside_53 (by decide) ?_
      refine ih (c + 1) w2 (by omega) (by omega) hX2 (hFr.tr (hF1.tr hF2)) (fun c2 g1 g2 => ?_)
      by_cases e : c2 = c
      · subst e; exact hzz
      · exact hz c2 g1 (by omega)
    · intro hzz
      dsimp only [Option.toList_some, Option.toList_none, List.cons_append, List.nil_append]
      refine mr_if_ne (tgt := 50) dX6_isInside_45 (by decide) (by omega) (fun h => absurd h (by decide)) (fun _ => ?_)
      refine mr_iconst dX6_isInside_48 ?_
      refine mr_zret rfl (Or.inl rfl) dX6_isInside_49 ?_
      exact hQ (fun z => hzz (z c hc (by omega))) w2 hX2 (hFr.tr (hF1.tr hF2))
def T_X6_isInside (a : List mr_AV) (w : mr_Wd) (Po : Option mr_AV → mr_Wd → Prop) : Prop := ∃ (n0 nx ct fk : Int) (g f im : Nat → Int) (S I : Nat → Nat → Int) (s t : Int), a = [vR 0 0, vI s, vI t] ∧ mr_XS w (n0, g, f, nx, ct, S, I, im, fk) ∧ InR s ∧ InR t ∧ (mr_ins f s t → ∀ w' : mr_Wd, mr_XS w' (n0, g, f, nx, ct, S, I, im, fk) → mr_Fr w w' → Po (some (vI 1)) w') ∧ (¬ mr_ins f s t → ∀ w' : mr_Wd, mr_XS w' (n0, g, f, nx, ct, S, I, im, fk) → mr_Fr w w' → Po (some (vI 0)) w')
set_option maxHeartbeats 4000000 in
set_option maxRecDepth 20000 in
theorem ok_X6_isInside (l : Launch) (G : mr_G) : mr_Ok l G yX6_isInside cX6_isInside 4 (some .boolean) 4 95 T_X6_isInside := by
  refine mr_Ok.of (by decide +kernel) ?_
  rintro a w Po ⟨n0, nx, ct, fk, g, f, im, S, I, s, t, rfl, hX, h_s, h_t, hP, hQ⟩
  refine ⟨Nat.le_of_ble_eq_true rfl, ?_⟩
  show mr_J l G RX6 cX6_isInside 4 (some .boolean) 4 95 Po 0 [some (vR 0 0), some (vI s), some (vI t), none] [] w
  obtain ⟨⟨sd, h0⟩, h1, h2, h3, h4, h5, h6, h7, ⟨m0, cl0, ct0, R0, F0, hS⟩, ⟨rv, rk, rs, rn, ro, rl_, rln, rmd, ra, rb, h11, hrv, hrs⟩, h12, ⟨f13, h13⟩, ⟨nm, h14, hnm⟩, h15, h16, ⟨r17, h17⟩, hn0, hB, hnx, hct, hSB, hIB, him, hfk⟩ := id hX
  have hf1 := hB.1 1
  refine mr_iconst dX6_isInside_0 ?_
  refine mr_istore_n dX6_isInside_1 rfl (by decide) ?_
  exact lp_X6_isInside l G h_s h_t hP hQ (f 1).toNat 0 w (Int.le_refl 0) (by omega) hX (mr_Fr.rf w) (fun c2 g1 g2 => by omega)
/-- a draw's seed, and what is drawn -/
def mr_sd (s : Int) : Int := s * 1103515245 + 12345
def mr_dr (s n : Int) : Int := ((mr_sd s % 4294967296) / 2 ^ 8) % n
def T_X6_draw (a : List mr_AV) (w : mr_Wd) (Po : Option mr_AV → mr_Wd → Prop) : Prop := ∃ (fk sd n : Int), a = [vR 0 0, vI n] ∧ w 0 = eX0 fk sd ∧ (1 ≤ n ∧ n ≤ 30) ∧ Po (some (vI (mr_dr sd n))) (mr_up w 0 (eX0 fk (mr_sd sd)))
set_option maxHeartbeats 4000000 in
set_option maxRecDepth 20000 in
theorem ok_X6_draw (l : Launch) (G : mr_G) : mr_Ok l G yX6_draw cX6_draw 2 (some .int) 0 0 T_X6_draw := by
  refine mr_Ok.of (by decide +kernel) ?_
  rintro a w Po ⟨fk, sd, n, rfl, h0, hn, hP⟩
  refine ⟨Nat.le_of_ble_eq_true rfl, ?_⟩
  show mr_J l G RX6 cX6_draw 2 (some .int) 0 0 Po 0 [some (vR 0 0), some (vI n)] [] w
  have hq1 := Int.emod_nonneg (mr_sd sd) (show (4294967296 : Int) ≠ 0 by decide)
  have hq2 := Int.emod_lt_of_pos (mr_sd sd) (show (0 : Int) < 4294967296 by decide)
  have hr1 : 0 ≤ (mr_sd sd % 4294967296) / 2 ^ 8 ∧ (mr_sd sd % 4294967296) / 2 ^ 8 < 16777216 := by omega
  have e1 : ((mr_sd sd % 4294967296) / 2 ^ 8).tmod n = ((mr_sd sd % 4294967296) / 2 ^ 8) % n := Int.tmod_eq_emod_of_nonneg hr1.1
  refine mr_aload_n dX6_draw_0 rfl ?_
  refine mr_aload_n dX6_draw_1 rfl ?_
  refine mr_get dX6_draw_2 fl_X6_235 h0 rfl ?_
  refine mr_ldc dX6_draw_5 kc_X6_255 ?_
  refine mr_imul dX6_draw_7 ?_
  refine mr_sipush dX6_draw_8 rfl ?_
  refine mr_iadd dX6_draw_11 ?_
  refine mr_put dX6_draw_12 fl_X6_235 pf_X6_9 rfl rfl h0 (Nat.le_of_ble_eq_true rfl) ?_
  refine mr_iload_n dX6_draw_15 rfl ?_
  refine mr_if_le (tgt := 31) dX6_draw_16 (by decide) ⟨by omega, by omega⟩ (fun hc_16 => absurd hc_16 (by omega)) (fun hc_16 => ?_)
  refine mr_aload_n dX6_draw_19 rfl ?_
  refine mr_get dX6_draw_20 fl_X6_235 (mr_up_same _ _ _) rfl ?_
  refine mr_bipush dX6_draw_23 rfl ?_
  refine mr_iushr 8 (by decide) dX6_draw_25 (by decide) ?_
  refine mr_iload_n dX6_draw_26 rfl ?_
  refine mr_irem dX6_draw_27 ⟨by show -2147483648 ≤ (mr_sd sd % 4294967296) / 2 ^ 8; omega, by show (mr_sd sd % 4294967296) / 2 ^ 8 < 2147483648; omega⟩ ⟨by omega, by omega⟩ (by omega) ?_
  refine mr_goto (tgt := 32) dX6_draw_28 (by decide) ?_
  refine mr_iret rfl dX6_draw_32 ?_
  show Po (some (vI (((mr_sd sd % 4294967296) / 2 ^ 8).tmod n))) _
  rw [e1]
  exact hP
