def T_X6_feed (a : List mr_AV) (w : mr_Wd) (Po : Option mr_AV → mr_Wd → Prop) : Prop := ∃ (n0 nx ct fk : Int) (g f im : Nat → Int) (S I : Nat → Nat → Int) (a1 a2 a3 a4 a5 : Int), a = [vR 0 0, vI a1, vI a2, vI a3, vI a4, vI a5] ∧ mr_XS w (n0, g, f, nx, ct, S, I, im, fk) ∧ (n0 ≤ 520 → (∀ w' : mr_Wd, mr_XS w' ((n0 + 4 + 4 + 4 + 4 + 4), mr_b4 (mr_b4 (mr_b4 (mr_b4 (mr_b4 g n0 a1) (n0 + 4) a2) (n0 + 4 + 4) a3) (n0 + 4 + 4 + 4) a4) (n0 + 4 + 4 + 4 + 4) a5, f, nx, ct, S, I, im, fk) → mr_Fr w w' → Po (some (vI (n0 + 4 + 4 + 4 + 4 + 4))) w')) ∧ (520 < n0 → Po (some (vI (-1))) w)
set_option maxHeartbeats 4000000 in
set_option maxRecDepth 20000 in
theorem ok_X6_feed (l : Launch) (G : mr_G) : mr_Ok l G yX6_feed cX6_feed 6 (some .int) 2 42 T_X6_feed := by
  refine mr_Ok.of (by decide +kernel) ?_
  rintro a w Po ⟨n0, nx, ct, fk, g, f, im, S, I, a1, a2, a3, a4, a5, rfl, hX, hP, hQ⟩
  refine ⟨Nat.le_of_ble_eq_true rfl, ?_⟩
  show mr_J l G RX6 cX6_feed 6 (some .int) 2 42 Po 0 [some (vR 0 0), some (vI a1), some (vI a2), some (vI a3), some (vI a4), some (vI a5)] [] w
  obtain ⟨⟨sd, h0⟩, h1, h2, h3, h4, h5, h6, h7, ⟨m0, cl0, ct0, R0, F0, hS⟩, ⟨rv, rk, rs, rn, ro, rl_, rln, rmd, ra, rb, h11, hrv, hrs⟩, h12, ⟨f13, h13⟩, ⟨nm, h14, hnm⟩, h15, h16, ⟨r17, h17⟩, hn0, hB, hnx, hct, hSB, hIB, him, hfk⟩ := id hX
  refine mr_aload_n dX6_feed_0 rfl ?_
  refine mr_get dX6_feed_1 fl_X6_10 (by assumption) rfl ?_
  refine mr_bipush dX6_feed_4 rfl ?_
  refine mr_callV (as := [_]) dX6_feed_6 (ok_X5_hasRoom l G) ml_X6_59 cl_X5_hasRoom cv_X5_hasRoom (by decide) rfl rfl (Nat.le_of_ble_eq_true rfl) (by assumption) ?_
  refine ⟨_, _, _, rfl, ⟨h1, h2⟩, hn0, (by decide), ?_, ?_⟩
  · intro hy
    dsimp only [Option.toList_some, Option.toList_none, List.cons_append, List.nil_append]
    refine mr_if_ne (tgt := 14) dX6_feed_9 (by decide) (by omega) (fun _ => ?_) (fun h => absurd h (by decide))
    refine mr_aload_n dX6_feed_14 rfl ?_
    refine mr_get dX6_feed_15 fl_X6_10 (by assumption) rfl ?_
    refine mr_iload_n dX6_feed_18 rfl ?_
    refine mr_callV (as := [_]) dX6_feed_19 (ok_X5_append l G) ml_X6_63 cl_X5_append cv_X5_append (by decide) rfl rfl (Nat.le_of_ble_eq_true rfl) (by assumption) ?_
    refine xs_append hX (by omega) (fun w1 hX1 hF1 => ?_)
    obtain ⟨⟨sd, h0⟩, h1, h2, h3, h4, h5, h6, h7, ⟨m0, cl0, ct0, R0, F0, hS⟩, ⟨rv, rk, rs, rn, ro, rl_, rln, rmd, ra, rb, h11, hrv, hrs⟩, h12, ⟨f13, h13⟩, ⟨nm, h14, hnm⟩, h15, h16, ⟨r17, h17⟩, hn0, hB, hnx, hct, hSB, hIB, him, hfk⟩ := id hX1
    dsimp only [Option.toList_some, Option.toList_none, List.cons_append, List.nil_append]
    refine mr_aload_n dX6_feed_22 rfl ?_
    refine mr_get dX6_feed_23 fl_X6_10 (by assumption) rfl ?_
    refine mr_iload_n dX6_feed_26 rfl ?_
    refine mr_callV (as := [_]) dX6_feed_27 (ok_X5_append l G) ml_X6_63 cl_X5_append cv_X5_append (by decide) rfl rfl (Nat.le_of_ble_eq_true rfl) (by assumption) ?_
    refine xs_append hX1 (by omega) (fun w2 hX2 hF2 => ?_)
    obtain ⟨⟨sd, h0⟩, h1, h2, h3, h4, h5, h6, h7, ⟨m0, cl0, ct0, R0, F0, hS⟩, ⟨rv, rk, rs, rn, ro, rl_, rln, rmd, ra, rb, h11, hrv, hrs⟩, h12, ⟨f13, h13⟩, ⟨nm, h14, hnm⟩, h15, h16, ⟨r17, h17⟩, hn0, hB, hnx, hct, hSB, hIB, him, hfk⟩ := id hX2
    dsimp only [Option.toList_some, Option.toList_none, List.cons_append, List.nil_append]
    refine mr_aload_n dX6_feed_30 rfl ?_
    refine mr_get dX6_feed_31 fl_X6_10 (by assumption) rfl ?_
    refine mr_iload_n dX6_feed_34 rfl ?_
    refine mr_callV (as := [_]) dX6_feed_35 (ok_X5_append l G) ml_X6_63 cl_X5_append cv_X5_append (by decide) rfl rfl (Nat.le_of_ble_eq_true rfl) (by assumption) ?_
    refine xs_append hX2 (by omega) (fun w3 hX3 hF3 => ?_)
    obtain ⟨⟨sd, h0⟩, h1, h2, h3, h4, h5, h6, h7, ⟨m0, cl0, ct0, R0, F0, hS⟩, ⟨rv, rk, rs, rn, ro, rl_, rln, rmd, ra, rb, h11, hrv, hrs⟩, h12, ⟨f13, h13⟩, ⟨nm, h14, hnm⟩, h15, h16, ⟨r17, h17⟩, hn0, hB, hnx, hct, hSB, hIB, him, hfk⟩ := id hX3
    dsimp only [Option.toList_some, Option.toList_none, List.cons_append, List.nil_append]
    refine mr_aload_n dX6_feed_38 rfl ?_
    refine mr_get dX6_feed_39 fl_X6_10 (by assumption) rfl ?_
    refine mr_iload dX6_feed_42 rfl ?_
    refine mr_callV (as := [_]) dX6_feed_44 (ok_X5_append l G) ml_X6_63 cl_X5_append cv_X5_append (by decide) rfl rfl (Nat.le_of_ble_eq_true rfl) (by assumption) ?_
    refine xs_append hX3 (by omega) (fun w4 hX4 hF4 => ?_)
    obtain ⟨⟨sd, h0⟩, h1, h2, h3, h4, h5, h6, h7, ⟨m0, cl0, ct0, R0, F0, hS⟩, ⟨rv, rk, rs, rn, ro, rl_, rln, rmd, ra, rb, h11, hrv, hrs⟩, h12, ⟨f13, h13⟩, ⟨nm, h14, hnm⟩, h15, h16, ⟨r17, h17⟩, hn0, hB, hnx, hct, hSB, hIB, him, hfk⟩ := id hX4
    dsimp only [Option.toList_some, Option.toList_none, List.cons_append, List.nil_append]
    refine mr_aload_n dX6_feed_47 rfl ?_
    refine mr_get dX6_feed_48 fl_X6_10 (by assumption) rfl ?_
    refine mr_iload dX6_feed_51 rfl ?_
    refine mr_callV (as := [_]) dX6_feed_53 (ok_X5_append l G) ml_X6_63 cl_X5_append cv_X5_append (by decide) rfl rfl (Nat.le_of_ble_eq_true rfl) (by assumption) ?_
    refine xs_append hX4 (by omega) (fun w5 hX5 hF5 => ?_)
    obtain ⟨⟨sd, h0⟩, h1, h2, h3, h4, h5, h6, h7, ⟨m0, cl0, ct0, R0, F0, hS⟩, ⟨rv, rk, rs, rn, ro, rl_, rln, rmd, ra, rb, h11, hrv, hrs⟩, h12, ⟨f13, h13⟩, ⟨nm, h14, hnm⟩, h15, h16, ⟨r17, h17⟩, hn0, hB, hnx, hct, hSB, hIB, him, hfk⟩ := id hX5
    dsimp only [Option.toList_some, Option.toList_none, List.cons_append, List.nil_append]
    refine mr_aload_n dX6_feed_56 rfl ?_
    refine mr_get dX6_feed_57 fl_X6_10 (by assumption) rfl ?_
    refine mr_callV (as := []) dX6_feed_60 (ok_X5_length l G) ml_X6_67 cl_X5_length cv_X5_length (by decide) rfl rfl (Nat.le_of_ble_eq_true rfl) (by assumption) ?_
    refine ⟨_, _, rfl, ⟨h1, h2⟩, ?_⟩
    dsimp only [Option.toList_some, Option.toList_none, List.cons_append, List.nil_append]
    refine mr_iret rfl dX6_feed_63 ?_
    exact hP (by omega) w5 hX5 (hF1.tr (hF2.tr (hF3.tr (hF4.tr hF5))))
  · intro hy
    dsimp only [Option.toList_some, Option.toList_none, List.cons_append, List.nil_append]
    refine mr_if_ne (tgt := 14) dX6_feed_9 (by decide) (by omega) (fun h => absurd h (by decide)) (fun _ => ?_)
    refine mr_iconst dX6_feed_12 ?_
    refine mr_iret rfl dX6_feed_13 ?_
    exact hQ (by omega)
def T_X6_end (a : List mr_AV) (w : mr_Wd) (Po : Option mr_AV → mr_Wd → Prop) : Prop := ∃ (n0 nx ct fk : Int) (g f im : Nat → Int) (S I : Nat → Nat → Int) (x : Int), a = [vR 0 0, vI x] ∧ mr_XS w (n0, g, f, nx, ct, S, I, im, fk) ∧ InR x ∧ (0 ≤ x ∧ x ≤ n0 → (∀ w' : mr_Wd, mr_XS w' (x, g, f, nx, ct, S, I, im, fk) → mr_Fr w w' → Po (some (vI 1)) w')) ∧ (¬ (0 ≤ x ∧ x ≤ n0) → Po (some (vI 0)) w)
set_option maxHeartbeats 4000000 in
set_option maxRecDepth 20000 in
theorem ok_X6_end (l : Launch) (G : mr_G) : mr_Ok l G yX6_end cX6_end 2 (some .boolean) 1 21 T_X6_end := by
  refine mr_Ok.of (by decide +kernel) ?_
  rintro a w Po ⟨n0, nx, ct, fk, g, f, im, S, I, x, rfl, hX, h_x, hP, hQ⟩
  refine ⟨Nat.le_of_ble_eq_true rfl, ?_⟩
  show mr_J l G RX6 cX6_end 2 (some .boolean) 1 21 Po 0 [some (vR 0 0), some (vI x)] [] w
  obtain ⟨⟨sd, h0⟩, h1, h2, h3, h4, h5, h6, h7, ⟨m0, cl0, ct0, R0, F0, hS⟩, ⟨rv, rk, rs, rn, ro, rl_, rln, rmd, ra, rb, h11, hrv, hrs⟩, h12, ⟨f13, h13⟩, ⟨nm, h14, hnm⟩, h15, h16, ⟨r17, h17⟩, hn0, hB, hnx, hct, hSB, hIB, him, hfk⟩ := id hX
  refine mr_aload_n dX6_end_0 rfl ?_
  refine mr_get dX6_end_1 fl_X6_10 (by assumption) rfl ?_
  refine mr_iload_n dX6_end_4 rfl ?_
  refine mr_callV (as := [_]) dX6_end_5 (ok_X5_cut l G) ml_X6_71 cl_X5_cut cv_X5_cut (by decide) rfl rfl (Nat.le_of_ble_eq_true rfl) (by assumption) ?_
  refine xs_cut hX h_x (fun hy w1 hX1 hF1 => ?_) (fun hy => ?_)
  · skip
    dsimp only [Option.toList_some, Option.toList_none, List.cons_append, List.nil_append]
    refine mr_zret rfl (Or.inr rfl) dX6_end_8 ?_
    first | exact hP hy w1 hX1 hF1 | exact hQ hy
  · skip
    dsimp only [Option.toList_some, Option.toList_none, List.cons_append, List.nil_append]
    refine mr_zret rfl (Or.inl rfl) dX6_end_8 ?_
    first | exact hP hy w1 hX1 hF1 | exact hQ hy
def T_X6_fault (a : List mr_AV) (w : mr_Wd) (Po : Option mr_AV → mr_Wd → Prop) : Prop := ∃ (n0 nx ct fk : Int) (g f im : Nat → Int) (S I : Nat → Nat → Int), a = [vR 0 0] ∧ mr_XS w (n0, g, f, nx, ct, S, I, im, fk) ∧ Po (some (vI fk)) w
set_option maxHeartbeats 4000000 in
set_option maxRecDepth 20000 in
theorem ok_X6_fault (l : Launch) (G : mr_G) : mr_Ok l G yX6_fault cX6_fault 1 (some .int) 0 0 T_X6_fault := by
  refine mr_Ok.of (by decide +kernel) ?_
  rintro a w Po ⟨n0, nx, ct, fk, g, f, im, S, I, rfl, hX, hP⟩
  refine ⟨Nat.le_of_ble_eq_true rfl, ?_⟩
  show mr_J l G RX6 cX6_fault 1 (some .int) 0 0 Po 0 [some (vR 0 0)] [] w
  obtain ⟨⟨sd, h0⟩, h1, h2, h3, h4, h5, h6, h7, ⟨m0, cl0, ct0, R0, F0, hS⟩, ⟨rv, rk, rs, rn, ro, rl_, rln, rmd, ra, rb, h11, hrv, hrs⟩, h12, ⟨f13, h13⟩, ⟨nm, h14, hnm⟩, h15, h16, ⟨r17, h17⟩, hn0, hB, hnx, hct, hSB, hIB, him, hfk⟩ := id hX
  refine mr_aload_n dX6_fault_0 rfl ?_
  refine mr_get dX6_fault_1 fl_X6_81 (by assumption) rfl ?_
  refine mr_iret rfl dX6_fault_4 ?_
  exact hP
def T_X6_now (a : List mr_AV) (w : mr_Wd) (Po : Option mr_AV → mr_Wd → Prop) : Prop := ∃ (n0 nx ct fk : Int) (g f im : Nat → Int) (S I : Nat → Nat → Int) (x : Int), a = [vR 0 0, vI x] ∧ mr_XS w (n0, g, f, nx, ct, S, I, im, fk) ∧ InR x ∧ Po (some (vI (if x = 0 then f 0 else if x = 1 then f 1 else if x = 2 then f 2 else if x = 3 then ct else if x = 4 then n0 else -1))) w
set_option maxHeartbeats 4000000 in
set_option maxRecDepth 20000 in
theorem ok_X6_now (l : Launch) (G : mr_G) : mr_Ok l G yX6_now cX6_now 2 (some .int) 1 20 T_X6_now := by
  refine mr_Ok.of (by decide +kernel) ?_
  rintro a w Po ⟨n0, nx, ct, fk, g, f, im, S, I, x, rfl, hX, h_x, hP⟩
  refine ⟨Nat.le_of_ble_eq_true rfl, ?_⟩
  show mr_J l G RX6 cX6_now 2 (some .int) 1 20 Po 0 [some (vR 0 0), some (vI x)] [] w
  obtain ⟨⟨sd, h0⟩, h1, h2, h3, h4, h5, h6, h7, ⟨m0, cl0, ct0, R0, F0, hS⟩, ⟨rv, rk, rs, rn, ro, rl_, rln, rmd, ra, rb, h11, hrv, hrs⟩, h12, ⟨f13, h13⟩, ⟨nm, h14, hnm⟩, h15, h16, ⟨r17, h17⟩, hn0, hB, hnx, hct, hSB, hIB, him, hfk⟩ := id hX
  refine mr_iload_n dX6_now_0 rfl ?_
  by_cases c0 : x = 0
  · subst c0
    refine mr_tableIn (tgt := 36) dX6_now_1 (by decide) (by decide) (by decide) rfl (by decide) ?_
    refine mr_aload_n dX6_now_36 rfl ?_
    refine mr_get dX6_now_37 fl_X6_19 (by assumption) rfl ?_
    refine mr_callV (as := []) dX6_now_40 (ok_X0_modulus l G) ml_X6_97 cl_X0_modulus cv_X0_modulus (by decide) rfl rfl (Nat.le_of_ble_eq_true rfl) (by assumption) ?_
    refine ⟨_, _, rfl, ⟨h3, h4⟩, ?_⟩
    dsimp only [Option.toList_some, Option.toList_none, List.cons_append, List.nil_append]
    refine mr_iret rfl dX6_now_43 ?_
    exact hP
  by_cases c1 : x = 1
  · subst c1
    refine mr_tableIn (tgt := 44) dX6_now_1 (by decide) (by decide) (by decide) rfl (by decide) ?_
    refine mr_aload_n dX6_now_44 rfl ?_
    refine mr_get dX6_now_45 fl_X6_19 (by assumption) rfl ?_
    refine mr_callV (as := []) dX6_now_48 (ok_X0_width l G) ml_X6_100 cl_X0_width cv_X0_width (by decide) rfl rfl (Nat.le_of_ble_eq_true rfl) (by assumption) ?_
    refine ⟨_, _, rfl, ⟨h3, h4⟩, ?_⟩
    dsimp only [Option.toList_some, Option.toList_none, List.cons_append, List.nil_append]
    refine mr_iret rfl dX6_now_51 ?_
    exact hP
  by_cases c2 : x = 2
  · subst c2
    refine mr_tableIn (tgt := 52) dX6_now_1 (by decide) (by decide) (by decide) rfl (by decide) ?_
    refine mr_aload_n dX6_now_52 rfl ?_
    refine mr_get dX6_now_53 fl_X6_19 (by assumption) rfl ?_
    refine mr_callV (as := []) dX6_now_56 (ok_X0_equationCount l G) ml_X6_103 cl_X0_equationCount cv_X0_equationCount (by decide) rfl rfl (Nat.le_of_ble_eq_true rfl) (by assumption) ?_
    refine ⟨_, _, rfl, ⟨h3, h4⟩, ?_⟩
    dsimp only [Option.toList_some, Option.toList_none, List.cons_append, List.nil_append]
    refine mr_iret rfl dX6_now_59 ?_
    exact hP
  by_cases c3 : x = 3
  · subst c3
    refine mr_tableIn (tgt := 60) dX6_now_1 (by decide) (by decide) (by decide) rfl (by decide) ?_
    refine mr_aload_n dX6_now_60 rfl ?_
    refine mr_get dX6_now_61 fl_X6_26 (by assumption) rfl ?_
    refine mr_callV (as := []) dX6_now_64 (ok_X1_count l G) ml_X6_106 cl_X1_count cv_X1_count (by decide) rfl rfl (Nat.le_of_ble_eq_true rfl) (by assumption) ?_
    refine ⟨_, _, _, rfl, ⟨h5, h6⟩, ?_⟩
    dsimp only [Option.toList_some, Option.toList_none, List.cons_append, List.nil_append]
    refine mr_iret rfl dX6_now_67 ?_
    exact hP
  by_cases c4 : x = 4
  · subst c4
    refine mr_tableIn (tgt := 68) dX6_now_1 (by decide) (by decide) (by decide) rfl (by decide) ?_
    refine mr_aload_n dX6_now_68 rfl ?_
    refine mr_get dX6_now_69 fl_X6_10 (by assumption) rfl ?_
    refine mr_callV (as := []) dX6_now_72 (ok_X5_length l G) ml_X6_67 cl_X5_length cv_X5_length (by decide) rfl rfl (Nat.le_of_ble_eq_true rfl) (by assumption) ?_
    refine ⟨_, _, rfl, ⟨h1, h2⟩, ?_⟩
    dsimp only [Option.toList_some, Option.toList_none, List.cons_append, List.nil_append]
    refine mr_iret rfl dX6_now_75 ?_
    exact hP
  rw [if_neg c0, if_neg c1, if_neg c2, if_neg c3, if_neg c4] at hP
  refine mr_tableOut (tgt := 76) dX6_now_1 h_x (by omega) (by decide) ?_
  refine mr_iconst dX6_now_76 ?_
  refine mr_iret rfl dX6_now_77 ?_
  exact hP
def T_X6_lead (a : List mr_AV) (w : mr_Wd) (Po : Option mr_AV → mr_Wd → Prop) : Prop := ∃ (n0 nx ct fk : Int) (g f im : Nat → Int) (S I : Nat → Nat → Int) (p c : Int), a = [vR 0 0, vI p, vI c] ∧ mr_XS w (n0, g, f, nx, ct, S, I, im, fk) ∧ InR p ∧ InR c ∧ Po (some (vI (if mr_pk f p ∧ 0 ≤ c ∧ c < f 1 then mr_fa f p c c else -1))) w
set_option maxHeartbeats 4000000 in
set_option maxRecDepth 20000 in
theorem ok_X6_lead (l : Launch) (G : mr_G) : mr_Ok l G yX6_lead cX6_lead 3 (some .int) 2 46 T_X6_lead := by
  refine mr_Ok.of (by decide +kernel) ?_
  rintro a w Po ⟨n0, nx, ct, fk, g, f, im, S, I, p, c, rfl, hX, h_p, h_c, hP⟩
  refine ⟨Nat.le_of_ble_eq_true rfl, ?_⟩
  show mr_J l G RX6 cX6_lead 3 (some .int) 2 46 Po 0 [some (vR 0 0), some (vI p), some (vI c)] [] w
  obtain ⟨⟨sd, h0⟩, h1, h2, h3, h4, h5, h6, h7, ⟨m0, cl0, ct0, R0, F0, hS⟩, ⟨rv, rk, rs, rn, ro, rl_, rln, rmd, ra, rb, h11, hrv, hrs⟩, h12, ⟨f13, h13⟩, ⟨nm, h14, hnm⟩, h15, h16, ⟨r17, h17⟩, hn0, hB, hnx, hct, hSB, hIB, him, hfk⟩ := id hX
  refine mr_aload_n dX6_lead_0 rfl ?_
  refine mr_iload_n dX6_lead_1 rfl ?_
  refine mr_iload_n dX6_lead_2 rfl ?_
  refine mr_callV (as := [_, _]) dX6_lead_3 (ok_X6_hasColumn l G) ml_X6_109 cl_X6_hasColumn cv_X6_hasColumn (by decide) rfl rfl (Nat.le_of_ble_eq_true rfl) (by assumption) ?_
  refine ⟨_, _, _, _, _, _, _, _, _, _, _, rfl, hX, h_p, h_c, ?_, ?_⟩
  · intro hy
    dsimp only [Option.toList_some, Option.toList_none, List.cons_append, List.nil_append]
    refine mr_if_eq (tgt := 22) dX6_lead_6 (by decide) (by omega) (fun h => absurd h (by decide)) (fun _ => ?_)
    refine mr_aload_n dX6_lead_9 rfl ?_
    refine mr_get dX6_lead_10 fl_X6_19 (by assumption) rfl ?_
    refine mr_iload_n dX6_lead_13 rfl ?_
    refine mr_iload_n dX6_lead_14 rfl ?_
    refine mr_iload_n dX6_lead_15 rfl ?_
    refine mr_callV (as := [_, _, _]) dX6_lead_16 (ok_X0_formAt l G) ml_X6_113 cl_X0_formAt cv_X0_formAt (by decide) rfl rfl (Nat.le_of_ble_eq_true rfl) (by assumption) ?_
    refine ⟨_, _, _, _, _, rfl, ⟨h3, h4⟩, h_p, h_c, h_c, ?_⟩
    dsimp only [Option.toList_some, Option.toList_none, List.cons_append, List.nil_append]
    refine mr_goto (tgt := 23) dX6_lead_19 (by decide) ?_
    refine mr_iret rfl dX6_lead_23 ?_
    first | (rw [if_pos hy] at hP; exact hP) | (rw [if_neg hy] at hP; exact hP)
  · intro hy
    dsimp only [Option.toList_some, Option.toList_none, List.cons_append, List.nil_append]
    refine mr_if_eq (tgt := 22) dX6_lead_6 (by decide) (by omega) (fun _ => ?_) (fun h => absurd h (by decide))
    refine mr_iconst dX6_lead_22 ?_
    refine mr_iret rfl dX6_lead_23 ?_
    first | (rw [if_pos hy] at hP; exact hP) | (rw [if_neg hy] at hP; exact hP)
def T_X6_form (a : List mr_AV) (w : mr_Wd) (Po : Option mr_AV → mr_Wd → Prop) : Prop := ∃ (n0 nx ct fk : Int) (g f im : Nat → Int) (S I : Nat → Nat → Int) (p c : Int), a = [vR 0 0, vI p, vI c] ∧ mr_XS w (n0, g, f, nx, ct, S, I, im, fk) ∧ InR p ∧ InR c ∧ ((mr_pk f p ∧ 0 ≤ c ∧ c < f 1) ∧ mr_fa f p c c ≠ 0 → (∀ w' : mr_Wd, mr_XS w' (n0, g, f, nx, ct, S, I, im, fk) → mr_Fr w w' → Po (some (vI (mr_tb (fun j => mr_fa f p c j)))) w')) ∧ (¬ ((mr_pk f p ∧ 0 ≤ c ∧ c < f 1) ∧ mr_fa f p c c ≠ 0) → Po (some (vI (-1))) w)
set_option maxHeartbeats 4000000 in
set_option maxRecDepth 20000 in
theorem ok_X6_form (l : Launch) (G : mr_G) : mr_Ok l G yX6_form cX6_form 3 (some .int) 3 70 T_X6_form := by
  refine mr_Ok.of (by decide +kernel) ?_
  rintro a w Po ⟨n0, nx, ct, fk, g, f, im, S, I, p, c, rfl, hX, h_p, h_c, hP, hQ⟩
  refine ⟨Nat.le_of_ble_eq_true rfl, ?_⟩
  show mr_J l G RX6 cX6_form 3 (some .int) 3 70 Po 0 [some (vR 0 0), some (vI p), some (vI c)] [] w
  obtain ⟨⟨sd, h0⟩, h1, h2, h3, h4, h5, h6, h7, ⟨m0, cl0, ct0, R0, F0, hS⟩, ⟨rv, rk, rs, rn, ro, rl_, rln, rmd, ra, rb, h11, hrv, hrs⟩, h12, ⟨f13, h13⟩, ⟨nm, h14, hnm⟩, h15, h16, ⟨r17, h17⟩, hn0, hB, hnx, hct, hSB, hIB, him, hfk⟩ := id hX
  have hfa := mr_fa_bd hB p c c
  refine mr_aload_n dX6_form_0 rfl ?_
  refine mr_iload_n dX6_form_1 rfl ?_
  refine mr_iload_n dX6_form_2 rfl ?_
  refine mr_callV (as := [_, _]) dX6_form_3 (ok_X6_hasColumn l G) ml_X6_109 cl_X6_hasColumn cv_X6_hasColumn (by decide) rfl rfl (Nat.le_of_ble_eq_true rfl) (by assumption) ?_
  refine ⟨_, _, _, _, _, _, _, _, _, _, _, rfl, hX, h_p, h_c, ?_, ?_⟩
  · intro hy
    dsimp only [Option.toList_some, Option.toList_none, List.cons_append, List.nil_append]
    refine mr_if_eq (tgt := 22) dX6_form_6 (by decide) (by omega) (fun h => absurd h (by decide)) (fun _ => ?_)
    refine mr_aload_n dX6_form_9 rfl ?_
    refine mr_get dX6_form_10 fl_X6_19 (by assumption) rfl ?_
    refine mr_iload_n dX6_form_13 rfl ?_
    refine mr_iload_n dX6_form_14 rfl ?_
    refine mr_iload_n dX6_form_15 rfl ?_
    refine mr_callV (as := [_, _, _]) dX6_form_16 (ok_X0_formAt l G) ml_X6_113 cl_X0_formAt cv_X0_formAt (by decide) rfl rfl (Nat.le_of_ble_eq_true rfl) (by assumption) ?_
    refine ⟨_, _, _, _, _, rfl, ⟨h3, h4⟩, h_p, h_c, h_c, ?_⟩
    dsimp only [Option.toList_some, Option.toList_none, List.cons_append, List.nil_append]
    refine mr_if_ne (tgt := 24) dX6_form_19 (by decide) ⟨by omega, by omega⟩ (fun hc_19 => ?_) (fun hc_19 => ?_)
    · refine mr_aload_n dX6_form_24 rfl ?_
      refine mr_get dX6_form_25 fl_X6_19 (by assumption) rfl ?_
      refine mr_iload_n dX6_form_28 rfl ?_
      refine mr_iload_n dX6_form_29 rfl ?_
      refine mr_aload_n dX6_form_30 rfl ?_
      refine mr_get dX6_form_31 fl_X6_55 (by assumption) rfl ?_
      refine mr_callV (as := [_, _, _]) dX6_form_34 (ok_X0_copyForm l G) ml_X6_117 cl_X0_copyForm cv_X0_copyForm (by decide) rfl rfl (Nat.le_of_ble_eq_true rfl) (by assumption) ?_
      refine xs_copyForm hX h_p h_c (fun w1 hX1 hl1 hF1 => ?_)
      obtain ⟨⟨sd, h0⟩, h1, h2, h3, h4, h5, h6, h7, ⟨m0, cl0, ct0, R0, F0, hS⟩, ⟨rv, rk, rs, rn, ro, rl_, rln, rmd, ra, rb, h11, hrv, hrs⟩, h12, ⟨f13, h13⟩, ⟨nm, h14, hnm⟩, h15, h16, ⟨r17, h17⟩, hn0, hB, hnx, hct, hSB, hIB, him, hfk⟩ := id hX1
      dsimp only [Option.toList_some, Option.toList_none, List.cons_append, List.nil_append]
      refine mr_aload_n dX6_form_37 rfl ?_
      refine mr_callV (as := []) dX6_form_38 (ok_X6_toldBack l G) ml_X6_121 cl_X6_toldBack cv_X6_toldBack (by decide) rfl rfl (Nat.le_of_ble_eq_true rfl) (by assumption) ?_
      refine ⟨_, _, _, rfl, h0, hl1, ?_⟩
      dsimp only [Option.toList_some, Option.toList_none, List.cons_append, List.nil_append]
      refine mr_iret rfl dX6_form_41 ?_
      first | exact hP ⟨hy, hc_19⟩ w1 hX1 hF1 | exact hQ (fun z => hy z.1) | exact hQ (fun z => z.2 hc_19)
    · refine mr_iconst dX6_form_22 ?_
      refine mr_iret rfl dX6_form_23 ?_
      first | exact hP ⟨hy, hc_19⟩ w1 hX1 hF1 | exact hQ (fun z => hy z.1) | exact hQ (fun z => z.2 hc_19)
  · intro hy
    dsimp only [Option.toList_some, Option.toList_none, List.cons_append, List.nil_append]
    refine mr_if_eq (tgt := 22) dX6_form_6 (by decide) (by omega) (fun _ => ?_) (fun h => absurd h (by decide))
    refine mr_iconst dX6_form_22 ?_
    refine mr_iret rfl dX6_form_23 ?_
    first | exact hP ⟨hy, hc_19⟩ w1 hX1 hF1 | exact hQ (fun z => hy z.1) | exact hQ (fun z => z.2 hc_19)
def T_X6_many (a : List mr_AV) (w : mr_Wd) (Po : Option mr_AV → mr_Wd → Prop) : Prop := ∃ (n0 nx ct fk : Int) (g f im : Nat → Int) (S I : Nat → Nat → Int) (p : Int), a = [vR 0 0, vI p] ∧ mr_XS w (n0, g, f, nx, ct, S, I, im, fk) ∧ InR p ∧ Po (some (vI (if mr_pk f p then mr_sz f p 0 else -1))) w
set_option maxHeartbeats 4000000 in
set_option maxRecDepth 20000 in
theorem ok_X6_many (l : Launch) (G : mr_G) : mr_Ok l G yX6_many cX6_many 2 (some .int) 5 114 T_X6_many := by
  refine mr_Ok.of (by decide +kernel) ?_
  rintro a w Po ⟨n0, nx, ct, fk, g, f, im, S, I, p, rfl, hX, h_p, hP⟩
  refine ⟨Nat.le_of_ble_eq_true rfl, ?_⟩
  show mr_J l G RX6 cX6_many 2 (some .int) 5 114 Po 0 [some (vR 0 0), some (vI p)] [] w
  obtain ⟨⟨sd, h0⟩, h1, h2, h3, h4, h5, h6, h7, ⟨m0, cl0, ct0, R0, F0, hS⟩, ⟨rv, rk, rs, rn, ro, rl_, rln, rmd, ra, rb, h11, hrv, hrs⟩, h12, ⟨f13, h13⟩, ⟨nm, h14, hnm⟩, h15, h16, ⟨r17, h17⟩, hn0, hB, hnx, hct, hSB, hIB, him, hfk⟩ := id hX
  refine mr_aload_n dX6_many_0 rfl ?_
  refine mr_get dX6_many_1 fl_X6_19 (by assumption) rfl ?_
  refine mr_iload_n dX6_many_4 rfl ?_
  refine mr_callV (as := [_]) dX6_many_5 (ok_X0_hasPlace l G) ml_X6_124 cl_X0_hasPlace cv_X0_hasPlace (by decide) rfl rfl (Nat.le_of_ble_eq_true rfl) (by assumption) ?_
  refine ⟨3, _, _, rfl, ⟨h3, h4⟩, hB, h_p, ?_, ?_⟩
  · intro hy
    dsimp only [Option.toList_some, Option.toList_none, List.cons_append, List.nil_append]
    refine mr_if_eq (tgt := 22) dX6_many_8 (by decide) (by omega) (fun h => absurd h (by decide)) (fun _ => ?_)
    refine mr_aload_n dX6_many_11 rfl ?_
    refine mr_get dX6_many_12 fl_X6_19 (by assumption) rfl ?_
    refine mr_iload_n dX6_many_15 rfl ?_
    refine mr_callV (as := [_]) dX6_many_16 (ok_X0_sizeOf l G) ml_X6_127 cl_X0_sizeOf cv_X0_sizeOf (by decide) rfl rfl (Nat.le_of_ble_eq_true rfl) (by assumption) ?_
    refine ⟨_, _, _, rfl, ⟨h3, h4⟩, hB, h_p, ?_⟩
    dsimp only [Option.toList_some, Option.toList_none, List.cons_append, List.nil_append]
    refine mr_goto (tgt := 23) dX6_many_19 (by decide) ?_
    refine mr_iret rfl dX6_many_23 ?_
    first | (rw [if_pos hy] at hP; exact hP) | (rw [if_neg hy] at hP; exact hP)
  · intro hy
    dsimp only [Option.toList_some, Option.toList_none, List.cons_append, List.nil_append]
    refine mr_if_eq (tgt := 22) dX6_many_8 (by decide) (by omega) (fun _ => ?_) (fun h => absurd h (by decide))
    refine mr_iconst dX6_many_22 ?_
    refine mr_iret rfl dX6_many_23 ?_
    first | (rw [if_pos hy] at hP; exact hP) | (rw [if_neg hy] at hP; exact hP)
def T_X6_rank (a : List mr_AV) (w : mr_Wd) (Po : Option mr_AV → mr_Wd → Prop) : Prop := ∃ (n0 nx ct fk : Int) (g f im : Nat → Int) (S I : Nat → Nat → Int) (p x y z : Int), a = [vR 0 0, vI p, vI x, vI y, vI z] ∧ mr_XS w (n0, g, f, nx, ct, S, I, im, fk) ∧ InR p ∧ InR x ∧ InR y ∧ InR z ∧ ((mr_pk f p ∧ mr_ro f x y z) → mr_mem0 f p (mr_l3 x y z) → (∀ w' : mr_Wd, mr_XS w' (n0, g, f, nx, ct, S, I, im, fk) → mr_Fr w w' → Po (some (vI (mr_cal f p (mr_l3 x y z) 3 0 0))) w')) ∧ ((mr_pk f p ∧ mr_ro f x y z) → ¬ mr_mem0 f p (mr_l3 x y z) → (∀ w' : mr_Wd, mr_XS w' (n0, g, f, nx, ct, S, I, im, fk) → mr_Fr w w' → Po (some (vI (-1))) w')) ∧ (¬ (mr_pk f p ∧ mr_ro f x y z) → Po (some (vI (-1))) w)
set_option maxHeartbeats 4000000 in
set_option maxRecDepth 20000 in
theorem ok_X6_rank (l : Launch) (G : mr_G) : mr_Ok l G yX6_rank cX6_rank 6 (some .int) 5 118 T_X6_rank := by
  refine mr_Ok.of (by decide +kernel) ?_
  rintro a w Po ⟨n0, nx, ct, fk, g, f, im, S, I, p, x, y, z, rfl, hX, h_p, h_x, h_y, h_z, hP, hQ, hR⟩
  refine ⟨Nat.le_of_ble_eq_true rfl, ?_⟩
  show mr_J l G RX6 cX6_rank 6 (some .int) 5 118 Po 0 [some (vR 0 0), some (vI p), some (vI x), some (vI y), some (vI z), none] [] w
  obtain ⟨⟨sd, h0⟩, h1, h2, h3, h4, h5, h6, h7, ⟨m0, cl0, ct0, R0, F0, hS⟩, ⟨rv, rk, rs, rn, ro, rl_, rln, rmd, ra, rb, h11, hrv, hrs⟩, h12, ⟨f13, h13⟩, ⟨nm, h14, hnm⟩, h15, h16, ⟨r17, h17⟩, hn0, hB, hnx, hct, hSB, hIB, him, hfk⟩ := id hX
  refine mr_aload_n dX6_rank_0 rfl ?_
  refine mr_iload_n dX6_rank_1 rfl ?_
  refine mr_iload_n dX6_rank_2 rfl ?_
  refine mr_iload_n dX6_rank_3 rfl ?_
  refine mr_iload dX6_rank_4 rfl ?_
  refine mr_callV (as := [_, _, _, _]) dX6_rank_6 (ok_X6_takeRow l G) ml_X6_141 cl_X6_takeRow cv_X6_takeRow (by decide) rfl rfl (Nat.le_of_ble_eq_true rfl) (by assumption) ?_
  refine ⟨_, _, _, _, _, _, _, _, _, _, _, _, _, rfl, hX, h_p, h_x, h_y, h_z, ?_, ?_⟩
  · intro hy w1 hX1 hl1 hF1
    obtain ⟨⟨sd, h0⟩, h1, h2, h3, h4, h5, h6, h7, ⟨m0, cl0, ct0, R0, F0, hS⟩, ⟨rv, rk, rs, rn, ro, rl_, rln, rmd, ra, rb, h11, hrv, hrs⟩, h12, ⟨f13, h13⟩, ⟨nm, h14, hnm⟩, h15, h16, ⟨r17, h17⟩, hn0, hB, hnx, hct, hSB, hIB, him, hfk⟩ := id hX1
    dsimp only [Option.toList_some, Option.toList_none, List.cons_append, List.nil_append]
    refine mr_if_ne (tgt := 14) dX6_rank_9 (by decide) (by omega) (fun _ => ?_) (fun h => absurd h (by decide))
    refine mr_aload_n dX6_rank_14 rfl ?_
    refine mr_get dX6_rank_15 fl_X6_19 (by assumption) rfl ?_
    refine mr_iload_n dX6_rank_18 rfl ?_
    refine mr_aload_n dX6_rank_19 rfl ?_
    refine mr_get dX6_rank_20 fl_X6_55 (by assumption) rfl ?_
    refine mr_callV (as := [_, _]) dX6_rank_23 (ok_X0_countAhead l G) ml_X6_145 cl_X0_countAhead cv_X0_countAhead (by decide) rfl rfl (Nat.le_of_ble_eq_true rfl) (by assumption) ?_
    refine ⟨_, _, _, _, _, rfl, ⟨h3, h4⟩, hl1, hB, (mr_l3_bd hB hy.2), h_p, ?_⟩
    dsimp only [Option.toList_some, Option.toList_none, List.cons_append, List.nil_append]
    refine mr_istore dX6_rank_26 rfl (by decide) ?_
    refine mr_aload_n dX6_rank_28 rfl ?_
    refine mr_get dX6_rank_29 fl_X6_19 (by assumption) rfl ?_
    refine mr_iload_n dX6_rank_32 rfl ?_
    refine mr_aload_n dX6_rank_33 rfl ?_
    refine mr_get dX6_rank_34 fl_X6_55 (by assumption) rfl ?_
    refine mr_callV (as := [_, _]) dX6_rank_37 (ok_X0_lessen l G) ml_X6_149 cl_X0_lessen cv_X0_lessen (by decide) rfl rfl (Nat.le_of_ble_eq_true rfl) (by assumption) ?_
    refine xs_lessen hX1 h_p hl1 (mr_l3_bd hB hy.2) (fun w2 hX2 hl2 hF2 => ?_)
    obtain ⟨⟨sd, h0⟩, h1, h2, h3, h4, h5, h6, h7, ⟨m0, cl0, ct0, R0, F0, hS⟩, ⟨rv, rk, rs, rn, ro, rl_, rln, rmd, ra, rb, h11, hrv, hrs⟩, h12, ⟨f13, h13⟩, ⟨nm, h14, hnm⟩, h15, h16, ⟨r17, h17⟩, hn0, hB, hnx, hct, hSB, hIB, him, hfk⟩ := id hX2
    dsimp only [Option.toList_some, Option.toList_none, List.cons_append, List.nil_append]
    refine mr_aload_n dX6_rank_40 rfl ?_
    refine mr_get dX6_rank_41 fl_X6_55 (by assumption) rfl ?_
    refine mr_callS (as := [_]) dX6_rank_44 (ok_X6_isZero l G) ml_X6_153 cl_X6_isZero cs_X6_isZero (by decide) rfl rfl (Nat.le_of_ble_eq_true rfl) ?_
    refine ⟨17, _, rfl, (by assumption), (mr_lsl_bd hB p 3 0 (mr_l3_bd hB hy.2)), ?_, ?_⟩
    · intro hzz
      dsimp only [Option.toList_some, Option.toList_none, List.cons_append, List.nil_append]
      refine mr_if_eq (tgt := 55) dX6_rank_47 (by decide) (by omega) (fun h => absurd h (by decide)) (fun _ => ?_)
      refine mr_iload dX6_rank_50 rfl ?_
      refine mr_goto (tgt := 56) dX6_rank_52 (by decide) ?_
      refine mr_iret rfl dX6_rank_56 ?_
      first | exact hP hy hzz w2 hX2 (hF1.tr hF2) | exact hQ hy hzz w2 hX2 (hF1.tr hF2) | exact hR hy
    · intro hzz
      dsimp only [Option.toList_some, Option.toList_none, List.cons_append, List.nil_append]
      refine mr_if_eq (tgt := 55) dX6_rank_47 (by decide) (by omega) (fun _ => ?_) (fun h => absurd h (by decide))
      refine mr_iconst dX6_rank_55 ?_
      refine mr_iret rfl dX6_rank_56 ?_
      first | exact hP hy hzz w2 hX2 (hF1.tr hF2) | exact hQ hy hzz w2 hX2 (hF1.tr hF2) | exact hR hy
  · intro hy
    dsimp only [Option.toList_some, Option.toList_none, List.cons_append, List.nil_append]
    refine mr_if_ne (tgt := 14) dX6_rank_9 (by decide) (by omega) (fun h => absurd h (by decide)) (fun _ => ?_)
    refine mr_iconst dX6_rank_12 ?_
    refine mr_iret rfl dX6_rank_13 ?_
    first | exact hP hy hzz w2 hX2 (hF1.tr hF2) | exact hQ hy hzz w2 hX2 (hF1.tr hF2) | exact hR hy
def T_X6_beside (a : List mr_AV) (w : mr_Wd) (Po : Option mr_AV → mr_Wd → Prop) : Prop := ∃ (n0 nx ct fk : Int) (g f im : Nat → Int) (S I : Nat → Nat → Int) (p x y z : Int), a = [vR 0 0, vI p, vI x, vI y, vI z] ∧ mr_XS w (n0, g, f, nx, ct, S, I, im, fk) ∧ InR p ∧ InR x ∧ InR y ∧ InR z ∧ ((mr_pk f p ∧ mr_ro f x y z) → (∀ w' : mr_Wd, mr_XS w' (n0, g, f, nx, ct, S, I, im, fk) → mr_Fr w w' → Po (some (vI (mr_tb (mr_lsl f p 3 0 (mr_l3 x y z))))) w')) ∧ (¬ (mr_pk f p ∧ mr_ro f x y z) → Po (some (vI (-1))) w)
set_option maxHeartbeats 4000000 in
set_option maxRecDepth 20000 in
theorem ok_X6_beside (l : Launch) (G : mr_G) : mr_Ok l G yX6_beside cX6_beside 5 (some .int) 4 95 T_X6_beside := by
  refine mr_Ok.of (by decide +kernel) ?_
  rintro a w Po ⟨n0, nx, ct, fk, g, f, im, S, I, p, x, y, z, rfl, hX, h_p, h_x, h_y, h_z, hP, hR⟩
  refine ⟨Nat.le_of_ble_eq_true rfl, ?_⟩
  show mr_J l G RX6 cX6_beside 5 (some .int) 4 95 Po 0 [some (vR 0 0), some (vI p), some (vI x), some (vI y), some (vI z)] [] w
  obtain ⟨⟨sd, h0⟩, h1, h2, h3, h4, h5, h6, h7, ⟨m0, cl0, ct0, R0, F0, hS⟩, ⟨rv, rk, rs, rn, ro, rl_, rln, rmd, ra, rb, h11, hrv, hrs⟩, h12, ⟨f13, h13⟩, ⟨nm, h14, hnm⟩, h15, h16, ⟨r17, h17⟩, hn0, hB, hnx, hct, hSB, hIB, him, hfk⟩ := id hX
  refine mr_aload_n dX6_beside_0 rfl ?_
  refine mr_iload_n dX6_beside_1 rfl ?_
  refine mr_iload_n dX6_beside_2 rfl ?_
  refine mr_iload_n dX6_beside_3 rfl ?_
  refine mr_iload dX6_beside_4 rfl ?_
  refine mr_callV (as := [_, _, _, _]) dX6_beside_6 (ok_X6_takeRow l G) ml_X6_141 cl_X6_takeRow cv_X6_takeRow (by decide) rfl rfl (Nat.le_of_ble_eq_true rfl) (by assumption) ?_
  refine ⟨_, _, _, _, _, _, _, _, _, _, _, _, _, rfl, hX, h_p, h_x, h_y, h_z, ?_, ?_⟩
  · intro hy w1 hX1 hl1 hF1
    obtain ⟨⟨sd, h0⟩, h1, h2, h3, h4, h5, h6, h7, ⟨m0, cl0, ct0, R0, F0, hS⟩, ⟨rv, rk, rs, rn, ro, rl_, rln, rmd, ra, rb, h11, hrv, hrs⟩, h12, ⟨f13, h13⟩, ⟨nm, h14, hnm⟩, h15, h16, ⟨r17, h17⟩, hn0, hB, hnx, hct, hSB, hIB, him, hfk⟩ := id hX1
    dsimp only [Option.toList_some, Option.toList_none, List.cons_append, List.nil_append]
    refine mr_if_ne (tgt := 14) dX6_beside_9 (by decide) (by omega) (fun _ => ?_) (fun h => absurd h (by decide))
    refine mr_aload_n dX6_beside_14 rfl ?_
    refine mr_get dX6_beside_15 fl_X6_19 (by assumption) rfl ?_
    refine mr_iload_n dX6_beside_18 rfl ?_
    refine mr_aload_n dX6_beside_19 rfl ?_
    refine mr_get dX6_beside_20 fl_X6_55 (by assumption) rfl ?_
    refine mr_callV (as := [_, _]) dX6_beside_23 (ok_X0_lessen l G) ml_X6_149 cl_X0_lessen cv_X0_lessen (by decide) rfl rfl (Nat.le_of_ble_eq_true rfl) (by assumption) ?_
    refine xs_lessen hX1 h_p hl1 (mr_l3_bd hB hy.2) (fun w2 hX2 hl2 hF2 => ?_)
    obtain ⟨⟨sd, h0⟩, h1, h2, h3, h4, h5, h6, h7, ⟨m0, cl0, ct0, R0, F0, hS⟩, ⟨rv, rk, rs, rn, ro, rl_, rln, rmd, ra, rb, h11, hrv, hrs⟩, h12, ⟨f13, h13⟩, ⟨nm, h14, hnm⟩, h15, h16, ⟨r17, h17⟩, hn0, hB, hnx, hct, hSB, hIB, him, hfk⟩ := id hX2
    dsimp only [Option.toList_some, Option.toList_none, List.cons_append, List.nil_append]
    refine mr_aload_n dX6_beside_26 rfl ?_
    refine mr_callV (as := []) dX6_beside_27 (ok_X6_toldBack l G) ml_X6_121 cl_X6_toldBack cv_X6_toldBack (by decide) rfl rfl (Nat.le_of_ble_eq_true rfl) (by assumption) ?_
    refine ⟨_, _, _, rfl, h0, hl2, ?_⟩
    dsimp only [Option.toList_some, Option.toList_none, List.cons_append, List.nil_append]
    refine mr_iret rfl dX6_beside_30 ?_
    first | exact hP hy w2 hX2 (hF1.tr hF2) | exact hR hy
  · intro hy
    dsimp only [Option.toList_some, Option.toList_none, List.cons_append, List.nil_append]
    refine mr_if_ne (tgt := 14) dX6_beside_9 (by decide) (by omega) (fun h => absurd h (by decide)) (fun _ => ?_)
    refine mr_iconst dX6_beside_12 ?_
    refine mr_iret rfl dX6_beside_13 ?_
    first | exact hP hy w2 hX2 (hF1.tr hF2) | exact hR hy
def T_X6_few (a : List mr_AV) (w : mr_Wd) (Po : Option mr_AV → mr_Wd → Prop) : Prop := ∃ (n0 nx ct fk : Int) (g f im : Nat → Int) (S I : Nat → Nat → Int) (p : Int), a = [vR 0 0, vI p] ∧ mr_XS w (n0, g, f, nx, ct, S, I, im, fk) ∧ InR p ∧ (mr_pk f p → (∀ w' : mr_Wd, mr_XS w' (n0, g, f, nx, ct, S, I, im, fk) → mr_Fr w w' → Po (some (vI (mr_fwl f p (f 0 - 1).toNat 2 0))) w')) ∧ (¬ mr_pk f p → Po (some (vI (-1))) w)
set_option maxHeartbeats 4000000 in
set_option maxRecDepth 20000 in
theorem ok_X6_few (l : Launch) (G : mr_G) : mr_Ok l G yX6_few cX6_few 2 (some .int) 6 140 T_X6_few := by
  refine mr_Ok.of (by decide +kernel) ?_
  rintro a w Po ⟨n0, nx, ct, fk, g, f, im, S, I, p, rfl, hX, h_p, hP, hR⟩
  refine ⟨Nat.le_of_ble_eq_true rfl, ?_⟩
  show mr_J l G RX6 cX6_few 2 (some .int) 6 140 Po 0 [some (vR 0 0), some (vI p)] [] w
  obtain ⟨⟨sd, h0⟩, h1, h2, h3, h4, h5, h6, h7, ⟨m0, cl0, ct0, R0, F0, hS⟩, ⟨rv, rk, rs, rn, ro, rl_, rln, rmd, ra, rb, h11, hrv, hrs⟩, h12, ⟨f13, h13⟩, ⟨nm, h14, hnm⟩, h15, h16, ⟨r17, h17⟩, hn0, hB, hnx, hct, hSB, hIB, him, hfk⟩ := id hX
  refine mr_aload_n dX6_few_0 rfl ?_
  refine mr_get dX6_few_1 fl_X6_19 (by assumption) rfl ?_
  refine mr_iload_n dX6_few_4 rfl ?_
  refine mr_callV (as := [_]) dX6_few_5 (ok_X0_hasPlace l G) ml_X6_124 cl_X0_hasPlace cv_X0_hasPlace (by decide) rfl rfl (Nat.le_of_ble_eq_true rfl) (by assumption) ?_
  refine ⟨3, _, _, rfl, ⟨h3, h4⟩, hB, h_p, ?_, ?_⟩
  · intro hy
    dsimp only [Option.toList_some, Option.toList_none, List.cons_append, List.nil_append]
    refine mr_if_eq (tgt := 26) dX6_few_8 (by decide) (by omega) (fun h => absurd h (by decide)) (fun _ => ?_)
    refine mr_aload_n dX6_few_11 rfl ?_
    refine mr_get dX6_few_12 fl_X6_33 (by assumption) rfl ?_
    refine mr_aload_n dX6_few_15 rfl ?_
    refine mr_get dX6_few_16 fl_X6_19 (by assumption) rfl ?_
    refine mr_iload_n dX6_few_19 rfl ?_
    refine mr_callV (as := [_, _]) dX6_few_20 (ok_X3_fewestRows l G) ml_X6_157 cl_X3_fewestRows cv_X3_fewestRows (by decide) rfl rfl (Nat.le_of_ble_eq_true rfl) (by assumption) ?_
    refine xs_few hX (by omega) hy.2 (fun w1 hX1 hF1 => ?_)
    dsimp only [Option.toList_some, Option.toList_none, List.cons_append, List.nil_append]
    refine mr_goto (tgt := 27) dX6_few_23 (by decide) ?_
    refine mr_iret rfl dX6_few_27 ?_
    first | exact hP hy w1 hX1 hF1 | exact hR hy
  · intro hy
    dsimp only [Option.toList_some, Option.toList_none, List.cons_append, List.nil_append]
    refine mr_if_eq (tgt := 26) dX6_few_8 (by decide) (by omega) (fun _ => ?_) (fun h => absurd h (by decide))
    refine mr_iconst dX6_few_26 ?_
    refine mr_iret rfl dX6_few_27 ?_
    first | exact hP hy w1 hX1 hF1 | exact hR hy
def T_X6_nought (a : List mr_AV) (w : mr_Wd) (Po : Option mr_AV → mr_Wd → Prop) : Prop := ∃ (n0 nx ct fk : Int) (g f im : Nat → Int) (S I : Nat → Nat → Int) (p : Int), a = [vR 0 0, vI p] ∧ mr_XS w (n0, g, f, nx, ct, S, I, im, fk) ∧ InR p ∧ (mr_pk f p → ∀ u : Int, 1 ≤ u → u ≤ 30 ∨ u = 1 → (∀ v : Int, 1 ≤ v → v < u → ¬ mr_nt f p v) → (mr_nt f p u ∨ f 0 ≤ u) → Po (some (vI u)) w) ∧ (¬ mr_pk f p → Po (some (vI (-1))) w)
set_option maxHeartbeats 4000000 in
set_option maxRecDepth 20000 in
theorem ok_X6_nought (l : Launch) (G : mr_G) : mr_Ok l G yX6_nought cX6_nought 2 (some .int) 4 92 T_X6_nought := by
  refine mr_Ok.of (by decide +kernel) ?_
  rintro a w Po ⟨n0, nx, ct, fk, g, f, im, S, I, p, rfl, hX, h_p, hP, hR⟩
  refine ⟨Nat.le_of_ble_eq_true rfl, ?_⟩
  show mr_J l G RX6 cX6_nought 2 (some .int) 4 92 Po 0 [some (vR 0 0), some (vI p)] [] w
  obtain ⟨⟨sd, h0⟩, h1, h2, h3, h4, h5, h6, h7, ⟨m0, cl0, ct0, R0, F0, hS⟩, ⟨rv, rk, rs, rn, ro, rl_, rln, rmd, ra, rb, h11, hrv, hrs⟩, h12, ⟨f13, h13⟩, ⟨nm, h14, hnm⟩, h15, h16, ⟨r17, h17⟩, hn0, hB, hnx, hct, hSB, hIB, him, hfk⟩ := id hX
  refine mr_aload_n dX6_nought_0 rfl ?_
  refine mr_get dX6_nought_1 fl_X6_19 (by assumption) rfl ?_
  refine mr_iload_n dX6_nought_4 rfl ?_
  refine mr_callV (as := [_]) dX6_nought_5 (ok_X0_hasPlace l G) ml_X6_124 cl_X0_hasPlace cv_X0_hasPlace (by decide) rfl rfl (Nat.le_of_ble_eq_true rfl) (by assumption) ?_
  refine ⟨3, _, _, rfl, ⟨h3, h4⟩, hB, h_p, ?_, ?_⟩
  · intro hy
    dsimp only [Option.toList_some, Option.toList_none, List.cons_append, List.nil_append]
    refine mr_if_eq (tgt := 22) dX6_nought_8 (by decide) (by omega) (fun h => absurd h (by decide)) (fun _ => ?_)
    refine mr_aload_n dX6_nought_11 rfl ?_
    refine mr_get dX6_nought_12 fl_X6_19 (by assumption) rfl ?_
    refine mr_iload_n dX6_nought_15 rfl ?_
    refine mr_callV (as := [_]) dX6_nought_16 (ok_X0_leastNoughting l G) ml_X6_161 cl_X0_leastNoughting cv_X0_leastNoughting (by decide) rfl rfl (Nat.le_of_ble_eq_true rfl) (by assumption) ?_
    refine ⟨_, _, _, rfl, ⟨h3, h4⟩, hB, h_p, (fun u hu1 hu2 hu3 hu4 => ?_)⟩
    dsimp only [Option.toList_some, Option.toList_none, List.cons_append, List.nil_append]
    refine mr_goto (tgt := 23) dX6_nought_19 (by decide) ?_
    refine mr_iret rfl dX6_nought_23 ?_
    first | exact hP hy u hu1 hu2 hu3 hu4 | exact hR hy
  · intro hy
    dsimp only [Option.toList_some, Option.toList_none, List.cons_append, List.nil_append]
    refine mr_if_eq (tgt := 22) dX6_nought_8 (by decide) (by omega) (fun _ => ?_) (fun h => absurd h (by decide))
    refine mr_iconst dX6_nought_22 ?_
    refine mr_iret rfl dX6_nought_23 ?_
    first | exact hP hy u hu1 hu2 hu3 hu4 | exact hR hy
def T_X6_lies (a : List mr_AV) (w : mr_Wd) (Po : Option mr_AV → mr_Wd → Prop) : Prop := ∃ (n0 nx ct fk : Int) (g f im : Nat → Int) (S I : Nat → Nat → Int) (s t : Int), a = [vR 0 0, vI s, vI t] ∧ mr_XS w (n0, g, f, nx, ct, S, I, im, fk) ∧ InR s ∧ InR t ∧ ((mr_pk f s ∧ mr_pk f t) → mr_ins f s t → mr_ins f t s → (∀ w' : mr_Wd, mr_XS w' (n0, g, f, nx, ct, S, I, im, fk) → mr_Fr w w' → Po (some (vI 0)) w')) ∧ ((mr_pk f s ∧ mr_pk f t) → mr_ins f s t → ¬ mr_ins f t s → (∀ w' : mr_Wd, mr_XS w' (n0, g, f, nx, ct, S, I, im, fk) → mr_Fr w w' → Po (some (vI 1)) w')) ∧ ((mr_pk f s ∧ mr_pk f t) → ¬ mr_ins f s t → mr_ins f t s → (∀ w' : mr_Wd, mr_XS w' (n0, g, f, nx, ct, S, I, im, fk) → mr_Fr w w' → Po (some (vI 2)) w')) ∧ ((mr_pk f s ∧ mr_pk f t) → ¬ mr_ins f s t → ¬ mr_ins f t s → (∀ w' : mr_Wd, mr_XS w' (n0, g, f, nx, ct, S, I, im, fk) → mr_Fr w w' → Po (some (vI 3)) w')) ∧ (¬ (mr_pk f s ∧ mr_pk f t) → Po (some (vI (-1))) w)
set_option maxHeartbeats 4000000 in
set_option maxRecDepth 20000 in
theorem ok_X6_lies (l : Launch) (G : mr_G) : mr_Ok l G yX6_lies cX6_lies 5 (some .int) 5 118 T_X6_lies := by
  refine mr_Ok.of (by decide +kernel) ?_
  rintro a w Po ⟨n0, nx, ct, fk, g, f, im, S, I, s, t, rfl, hX, h_s, h_t, hP0, hP1, hP2, hP3, hR⟩
  refine ⟨Nat.le_of_ble_eq_true rfl, ?_⟩
  show mr_J l G RX6 cX6_lies 5 (some .int) 5 118 Po 0 [some (vR 0 0), some (vI s), some (vI t), none, none] [] w
  obtain ⟨⟨sd, h0⟩, h1, h2, h3, h4, h5, h6, h7, ⟨m0, cl0, ct0, R0, F0, hS⟩, ⟨rv, rk, rs, rn, ro, rl_, rln, rmd, ra, rb, h11, hrv, hrs⟩, h12, ⟨f13, h13⟩, ⟨nm, h14, hnm⟩, h15, h16, ⟨r17, h17⟩, hn0, hB, hnx, hct, hSB, hIB, him, hfk⟩ := id hX
  refine mr_aload_n dX6_lies_0 rfl ?_
  refine mr_get dX6_lies_1 fl_X6_19 (by assumption) rfl ?_
  refine mr_iload_n dX6_lies_4 rfl ?_
  refine mr_callV (as := [_]) dX6_lies_5 (ok_X0_hasPlace l G) ml_X6_124 cl_X0_hasPlace cv_X0_hasPlace (by decide) rfl rfl (Nat.le_of_ble_eq_true rfl) (by assumption) ?_
  refine ⟨3, _, _, rfl, ⟨h3, h4⟩, hB, h_s, ?_, ?_⟩
  · intro hy1
    dsimp only [Option.toList_some, Option.toList_none, List.cons_append, List.nil_append]
    refine mr_if_eq (tgt := 22) dX6_lies_8 (by decide) (by omega) (fun h => absurd h (by decide)) (fun _ => ?_)
    refine mr_aload_n dX6_lies_11 rfl ?_
    refine mr_get dX6_lies_12 fl_X6_19 (by assumption) rfl ?_
    refine mr_iload_n dX6_lies_15 rfl ?_
    refine mr_callV (as := [_]) dX6_lies_16 (ok_X0_hasPlace l G) ml_X6_124 cl_X0_hasPlace cv_X0_hasPlace (by decide) rfl rfl (Nat.le_of_ble_eq_true rfl) (by assumption) ?_
    refine ⟨3, _, _, rfl, ⟨h3, h4⟩, hB, h_t, ?_, ?_⟩
    · intro hy2
      dsimp only [Option.toList_some, Option.toList_none, List.cons_append, List.nil_append]
      refine mr_if_ne (tgt := 24) dX6_lies_19 (by decide) (by omega) (fun _ => ?_) (fun h => absurd h (by decide))
      refine mr_aload_n dX6_lies_24 rfl ?_
      refine mr_iload_n dX6_lies_25 rfl ?_
      refine mr_iload_n dX6_lies_26 rfl ?_
      refine mr_callV (as := [_, _]) dX6_lies_27 (ok_X6_isInside l G) ml_X6_164 cl_X6_isInside cv_X6_isInside (by decide) rfl rfl (Nat.le_of_ble_eq_true rfl) (by assumption) ?_
      refine ⟨_, _, _, _, _, _, _, _, _, _, _, rfl, hX, h_s, h_t, ?_, ?_⟩
      · intro hi1 w1 hX1 hF1
        obtain ⟨⟨sd, h0⟩, h1, h2, h3, h4, h5, h6, h7, ⟨m0, cl0, ct0, R0, F0, hS⟩, ⟨rv, rk, rs, rn, ro, rl_, rln, rmd, ra, rb, h11, hrv, hrs⟩, h12, ⟨f13, h13⟩, ⟨nm, h14, hnm⟩, h15, h16, ⟨r17, h17⟩, hn0, hB, hnx, hct, hSB, hIB, him, hfk⟩ := id hX1
        dsimp only [Option.toList_some, Option.toList_none, List.cons_append, List.nil_append]
        refine mr_istore_n dX6_lies_30 rfl (by decide) ?_
        refine mr_aload_n dX6_lies_31 rfl ?_
        refine mr_iload_n dX6_lies_32 rfl ?_
        refine mr_iload_n dX6_lies_33 rfl ?_
        refine mr_callV (as := [_, _]) dX6_lies_34 (ok_X6_isInside l G) ml_X6_164 cl_X6_isInside cv_X6_isInside (by decide) rfl rfl (Nat.le_of_ble_eq_true rfl) (by assumption) ?_
        refine ⟨_, _, _, _, _, _, _, _, _, _, _, rfl, hX1, h_t, h_s, ?_, ?_⟩
        · intro hi2 w2 hX2 hF2
          obtain ⟨⟨sd, h0⟩, h1, h2, h3, h4, h5, h6, h7, ⟨m0, cl0, ct0, R0, F0, hS⟩, ⟨rv, rk, rs, rn, ro, rl_, rln, rmd, ra, rb, h11, hrv, hrs⟩, h12, ⟨f13, h13⟩, ⟨nm, h14, hnm⟩, h15, h16, ⟨r17, h17⟩, hn0, hB, hnx, hct, hSB, hIB, him, hfk⟩ := id hX2
          dsimp only [Option.toList_some, Option.toList_none, List.cons_append, List.nil_append]
          refine mr_istore dX6_lies_37 rfl (by decide) ?_
          refine mr_iload_n dX6_lies_39 rfl ?_
          refine mr_if_eq (tgt := 54) dX6_lies_40 (by decide) (by omega) (fun h => absurd h (by decide)) (fun _ => ?_)
          refine mr_iload dX6_lies_43 rfl ?_
          refine mr_if_eq (tgt := 52) dX6_lies_45 (by decide) (by omega) (fun h => absurd h (by decide)) (fun _ => ?_)
          refine mr_iconst dX6_lies_48 ?_
          refine mr_goto (tgt := 53) dX6_lies_49 (by decide) ?_
          refine mr_iret rfl dX6_lies_53 ?_
          first | exact hP0 ⟨hy1, hy2⟩ hi1 hi2 w2 hX2 (hF1.tr hF2) | exact hP1 ⟨hy1, hy2⟩ hi1 hi2 w2 hX2 (hF1.tr hF2) | exact hP2 ⟨hy1, hy2⟩ hi1 hi2 w2 hX2 (hF1.tr hF2) | exact hP3 ⟨hy1, hy2⟩ hi1 hi2 w2 hX2 (hF1.tr hF2) | exact hR (fun z => hy1 z.1) | exact hR (fun z => hy2 z.2)
        · intro hi2 w2 hX2 hF2
          obtain ⟨⟨sd, h0⟩, h1, h2, h3, h4, h5, h6, h7, ⟨m0, cl0, ct0, R0, F0, hS⟩, ⟨rv, rk, rs, rn, ro, rl_, rln, rmd, ra, rb, h11, hrv, hrs⟩, h12, ⟨f13, h13⟩, ⟨nm, h14, hnm⟩, h15, h16, ⟨r17, h17⟩, hn0, hB, hnx, hct, hSB, hIB, him, hfk⟩ := id hX2
          dsimp only [Option.toList_some, Option.toList_none, List.cons_append, List.nil_append]
          refine mr_istore dX6_lies_37 rfl (by decide) ?_
          refine mr_iload_n dX6_lies_39 rfl ?_
          refine mr_if_eq (tgt := 54) dX6_lies_40 (by decide) (by omega) (fun h => absurd h (by decide)) (fun _ => ?_)
          refine mr_iload dX6_lies_43 rfl ?_
          refine mr_if_eq (tgt := 52) dX6_lies_45 (by decide) (by omega) (fun _ => ?_) (fun h => absurd h (by decide))
          refine mr_iconst dX6_lies_52 ?_
          refine mr_iret rfl dX6_lies_53 ?_
          first | exact hP0 ⟨hy1, hy2⟩ hi1 hi2 w2 hX2 (hF1.tr hF2) | exact hP1 ⟨hy1, hy2⟩ hi1 hi2 w2 hX2 (hF1.tr hF2) | exact hP2 ⟨hy1, hy2⟩ hi1 hi2 w2 hX2 (hF1.tr hF2) | exact hP3 ⟨hy1, hy2⟩ hi1 hi2 w2 hX2 (hF1.tr hF2) | exact hR (fun z => hy1 z.1) | exact hR (fun z => hy2 z.2)
      · intro hi1 w1 hX1 hF1
        obtain ⟨⟨sd, h0⟩, h1, h2, h3, h4, h5, h6, h7, ⟨m0, cl0, ct0, R0, F0, hS⟩, ⟨rv, rk, rs, rn, ro, rl_, rln, rmd, ra, rb, h11, hrv, hrs⟩, h12, ⟨f13, h13⟩, ⟨nm, h14, hnm⟩, h15, h16, ⟨r17, h17⟩, hn0, hB, hnx, hct, hSB, hIB, him, hfk⟩ := id hX1
        dsimp only [Option.toList_some, Option.toList_none, List.cons_append, List.nil_append]
        refine mr_istore_n dX6_lies_30 rfl (by decide) ?_
        refine mr_aload_n dX6_lies_31 rfl ?_
        refine mr_iload_n dX6_lies_32 rfl ?_
        refine mr_iload_n dX6_lies_33 rfl ?_
        refine mr_callV (as := [_, _]) dX6_lies_34 (ok_X6_isInside l G) ml_X6_164 cl_X6_isInside cv_X6_isInside (by decide) rfl rfl (Nat.le_of_ble_eq_true rfl) (by assumption) ?_
        refine ⟨_, _, _, _, _, _, _, _, _, _, _, rfl, hX1, h_t, h_s, ?_, ?_⟩
        · intro hi2 w2 hX2 hF2
          obtain ⟨⟨sd, h0⟩, h1, h2, h3, h4, h5, h6, h7, ⟨m0, cl0, ct0, R0, F0, hS⟩, ⟨rv, rk, rs, rn, ro, rl_, rln, rmd, ra, rb, h11, hrv, hrs⟩, h12, ⟨f13, h13⟩, ⟨nm, h14, hnm⟩, h15, h16, ⟨r17, h17⟩, hn0, hB, hnx, hct, hSB, hIB, him, hfk⟩ := id hX2
          dsimp only [Option.toList_some, Option.toList_none, List.cons_append, List.nil_append]
          refine mr_istore dX6_lies_37 rfl (by decide) ?_
          refine mr_iload_n dX6_lies_39 rfl ?_
          refine mr_if_eq (tgt := 54) dX6_lies_40 (by decide) (by omega) (fun _ => ?_) (fun h => absurd h (by decide))
          refine mr_iload dX6_lies_54 rfl ?_
          refine mr_if_eq (tgt := 63) dX6_lies_56 (by decide) (by omega) (fun h => absurd h (by decide)) (fun _ => ?_)
          refine mr_iconst dX6_lies_59 ?_
          refine mr_goto (tgt := 64) dX6_lies_60 (by decide) ?_
          refine mr_iret rfl dX6_lies_64 ?_
          first | exact hP0 ⟨hy1, hy2⟩ hi1 hi2 w2 hX2 (hF1.tr hF2) | exact hP1 ⟨hy1, hy2⟩ hi1 hi2 w2 hX2 (hF1.tr hF2) | exact hP2 ⟨hy1, hy2⟩ hi1 hi2 w2 hX2 (hF1.tr hF2) | exact hP3 ⟨hy1, hy2⟩ hi1 hi2 w2 hX2 (hF1.tr hF2) | exact hR (fun z => hy1 z.1) | exact hR (fun z => hy2 z.2)
        · intro hi2 w2 hX2 hF2
          obtain ⟨⟨sd, h0⟩, h1, h2, h3, h4, h5, h6, h7, ⟨m0, cl0, ct0, R0, F0, hS⟩, ⟨rv, rk, rs, rn, ro, rl_, rln, rmd, ra, rb, h11, hrv, hrs⟩, h12, ⟨f13, h13⟩, ⟨nm, h14, hnm⟩, h15, h16, ⟨r17, h17⟩, hn0, hB, hnx, hct, hSB, hIB, him, hfk⟩ := id hX2
          dsimp only [Option.toList_some, Option.toList_none, List.cons_append, List.nil_append]
          refine mr_istore dX6_lies_37 rfl (by decide) ?_
          refine mr_iload_n dX6_lies_39 rfl ?_
          refine mr_if_eq (tgt := 54) dX6_lies_40 (by decide) (by omega) (fun _ => ?_) (fun h => absurd h (by decide))
          refine mr_iload dX6_lies_54 rfl ?_
          refine mr_if_eq (tgt := 63) dX6_lies_56 (by decide) (by omega) (fun _ => ?_) (fun h => absurd h (by decide))
          refine mr_iconst dX6_lies_63 ?_
          refine mr_iret rfl dX6_lies_64 ?_
          first | exact hP0 ⟨hy1, hy2⟩ hi1 hi2 w2 hX2 (hF1.tr hF2) | exact hP1 ⟨hy1, hy2⟩ hi1 hi2 w2 hX2 (hF1.tr hF2) | exact hP2 ⟨hy1, hy2⟩ hi1 hi2 w2 hX2 (hF1.tr hF2) | exact hP3 ⟨hy1, hy2⟩ hi1 hi2 w2 hX2 (hF1.tr hF2) | exact hR (fun z => hy1 z.1) | exact hR (fun z => hy2 z.2)
    · intro hy2
      dsimp only [Option.toList_some, Option.toList_none, List.cons_append, List.nil_append]
      refine mr_if_ne (tgt := 24) dX6_lies_19 (by decide) (by omega) (fun h => absurd h (by decide)) (fun _ => ?_)
      refine mr_iconst dX6_lies_22 ?_
      refine mr_iret rfl dX6_lies_23 ?_
      first | exact hP0 ⟨hy1, hy2⟩ hi1 hi2 w2 hX2 (hF1.tr hF2) | exact hP1 ⟨hy1, hy2⟩ hi1 hi2 w2 hX2 (hF1.tr hF2) | exact hP2 ⟨hy1, hy2⟩ hi1 hi2 w2 hX2 (hF1.tr hF2) | exact hP3 ⟨hy1, hy2⟩ hi1 hi2 w2 hX2 (hF1.tr hF2) | exact hR (fun z => hy1 z.1) | exact hR (fun z => hy2 z.2)
  · intro hy1
    dsimp only [Option.toList_some, Option.toList_none, List.cons_append, List.nil_append]
    refine mr_if_eq (tgt := 22) dX6_lies_8 (by decide) (by omega) (fun _ => ?_) (fun h => absurd h (by decide))
    refine mr_iconst dX6_lies_22 ?_
    refine mr_iret rfl dX6_lies_23 ?_
    first | exact hP0 ⟨hy1, hy2⟩ hi1 hi2 w2 hX2 (hF1.tr hF2) | exact hP1 ⟨hy1, hy2⟩ hi1 hi2 w2 hX2 (hF1.tr hF2) | exact hP2 ⟨hy1, hy2⟩ hi1 hi2 w2 hX2 (hF1.tr hF2) | exact hP3 ⟨hy1, hy2⟩ hi1 hi2 w2 hX2 (hF1.tr hF2) | exact hR (fun z => hy1 z.1) | exact hR (fun z => hy2 z.2)
