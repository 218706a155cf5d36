/-- the forms' rows as equations -/
def mr_sdl (p : Int) : Nat → Int → Int → (Nat → Int) → (Nat → Int) × Int
  | 0, _, e, f => (f, e)
  | n + 1, c, e, f => if 0 < mr_fa f p c c then mr_sdl p n (c + 1) (e + 1) (mr_seq f e (fun j => mr_fa f p c j) 0) else mr_sdl p n (c + 1) e f
set_option maxHeartbeats 4000000 in
set_option maxRecDepth 20000 in
theorem lp_X6_sides (l : Launch) (G : mr_G) {Po : Option mr_AV → mr_Wd → Prop} {w0 : mr_Wd} {n0 nx ct fk : Int} {g im : Nat → Int} {S I : Nat → Nat → Int} {p : Int} (h_p : InR p) : ∀ (n : Nat) (c e : Int) (f : Nat → Int) (w : mr_Wd), (0 ≤ e ∧ e ≤ c) → c + n = f 1 → mr_XS w (n0, g, f, nx, ct, S, I, im, fk) → mr_Fr w0 w → (∀ w' : mr_Wd, mr_XS w' (n0, g, mr_fs (mr_sdl p n c e f).1 2 (max 0 (min (mr_sdl p n c e f).2 3)), nx, ct, S, I, im, fk) → mr_Fr w0 w' → Po (some (vI (mr_sdl p n c e f).2)) w') → mr_J l G RX6 cX6_sides 4 (some .int) 3 70 Po 28 [some (vR 0 0), some (vI p), some (vI e), some (vI c)] [] w := by
  intro n
  induction n with
  | zero =>
    intro c e f w he hn hX hFr hP
    obtain ⟨⟨sd, h0⟩, h1, h2, h3, h4, h5, h6, h7, ⟨m0, cl0, ct0, R0, F0, hS⟩, ⟨rv, rk, rs, rn, ro, rl_, rln, rmd, ra, rb, h11, hrv, hrs⟩, h12, ⟨f13, h13⟩, ⟨nm, h14, hnm⟩, h15, h16, ⟨r17, h17⟩, hn0, hB, hnx, hct, hSB, hIB, him, hfk⟩ := id hX
    have hf1 := hB.2.1
    refine mr_iload_n dX6_sides_28 rfl ?_
    refine mr_aload_n dX6_sides_29 rfl ?_
    refine mr_get dX6_sides_30 fl_X6_19 (by assumption) rfl ?_
    refine mr_callV (as := []) dX6_sides_33 (ok_X0_width l G) ml_X6_100 cl_X0_width cv_X0_width (by decide) rfl rfl (Nat.le_of_ble_eq_true rfl) (by assumption) ?_
    refine ⟨_, _, rfl, ⟨h3, h4⟩, ?_⟩
    dsimp only [Option.toList_some, Option.toList_none, List.cons_append, List.nil_append]
    refine mr_icmp_ge (tgt := 87) dX6_sides_36 (by decide) ⟨by omega, by omega⟩ ⟨by omega, by omega⟩ (fun hc_36 => ?_) (fun hc_36 => absurd hc_36 (by omega))
    refine mr_aload_n dX6_sides_87 rfl ?_
    refine mr_get dX6_sides_88 fl_X6_19 (by assumption) rfl ?_
    refine mr_iload_n dX6_sides_91 rfl ?_
    refine mr_callV (as := [_]) dX6_sides_92 (ok_X0_setEquationCount l G) ml_X6_202 cl_X0_setEquationCount cv_X0_setEquationCount (by decide) rfl rfl (Nat.le_of_ble_eq_true rfl) (by assumption) ?_
    refine xs_setEqC hX ⟨by omega, by omega⟩ (fun w1 hX1 hF1 => ?_)
    dsimp only [Option.toList_some, Option.toList_none, List.cons_append, List.nil_append]
    refine mr_iload_n dX6_sides_95 rfl ?_
    refine mr_iret rfl dX6_sides_96 ?_
    exact hP w1 hX1 (hFr.tr hF1)
  | succ n ih =>
    intro c e f w he hn hX hFr hP
    obtain ⟨⟨sd, h0⟩, h1, h2, h3, h4, h5, h6, h7, ⟨m0, cl0, ct0, R0, F0, hS⟩, ⟨rv, rk, rs, rn, ro, rl_, rln, rmd, ra, rb, h11, hrv, hrs⟩, h12, ⟨f13, h13⟩, ⟨nm, h14, hnm⟩, h15, h16, ⟨r17, h17⟩, hn0, hB, hnx, hct, hSB, hIB, him, hfk⟩ := id hX
    have hf1 := hB.2.1
    have hfa := mr_fa_bd hB p c c
    have hB0 := hB
    refine mr_iload_n dX6_sides_28 rfl ?_
    refine mr_aload_n dX6_sides_29 rfl ?_
    refine mr_get dX6_sides_30 fl_X6_19 (by assumption) rfl ?_
    refine mr_callV (as := []) dX6_sides_33 (ok_X0_width l G) ml_X6_100 cl_X0_width cv_X0_width (by decide) rfl rfl (Nat.le_of_ble_eq_true rfl) (by assumption) ?_
    refine ⟨_, _, rfl, ⟨h3, h4⟩, ?_⟩
    dsimp only [Option.toList_some, Option.toList_none, List.cons_append, List.nil_append]
    refine mr_icmp_ge (tgt := 87) dX6_sides_36 (by decide) ⟨by omega, by omega⟩ ⟨by omega, by omega⟩ (fun hc_36 => absurd hc_36 (by omega)) (fun hc_36 => ?_)
    refine mr_aload_n dX6_sides_39 rfl ?_
    refine mr_get dX6_sides_40 fl_X6_19 (by assumption) rfl ?_
    refine mr_iload_n dX6_sides_43 rfl ?_
    refine mr_iload_n dX6_sides_44 rfl ?_
    refine mr_iload_n dX6_sides_45 rfl ?_
    refine mr_callV (as := [_, _, _]) dX6_sides_46 (ok_X0_formAt l G) ml_X6_113 cl_X0_formAt cv_X0_formAt (by decide) rfl rfl (Nat.le_of_ble_eq_true rfl) (by assumption) ?_
    refine ⟨_, _, _, _, _, rfl, ⟨h3, h4⟩, h_p, ⟨by omega, by omega⟩, ⟨by omega, by omega⟩, ?_⟩
    dsimp only [Option.toList_some, Option.toList_none, List.cons_append, List.nil_append]
    refine mr_if_le (tgt := 81) dX6_sides_49 (by decide) ⟨by omega, by omega⟩ (fun hc_49 => ?_) (fun hc_49 => ?_)
    · refine mr_iinc dX6_sides_81 rfl (by decide) rfl ?_
      refine mr_goto (tgt := 28) dX6_sides_84 (by decide) ?_
      rw [mr_sdl] at hP
      first
        | (rw [if_neg (by omega)] at hP; exact ih (c + 1) e f w (by omega) (by omega) hX hFr hP)
        | (rw [if_pos (by omega)] at hP; exact ih (c + 1) (e + 1) _ w2 (by omega) (by rw [mr_seq_lo _ _ _ _ (by decide)]; omega) hX2 (hFr.tr (hF1.tr hF2)) hP)
    · refine mr_aload_n dX6_sides_52 rfl ?_
      refine mr_get dX6_sides_53 fl_X6_19 (by assumption) rfl ?_
      refine mr_iload_n dX6_sides_56 rfl ?_
      refine mr_iload_n dX6_sides_57 rfl ?_
      refine mr_aload_n dX6_sides_58 rfl ?_
      refine mr_get dX6_sides_59 fl_X6_55 (by assumption) rfl ?_
      refine mr_callV (as := [_, _, _]) dX6_sides_62 (ok_X0_copyForm l G) ml_X6_117 cl_X0_copyForm cv_X0_copyForm (by decide) rfl rfl (Nat.le_of_ble_eq_true rfl) (by assumption) ?_
      refine xs_copyForm hX h_p ⟨by omega, by omega⟩ (fun w1 hX1 hl1 hF1 => ?_)
      obtain ⟨⟨sd, h0⟩, h1, h2, h3, h4, h5, h6, h7, ⟨m0, cl0, ct0, R0, F0, hS⟩, ⟨rv, rk, rs, rn, ro, rl_, rln, rmd, ra, rb, h11, hrv, hrs⟩, h12, ⟨f13, h13⟩, ⟨nm, h14, hnm⟩, h15, h16, ⟨r17, h17⟩, hn0, hB, hnx, hct, hSB, hIB, him, hfk⟩ := id hX1
      dsimp only [Option.toList_some, Option.toList_none, List.cons_append, List.nil_append]
      refine mr_aload_n dX6_sides_65 rfl ?_
      refine mr_get dX6_sides_66 fl_X6_19 (by assumption) rfl ?_
      refine mr_iload_n dX6_sides_69 rfl ?_
      refine mr_aload_n dX6_sides_70 rfl ?_
      refine mr_get dX6_sides_71 fl_X6_55 (by assumption) rfl ?_
      refine mr_iconst dX6_sides_74 ?_
      refine mr_callV (as := [_, _, _]) dX6_sides_75 (ok_X0_setEquation l G) ml_X6_209 cl_X0_setEquation cv_X0_setEquation (by decide) rfl rfl (Nat.le_of_ble_eq_true rfl) (by assumption) ?_
      refine xs_setEq hX1 ⟨by omega, by omega⟩ (by decide) hl1 (mr_faR hB0 p c) (fun w2 hX2 hl2 hF2 => ?_)
      dsimp only [Option.toList_some, Option.toList_none, List.cons_append, List.nil_append]
      refine mr_iinc dX6_sides_78 rfl (by decide) rfl ?_
      refine mr_iinc dX6_sides_81 rfl (by decide) rfl ?_
      refine mr_goto (tgt := 28) dX6_sides_84 (by decide) ?_
      rw [mr_sdl] at hP
      first
        | (rw [if_neg (by omega)] at hP; exact ih (c + 1) e f w (by omega) (by omega) hX hFr hP)
        | (rw [if_pos (by omega)] at hP; exact ih (c + 1) (e + 1) _ w2 (by omega) (by rw [mr_seq_lo _ _ _ _ (by decide)]; omega) hX2 (hFr.tr (hF1.tr hF2)) hP)
def T_X6_sides (a : List mr_AV) (w : mr_Wd) (Po : Option mr_AV → mr_Wd → Prop) : Prop := ∃ (n0 nx ct fk : Int) (g f im : Nat → Int) (S I : Nat → Nat → Int) (p : Int), a = [vR 0 0, vI p] ∧ mr_XS w (n0, g, f, nx, ct, S, I, im, fk) ∧ InR p ∧ (mr_pk f p → (∀ w' : mr_Wd, mr_XS w' (n0, g, (mr_fs (mr_sdl p (f 1).toNat 0 0 f).1 2 (max 0 (min (mr_sdl p (f 1).toNat 0 0 f).2 3))), (nx + 1) % 8, min (ct + 1) 8, (fun i => if i = nx.toNat then f else S i), I, im, fk) → mr_Fr w w' → Po (some (vI (mr_sdl p (f 1).toNat 0 0 f).2)) w')) ∧ (¬ mr_pk f p → Po (some (vI (-1))) w)
set_option maxHeartbeats 4000000 in
set_option maxRecDepth 20000 in
theorem ok_X6_sides (l : Launch) (G : mr_G) : mr_Ok l G yX6_sides cX6_sides 4 (some .int) 3 70 T_X6_sides := by
  refine mr_Ok.of (by decide +kernel) ?_
  rintro a w Po ⟨n0, nx, ct, fk, g, f, im, S, I, p, rfl, hX, h_p, hP, hR⟩
  refine ⟨Nat.le_of_ble_eq_true rfl, ?_⟩
  show mr_J l G RX6 cX6_sides 4 (some .int) 3 70 Po 0 [some (vR 0 0), some (vI p), none, none] [] w
  obtain ⟨⟨sd, h0⟩, h1, h2, h3, h4, h5, h6, h7, ⟨m0, cl0, ct0, R0, F0, hS⟩, ⟨rv, rk, rs, rn, ro, rl_, rln, rmd, ra, rb, h11, hrv, hrs⟩, h12, ⟨f13, h13⟩, ⟨nm, h14, hnm⟩, h15, h16, ⟨r17, h17⟩, hn0, hB, hnx, hct, hSB, hIB, him, hfk⟩ := id hX
  have hf1 := hB.1 1
  refine mr_aload_n dX6_sides_0 rfl ?_
  refine mr_get dX6_sides_1 fl_X6_19 (by assumption) rfl ?_
  refine mr_iload_n dX6_sides_4 rfl ?_
  refine mr_callV (as := [_]) dX6_sides_5 (ok_X0_hasPlace l G) ml_X6_124 cl_X0_hasPlace cv_X0_hasPlace (by decide) rfl rfl (Nat.le_of_ble_eq_true rfl) (by assumption) ?_
  refine ⟨3, _, _, rfl, ⟨h3, h4⟩, hB, h_p, ?_, ?_⟩
  · intro hy
    dsimp only [Option.toList_some, Option.toList_none, List.cons_append, List.nil_append]
    refine mr_if_ne (tgt := 13) dX6_sides_8 (by decide) (by omega) (fun _ => ?_) (fun h => absurd h (by decide))
    refine mr_aload_n dX6_sides_13 rfl ?_
    refine mr_get dX6_sides_14 fl_X6_26 (by assumption) rfl ?_
    refine mr_aload_n dX6_sides_17 rfl ?_
    refine mr_get dX6_sides_18 fl_X6_19 (by assumption) rfl ?_
    refine mr_callV (as := [_]) dX6_sides_21 (ok_X1_keep l G) ml_X6_167 cl_X1_keep cv_X1_keep (by decide) rfl rfl (Nat.le_of_ble_eq_true rfl) (by assumption) ?_
    refine xs_keep hX (fun w1 hX1 hF1 => ?_)
    obtain ⟨⟨sd, h0⟩, h1, h2, h3, h4, h5, h6, h7, ⟨m0, cl0, ct0, R0, F0, hS⟩, ⟨rv, rk, rs, rn, ro, rl_, rln, rmd, ra, rb, h11, hrv, hrs⟩, h12, ⟨f13, h13⟩, ⟨nm, h14, hnm⟩, h15, h16, ⟨r17, h17⟩, hn0, hB, hnx, hct, hSB, hIB, him, hfk⟩ := id hX1
    dsimp only [Option.toList_some, Option.toList_none, List.cons_append, List.nil_append]
    refine mr_iconst dX6_sides_24 ?_
    refine mr_istore_n dX6_sides_25 rfl (by decide) ?_
    refine mr_iconst dX6_sides_26 ?_
    refine mr_istore_n dX6_sides_27 rfl (by decide) ?_
    refine lp_X6_sides l G h_p (f 1).toNat 0 0 f w1 (by decide) (by omega) hX1 hF1 (hP hy)
  · intro hy
    dsimp only [Option.toList_some, Option.toList_none, List.cons_append, List.nil_append]
    refine mr_if_ne (tgt := 13) dX6_sides_8 (by decide) (by omega) (fun h => absurd h (by decide)) (fun _ => ?_)
    refine mr_iconst dX6_sides_11 ?_
    refine mr_iret rfl dX6_sides_12 ?_
    exact hR hy
def mr_dwl (M : Int) : Nat → Int → (Nat → Int) → Int → (Nat → Int) × Int
  | 0, _, r, s => (r, s)
  | n + 1, c, r, s => mr_dwl M n (c + 1) (mr_fs r c.toNat (mr_dr s M)) (mr_sd s)
theorem mr_dr_bd {M : Int} (hM : 1 ≤ M ∧ M ≤ 30) (s : Int) : 0 ≤ mr_dr s M ∧ mr_dr s M < M := by
  unfold mr_dr
  exact ⟨Int.emod_nonneg _ (by omega), Int.emod_lt_of_pos _ (by omega)⟩
theorem mr_dwl_bd {M : Int} (hM : 1 ≤ M ∧ M ≤ 30) : ∀ (n : Nat) (c : Int) (r : Nat → Int) (s : Int), mr_Rd r → mr_Rd (mr_dwl M n c r s).1
  | 0, c, r, s, h => h
  | n + 1, c, r, s, h => by
    unfold mr_dwl
    have := mr_dr_bd hM s
    exact mr_dwl_bd hM n (c + 1) _ _ (mr_fs_bd h _ ⟨by omega, by omega⟩)
/-- a DEED: the book, the seed -/
def mr_deed (q : (Nat → Int) × Int) : (Nat → Int) × Int := (mr_abs q.1 (mr_dwl (q.1 0) (q.1 1).toNat 0 (mr_l3 0 0 0) (mr_sd q.2)).1 (mr_dr q.2 4) mr_Zz mr_Zz, (mr_dwl (q.1 0) (q.1 1).toNat 0 (mr_l3 0 0 0) (mr_sd q.2)).2)
theorem xs_absorb0 {w : mr_Wd} {n0 nx ct fk : Int} {g f im : Nat → Int} {S I : Nat → Nat → Int} {p s : Int} {r : Nat → Int} {Po : Option mr_AV → mr_Wd → Prop} (hX : mr_XS w (n0, g, f, nx, ct, S, I, im, fk)) (hM : 1 ≤ f 0) (hp : 0 ≤ p ∧ p < 4) (hr17 : w 17 = eA 0 3 r) (hr : mr_Rd r) (hs : w 0 = eX0 fk s) (k : ∀ w' : mr_Wd, mr_XS w' (n0, g, mr_abs f r p mr_Zz mr_Zz, nx, ct, S, I, im, fk) → w' 0 = eX0 fk s → mr_Fr w w' → Po none w') : T_X3_absorb [vR 7 0, vR 3 0, vI p, vR 17 0] w Po := by
  have hX0 := hX
  obtain ⟨⟨sd, h0⟩, h1, h2, h3, h4, h5, h6, h7, ⟨m0, cl0, ct0, R0, F0, hS⟩, ⟨rv, rk, rs, rn, ro, rl_, rln, rmd, ra, rb, h11, hrv, hrs⟩, h12, ⟨f13, h13⟩, ⟨nm, h14, hnm⟩, h15, h16, ⟨r17, h17⟩, hn0, hB, hnx, hct, hSB, hIB, him, hfk⟩ := hX
  refine ⟨3, 17, f, r, p, rfl, hX0.rk hM, hr17, Or.inr rfl, hp, hr, (fun R1 F1 m_ cl_ ct_ R_ F_ => k _ ⟨⟨sd, h0⟩, h1, h2, h3, ?_, h5, h6, h7, ⟨_, _, _, _, _, rfl, rfl, rfl⟩, ⟨rv, rk, rs, rn, ro, rl_, rln, rmd, ra, rb, h11, hrv, hrs⟩, h12, ⟨f13, h13⟩, ⟨nm, h14, hnm⟩, h15, h16, ⟨r17, h17⟩, hn0, (mr_abs_bd hB hM r hp.1 _ _), hnx, hct, hSB, hIB, him, hfk⟩ hs (((mr_Fr.rf w).up _ (by decide)).S _ _ _ _ _))⟩
  show eA 0 51 (mr_abs f r p R1 F1) = _
  rw [mr_abs_in (hB.1 1).1]
set_option maxHeartbeats 4000000 in
set_option maxRecDepth 20000 in
theorem lp_X6_doDeed (l : Launch) (G : mr_G) {Po : Option mr_AV → mr_Wd → Prop} {w0 : mr_Wd} {n0 nx ct fk : Int} {g f im : Nat → Int} {S I : Nat → Nat → Int} {p : Int} (hp : 0 ≤ p ∧ p < 4) (hM : 1 ≤ f 0) : ∀ (n : Nat) (c : Int) (r : Nat → Int) (s : Int) (w : mr_Wd), 0 ≤ c → c + n = f 1 → mr_XS w (n0, g, f, nx, ct, S, I, im, fk) → w 0 = eX0 fk s → w 17 = eA 0 3 r → mr_Rd r → mr_Fr w0 w → (∀ w' : mr_Wd, mr_XS w' (n0, g, mr_abs f (mr_dwl (f 0) n c r s).1 p mr_Zz mr_Zz, nx, ct, S, I, im, fk) → w' 0 = eX0 fk (mr_dwl (f 0) n c r s).2 → mr_Fr w0 w' → Po none w') → mr_J l G RX6 cX6_doDeed 3 none 4 98 Po 15 [some (vR 0 0), some (vI p), some (vI c)] [] w := by
  intro n
  induction n with
  | zero =>
    intro c r s w hc hn hX hs0 hr17 hr hFr hP
    obtain ⟨⟨sd, h0⟩, h1, h2, h3, h4, h5, h6, h7, ⟨m0, cl0, ct0, R0, F0, hS⟩, ⟨rv, rk, rs, rn, ro, rl_, rln, rmd, ra, rb, h11, hrv, hrs⟩, h12, ⟨f13, h13⟩, ⟨nm, h14, hnm⟩, h15, h16, ⟨r17, h17⟩, hn0, hB, hnx, hct, hSB, hIB, him, hfk⟩ := id hX
    have hf1 := hB.2.1
    refine mr_iload_n dX6_doDeed_15 rfl ?_
    refine mr_aload_n dX6_doDeed_16 rfl ?_
    refine mr_get dX6_doDeed_17 fl_X6_19 (by assumption) rfl ?_
    refine mr_callV (as := []) dX6_doDeed_20 (ok_X0_width l G) ml_X6_100 cl_X0_width cv_X0_width (by decide) rfl rfl (Nat.le_of_ble_eq_true rfl) (by assumption) ?_
    refine ⟨_, _, rfl, ⟨h3, h4⟩, ?_⟩
    dsimp only [Option.toList_some, Option.toList_none, List.cons_append, List.nil_append]
    refine mr_icmp_ge (tgt := 54) dX6_doDeed_23 (by decide) ⟨by omega, by omega⟩ ⟨by omega, by omega⟩ (fun hc_23 => ?_) (fun hc_23 => absurd hc_23 (by omega))
    refine mr_aload_n dX6_doDeed_54 rfl ?_
    refine mr_get dX6_doDeed_55 fl_X6_33 (by assumption) rfl ?_
    refine mr_aload_n dX6_doDeed_58 rfl ?_
    refine mr_get dX6_doDeed_59 fl_X6_19 (by assumption) rfl ?_
    refine mr_iload_n dX6_doDeed_62 rfl ?_
    refine mr_aload_n dX6_doDeed_63 rfl ?_
    refine mr_get dX6_doDeed_64 fl_X6_55 (by assumption) rfl ?_
    refine mr_callV (as := [_, _, _]) dX6_doDeed_67 (ok_X3_absorb l G) ml_X6_170 cl_X3_absorb cv_X3_absorb (by decide) rfl rfl (Nat.le_of_ble_eq_true rfl) (by assumption) ?_
    refine xs_absorb0 hX hM hp hr17 hr hs0 (fun w1 hX1 hz1 hF1 => ?_)
    dsimp only [Option.toList_some, Option.toList_none, List.cons_append, List.nil_append]
    refine mr_vret rfl dX6_doDeed_70 ?_
    exact hP w1 hX1 hz1 (hFr.tr hF1)
  | succ n ih =>
    intro c r s w hc hn hX hs0 hr17 hr hFr hP
    obtain ⟨⟨sd, h0⟩, h1, h2, h3, h4, h5, h6, h7, ⟨m0, cl0, ct0, R0, F0, hS⟩, ⟨rv, rk, rs, rn, ro, rl_, rln, rmd, ra, rb, h11, hrv, hrs⟩, h12, ⟨f13, h13⟩, ⟨nm, h14, hnm⟩, h15, h16, ⟨r17, h17⟩, hn0, hB, hnx, hct, hSB, hIB, him, hfk⟩ := id hX
    have hf1 := hB.2.1
    have hf0 := hB.1 0
    have hdr := mr_dr_bd (show 1 ≤ f 0 ∧ f 0 ≤ 30 by omega) s
    refine mr_iload_n dX6_doDeed_15 rfl ?_
    refine mr_aload_n dX6_doDeed_16 rfl ?_
    refine mr_get dX6_doDeed_17 fl_X6_19 (by assumption) rfl ?_
    refine mr_callV (as := []) dX6_doDeed_20 (ok_X0_width l G) ml_X6_100 cl_X0_width cv_X0_width (by decide) rfl rfl (Nat.le_of_ble_eq_true rfl) (by assumption) ?_
    refine ⟨_, _, rfl, ⟨h3, h4⟩, ?_⟩
    dsimp only [Option.toList_some, Option.toList_none, List.cons_append, List.nil_append]
    refine mr_icmp_ge (tgt := 54) dX6_doDeed_23 (by decide) ⟨by omega, by omega⟩ ⟨by omega, by omega⟩ (fun hc_23 => absurd hc_23 (by omega)) (fun hc_23 => ?_)
    refine mr_iload_n dX6_doDeed_26 rfl ?_
    refine mr_iconst dX6_doDeed_27 ?_
    refine mr_icmp_ge (tgt := 54) dX6_doDeed_28 (by decide) (by omega) (by omega) (fun hc_28 => absurd hc_28 (by omega)) (fun hc_28 => ?_)
    refine mr_aload_n dX6_doDeed_31 rfl ?_
    refine mr_get dX6_doDeed_32 fl_X6_55 hs0 rfl ?_
    refine mr_iload_n dX6_doDeed_35 rfl ?_
    refine mr_aload_n dX6_doDeed_36 rfl ?_
    refine mr_aload_n dX6_doDeed_37 rfl ?_
    refine mr_get dX6_doDeed_38 fl_X6_19 hs0 rfl ?_
    refine mr_callV (as := []) dX6_doDeed_41 (ok_X0_modulus l G) ml_X6_97 cl_X0_modulus cv_X0_modulus (by decide) rfl rfl (Nat.le_of_ble_eq_true rfl) (by assumption) ?_
    refine ⟨_, _, rfl, ⟨h3, h4⟩, ?_⟩
    dsimp only [Option.toList_some, Option.toList_none, List.cons_append, List.nil_append]
    refine mr_callV (as := [_]) dX6_doDeed_44 (ok_X6_draw l G) ml_X6_252 cl_X6_draw cv_X6_draw (by decide) rfl rfl (Nat.le_of_ble_eq_true rfl) hs0 ?_
    refine ⟨_, _, _, rfl, hs0, ⟨by omega, by omega⟩, ?_⟩
    dsimp only [Option.toList_some, Option.toList_none, List.cons_append, List.nil_append]
    refine mr_iast dX6_doDeed_47 (mr_lk hr17 (by decide)) (by omega) (by omega) (by decide) ?_
    refine mr_iinc dX6_doDeed_48 rfl (by decide) rfl ?_
    refine mr_goto (tgt := 15) dX6_doDeed_51 (by decide) ?_
    rw [mr_dwl] at hP
    exact ih (c + 1) _ _ _ (by omega) (by omega) ⟨⟨_, rfl⟩, h1, h2, h3, h4, h5, h6, h7, ⟨m0, cl0, ct0, R0, F0, hS⟩, ⟨rv, rk, rs, rn, ro, rl_, rln, rmd, ra, rb, h11, hrv, hrs⟩, h12, ⟨f13, h13⟩, ⟨nm, h14, hnm⟩, h15, h16, ⟨_, rfl⟩, hn0, hB, hnx, hct, hSB, hIB, him, hfk⟩ rfl rfl (mr_fs_bd hr _ ⟨by omega, by omega⟩) ((hFr.up _ (by decide)).up _ (by decide)) hP
def T2_X6_setLine (a : List mr_AV) (w : mr_Wd) (Po : Option mr_AV → mr_Wd → Prop) : Prop := ∃ (n0 nx ct fk : Int) (g f im : Nat → Int) (S I : Nat → Nat → Int) (x y z : Int), a = [vR 0 0, vI x, vI y, vI z] ∧ mr_XS w (n0, g, f, nx, ct, S, I, im, fk) ∧ (∀ w' : mr_Wd, mr_XS w' (n0, g, f, nx, ct, S, I, im, fk) → w' 17 = eA 0 3 (mr_l3 x y z) → w' 0 = w 0 → mr_Fr w w' → Po none w')
set_option maxHeartbeats 4000000 in
set_option maxRecDepth 20000 in
theorem ok2_X6_setLine (l : Launch) (G : mr_G) : mr_Ok l G yX6_setLine cX6_setLine 4 none 0 0 T2_X6_setLine := by
  refine mr_Ok.of (by decide +kernel) ?_
  rintro a w Po ⟨n0, nx, ct, fk, g, f, im, S, I, x, y, z, rfl, hX, hP⟩
  refine ⟨Nat.le_of_ble_eq_true rfl, ?_⟩
  show mr_J l G RX6 cX6_setLine 4 none 0 0 Po 0 [some (vR 0 0), some (vI x), some (vI y), some (vI z)] [] w
  obtain ⟨⟨sd, h0⟩, h1, h2, h3, h4, h5, h6, h7, ⟨m0, cl0, ct0, R0, F0, hS⟩, ⟨rv, rk, rs, rn, ro, rl_, rln, rmd, ra, rb, h11, hrv, hrs⟩, h12, ⟨f13, h13⟩, ⟨nm, h14, hnm⟩, h15, h16, ⟨r17, h17⟩, hn0, hB, hnx, hct, hSB, hIB, him, hfk⟩ := id hX
  refine mr_aload_n dX6_setLine_0 rfl ?_
  refine mr_get dX6_setLine_1 fl_X6_55 h0 rfl ?_
  refine mr_iconst dX6_setLine_4 ?_
  refine mr_iload_n dX6_setLine_5 rfl ?_
  refine mr_iast dX6_setLine_6 h17 (by omega) (by omega) (by decide) ?_
  try rw [mr_up_up]
  refine mr_aload_n dX6_setLine_7 rfl ?_
  refine mr_get dX6_setLine_8 fl_X6_55 (mr_lk h0 (by decide)) rfl ?_
  refine mr_iconst dX6_setLine_11 ?_
  refine mr_iload_n dX6_setLine_12 rfl ?_
  refine mr_iast dX6_setLine_13 (mr_up_same _ _ _) (by omega) (by omega) (by decide) ?_
  try rw [mr_up_up]
  refine mr_aload_n dX6_setLine_14 rfl ?_
  refine mr_get dX6_setLine_15 fl_X6_55 (mr_lk h0 (by decide)) rfl ?_
  refine mr_iconst dX6_setLine_18 ?_
  refine mr_iload_n dX6_setLine_19 rfl ?_
  refine mr_iast dX6_setLine_20 (mr_up_same _ _ _) (by omega) (by omega) (by decide) ?_
  try rw [mr_up_up]
  refine mr_extA (mr_up_same _ _ _) (g := mr_l3 x y z) (fun j hj => ?_) ?_
  · rcases (show j = 0 ∨ j = 1 ∨ j = 2 by omega) with rfl | rfl | rfl <;> rfl
  · rw [mr_up_up]
    exact mr_vret rfl dX6_setLine_21 (hP _ ⟨⟨sd, h0⟩, h1, h2, h3, h4, h5, h6, h7, ⟨m0, cl0, ct0, R0, F0, hS⟩, ⟨rv, rk, rs, rn, ro, rl_, rln, rmd, ra, rb, h11, hrv, hrs⟩, h12, ⟨f13, h13⟩, ⟨nm, h14, hnm⟩, h15, h16, ⟨_, rfl⟩, hn0, hB, hnx, hct, hSB, hIB, him, hfk⟩ rfl rfl ((mr_Fr.rf w).up _ (by decide)))
def T_X6_doDeed (a : List mr_AV) (w : mr_Wd) (Po : Option mr_AV → mr_Wd → Prop) : Prop := ∃ (n0 nx ct fk : Int) (g f im : Nat → Int) (S I : Nat → Nat → Int) (s : Int), a = [vR 0 0] ∧ mr_XS w (n0, g, f, nx, ct, S, I, im, fk) ∧ w 0 = eX0 fk s ∧ 1 ≤ f 0 ∧ (∀ w' : mr_Wd, mr_XS w' (n0, g, (mr_deed (f, s)).1, nx, ct, S, I, im, fk) → w' 0 = eX0 fk (mr_deed (f, s)).2 → mr_Fr w w' → Po none w')
set_option maxHeartbeats 4000000 in
set_option maxRecDepth 20000 in
theorem ok_X6_doDeed (l : Launch) (G : mr_G) : mr_Ok l G yX6_doDeed cX6_doDeed 3 none 4 98 T_X6_doDeed := by
  refine mr_Ok.of (by decide +kernel) ?_
  rintro a w Po ⟨n0, nx, ct, fk, g, f, im, S, I, s, rfl, hX, hs0, hM, hP⟩
  refine ⟨Nat.le_of_ble_eq_true rfl, ?_⟩
  show mr_J l G RX6 cX6_doDeed 3 none 4 98 Po 0 [some (vR 0 0), none, none] [] w
  obtain ⟨⟨sd, h0⟩, h1, h2, h3, h4, h5, h6, h7, ⟨m0, cl0, ct0, R0, F0, hS⟩, ⟨rv, rk, rs, rn, ro, rl_, rln, rmd, ra, rb, h11, hrv, hrs⟩, h12, ⟨f13, h13⟩, ⟨nm, h14, hnm⟩, h15, h16, ⟨r17, h17⟩, hn0, hB, hnx, hct, hSB, hIB, him, hfk⟩ := id hX
  have hf1 := hB.1 1
  have hdr := mr_dr_bd (show 1 ≤ (4 : Int) ∧ (4 : Int) ≤ 30 by decide) s
  have hXa : mr_XS (mr_up w 0 (eX0 fk (mr_sd s))) (n0, g, f, nx, ct, S, I, im, fk) := ⟨⟨_, rfl⟩, h1, h2, h3, h4, h5, h6, h7, ⟨m0, cl0, ct0, R0, F0, hS⟩, ⟨rv, rk, rs, rn, ro, rl_, rln, rmd, ra, rb, h11, hrv, hrs⟩, h12, ⟨f13, h13⟩, ⟨nm, h14, hnm⟩, h15, h16, ⟨r17, h17⟩, hn0, hB, hnx, hct, hSB, hIB, him, hfk⟩
  have hza : mr_up w 0 (eX0 fk (mr_sd s)) 0 = eX0 fk (mr_sd s) := rfl
  refine mr_aload_n dX6_doDeed_0 rfl ?_
  refine mr_iconst dX6_doDeed_1 ?_
  refine mr_callV (as := [_]) dX6_doDeed_2 (ok_X6_draw l G) ml_X6_252 cl_X6_draw cv_X6_draw (by decide) rfl rfl (Nat.le_of_ble_eq_true rfl) hs0 ?_
  refine ⟨_, _, _, rfl, hs0, (by decide), ?_⟩
  dsimp only [Option.toList_some, Option.toList_none, List.cons_append, List.nil_append]
  refine mr_istore_n dX6_doDeed_5 rfl (by decide) ?_
  refine mr_aload_n dX6_doDeed_6 rfl ?_
  refine mr_iconst dX6_doDeed_7 ?_
  refine mr_iconst dX6_doDeed_8 ?_
  refine mr_iconst dX6_doDeed_9 ?_
  refine mr_callV (as := [_, _, _]) dX6_doDeed_10 (ok2_X6_setLine l G) ml_X6_205 cl_X6_setLine cv_X6_setLine (by decide) rfl rfl (Nat.le_of_ble_eq_true rfl) hza ?_
  refine ⟨_, _, _, _, _, _, _, _, _, _, _, _, rfl, hXa, (fun w1 hX1 hl1 hs1 hF1 => ?_)⟩
  dsimp only [Option.toList_some, Option.toList_none, List.cons_append, List.nil_append]
  refine mr_iconst dX6_doDeed_13 ?_
  refine mr_istore_n dX6_doDeed_14 rfl (by decide) ?_
  have hz1 : w1 0 = eX0 fk (mr_sd s) := hs1
  exact lp_X6_doDeed l G hdr hM (f 1).toNat 0 (mr_l3 0 0 0) (mr_sd s) w1 (Int.le_refl 0) (by omega) hX1 hz1 hl1 (mr_l3_bd hB (by omega)) (((mr_Fr.rf w).up _ (by decide)).tr hF1) hP
def mr_deeds : Nat → (Nat → Int) × Int → (Nat → Int) × Int
  | 0, q => q
  | n + 1, q => mr_deeds n (mr_deed q)
theorem mr_deed_bd {q : (Nat → Int) × Int} (hB : mr_Bd q.1) (hM : 1 ≤ q.1 0) : mr_Bd (mr_deed q).1 ∧ 1 ≤ (mr_deed q).1 0 := by
  have hd := mr_dr_bd (show 1 ≤ (4 : Int) ∧ (4 : Int) ≤ 30 by decide) q.2
  refine ⟨mr_abs_bd hB hM _ hd.1 _ _, ?_⟩
  show 1 ≤ mr_abs q.1 _ (mr_dr q.2 4) mr_Zz mr_Zz 0
  unfold mr_abs
  show 1 ≤ mr_pt q.1 (mr_dr q.2 4) _ (q.1 1) 0 0
  rw [mr_pt_lo q.1 (mr_dr q.2 4) _ (q.1 1) 0 hd.1 (by decide)]
  exact hM
def mr_sum4 (f : Nat → Int) : Int := 0 + mr_sz f 0 0 + mr_sz f 1 0 + mr_sz f 2 0 + mr_sz f 3 0
set_option maxHeartbeats 4000000 in
set_option maxRecDepth 20000 in
theorem lp_X6_drawn (l : Launch) (G : mr_G) {Po : Option mr_AV → mr_Wd → Prop} {w0 : mr_Wd} {n0 nx ct fk n : Int} {g im : Nat → Int} {S I : Nat → Nat → Int} (hnn : 1 ≤ n ∧ n ≤ 60) : ∀ (m : Nat) (d : Int) (f : Nat → Int) (s : Int) (w : mr_Wd), 0 ≤ d → d + m = n → mr_XS w (n0, g, f, nx, ct, S, I, im, fk) → w 0 = eX0 fk s → 1 ≤ f 0 → mr_Fr w0 w → (∀ w' : mr_Wd, mr_XS w' (n0, g, (mr_deeds m (f, s)).1, nx, ct, S, I, im, fk) → mr_Fr w0 w' → Po (some (vI (mr_sum4 (mr_deeds m (f, s)).1))) w') → mr_J l G RX6 cX6_drawn 5 (some .int) 5 120 Po 43 [some (vR 0 0), some (vI n), none, some (vI d), none] [] w := by
  intro m
  induction m with
  | zero =>
    intro d f s w hd hn hX hs0 hM hFr hP
    obtain ⟨⟨sd, h0⟩, h1, h2, h3, h4, h5, h6, h7, ⟨m0, cl0, ct0, R0, F0, hS⟩, ⟨rv, rk, rs, rn, ro, rl_, rln, rmd, ra, rb, h11, hrv, hrs⟩, h12, ⟨f13, h13⟩, ⟨nm, h14, hnm⟩, h15, h16, ⟨r17, h17⟩, hn0, hB, hnx, hct, hSB, hIB, him, hfk⟩ := id hX
    refine mr_iload_n dX6_drawn_43 rfl ?_
    refine mr_iload_n dX6_drawn_44 rfl ?_
    refine mr_icmp_ge (tgt := 58) dX6_drawn_45 (by decide) ⟨by omega, by omega⟩ ⟨by omega, by omega⟩ (fun hc_45 => ?_) (fun hc_45 => absurd hc_45 (by omega))
    refine mr_iconst dX6_drawn_58 ?_
    refine mr_istore_n dX6_drawn_59 rfl (by decide) ?_
    refine mr_iconst dX6_drawn_60 ?_
    refine mr_istore dX6_drawn_61 rfl (by decide) ?_
    refine mr_iload dX6_drawn_63 rfl ?_
    refine mr_iconst dX6_drawn_65 ?_
    refine mr_icmp_ge (tgt := 87) dX6_drawn_66 (by decide) (by omega) (by omega) (fun h => absurd h (by decide)) (fun _ => ?_)
    refine mr_iload_n dX6_drawn_69 rfl ?_
    refine mr_aload_n dX6_drawn_70 rfl ?_
    refine mr_get dX6_drawn_71 fl_X6_19 (by assumption) rfl ?_
    refine mr_iload dX6_drawn_74 rfl ?_
    refine mr_callV (as := [_]) dX6_drawn_76 (ok_X0_sizeOf l G) ml_X6_127 cl_X0_sizeOf cv_X0_sizeOf (by decide) rfl rfl (Nat.le_of_ble_eq_true rfl) (by assumption) ?_
    refine ⟨_, _, _, rfl, ⟨h3, h4⟩, hB, (by decide), ?_⟩
    dsimp only [Option.toList_some, Option.toList_none, List.cons_append, List.nil_append]
    refine mr_iadd dX6_drawn_79 ?_
    refine mr_istore_n dX6_drawn_80 rfl (by decide) ?_
    refine mr_iinc dX6_drawn_81 rfl (by decide) rfl ?_
    refine mr_goto (tgt := 63) dX6_drawn_84 (by decide) ?_
    refine mr_iload dX6_drawn_63 rfl ?_
    refine mr_iconst dX6_drawn_65 ?_
    refine mr_icmp_ge (tgt := 87) dX6_drawn_66 (by decide) (by omega) (by omega) (fun h => absurd h (by decide)) (fun _ => ?_)
    refine mr_iload_n dX6_drawn_69 rfl ?_
    refine mr_aload_n dX6_drawn_70 rfl ?_
    refine mr_get dX6_drawn_71 fl_X6_19 (by assumption) rfl ?_
    refine mr_iload dX6_drawn_74 rfl ?_
    refine mr_callV (as := [_]) dX6_drawn_76 (ok_X0_sizeOf l G) ml_X6_127 cl_X0_sizeOf cv_X0_sizeOf (by decide) rfl rfl (Nat.le_of_ble_eq_true rfl) (by assumption) ?_
    refine ⟨_, _, _, rfl, ⟨h3, h4⟩, hB, (by decide), ?_⟩
    dsimp only [Option.toList_some, Option.toList_none, List.cons_append, List.nil_append]
    refine mr_iadd dX6_drawn_79 ?_
    refine mr_istore_n dX6_drawn_80 rfl (by decide) ?_
    refine mr_iinc dX6_drawn_81 rfl (by decide) rfl ?_
    refine mr_goto (tgt := 63) dX6_drawn_84 (by decide) ?_
    refine mr_iload dX6_drawn_63 rfl ?_
    refine mr_iconst dX6_drawn_65 ?_
    refine mr_icmp_ge (tgt := 87) dX6_drawn_66 (by decide) (by omega) (by omega) (fun h => absurd h (by decide)) (fun _ => ?_)
    refine mr_iload_n dX6_drawn_69 rfl ?_
    refine mr_aload_n dX6_drawn_70 rfl ?_
    refine mr_get dX6_drawn_71 fl_X6_19 (by assumption) rfl ?_
    refine mr_iload dX6_drawn_74 rfl ?_
    refine mr_callV (as := [_]) dX6_drawn_76 (ok_X0_sizeOf l G) ml_X6_127 cl_X0_sizeOf cv_X0_sizeOf (by decide) rfl rfl (Nat.le_of_ble_eq_true rfl) (by assumption) ?_
    refine ⟨_, _, _, rfl, ⟨h3, h4⟩, hB, (by decide), ?_⟩
    dsimp only [Option.toList_some, Option.toList_none, List.cons_append, List.nil_append]
    refine mr_iadd dX6_drawn_79 ?_
    refine mr_istore_n dX6_drawn_80 rfl (by decide) ?_
    refine mr_iinc dX6_drawn_81 rfl (by decide) rfl ?_
    refine mr_goto (tgt := 63) dX6_drawn_84 (by decide) ?_
    refine mr_iload dX6_drawn_63 rfl ?_
    refine mr_iconst dX6_drawn_65 ?_
    refine mr_icmp_ge (tgt := 87) dX6_drawn_66 (by decide) (by omega) (by omega) (fun h => absurd h (by decide)) (fun _ => ?_)
    refine mr_iload_n dX6_drawn_69 rfl ?_
    refine mr_aload_n dX6_drawn_70 rfl ?_
    refine mr_get dX6_drawn_71 fl_X6_19 (by assumption) rfl ?_
    refine mr_iload dX6_drawn_74 rfl ?_
    refine mr_callV (as := [_]) dX6_drawn_76 (ok_X0_sizeOf l G) ml_X6_127 cl_X0_sizeOf cv_X0_sizeOf (by decide) rfl rfl (Nat.le_of_ble_eq_true rfl) (by assumption) ?_
    refine ⟨_, _, _, rfl, ⟨h3, h4⟩, hB, (by decide), ?_⟩
    dsimp only [Option.toList_some, Option.toList_none, List.cons_append, List.nil_append]
    refine mr_iadd dX6_drawn_79 ?_
    refine mr_istore_n dX6_drawn_80 rfl (by decide) ?_
    refine mr_iinc dX6_drawn_81 rfl (by decide) rfl ?_
    refine mr_goto (tgt := 63) dX6_drawn_84 (by decide) ?_
    refine mr_iload dX6_drawn_63 rfl ?_
    refine mr_iconst dX6_drawn_65 ?_
    refine mr_icmp_ge (tgt := 87) dX6_drawn_66 (by decide) (by omega) (by omega) (fun _ => ?_) (fun h => absurd h (by decide))
    refine mr_iload_n dX6_drawn_87 rfl ?_
    refine mr_iret rfl dX6_drawn_88 ?_
    exact hP w hX hFr
  | succ m ih =>
    intro d f s w hd hn hX hs0 hM hFr hP
    obtain ⟨⟨sd, h0⟩, h1, h2, h3, h4, h5, h6, h7, ⟨m0, cl0, ct0, R0, F0, hS⟩, ⟨rv, rk, rs, rn, ro, rl_, rln, rmd, ra, rb, h11, hrv, hrs⟩, h12, ⟨f13, h13⟩, ⟨nm, h14, hnm⟩, h15, h16, ⟨r17, h17⟩, hn0, hB, hnx, hct, hSB, hIB, him, hfk⟩ := id hX
    have hdb := mr_deed_bd (q := (f, s)) hB hM
    refine mr_iload_n dX6_drawn_43 rfl ?_
    refine mr_iload_n dX6_drawn_44 rfl ?_
    refine mr_icmp_ge (tgt := 58) dX6_drawn_45 (by decide) ⟨by omega, by omega⟩ ⟨by omega, by omega⟩ (fun hc_45 => absurd hc_45 (by omega)) (fun hc_45 => ?_)
    refine mr_aload_n dX6_drawn_48 rfl ?_
    refine mr_callV (as := []) dX6_drawn_49 (ok_X6_doDeed l G) ml_X6_238 cl_X6_doDeed cv_X6_doDeed (by decide) rfl rfl (Nat.le_of_ble_eq_true rfl) (by assumption) ?_
    refine ⟨_, _, _, _, _, _, _, _, _, _, rfl, hX, hs0, hM, (fun w1 hX1 hz1 hF1 => ?_)⟩
    dsimp only [Option.toList_some, Option.toList_none, List.cons_append, List.nil_append]
    refine mr_iinc dX6_drawn_52 rfl (by decide) rfl ?_
    refine mr_goto (tgt := 43) dX6_drawn_55 (by decide) ?_
    exact ih (d + 1) _ _ w1 (by omega) (by omega) hX1 hz1 hdb.2 (hFr.tr hF1) hP
def T_X6_drawn (a : List mr_AV) (w : mr_Wd) (Po : Option mr_AV → mr_Wd → Prop) : Prop := ∃ (n0 nx ct fk : Int) (g f im : Nat → Int) (S I : Nat → Nat → Int) (n s : Int), a = [vR 0 0, vI n, vI s] ∧ mr_XS w (n0, g, f, nx, ct, S, I, im, fk) ∧ InR n ∧ ((1 ≤ n ∧ n ≤ 60) → 0 < f 0 → (∀ w' : mr_Wd, mr_XS w' (n0, g, (mr_deeds n.toNat (f, s)).1, (nx + 1) % 8, min (ct + 1) 8, (fun i => if i = nx.toNat then f else S i), I, im, fk) → mr_Fr w w' → Po (some (vI (mr_sum4 (mr_deeds n.toNat (f, s)).1))) w')) ∧ ((1 ≤ n ∧ n ≤ 60) → f 0 ≤ 0 → Po (some (vI 0)) w) ∧ (¬ (1 ≤ n ∧ n ≤ 60) → Po (some (vI (-1))) w)
set_option maxHeartbeats 4000000 in
set_option maxRecDepth 20000 in
theorem ok_X6_drawn (l : Launch) (G : mr_G) : mr_Ok l G yX6_drawn cX6_drawn 5 (some .int) 5 120 T_X6_drawn := by
  refine mr_Ok.of (by decide +kernel) ?_
  rintro a w Po ⟨n0, nx, ct, fk, g, f, im, S, I, n, s, rfl, hX, h_n, hP, hQ, hR⟩
  refine ⟨Nat.le_of_ble_eq_true rfl, ?_⟩
  show mr_J l G RX6 cX6_drawn 5 (some .int) 5 120 Po 0 [some (vR 0 0), some (vI n), some (vI s), none, none] [] w
  obtain ⟨⟨sd, h0⟩, h1, h2, h3, h4, h5, h6, h7, ⟨m0, cl0, ct0, R0, F0, hS⟩, ⟨rv, rk, rs, rn, ro, rl_, rln, rmd, ra, rb, h11, hrv, hrs⟩, h12, ⟨f13, h13⟩, ⟨nm, h14, hnm⟩, h15, h16, ⟨r17, h17⟩, hn0, hB, hnx, hct, hSB, hIB, him, hfk⟩ := id hX
  have hf0 := hB.1 0
  refine mr_iload_n dX6_drawn_0 rfl ?_
  refine mr_iconst dX6_drawn_1 ?_
  refine mr_icmp_lt (tgt := 11) dX6_drawn_2 (by decide) (by omega) (by omega) (fun hc_2 => ?_) (fun hc_2 => ?_)
  · refine mr_iconst dX6_drawn_11 ?_
    refine mr_iret rfl dX6_drawn_12 ?_
    exact hR (by omega)
  · refine mr_iload_n dX6_drawn_5 rfl ?_
    refine mr_bipush dX6_drawn_6 rfl ?_
    refine mr_icmp_le (tgt := 13) dX6_drawn_8 (by decide) (by omega) (by omega) (fun hc_8 => ?_) (fun hc_8 => ?_)
    · refine mr_aload_n dX6_drawn_13 rfl ?_
      refine mr_get dX6_drawn_14 fl_X6_19 (by assumption) rfl ?_
      refine mr_callV (as := []) dX6_drawn_17 (ok_X0_modulus l G) ml_X6_97 cl_X0_modulus cv_X0_modulus (by decide) rfl rfl (Nat.le_of_ble_eq_true rfl) (by assumption) ?_
      refine ⟨_, _, rfl, ⟨h3, h4⟩, ?_⟩
      dsimp only [Option.toList_some, Option.toList_none, List.cons_append, List.nil_append]
      refine mr_if_ne (tgt := 25) dX6_drawn_20 (by decide) ⟨by omega, by omega⟩ (fun hc_20 => ?_) (fun hc_20 => ?_)
      · refine mr_aload_n dX6_drawn_25 rfl ?_
        refine mr_get dX6_drawn_26 fl_X6_26 (by assumption) rfl ?_
        refine mr_aload_n dX6_drawn_29 rfl ?_
        refine mr_get dX6_drawn_30 fl_X6_19 (by assumption) rfl ?_
        refine mr_callV (as := [_]) dX6_drawn_33 (ok_X1_keep l G) ml_X6_167 cl_X1_keep cv_X1_keep (by decide) rfl rfl (Nat.le_of_ble_eq_true rfl) (by assumption) ?_
        refine xs_keep hX (fun w1 hX1 hF1 => ?_)
        obtain ⟨⟨sd, h0⟩, h1, h2, h3, h4, h5, h6, h7, ⟨m0, cl0, ct0, R0, F0, hS⟩, ⟨rv, rk, rs, rn, ro, rl_, rln, rmd, ra, rb, h11, hrv, hrs⟩, h12, ⟨f13, h13⟩, ⟨nm, h14, hnm⟩, h15, h16, ⟨r17, h17⟩, hn0, hB, hnx, hct, hSB, hIB, him, hfk⟩ := id hX1
        dsimp only [Option.toList_some, Option.toList_none, List.cons_append, List.nil_append]
        refine mr_aload_n dX6_drawn_36 rfl ?_
        refine mr_iload_n dX6_drawn_37 rfl ?_
        refine mr_put dX6_drawn_38 fl_X6_235 pf_X6_9 rfl rfl (by assumption) (Nat.le_of_ble_eq_true rfl) ?_
        refine mr_iconst dX6_drawn_41 ?_
        refine mr_istore_n dX6_drawn_42 rfl (by decide) ?_
        refine mr_weak [some (vR 0 0), some (vI n), none, some (vI 0), none] ⟨rfl, rfl, rfl, trivial⟩ ?_
        exact lp_X6_drawn l G (by omega) n.toNat 0 f s _ (Int.le_refl 0) (by omega) ⟨⟨_, rfl⟩, h1, h2, h3, h4, h5, h6, h7, ⟨m0, cl0, ct0, R0, F0, hS⟩, ⟨rv, rk, rs, rn, ro, rl_, rln, rmd, ra, rb, h11, hrv, hrs⟩, h12, ⟨f13, h13⟩, ⟨nm, h14, hnm⟩, h15, h16, ⟨r17, h17⟩, hn0, hB, hnx, hct, hSB, hIB, him, hfk⟩ rfl (by omega) (hF1.up _ (by decide)) (hP (by omega) (by omega))
      · refine mr_iconst dX6_drawn_23 ?_
        refine mr_iret rfl dX6_drawn_24 ?_
        exact hQ (by omega) (by omega)
    · refine mr_iconst dX6_drawn_11 ?_
      refine mr_iret rfl dX6_drawn_12 ?_
      exact hR (by omega)
