/-- the parse doesn't look at what an earlier one has left -/
theorem mr_tt_ir {n0 : Int} {g : Nat → Int} {op ln md : Int} {f : Nat → Int} {k s n : Int} {sl sl' : Int} {nm nm' : Nat → Int} {v v' : Int} (h : op = 0 ∨ (sl = sl' ∧ nm = nm')) (hv : k = 3 → v = v') : mr_tt n0 g op sl ln md f nm v k s n = mr_tt n0 g op sl' ln md f nm' v' k s n := by
  unfold mr_tt
  by_cases c0 : op = 0
  · rw [if_pos c0, if_pos c0]
  · rcases h with h | ⟨h1, h2⟩
    · exact absurd h c0
    · subst h1
      subst h2
      rw [if_neg c0, if_neg c0]
      by_cases c3 : k = 3
      · rw [hv c3]
      · rw [if_neg c3, if_neg c3]
theorem mr_tt_is {n0 : Int} {g : Nat → Int} {op ln md : Int} {f : Nat → Int} {k s n : Int} {sl sl1 : Int} {nm nm1 : Nat → Int} {v : Int} (hf : 0 ≤ mr_due 4 f) (h3 : k ≠ 3) (h4 : k ≠ 4) (ht : mr_tt n0 g op sl ln md f nm v k s n = .inr (4, sl1, nm1)) : sl1 ≤ mr_due 4 f + 1 := by
  unfold mr_tt at ht
  by_cases c0 : op = 0
  · rw [if_pos c0] at ht
    by_cases c1 : ln = 0
    · rw [if_pos c1] at ht
      by_cases c2 : mr_isw n0 g k s n 0
      · rw [mr_if_pos c2] at ht; cases ht
      · rw [mr_if_neg c2] at ht; cases ht
    · rw [if_neg c1] at ht
      by_cases c2 : mr_isw n0 g k s n 1
      · rw [mr_if_pos c2] at ht
        split at ht <;> cases ht
      · rw [mr_if_neg c2] at ht
        by_cases c3 : mr_isw n0 g k s n 2
        · rw [mr_if_pos c3] at ht
          split at ht <;> cases ht
        · rw [mr_if_neg c3] at ht
          by_cases c4 : mr_isw n0 g k s n 3
          · rw [mr_if_pos c4] at ht
            split at ht
            · cases ht; omega
            · cases ht
          · rw [mr_if_neg c4] at ht; cases ht
  · rw [if_neg c0] at ht
    split at ht
    · first | cases ht | (rw [if_neg h3] at ht; cases ht)
    · split at ht
      · rename_i c2
        by_cases c3 : mr_isw n0 g k s n 4
        · rw [mr_if_pos c3] at ht
          cases ht
          omega
        · rw [mr_if_neg c3] at ht; cases ht
      · first | cases ht | (rw [if_neg h4] at ht; cases ht)
theorem mr_rt_ir {n0 : Int} {g : Nat → Int} (hn0 : 0 ≤ n0 ∧ n0 ≤ 540) : ∀ (m : Nat) (n op ln md : Int) (f : Nat → Int) (sl sl' : Int) (nm nm' : Nat → Int) (v v' : Int), (0 ≤ n ∧ n ≤ n0) → mr_Iv op sl ln md f nm v n → (op = 0 ∨ (sl = sl' ∧ nm = nm')) → (op = 4 → mr_due op f + 2 ≤ sl → v = v') → mr_rt n0 g m n op sl ln md f nm v = mr_rt n0 g m n op sl' ln md f nm' v'
  | 0, n, op, ln, md, f, sl, sl', nm, nm', v, v', hn, hI, h, hv => rfl
  | m + 1, n, op, ln, md, f, sl, sl', nm, nm', v, v', hn, hI, h, hv => by
    unfold mr_rt
    split
    · rfl
    · obtain ⟨b1, b2, b3, b4, b5, b6⟩ := mr_tk_bd (g := g) hn0 hn
      have e1 := mr_tt_ir (n0 := n0) (g := g) (ln := ln) (md := md) (f := f) (k := mr_tK n0 g n) (s := mr_tS n0 g n) (n := mr_tX n0 g n) (v := if mr_tK n0 g n = 3 then mr_tV n0 g n else v) (v' := if mr_tK n0 g n = 3 then mr_tV n0 g n else v') h (fun z => by rw [if_pos z, if_pos z])
      rw [← e1]
      have hvb : 0 ≤ (if mr_tK n0 g n = 3 then mr_tV n0 g n else v) ∧ (if mr_tK n0 g n = 3 then mr_tV n0 g n else v) ≤ 99 := by
        split
        · rename_i h3; exact b5 h3
        · exact hI.2.2.2.2.2.2.1
      generalize ht : mr_tt n0 g op sl ln md f nm (if mr_tK n0 g n = 3 then mr_tV n0 g n else v) (mr_tK n0 g n) (mr_tS n0 g n) (mr_tX n0 g n) = r
      cases r with
      | inl e => rfl
      | inr q =>
        obtain ⟨op1, sl1, nm1⟩ := q
        have hIv := mr_Iv_tt hI b3.1 hvb (fun z => by rw [if_neg z]) ht
        show (if mr_tK n0 g n = 4 then _ else _) = (if mr_tK n0 g n = 4 then _ else _)
        by_cases c4 : mr_tK n0 g n = 4
        · rw [if_pos c4, if_pos c4]
          have hk3 : mr_tK n0 g n ≠ 3 := by omega
          rw [if_neg hk3, if_neg hk3]
          obtain ⟨i1, i2, i3, i4, i5, i6⟩ := hIv.2 c4
          subst i1
          have ef : mr_fin op1 md f nm1 v = mr_fin op1 md f nm1 v' := by
            unfold mr_fin
            have h5 := hI.2.2.1
            by_cases c1 : op1 = 1
            · rw [if_pos c1, if_pos c1]
            · rw [if_neg c1, if_neg c1]
              by_cases c2 : op1 = 2
              · rw [if_pos c2, if_pos c2]
              · rw [if_neg c2, if_neg c2]
                by_cases c3 : op1 = 3
                · rw [if_pos c3, if_pos c3]
                · rw [if_neg c3, if_neg c3]
                  have c5 : op1 = 4 := by omega
                  rw [hv c5 (i6 c5)]
          rw [ef]
          subst i3
          have hIf := mr_Iv_fin (v := v) (n := n) (x := mr_tX n0 g n) hI (b4 (by omega)) i2 i5 i6
          rw [ef] at hIf
          subst i4
          exact mr_rt_ir hn0 m _ 0 _ _ _ _ _ _ _ _ _ (by omega) hIf (Or.inl rfl) (fun z => absurd z (by decide))
        · rw [if_neg c4, if_neg c4]
          refine mr_rt_ir hn0 m _ _ _ _ _ _ _ _ _ _ _ (by omega) (hIv.1 c4) (Or.inr ⟨rfl, rfl⟩) (fun z z' => ?_)
          by_cases c3 : mr_tK n0 g n = 3
          · rw [if_pos c3, if_pos c3]
          · subst z
            have hdu := mr_due_bd hI.1 4
            have := mr_tt_is hdu.1 c3 c4 ht
            omega
/-- what a TEXT is: a fault and its place, or a book and how many lines -/
noncomputable def mr_ps (n0 : Int) (g : Nat → Int) : (Int × Int) ⊕ ((Nat → Int) × Int) := mr_rt n0 g 541 0 0 0 0 0 (fun _ => 0) (fun _ => 0) 0
theorem mr_ps_eq {n0 : Int} {g : Nat → Int} (hn0 : 0 ≤ n0 ∧ n0 ≤ 540) {sl v : Int} {nm : Nat → Int} (hnm : mr_Rd nm) (hsl : 0 ≤ sl ∧ sl ≤ 20) (hv : 0 ≤ v ∧ v ≤ 99) : mr_rt n0 g 541 0 0 sl 0 0 (fun _ => 0) nm v = mr_ps n0 g :=
  mr_rt_ir hn0 541 0 0 0 0 _ sl 0 nm _ v 0 ⟨Int.le_refl 0, hn0.1⟩ ⟨⟨fun j => ⟨Int.le_refl 0, by show (0 : Int) ≤ 30; decide⟩, by show (0 : Int) ≤ 3; decide, by show (0 : Int) ≤ 3; decide⟩, hnm, by decide, hsl, by decide, by decide, hv, fun _ => by decide, fun z => absurd z (by decide), fun z => absurd z (by decide), fun z => absurd z (by decide), fun z => absurd rfl z, fun z => absurd z (by decide), fun z => absurd z (by decide)⟩ (Or.inl rfl) (fun z => absurd z (by decide))
def mr_TXt (w : mr_Wd) (Po : Option mr_AV → mr_Wd → Prop) (n0 : Int) (g f : Nat → Int) (nx ct : Int) (S I : Nat → Nat → Int) (im : Nat → Int) (r : (Int × Int) ⊕ ((Nat → Int) × Int)) : Prop := match r with
  | .inl e => ∀ w' : mr_Wd, mr_XS w' (0, g, f, nx, ct, S, I, im, e.1) → mr_Fr w w' →  Po (some (vI (-1 - e.2))) w'
  | .inr q => ∀ w' : mr_Wd, mr_XS w' (0, g, q.1, nx, 0, S, I, im, 0) → mr_Fr w w' →  Po (some (vI q.2)) w'
def T_X6_text (a : List mr_AV) (w : mr_Wd) (Po : Option mr_AV → mr_Wd → Prop) : Prop := ∃ (n0 nx ct fk : Int) (g f im : Nat → Int) (S I : Nat → Nat → Int), a = [vR 0 0] ∧ mr_XS w (n0, g, f, nx, ct, S, I, im, fk) ∧ mr_TXt w Po n0 g f nx ct S I im (mr_ps n0 g)
set_option maxHeartbeats 4000000 in
set_option maxRecDepth 20000 in
theorem ok_X6_text (l : Launch) (G : mr_G) : mr_Ok l G yX6_text cX6_text 2 (some .int) 8 169 T_X6_text := by
  refine mr_Ok.of (by decide +kernel) ?_
  rintro a w Po ⟨n0, nx, ct, fk, g, f, im, S, I, rfl, hX, hP⟩
  refine ⟨Nat.le_of_ble_eq_true rfl, ?_⟩
  show mr_J l G RX6 cX6_text 2 (some .int) 8 169 Po 0 [some (vR 0 0), none] [] w
  obtain ⟨⟨sd, h0⟩, h1, h2, h3, h4, h5, h6, h7, ⟨m0, cl0, ct0, R0, F0, hS⟩, ⟨rv, rk, rs, rn, ro, rl_, rln, rmd, ra, rb, h11, hrv, hrs⟩, h12, ⟨f13, h13⟩, ⟨nm, h14, hnm⟩, h15, h16, ⟨r17, h17⟩, hn0, hB, hnx, hct, hSB, hIB, him, hfk⟩ := id hX
  rw [← mr_ps_eq hn0 hnm hrs hrv] at hP
  refine mr_aload_n dX6_text_0 rfl ?_
  refine mr_get dX6_text_1 fl_X6_42 h0 rfl ?_
  refine mr_callV (as := []) dX6_text_4 (ok_X2_readText l G) ml_X6_74 cl_X2_readText cv_X2_readText (by decide) rfl rfl (Nat.le_of_ble_eq_true rfl) h11 ?_
  refine ⟨_, _, _, _, _, _, _, _, _, _, n0, g, f13, nm, rfl, h11, ⟨h1, h2⟩, ⟨h12, h13⟩, h14, h7, ⟨m0, cl0, ct0, R0, F0, hS⟩, hn0, hrv, hnm, hrs, ?_⟩
  generalize hr : mr_rt n0 g 541 0 0 rl_ 0 0 (fun _ => 0) nm rv = r at hP ⊢
  cases r with
  | inl e =>
    intro v k s n op sl ln md f' nm' m cl ct' R F gv gs ge gn
    have hP' : ∀ w' : mr_Wd, mr_XS w' (0, g, f, nx, ct, S, I, im, e.1) → mr_Fr w w' →  Po (some (vI (-1 - e.2))) w' := hP
    dsimp only [Option.toList_some, Option.toList_none, List.cons_append, List.nil_append]
    have hXW : mr_XS (mr_wR w f' nm' (eRD v k s n op sl ln md e.1 e.2) m cl ct' R F) (n0, g, f, nx, ct, S, I, im, fk) := ⟨⟨sd, (mr_wR_ne _ _ _ _ _ _ _ _ _ (by decide)).trans h0⟩, (mr_wR_ne _ _ _ _ _ _ _ _ _ (by decide)).trans h1, (mr_wR_ne _ _ _ _ _ _ _ _ _ (by decide)).trans h2, (mr_wR_ne _ _ _ _ _ _ _ _ _ (by decide)).trans h3, (mr_wR_ne _ _ _ _ _ _ _ _ _ (by decide)).trans h4, (mr_wR_ne _ _ _ _ _ _ _ _ _ (by decide)).trans h5, (mr_wR_ne _ _ _ _ _ _ _ _ _ (by decide)).trans h6, (mr_wR_ne _ _ _ _ _ _ _ _ _ (by decide)).trans h7, ⟨_, _, _, _, _, rfl, rfl, rfl⟩, ⟨_, _, _, _, _, _, _, _, _, _, rfl, gv, gs⟩, (mr_wR_ne _ _ _ _ _ _ _ _ _ (by decide)).trans h12, ⟨_, rfl⟩, ⟨_, rfl, gn⟩, (mr_wR_ne _ _ _ _ _ _ _ _ _ (by decide)).trans h15, (mr_wR_ne _ _ _ _ _ _ _ _ _ (by decide)).trans h16, ⟨r17, (mr_wR_ne _ _ _ _ _ _ _ _ _ (by decide)).trans h17⟩, hn0, hB, hnx, hct, hSB, hIB, him, hfk⟩
    have q11 : (mr_wR w f' nm' (eRD v k s n op sl ln md e.1 e.2) m cl ct' R F) 11 = (eRD v k s n op sl ln md e.1 e.2) := mr_wR_11 _ _ _ _ _ _ _ _ _
    have q13 : (mr_wR w f' nm' (eRD v k s n op sl ln md e.1 e.2) m cl ct' R F) 13 = eA 0 51 f' := mr_wR_13 _ _ _ _ _ _ _ _ _
    have hFW : mr_Fr w (mr_wR w f' nm' (eRD v k s n op sl ln md e.1 e.2) m cl ct' R F) := (mr_Fr.rf w).R _ _ _ _ _ _ _ _
    generalize (mr_wR w f' nm' (eRD v k s n op sl ln md e.1 e.2) m cl ct' R F) = W at hXW q11 q13 hFW ⊢
    clear h0 h1 h2 h3 h4 h5 h6 h7 hS h11 h12 h13 h14 h15 h16 h17
    obtain ⟨⟨sd, h0⟩, h1, h2, h3, h4, h5, h6, h7, ⟨m0, cl0, ct0, R0, F0, hS⟩, ⟨rv, rk, rs, rn, ro, rl_, rln, rmd, ra, rb, h11, hrv, hrs⟩, h12, ⟨f13, h13⟩, ⟨nm, h14, hnm⟩, h15, h16, ⟨r17, h17⟩, hn0, hB, hnx, hct, hSB, hIB, him, hfk⟩ := id hXW
    clear h11 h13
    refine mr_istore_n dX6_text_7 rfl (by decide) ?_
    refine mr_aload_n dX6_text_8 rfl ?_
    refine mr_get dX6_text_9 fl_X6_10 (by first | assumption | exact mr_up_same _ _ _ | (refine mr_lk ?_ (by decide); first | assumption | exact mr_up_same _ _ _ | (refine mr_lk ?_ (by decide); first | assumption | exact mr_up_same _ _ _ | (refine mr_lk ?_ (by decide); first | assumption | exact mr_up_same _ _ _ | (refine mr_lk ?_ (by decide); first | assumption | exact mr_up_same _ _ _ | (refine mr_lk ?_ (by decide); first | assumption | exact mr_up_same _ _ _)))))) rfl ?_
    refine mr_iconst dX6_text_12 ?_
    refine mr_callV (as := [_]) dX6_text_13 (ok_X5_cut l G) ml_X6_71 cl_X5_cut cv_X5_cut (by decide) rfl rfl (Nat.le_of_ble_eq_true rfl) (by first | assumption | exact mr_up_same _ _ _ | (refine mr_lk ?_ (by decide); first | assumption | exact mr_up_same _ _ _ | (refine mr_lk ?_ (by decide); first | assumption | exact mr_up_same _ _ _ | (refine mr_lk ?_ (by decide); first | assumption | exact mr_up_same _ _ _ | (refine mr_lk ?_ (by decide); first | assumption | exact mr_up_same _ _ _ | (refine mr_lk ?_ (by decide); first | assumption | exact mr_up_same _ _ _)))))) ?_
    refine ⟨_, 0, _, rfl, ⟨h1, h2⟩, hn0, (by decide), (fun _ => ?_), (fun z => absurd ⟨Int.le_refl 0, hn0.1⟩ z)⟩
    dsimp only [Option.toList_some, Option.toList_none, List.cons_append, List.nil_append]
    refine mr_pop dX6_text_16 rfl ?_
    refine mr_aload_n dX6_text_17 rfl ?_
    refine mr_aload_n dX6_text_18 rfl ?_
    refine mr_get dX6_text_19 fl_X6_42 (by first | assumption | exact mr_up_same _ _ _ | (refine mr_lk ?_ (by decide); first | assumption | exact mr_up_same _ _ _ | (refine mr_lk ?_ (by decide); first | assumption | exact mr_up_same _ _ _ | (refine mr_lk ?_ (by decide); first | assumption | exact mr_up_same _ _ _ | (refine mr_lk ?_ (by decide); first | assumption | exact mr_up_same _ _ _ | (refine mr_lk ?_ (by decide); first | assumption | exact mr_up_same _ _ _)))))) rfl ?_
    refine mr_callV (as := []) dX6_text_22 (ok_X2_faultKind l G) ml_X6_78 cl_X2_faultKind cv_X2_faultKind (by decide) rfl rfl (Nat.le_of_ble_eq_true rfl) (by first | assumption | exact mr_up_same _ _ _ | (refine mr_lk ?_ (by decide); first | assumption | exact mr_up_same _ _ _ | (refine mr_lk ?_ (by decide); first | assumption | exact mr_up_same _ _ _ | (refine mr_lk ?_ (by decide); first | assumption | exact mr_up_same _ _ _ | (refine mr_lk ?_ (by decide); first | assumption | exact mr_up_same _ _ _ | (refine mr_lk ?_ (by decide); first | assumption | exact mr_up_same _ _ _)))))) ?_
    refine ⟨_, _, _, _, _, _, _, _, _, _, rfl, (by first | assumption | exact mr_up_same _ _ _ | (refine mr_lk ?_ (by decide); first | assumption | exact mr_up_same _ _ _ | (refine mr_lk ?_ (by decide); first | assumption | exact mr_up_same _ _ _ | (refine mr_lk ?_ (by decide); first | assumption | exact mr_up_same _ _ _ | (refine mr_lk ?_ (by decide); first | assumption | exact mr_up_same _ _ _ | (refine mr_lk ?_ (by decide); first | assumption | exact mr_up_same _ _ _)))))), ?_⟩
    dsimp only [Option.toList_some, Option.toList_none, List.cons_append, List.nil_append]
    refine mr_put dX6_text_25 fl_X6_81 pf_X6_8 rfl rfl (by first | assumption | exact mr_up_same _ _ _ | (refine mr_lk ?_ (by decide); first | assumption | exact mr_up_same _ _ _ | (refine mr_lk ?_ (by decide); first | assumption | exact mr_up_same _ _ _ | (refine mr_lk ?_ (by decide); first | assumption | exact mr_up_same _ _ _ | (refine mr_lk ?_ (by decide); first | assumption | exact mr_up_same _ _ _ | (refine mr_lk ?_ (by decide); first | assumption | exact mr_up_same _ _ _)))))) (Nat.le_of_ble_eq_true rfl) ?_
    refine mr_iload_n dX6_text_28 rfl ?_
    refine mr_if_ne (tgt := 42) dX6_text_29 (by decide) (by omega) (fun h => absurd h (by decide)) (fun _ => ?_)
    refine mr_iconst dX6_text_32 ?_
    refine mr_aload_n dX6_text_33 rfl ?_
    refine mr_get dX6_text_34 fl_X6_42 (by first | assumption | exact mr_up_same _ _ _ | (refine mr_lk ?_ (by decide); first | assumption | exact mr_up_same _ _ _ | (refine mr_lk ?_ (by decide); first | assumption | exact mr_up_same _ _ _ | (refine mr_lk ?_ (by decide); first | assumption | exact mr_up_same _ _ _ | (refine mr_lk ?_ (by decide); first | assumption | exact mr_up_same _ _ _ | (refine mr_lk ?_ (by decide); first | assumption | exact mr_up_same _ _ _)))))) rfl ?_
    refine mr_callV (as := []) dX6_text_37 (ok_X2_faultPlace l G) ml_X6_84 cl_X2_faultPlace cv_X2_faultPlace (by decide) rfl rfl (Nat.le_of_ble_eq_true rfl) (by first | assumption | exact mr_up_same _ _ _ | (refine mr_lk ?_ (by decide); first | assumption | exact mr_up_same _ _ _ | (refine mr_lk ?_ (by decide); first | assumption | exact mr_up_same _ _ _ | (refine mr_lk ?_ (by decide); first | assumption | exact mr_up_same _ _ _ | (refine mr_lk ?_ (by decide); first | assumption | exact mr_up_same _ _ _ | (refine mr_lk ?_ (by decide); first | assumption | exact mr_up_same _ _ _)))))) ?_
    refine ⟨_, _, _, _, _, _, _, _, _, _, rfl, (by first | assumption | exact mr_up_same _ _ _ | (refine mr_lk ?_ (by decide); first | assumption | exact mr_up_same _ _ _ | (refine mr_lk ?_ (by decide); first | assumption | exact mr_up_same _ _ _ | (refine mr_lk ?_ (by decide); first | assumption | exact mr_up_same _ _ _ | (refine mr_lk ?_ (by decide); first | assumption | exact mr_up_same _ _ _ | (refine mr_lk ?_ (by decide); first | assumption | exact mr_up_same _ _ _)))))), ?_⟩
    dsimp only [Option.toList_some, Option.toList_none, List.cons_append, List.nil_append]
    refine mr_isub dX6_text_40 ?_
    refine mr_iret rfl dX6_text_41 ?_
    refine hP' (mr_up (mr_up W 1 (eO 5 [vR 2 0, vI 0])) 0 (eX0 e.1 sd)) ⟨⟨sd, rfl⟩, rfl, h2, h3, h4, h5, h6, h7, ⟨m0, cl0, ct0, R0, F0, hS⟩, ⟨_, _, _, _, _, _, _, _, _, _, q11, gv, gs⟩, h12, ⟨_, q13⟩, ⟨nm, h14, hnm⟩, h15, h16, ⟨r17, h17⟩, (by decide), hB, hnx, hct, hSB, hIB, him, (by omega)⟩ ((hFW.up _ (by decide)).up _ (by decide))
  | inr q =>
    intro v k s n op sl md fp nm' m cl ct' R F gv gs ge gn
    have hP' : ∀ w' : mr_Wd, mr_XS w' (0, g, q.1, nx, 0, S, I, im, 0) → mr_Fr w w' →  Po (some (vI q.2)) w' := hP
    dsimp only [Option.toList_some, Option.toList_none, List.cons_append, List.nil_append]
    have hXW : mr_XS (mr_wR w q.1 nm' (eRD v k s n op sl q.2 md 0 fp) m cl ct' R F) (n0, g, f, nx, ct, S, I, im, fk) := ⟨⟨sd, (mr_wR_ne _ _ _ _ _ _ _ _ _ (by decide)).trans h0⟩, (mr_wR_ne _ _ _ _ _ _ _ _ _ (by decide)).trans h1, (mr_wR_ne _ _ _ _ _ _ _ _ _ (by decide)).trans h2, (mr_wR_ne _ _ _ _ _ _ _ _ _ (by decide)).trans h3, (mr_wR_ne _ _ _ _ _ _ _ _ _ (by decide)).trans h4, (mr_wR_ne _ _ _ _ _ _ _ _ _ (by decide)).trans h5, (mr_wR_ne _ _ _ _ _ _ _ _ _ (by decide)).trans h6, (mr_wR_ne _ _ _ _ _ _ _ _ _ (by decide)).trans h7, ⟨_, _, _, _, _, rfl, rfl, rfl⟩, ⟨_, _, _, _, _, _, _, _, _, _, rfl, gv, gs⟩, (mr_wR_ne _ _ _ _ _ _ _ _ _ (by decide)).trans h12, ⟨_, rfl⟩, ⟨_, rfl, gn⟩, (mr_wR_ne _ _ _ _ _ _ _ _ _ (by decide)).trans h15, (mr_wR_ne _ _ _ _ _ _ _ _ _ (by decide)).trans h16, ⟨r17, (mr_wR_ne _ _ _ _ _ _ _ _ _ (by decide)).trans h17⟩, hn0, hB, hnx, hct, hSB, hIB, him, hfk⟩
    have q11 : (mr_wR w q.1 nm' (eRD v k s n op sl q.2 md 0 fp) m cl ct' R F) 11 = (eRD v k s n op sl q.2 md 0 fp) := mr_wR_11 _ _ _ _ _ _ _ _ _
    have q13 : (mr_wR w q.1 nm' (eRD v k s n op sl q.2 md 0 fp) m cl ct' R F) 13 = eA 0 51 q.1 := mr_wR_13 _ _ _ _ _ _ _ _ _
    have hFW : mr_Fr w (mr_wR w q.1 nm' (eRD v k s n op sl q.2 md 0 fp) m cl ct' R F) := (mr_Fr.rf w).R _ _ _ _ _ _ _ _
    generalize (mr_wR w q.1 nm' (eRD v k s n op sl q.2 md 0 fp) m cl ct' R F) = W at hXW q11 q13 hFW ⊢
    clear h0 h1 h2 h3 h4 h5 h6 h7 hS h11 h12 h13 h14 h15 h16 h17
    obtain ⟨⟨sd, h0⟩, h1, h2, h3, h4, h5, h6, h7, ⟨m0, cl0, ct0, R0, F0, hS⟩, ⟨rv, rk, rs, rn, ro, rl_, rln, rmd, ra, rb, h11, hrv, hrs⟩, h12, ⟨f13, h13⟩, ⟨nm, h14, hnm⟩, h15, h16, ⟨r17, h17⟩, hn0, hB, hnx, hct, hSB, hIB, him, hfk⟩ := id hXW
    clear h11 h13
    refine mr_istore_n dX6_text_7 rfl (by decide) ?_
    refine mr_aload_n dX6_text_8 rfl ?_
    refine mr_get dX6_text_9 fl_X6_10 (by first | assumption | exact mr_up_same _ _ _ | (refine mr_lk ?_ (by decide); first | assumption | exact mr_up_same _ _ _ | (refine mr_lk ?_ (by decide); first | assumption | exact mr_up_same _ _ _ | (refine mr_lk ?_ (by decide); first | assumption | exact mr_up_same _ _ _ | (refine mr_lk ?_ (by decide); first | assumption | exact mr_up_same _ _ _ | (refine mr_lk ?_ (by decide); first | assumption | exact mr_up_same _ _ _)))))) rfl ?_
    refine mr_iconst dX6_text_12 ?_
    refine mr_callV (as := [_]) dX6_text_13 (ok_X5_cut l G) ml_X6_71 cl_X5_cut cv_X5_cut (by decide) rfl rfl (Nat.le_of_ble_eq_true rfl) (by first | assumption | exact mr_up_same _ _ _ | (refine mr_lk ?_ (by decide); first | assumption | exact mr_up_same _ _ _ | (refine mr_lk ?_ (by decide); first | assumption | exact mr_up_same _ _ _ | (refine mr_lk ?_ (by decide); first | assumption | exact mr_up_same _ _ _ | (refine mr_lk ?_ (by decide); first | assumption | exact mr_up_same _ _ _ | (refine mr_lk ?_ (by decide); first | assumption | exact mr_up_same _ _ _)))))) ?_
    refine ⟨_, 0, _, rfl, ⟨h1, h2⟩, hn0, (by decide), (fun _ => ?_), (fun z => absurd ⟨Int.le_refl 0, hn0.1⟩ z)⟩
    dsimp only [Option.toList_some, Option.toList_none, List.cons_append, List.nil_append]
    refine mr_pop dX6_text_16 rfl ?_
    refine mr_aload_n dX6_text_17 rfl ?_
    refine mr_aload_n dX6_text_18 rfl ?_
    refine mr_get dX6_text_19 fl_X6_42 (by first | assumption | exact mr_up_same _ _ _ | (refine mr_lk ?_ (by decide); first | assumption | exact mr_up_same _ _ _ | (refine mr_lk ?_ (by decide); first | assumption | exact mr_up_same _ _ _ | (refine mr_lk ?_ (by decide); first | assumption | exact mr_up_same _ _ _ | (refine mr_lk ?_ (by decide); first | assumption | exact mr_up_same _ _ _ | (refine mr_lk ?_ (by decide); first | assumption | exact mr_up_same _ _ _)))))) rfl ?_
    refine mr_callV (as := []) dX6_text_22 (ok_X2_faultKind l G) ml_X6_78 cl_X2_faultKind cv_X2_faultKind (by decide) rfl rfl (Nat.le_of_ble_eq_true rfl) (by first | assumption | exact mr_up_same _ _ _ | (refine mr_lk ?_ (by decide); first | assumption | exact mr_up_same _ _ _ | (refine mr_lk ?_ (by decide); first | assumption | exact mr_up_same _ _ _ | (refine mr_lk ?_ (by decide); first | assumption | exact mr_up_same _ _ _ | (refine mr_lk ?_ (by decide); first | assumption | exact mr_up_same _ _ _ | (refine mr_lk ?_ (by decide); first | assumption | exact mr_up_same _ _ _)))))) ?_
    refine ⟨_, _, _, _, _, _, _, _, _, _, rfl, (by first | assumption | exact mr_up_same _ _ _ | (refine mr_lk ?_ (by decide); first | assumption | exact mr_up_same _ _ _ | (refine mr_lk ?_ (by decide); first | assumption | exact mr_up_same _ _ _ | (refine mr_lk ?_ (by decide); first | assumption | exact mr_up_same _ _ _ | (refine mr_lk ?_ (by decide); first | assumption | exact mr_up_same _ _ _ | (refine mr_lk ?_ (by decide); first | assumption | exact mr_up_same _ _ _)))))), ?_⟩
    dsimp only [Option.toList_some, Option.toList_none, List.cons_append, List.nil_append]
    refine mr_put dX6_text_25 fl_X6_81 pf_X6_8 rfl rfl (by first | assumption | exact mr_up_same _ _ _ | (refine mr_lk ?_ (by decide); first | assumption | exact mr_up_same _ _ _ | (refine mr_lk ?_ (by decide); first | assumption | exact mr_up_same _ _ _ | (refine mr_lk ?_ (by decide); first | assumption | exact mr_up_same _ _ _ | (refine mr_lk ?_ (by decide); first | assumption | exact mr_up_same _ _ _ | (refine mr_lk ?_ (by decide); first | assumption | exact mr_up_same _ _ _)))))) (Nat.le_of_ble_eq_true rfl) ?_
    refine mr_iload_n dX6_text_28 rfl ?_
    refine mr_if_ne (tgt := 42) dX6_text_29 (by decide) (by omega) (fun _ => ?_) (fun h => absurd h (by decide))
    refine mr_aload_n dX6_text_42 rfl ?_
    refine mr_get dX6_text_43 fl_X6_42 (by first | assumption | exact mr_up_same _ _ _ | (refine mr_lk ?_ (by decide); first | assumption | exact mr_up_same _ _ _ | (refine mr_lk ?_ (by decide); first | assumption | exact mr_up_same _ _ _ | (refine mr_lk ?_ (by decide); first | assumption | exact mr_up_same _ _ _ | (refine mr_lk ?_ (by decide); first | assumption | exact mr_up_same _ _ _ | (refine mr_lk ?_ (by decide); first | assumption | exact mr_up_same _ _ _)))))) rfl ?_
    refine mr_aload_n dX6_text_46 rfl ?_
    refine mr_get dX6_text_47 fl_X6_19 (by first | assumption | exact mr_up_same _ _ _ | (refine mr_lk ?_ (by decide); first | assumption | exact mr_up_same _ _ _ | (refine mr_lk ?_ (by decide); first | assumption | exact mr_up_same _ _ _ | (refine mr_lk ?_ (by decide); first | assumption | exact mr_up_same _ _ _ | (refine mr_lk ?_ (by decide); first | assumption | exact mr_up_same _ _ _ | (refine mr_lk ?_ (by decide); first | assumption | exact mr_up_same _ _ _)))))) rfl ?_
    refine mr_callV (as := [_]) dX6_text_50 (ok_X2_giveTo l G) ml_X6_87 cl_X2_giveTo cv_X2_giveTo (by decide) rfl rfl (Nat.le_of_ble_eq_true rfl) (by first | assumption | exact mr_up_same _ _ _ | (refine mr_lk ?_ (by decide); first | assumption | exact mr_up_same _ _ _ | (refine mr_lk ?_ (by decide); first | assumption | exact mr_up_same _ _ _ | (refine mr_lk ?_ (by decide); first | assumption | exact mr_up_same _ _ _ | (refine mr_lk ?_ (by decide); first | assumption | exact mr_up_same _ _ _ | (refine mr_lk ?_ (by decide); first | assumption | exact mr_up_same _ _ _)))))) ?_
    refine ⟨_, _, _, _, _, _, _, _, _, _, _, _, rfl, (by first | assumption | exact mr_up_same _ _ _ | (refine mr_lk ?_ (by decide); first | assumption | exact mr_up_same _ _ _ | (refine mr_lk ?_ (by decide); first | assumption | exact mr_up_same _ _ _ | (refine mr_lk ?_ (by decide); first | assumption | exact mr_up_same _ _ _ | (refine mr_lk ?_ (by decide); first | assumption | exact mr_up_same _ _ _ | (refine mr_lk ?_ (by decide); first | assumption | exact mr_up_same _ _ _)))))), ⟨(by first | assumption | exact mr_up_same _ _ _ | (refine mr_lk ?_ (by decide); first | assumption | exact mr_up_same _ _ _ | (refine mr_lk ?_ (by decide); first | assumption | exact mr_up_same _ _ _ | (refine mr_lk ?_ (by decide); first | assumption | exact mr_up_same _ _ _ | (refine mr_lk ?_ (by decide); first | assumption | exact mr_up_same _ _ _ | (refine mr_lk ?_ (by decide); first | assumption | exact mr_up_same _ _ _)))))), (by first | assumption | exact mr_up_same _ _ _ | (refine mr_lk ?_ (by decide); first | assumption | exact mr_up_same _ _ _ | (refine mr_lk ?_ (by decide); first | assumption | exact mr_up_same _ _ _ | (refine mr_lk ?_ (by decide); first | assumption | exact mr_up_same _ _ _ | (refine mr_lk ?_ (by decide); first | assumption | exact mr_up_same _ _ _ | (refine mr_lk ?_ (by decide); first | assumption | exact mr_up_same _ _ _))))))⟩, ⟨(by first | assumption | exact mr_up_same _ _ _ | (refine mr_lk ?_ (by decide); first | assumption | exact mr_up_same _ _ _ | (refine mr_lk ?_ (by decide); first | assumption | exact mr_up_same _ _ _ | (refine mr_lk ?_ (by decide); first | assumption | exact mr_up_same _ _ _ | (refine mr_lk ?_ (by decide); first | assumption | exact mr_up_same _ _ _ | (refine mr_lk ?_ (by decide); first | assumption | exact mr_up_same _ _ _)))))), (by first | assumption | exact mr_up_same _ _ _ | (refine mr_lk ?_ (by decide); first | assumption | exact mr_up_same _ _ _ | (refine mr_lk ?_ (by decide); first | assumption | exact mr_up_same _ _ _ | (refine mr_lk ?_ (by decide); first | assumption | exact mr_up_same _ _ _ | (refine mr_lk ?_ (by decide); first | assumption | exact mr_up_same _ _ _ | (refine mr_lk ?_ (by decide); first | assumption | exact mr_up_same _ _ _))))))⟩, ?_⟩
    dsimp only [Option.toList_some, Option.toList_none, List.cons_append, List.nil_append]
    refine mr_aload_n dX6_text_53 rfl ?_
    refine mr_get dX6_text_54 fl_X6_26 (by first | assumption | exact mr_up_same _ _ _ | (refine mr_lk ?_ (by decide); first | assumption | exact mr_up_same _ _ _ | (refine mr_lk ?_ (by decide); first | assumption | exact mr_up_same _ _ _ | (refine mr_lk ?_ (by decide); first | assumption | exact mr_up_same _ _ _ | (refine mr_lk ?_ (by decide); first | assumption | exact mr_up_same _ _ _ | (refine mr_lk ?_ (by decide); first | assumption | exact mr_up_same _ _ _)))))) rfl ?_
    refine mr_callV (as := []) dX6_text_57 (ok_X1_forget l G) ml_X6_91 cl_X1_forget cv_X1_forget (by decide) rfl rfl (Nat.le_of_ble_eq_true rfl) (by first | assumption | exact mr_up_same _ _ _ | (refine mr_lk ?_ (by decide); first | assumption | exact mr_up_same _ _ _ | (refine mr_lk ?_ (by decide); first | assumption | exact mr_up_same _ _ _ | (refine mr_lk ?_ (by decide); first | assumption | exact mr_up_same _ _ _ | (refine mr_lk ?_ (by decide); first | assumption | exact mr_up_same _ _ _ | (refine mr_lk ?_ (by decide); first | assumption | exact mr_up_same _ _ _)))))) ?_
    refine ⟨_, _, _, rfl, ⟨(by first | assumption | exact mr_up_same _ _ _ | (refine mr_lk ?_ (by decide); first | assumption | exact mr_up_same _ _ _ | (refine mr_lk ?_ (by decide); first | assumption | exact mr_up_same _ _ _ | (refine mr_lk ?_ (by decide); first | assumption | exact mr_up_same _ _ _ | (refine mr_lk ?_ (by decide); first | assumption | exact mr_up_same _ _ _ | (refine mr_lk ?_ (by decide); first | assumption | exact mr_up_same _ _ _)))))), (by first | assumption | exact mr_up_same _ _ _ | (refine mr_lk ?_ (by decide); first | assumption | exact mr_up_same _ _ _ | (refine mr_lk ?_ (by decide); first | assumption | exact mr_up_same _ _ _ | (refine mr_lk ?_ (by decide); first | assumption | exact mr_up_same _ _ _ | (refine mr_lk ?_ (by decide); first | assumption | exact mr_up_same _ _ _ | (refine mr_lk ?_ (by decide); first | assumption | exact mr_up_same _ _ _))))))⟩, ?_⟩
    dsimp only [Option.toList_some, Option.toList_none, List.cons_append, List.nil_append]
    refine mr_aload_n dX6_text_60 rfl ?_
    refine mr_get dX6_text_61 fl_X6_42 (by first | assumption | exact mr_up_same _ _ _ | (refine mr_lk ?_ (by decide); first | assumption | exact mr_up_same _ _ _ | (refine mr_lk ?_ (by decide); first | assumption | exact mr_up_same _ _ _ | (refine mr_lk ?_ (by decide); first | assumption | exact mr_up_same _ _ _ | (refine mr_lk ?_ (by decide); first | assumption | exact mr_up_same _ _ _ | (refine mr_lk ?_ (by decide); first | assumption | exact mr_up_same _ _ _)))))) rfl ?_
    refine mr_callV (as := []) dX6_text_64 (ok_X2_lineCount l G) ml_X6_94 cl_X2_lineCount cv_X2_lineCount (by decide) rfl rfl (Nat.le_of_ble_eq_true rfl) (by first | assumption | exact mr_up_same _ _ _ | (refine mr_lk ?_ (by decide); first | assumption | exact mr_up_same _ _ _ | (refine mr_lk ?_ (by decide); first | assumption | exact mr_up_same _ _ _ | (refine mr_lk ?_ (by decide); first | assumption | exact mr_up_same _ _ _ | (refine mr_lk ?_ (by decide); first | assumption | exact mr_up_same _ _ _ | (refine mr_lk ?_ (by decide); first | assumption | exact mr_up_same _ _ _)))))) ?_
    refine ⟨_, _, _, _, _, _, _, _, _, _, rfl, (by first | assumption | exact mr_up_same _ _ _ | (refine mr_lk ?_ (by decide); first | assumption | exact mr_up_same _ _ _ | (refine mr_lk ?_ (by decide); first | assumption | exact mr_up_same _ _ _ | (refine mr_lk ?_ (by decide); first | assumption | exact mr_up_same _ _ _ | (refine mr_lk ?_ (by decide); first | assumption | exact mr_up_same _ _ _ | (refine mr_lk ?_ (by decide); first | assumption | exact mr_up_same _ _ _)))))), ?_⟩
    dsimp only [Option.toList_some, Option.toList_none, List.cons_append, List.nil_append]
    refine mr_iret rfl dX6_text_67 ?_
    refine hP' (mr_up (mr_up (mr_up (mr_up W 1 (eO 5 [vR 2 0, vI 0])) 0 (eX0 0 sd)) 4 (eA 0 51 q.1)) 5 (eO 1 [vR 6 0, vI nx, vI 0])) ⟨⟨sd, rfl⟩, rfl, h2, h3, rfl, rfl, h6, h7, ⟨m0, cl0, ct0, R0, F0, hS⟩, ⟨_, _, _, _, _, _, _, _, _, _, q11, gv, gs⟩, h12, ⟨_, q13⟩, ⟨nm, h14, hnm⟩, h15, h16, ⟨r17, h17⟩, (by decide), ge, hnx, (by decide), hSB, hIB, him, (by decide)⟩ ((((hFW.up _ (by decide)).up _ (by decide)).up _ (by decide)).up _ (by decide))
