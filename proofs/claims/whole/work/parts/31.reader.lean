/-! THE READER (11), its told book (12, 13), its numbers (14). -/
abbrev eRD (v k s n op sl ln md fk fp : Int) : mr_AE := eO 2 [vR 1 0, vR 7 0, vR 12 0, vR 14 0, vI v, vI k, vI s, vI n, vI op, vI sl, vI ln, vI md, vI fk, vI fp]
def mr_due (op : Int) (f : Nat → Int) : Int := if op = 1 then 2 else if op = 2 then 0 else f 1
def T_X2_lineCount (a : List mr_AV) (w : mr_Wd) (Po : Option mr_AV → mr_Wd → Prop) : Prop := ∃ (v k s n op sl ln md fk fp : Int), a = [vR 11 0] ∧ w 11 = eRD v k s n op sl ln md fk fp ∧ Po (some (vI ln)) w
set_option maxHeartbeats 4000000 in
set_option maxRecDepth 20000 in
theorem ok_X2_lineCount (l : Launch) (G : mr_G) : mr_Ok l G yX2_lineCount cX2_lineCount 1 (some .int) 0 0 T_X2_lineCount := by
  refine mr_Ok.of (by decide +kernel) ?_
  rintro a w Po ⟨v, k, s, n, op, sl, ln, md, fk, fp, rfl, h11, hP⟩
  refine ⟨Nat.le_of_ble_eq_true rfl, ?_⟩
  show mr_J l G RX2 cX2_lineCount 1 (some .int) 0 0 Po 0 [some (vR 11 0)] [] w
  refine mr_aload_n dX2_lineCount_0 rfl ?_
  refine mr_get dX2_lineCount_1 fl_X2_30 (by first | assumption | exact mr_up_same _ _ _ | exact mr_lk (by assumption) (by decide) | exact mr_lk (mr_up_same _ _ _) (by decide) | exact mr_lk (mr_lk (by assumption) (by decide)) (by decide) | exact mr_wS_8 _ _ _ _ _ _ | exact mr_wS_9 _ _ _ _ _ _ | exact mr_wS_10 _ _ _ _ _ _ | exact (mr_wS_ne _ _ _ _ _ _ (by decide)).trans (by assumption) | exact (mr_wS_ne _ _ _ _ _ _ (by decide)).trans (mr_up_same _ _ _) | exact (mr_wS_ne _ _ _ _ _ _ (by decide)).trans (mr_lk (by assumption) (by decide))) rfl ?_
  refine mr_iret rfl dX2_lineCount_4 ?_
  exact hP
def T_X2_faultKind (a : List mr_AV) (w : mr_Wd) (Po : Option mr_AV → mr_Wd → Prop) : Prop := ∃ (v k s n op sl ln md fk fp : Int), a = [vR 11 0] ∧ w 11 = eRD v k s n op sl ln md fk fp ∧ Po (some (vI fk)) w
set_option maxHeartbeats 4000000 in
set_option maxRecDepth 20000 in
theorem ok_X2_faultKind (l : Launch) (G : mr_G) : mr_Ok l G yX2_faultKind cX2_faultKind 1 (some .int) 0 0 T_X2_faultKind := by
  refine mr_Ok.of (by decide +kernel) ?_
  rintro a w Po ⟨v, k, s, n, op, sl, ln, md, fk, fp, rfl, h11, hP⟩
  refine ⟨Nat.le_of_ble_eq_true rfl, ?_⟩
  show mr_J l G RX2 cX2_faultKind 1 (some .int) 0 0 Po 0 [some (vR 11 0)] [] w
  refine mr_aload_n dX2_faultKind_0 rfl ?_
  refine mr_get dX2_faultKind_1 fl_X2_34 (by first | assumption | exact mr_up_same _ _ _ | exact mr_lk (by assumption) (by decide) | exact mr_lk (mr_up_same _ _ _) (by decide) | exact mr_lk (mr_lk (by assumption) (by decide)) (by decide) | exact mr_wS_8 _ _ _ _ _ _ | exact mr_wS_9 _ _ _ _ _ _ | exact mr_wS_10 _ _ _ _ _ _ | exact (mr_wS_ne _ _ _ _ _ _ (by decide)).trans (by assumption) | exact (mr_wS_ne _ _ _ _ _ _ (by decide)).trans (mr_up_same _ _ _) | exact (mr_wS_ne _ _ _ _ _ _ (by decide)).trans (mr_lk (by assumption) (by decide))) rfl ?_
  refine mr_iret rfl dX2_faultKind_4 ?_
  exact hP
def T_X2_faultPlace (a : List mr_AV) (w : mr_Wd) (Po : Option mr_AV → mr_Wd → Prop) : Prop := ∃ (v k s n op sl ln md fk fp : Int), a = [vR 11 0] ∧ w 11 = eRD v k s n op sl ln md fk fp ∧ Po (some (vI fp)) w
set_option maxHeartbeats 4000000 in
set_option maxRecDepth 20000 in
theorem ok_X2_faultPlace (l : Launch) (G : mr_G) : mr_Ok l G yX2_faultPlace cX2_faultPlace 1 (some .int) 0 0 T_X2_faultPlace := by
  refine mr_Ok.of (by decide +kernel) ?_
  rintro a w Po ⟨v, k, s, n, op, sl, ln, md, fk, fp, rfl, h11, hP⟩
  refine ⟨Nat.le_of_ble_eq_true rfl, ?_⟩
  show mr_J l G RX2 cX2_faultPlace 1 (some .int) 0 0 Po 0 [some (vR 11 0)] [] w
  refine mr_aload_n dX2_faultPlace_0 rfl ?_
  refine mr_get dX2_faultPlace_1 fl_X2_37 (by first | assumption | exact mr_up_same _ _ _ | exact mr_lk (by assumption) (by decide) | exact mr_lk (mr_up_same _ _ _) (by decide) | exact mr_lk (mr_lk (by assumption) (by decide)) (by decide) | exact mr_wS_8 _ _ _ _ _ _ | exact mr_wS_9 _ _ _ _ _ _ | exact mr_wS_10 _ _ _ _ _ _ | exact (mr_wS_ne _ _ _ _ _ _ (by decide)).trans (by assumption) | exact (mr_wS_ne _ _ _ _ _ _ (by decide)).trans (mr_up_same _ _ _) | exact (mr_wS_ne _ _ _ _ _ _ (by decide)).trans (mr_lk (by assumption) (by decide))) rfl ?_
  refine mr_iret rfl dX2_faultPlace_4 ?_
  exact hP
def T_X2_refuse (a : List mr_AV) (w : mr_Wd) (Po : Option mr_AV → mr_Wd → Prop) : Prop := ∃ (v k s n op sl ln md fk fp x : Int), a = [vR 11 0, vI x] ∧ w 11 = eRD v k s n op sl ln md fk fp ∧ Po none (mr_up w 11 (eRD v k s n op sl ln md x s))
set_option maxHeartbeats 4000000 in
set_option maxRecDepth 20000 in
theorem ok_X2_refuse (l : Launch) (G : mr_G) : mr_Ok l G yX2_refuse cX2_refuse 2 none 0 0 T_X2_refuse := by
  refine mr_Ok.of (by decide +kernel) ?_
  rintro a w Po ⟨v, k, s, n, op, sl, ln, md, fk, fp, x, rfl, h11, hP⟩
  refine ⟨Nat.le_of_ble_eq_true rfl, ?_⟩
  show mr_J l G RX2 cX2_refuse 2 none 0 0 Po 0 [some (vR 11 0), some (vI x)] [] w
  refine mr_aload_n dX2_refuse_0 rfl ?_
  refine mr_iload_n dX2_refuse_1 rfl ?_
  refine mr_put dX2_refuse_2 fl_X2_34 pf_X2_12 rfl rfl (by first | assumption | exact mr_up_same _ _ _ | exact mr_lk (by assumption) (by decide) | exact mr_lk (mr_up_same _ _ _) (by decide) | exact mr_lk (mr_lk (by assumption) (by decide)) (by decide) | exact mr_wS_8 _ _ _ _ _ _ | exact mr_wS_9 _ _ _ _ _ _ | exact mr_wS_10 _ _ _ _ _ _ | exact (mr_wS_ne _ _ _ _ _ _ (by decide)).trans (by assumption) | exact (mr_wS_ne _ _ _ _ _ _ (by decide)).trans (mr_up_same _ _ _) | exact (mr_wS_ne _ _ _ _ _ _ (by decide)).trans (mr_lk (by assumption) (by decide))) (Nat.le_of_ble_eq_true rfl) ?_
  try rw [mr_up_up]
  refine mr_aload_n dX2_refuse_5 rfl ?_
  refine mr_aload_n dX2_refuse_6 rfl ?_
  refine mr_get dX2_refuse_7 fl_X2_81 (by first | assumption | exact mr_up_same _ _ _ | exact mr_lk (by assumption) (by decide) | exact mr_lk (mr_up_same _ _ _) (by decide) | exact mr_lk (mr_lk (by assumption) (by decide)) (by decide) | exact mr_wS_8 _ _ _ _ _ _ | exact mr_wS_9 _ _ _ _ _ _ | exact mr_wS_10 _ _ _ _ _ _ | exact (mr_wS_ne _ _ _ _ _ _ (by decide)).trans (by assumption) | exact (mr_wS_ne _ _ _ _ _ _ (by decide)).trans (mr_up_same _ _ _) | exact (mr_wS_ne _ _ _ _ _ _ (by decide)).trans (mr_lk (by assumption) (by decide))) rfl ?_
  refine mr_put dX2_refuse_10 fl_X2_37 pf_X2_13 rfl rfl (by first | assumption | exact mr_up_same _ _ _ | exact mr_lk (by assumption) (by decide) | exact mr_lk (mr_up_same _ _ _) (by decide) | exact mr_lk (mr_lk (by assumption) (by decide)) (by decide) | exact mr_wS_8 _ _ _ _ _ _ | exact mr_wS_9 _ _ _ _ _ _ | exact mr_wS_10 _ _ _ _ _ _ | exact (mr_wS_ne _ _ _ _ _ _ (by decide)).trans (by assumption) | exact (mr_wS_ne _ _ _ _ _ _ (by decide)).trans (mr_up_same _ _ _) | exact (mr_wS_ne _ _ _ _ _ _ (by decide)).trans (mr_lk (by assumption) (by decide))) (Nat.le_of_ble_eq_true rfl) ?_
  try rw [mr_up_up]
  refine mr_vret rfl dX2_refuse_13 ?_
  exact hP
def T_X2_isBlank (a : List mr_AV) (w : mr_Wd) (Po : Option mr_AV → mr_Wd → Prop) : Prop := ∃ x : Int, a = [vI x] ∧ InR x ∧ (x = 32 ∨ x = 10 → Po (some (vI 1)) w) ∧ (¬ (x = 32 ∨ x = 10) → Po (some (vI 0)) w)
set_option maxHeartbeats 4000000 in
set_option maxRecDepth 20000 in
theorem ok_X2_isBlank (l : Launch) (G : mr_G) : mr_Ok l G yX2_isBlank cX2_isBlank 1 (some .boolean) 0 0 T_X2_isBlank := by
  refine mr_Ok.of (by decide +kernel) ?_
  rintro a w Po ⟨x, rfl, hx, hP, hQ⟩
  refine ⟨Nat.le_of_ble_eq_true rfl, ?_⟩
  show mr_J l G RX2 cX2_isBlank 1 (some .boolean) 0 0 Po 0 [some (vI x)] [] w
  refine mr_iload_n dX2_isBlank_0 rfl ?_
  refine mr_bipush dX2_isBlank_1 rfl ?_
  refine mr_icmp_eq (tgt := 12) dX2_isBlank_3 (by decide) (by omega) (by omega) (fun hc_3 => ?_) (fun hc_3 => ?_)
  · refine mr_iconst dX2_isBlank_12 ?_
    refine mr_goto (tgt := 17) dX2_isBlank_13 (by decide) ?_
    refine mr_zret rfl (Or.inr rfl) dX2_isBlank_17 ?_
    first | exact hP (by omega) | exact hQ (by omega)
  · refine mr_iload_n dX2_isBlank_6 rfl ?_
    refine mr_bipush dX2_isBlank_7 rfl ?_
    refine mr_icmp_ne (tgt := 16) dX2_isBlank_9 (by decide) (by omega) (by omega) (fun hc_9 => ?_) (fun hc_9 => ?_)
    · refine mr_iconst dX2_isBlank_16 ?_
      refine mr_zret rfl (Or.inl rfl) dX2_isBlank_17 ?_
      first | exact hP (by omega) | exact hQ (by omega)
    · refine mr_iconst dX2_isBlank_12 ?_
      refine mr_goto (tgt := 17) dX2_isBlank_13 (by decide) ?_
      refine mr_zret rfl (Or.inr rfl) dX2_isBlank_17 ?_
      first | exact hP (by omega) | exact hQ (by omega)
def T_X2_isLetter (a : List mr_AV) (w : mr_Wd) (Po : Option mr_AV → mr_Wd → Prop) : Prop := ∃ x : Int, a = [vI x] ∧ InR x ∧ (97 ≤ x ∧ x ≤ 122 → Po (some (vI 1)) w) ∧ (¬ (97 ≤ x ∧ x ≤ 122) → Po (some (vI 0)) w)
set_option maxHeartbeats 4000000 in
set_option maxRecDepth 20000 in
theorem ok_X2_isLetter (l : Launch) (G : mr_G) : mr_Ok l G yX2_isLetter cX2_isLetter 1 (some .boolean) 0 0 T_X2_isLetter := by
  refine mr_Ok.of (by decide +kernel) ?_
  rintro a w Po ⟨x, rfl, hx, hP, hQ⟩
  refine ⟨Nat.le_of_ble_eq_true rfl, ?_⟩
  show mr_J l G RX2 cX2_isLetter 1 (some .boolean) 0 0 Po 0 [some (vI x)] [] w
  refine mr_iload_n dX2_isLetter_0 rfl ?_
  refine mr_bipush dX2_isLetter_1 rfl ?_
  refine mr_icmp_lt (tgt := 16) dX2_isLetter_3 (by decide) (by omega) (by omega) (fun hc_3 => ?_) (fun hc_3 => ?_)
  · refine mr_iconst dX2_isLetter_16 ?_
    refine mr_zret rfl (Or.inl rfl) dX2_isLetter_17 ?_
    first | exact hP (by omega) | exact hQ (by omega)
  · refine mr_iload_n dX2_isLetter_6 rfl ?_
    refine mr_bipush dX2_isLetter_7 rfl ?_
    refine mr_icmp_gt (tgt := 16) dX2_isLetter_9 (by decide) (by omega) (by omega) (fun hc_9 => ?_) (fun hc_9 => ?_)
    · refine mr_iconst dX2_isLetter_16 ?_
      refine mr_zret rfl (Or.inl rfl) dX2_isLetter_17 ?_
      first | exact hP (by omega) | exact hQ (by omega)
    · refine mr_iconst dX2_isLetter_12 ?_
      refine mr_goto (tgt := 17) dX2_isLetter_13 (by decide) ?_
      refine mr_zret rfl (Or.inr rfl) dX2_isLetter_17 ?_
      first | exact hP (by omega) | exact hQ (by omega)
def T_X2_isDigit (a : List mr_AV) (w : mr_Wd) (Po : Option mr_AV → mr_Wd → Prop) : Prop := ∃ x : Int, a = [vI x] ∧ InR x ∧ (48 ≤ x ∧ x ≤ 57 → Po (some (vI 1)) w) ∧ (¬ (48 ≤ x ∧ x ≤ 57) → Po (some (vI 0)) w)
set_option maxHeartbeats 4000000 in
set_option maxRecDepth 20000 in
theorem ok_X2_isDigit (l : Launch) (G : mr_G) : mr_Ok l G yX2_isDigit cX2_isDigit 1 (some .boolean) 0 0 T_X2_isDigit := by
  refine mr_Ok.of (by decide +kernel) ?_
  rintro a w Po ⟨x, rfl, hx, hP, hQ⟩
  refine ⟨Nat.le_of_ble_eq_true rfl, ?_⟩
  show mr_J l G RX2 cX2_isDigit 1 (some .boolean) 0 0 Po 0 [some (vI x)] [] w
  refine mr_iload_n dX2_isDigit_0 rfl ?_
  refine mr_bipush dX2_isDigit_1 rfl ?_
  refine mr_icmp_lt (tgt := 16) dX2_isDigit_3 (by decide) (by omega) (by omega) (fun hc_3 => ?_) (fun hc_3 => ?_)
  · refine mr_iconst dX2_isDigit_16 ?_
    refine mr_zret rfl (Or.inl rfl) dX2_isDigit_17 ?_
    first | exact hP (by omega) | exact hQ (by omega)
  · refine mr_iload_n dX2_isDigit_6 rfl ?_
    refine mr_bipush dX2_isDigit_7 rfl ?_
    refine mr_icmp_gt (tgt := 16) dX2_isDigit_9 (by decide) (by omega) (by omega) (fun hc_9 => ?_) (fun hc_9 => ?_)
    · refine mr_iconst dX2_isDigit_16 ?_
      refine mr_zret rfl (Or.inl rfl) dX2_isDigit_17 ?_
      first | exact hP (by omega) | exact hQ (by omega)
    · refine mr_iconst dX2_isDigit_12 ?_
      refine mr_goto (tgt := 17) dX2_isDigit_13 (by decide) ?_
      refine mr_zret rfl (Or.inr rfl) dX2_isDigit_17 ?_
      first | exact hP (by omega) | exact hQ (by omega)
def T_X2_giveTo (a : List mr_AV) (w : mr_Wd) (Po : Option mr_AV → mr_Wd → Prop) : Prop := ∃ (v k s n op sl ln md fk fp : Int) (f g : Nat → Int), a = [vR 11 0, vR 3 0] ∧ w 11 = eRD v k s n op sl ln md fk fp ∧ mr_BK w 12 g ∧ mr_BK w 3 f ∧ Po none (mr_up w 4 (eA 0 51 g))
set_option maxHeartbeats 4000000 in
set_option maxRecDepth 20000 in
theorem ok_X2_giveTo (l : Launch) (G : mr_G) : mr_Ok l G yX2_giveTo cX2_giveTo 2 none 2 42 T_X2_giveTo := by
  refine mr_Ok.of (by decide +kernel) ?_
  rintro a w Po ⟨v, k, s, n, op, sl, ln, md, fk, fp, f, g, rfl, h11, ⟨h12, h13⟩, ⟨h3, h4⟩, hP⟩
  refine ⟨Nat.le_of_ble_eq_true rfl, ?_⟩
  show mr_J l G RX2 cX2_giveTo 2 none 2 42 Po 0 [some (vR 11 0), some (vR 3 0)] [] w
  have h13b : w 13 = eA 0 51 g := h13
  have h12b : w 12 = eO 0 [vR 13 0] := h12
  refine mr_aload_n dX2_giveTo_0 rfl ?_
  refine mr_aload_n dX2_giveTo_1 rfl ?_
  refine mr_get dX2_giveTo_2 fl_X2_12 (by first | assumption | exact mr_up_same _ _ _ | exact mr_lk (by assumption) (by decide) | exact mr_lk (mr_up_same _ _ _) (by decide) | exact mr_lk (mr_lk (by assumption) (by decide)) (by decide) | exact mr_wS_8 _ _ _ _ _ _ | exact mr_wS_9 _ _ _ _ _ _ | exact mr_wS_10 _ _ _ _ _ _ | exact (mr_wS_ne _ _ _ _ _ _ (by decide)).trans (by assumption) | exact (mr_wS_ne _ _ _ _ _ _ (by decide)).trans (mr_up_same _ _ _) | exact (mr_wS_ne _ _ _ _ _ _ (by decide)).trans (mr_lk (by assumption) (by decide))) rfl ?_
  refine mr_getN rfl in_X0 dX2_giveTo_5 (by first | assumption | exact mr_up_same _ _ _ | exact mr_lk (by assumption) (by decide) | exact mr_lk (mr_up_same _ _ _) (by decide) | exact mr_lk (mr_lk (by assumption) (by decide)) (by decide) | exact mr_wS_8 _ _ _ _ _ _ | exact mr_wS_9 _ _ _ _ _ _ | exact mr_wS_10 _ _ _ _ _ _ | exact (mr_wS_ne _ _ _ _ _ _ (by decide)).trans (by assumption) | exact (mr_wS_ne _ _ _ _ _ _ (by decide)).trans (mr_up_same _ _ _) | exact (mr_wS_ne _ _ _ _ _ _ (by decide)).trans (mr_lk (by assumption) (by decide))) ?_
  refine mr_callV (as := [_]) dX2_giveTo_8 (ok_X0_copyFrom l G) ml_X2_43 cl_X0_copyFrom cv_X0_copyFrom (by decide) rfl rfl (Nat.le_of_ble_eq_true rfl) (by first | assumption | exact mr_up_same _ _ _ | exact mr_lk (by assumption) (by decide) | exact mr_lk (mr_up_same _ _ _) (by decide) | exact mr_lk (mr_lk (by assumption) (by decide)) (by decide) | exact mr_wS_8 _ _ _ _ _ _ | exact mr_wS_9 _ _ _ _ _ _ | exact mr_wS_10 _ _ _ _ _ _ | exact (mr_wS_ne _ _ _ _ _ _ (by decide)).trans (by assumption) | exact (mr_wS_ne _ _ _ _ _ _ (by decide)).trans (mr_up_same _ _ _) | exact (mr_wS_ne _ _ _ _ _ _ (by decide)).trans (mr_lk (by assumption) (by decide))) ?_
  refine Or.inr ⟨_, _, _, _, rfl, ⟨h3, h4⟩, h13b, ?_⟩
  dsimp only [Option.toList_some, Option.toList_none, List.cons_append, List.nil_append]
  refine mr_vret rfl dX2_giveTo_11 ?_
  exact hP
def T_X2_startText (a : List mr_AV) (w : mr_Wd) (Po : Option mr_AV → mr_Wd → Prop) : Prop := ∃ (v k s n op sl ln md fk fp : Int) (f : Nat → Int), a = [vR 11 0] ∧ w 11 = eRD v k s n op sl ln md fk fp ∧ mr_BK w 12 f ∧ Po none (mr_up (mr_up w 13 (eA 0 51 (fun _ => 0))) 11 (eRD v k s 0 0 sl 0 0 0 0))
set_option maxHeartbeats 4000000 in
set_option maxRecDepth 20000 in
theorem ok_X2_startText (l : Launch) (G : mr_G) : mr_Ok l G yX2_startText cX2_startText 1 none 2 45 T_X2_startText := by
  refine mr_Ok.of (by decide +kernel) ?_
  rintro a w Po ⟨v, k, s, n, op, sl, ln, md, fk, fp, f, rfl, h11, ⟨h12, h13⟩, hP⟩
  refine ⟨Nat.le_of_ble_eq_true rfl, ?_⟩
  show mr_J l G RX2 cX2_startText 1 none 2 45 Po 0 [some (vR 11 0)] [] w
  have e0 : mr_fs (mr_fs (fun _ => 0) 0 0) 1 (max 0 (min 0 3)) = fun _ => (0 : Int) := by
    funext j
    unfold mr_fs
    split
    · decide
    · split <;> rfl
  refine mr_aload_n dX2_startText_0 rfl ?_
  refine mr_get dX2_startText_1 fl_X2_12 (by first | assumption | exact mr_up_same _ _ _ | exact mr_lk (by assumption) (by decide) | exact mr_lk (mr_up_same _ _ _) (by decide) | exact mr_lk (mr_lk (by assumption) (by decide)) (by decide) | exact mr_wS_8 _ _ _ _ _ _ | exact mr_wS_9 _ _ _ _ _ _ | exact mr_wS_10 _ _ _ _ _ _ | exact (mr_wS_ne _ _ _ _ _ _ (by decide)).trans (by assumption) | exact (mr_wS_ne _ _ _ _ _ _ (by decide)).trans (mr_up_same _ _ _) | exact (mr_wS_ne _ _ _ _ _ _ (by decide)).trans (mr_lk (by assumption) (by decide))) rfl ?_
  refine mr_iconst dX2_startText_4 ?_
  refine mr_iconst dX2_startText_5 ?_
  refine mr_callV (as := [_, _]) dX2_startText_6 (ok_X0_startAnew l G) ml_X2_71 cl_X0_startAnew cv_X0_startAnew (by decide) rfl rfl (Nat.le_of_ble_eq_true rfl) (by first | assumption | exact mr_up_same _ _ _ | exact mr_lk (by assumption) (by decide) | exact mr_lk (mr_up_same _ _ _) (by decide) | exact mr_lk (mr_lk (by assumption) (by decide)) (by decide) | exact mr_wS_8 _ _ _ _ _ _ | exact mr_wS_9 _ _ _ _ _ _ | exact mr_wS_10 _ _ _ _ _ _ | exact (mr_wS_ne _ _ _ _ _ _ (by decide)).trans (by assumption) | exact (mr_wS_ne _ _ _ _ _ _ (by decide)).trans (mr_up_same _ _ _) | exact (mr_wS_ne _ _ _ _ _ _ (by decide)).trans (mr_lk (by assumption) (by decide))) ?_
  refine ⟨_, _, _, _, rfl, ⟨h12, h13⟩, (by decide), (by decide), ?_⟩
  rw [e0]
  dsimp only [Option.toList_some, Option.toList_none, List.cons_append, List.nil_append]
  refine mr_aload_n dX2_startText_9 rfl ?_
  refine mr_iconst dX2_startText_10 ?_
  refine mr_put dX2_startText_11 fl_X2_75 pf_X2_7 rfl rfl (by first | assumption | exact mr_up_same _ _ _ | exact mr_lk (by assumption) (by decide) | exact mr_lk (mr_up_same _ _ _) (by decide) | exact mr_lk (mr_lk (by assumption) (by decide)) (by decide) | exact mr_wS_8 _ _ _ _ _ _ | exact mr_wS_9 _ _ _ _ _ _ | exact mr_wS_10 _ _ _ _ _ _ | exact (mr_wS_ne _ _ _ _ _ _ (by decide)).trans (by assumption) | exact (mr_wS_ne _ _ _ _ _ _ (by decide)).trans (mr_up_same _ _ _) | exact (mr_wS_ne _ _ _ _ _ _ (by decide)).trans (mr_lk (by assumption) (by decide))) (Nat.le_of_ble_eq_true rfl) ?_
  try rw [mr_up_up]
  refine mr_aload_n dX2_startText_14 rfl ?_
  refine mr_iconst dX2_startText_15 ?_
  refine mr_put dX2_startText_16 fl_X2_58 pf_X2_8 rfl rfl (by first | assumption | exact mr_up_same _ _ _ | exact mr_lk (by assumption) (by decide) | exact mr_lk (mr_up_same _ _ _) (by decide) | exact mr_lk (mr_lk (by assumption) (by decide)) (by decide) | exact mr_wS_8 _ _ _ _ _ _ | exact mr_wS_9 _ _ _ _ _ _ | exact mr_wS_10 _ _ _ _ _ _ | exact (mr_wS_ne _ _ _ _ _ _ (by decide)).trans (by assumption) | exact (mr_wS_ne _ _ _ _ _ _ (by decide)).trans (mr_up_same _ _ _) | exact (mr_wS_ne _ _ _ _ _ _ (by decide)).trans (mr_lk (by assumption) (by decide))) (Nat.le_of_ble_eq_true rfl) ?_
  try rw [mr_up_up]
  refine mr_aload_n dX2_startText_19 rfl ?_
  refine mr_iconst dX2_startText_20 ?_
  refine mr_put dX2_startText_21 fl_X2_30 pf_X2_10 rfl rfl (by first | assumption | exact mr_up_same _ _ _ | exact mr_lk (by assumption) (by decide) | exact mr_lk (mr_up_same _ _ _) (by decide) | exact mr_lk (mr_lk (by assumption) (by decide)) (by decide) | exact mr_wS_8 _ _ _ _ _ _ | exact mr_wS_9 _ _ _ _ _ _ | exact mr_wS_10 _ _ _ _ _ _ | exact (mr_wS_ne _ _ _ _ _ _ (by decide)).trans (by assumption) | exact (mr_wS_ne _ _ _ _ _ _ (by decide)).trans (mr_up_same _ _ _) | exact (mr_wS_ne _ _ _ _ _ _ (by decide)).trans (mr_lk (by assumption) (by decide))) (Nat.le_of_ble_eq_true rfl) ?_
  try rw [mr_up_up]
  refine mr_aload_n dX2_startText_24 rfl ?_
  refine mr_iconst dX2_startText_25 ?_
  refine mr_put dX2_startText_26 fl_X2_78 pf_X2_11 rfl rfl (by first | assumption | exact mr_up_same _ _ _ | exact mr_lk (by assumption) (by decide) | exact mr_lk (mr_up_same _ _ _) (by decide) | exact mr_lk (mr_lk (by assumption) (by decide)) (by decide) | exact mr_wS_8 _ _ _ _ _ _ | exact mr_wS_9 _ _ _ _ _ _ | exact mr_wS_10 _ _ _ _ _ _ | exact (mr_wS_ne _ _ _ _ _ _ (by decide)).trans (by assumption) | exact (mr_wS_ne _ _ _ _ _ _ (by decide)).trans (mr_up_same _ _ _) | exact (mr_wS_ne _ _ _ _ _ _ (by decide)).trans (mr_lk (by assumption) (by decide))) (Nat.le_of_ble_eq_true rfl) ?_
  try rw [mr_up_up]
  refine mr_aload_n dX2_startText_29 rfl ?_
  refine mr_iconst dX2_startText_30 ?_
  refine mr_put dX2_startText_31 fl_X2_34 pf_X2_12 rfl rfl (by first | assumption | exact mr_up_same _ _ _ | exact mr_lk (by assumption) (by decide) | exact mr_lk (mr_up_same _ _ _) (by decide) | exact mr_lk (mr_lk (by assumption) (by decide)) (by decide) | exact mr_wS_8 _ _ _ _ _ _ | exact mr_wS_9 _ _ _ _ _ _ | exact mr_wS_10 _ _ _ _ _ _ | exact (mr_wS_ne _ _ _ _ _ _ (by decide)).trans (by assumption) | exact (mr_wS_ne _ _ _ _ _ _ (by decide)).trans (mr_up_same _ _ _) | exact (mr_wS_ne _ _ _ _ _ _ (by decide)).trans (mr_lk (by assumption) (by decide))) (Nat.le_of_ble_eq_true rfl) ?_
  try rw [mr_up_up]
  refine mr_aload_n dX2_startText_34 rfl ?_
  refine mr_iconst dX2_startText_35 ?_
  refine mr_put dX2_startText_36 fl_X2_37 pf_X2_13 rfl rfl (by first | assumption | exact mr_up_same _ _ _ | exact mr_lk (by assumption) (by decide) | exact mr_lk (mr_up_same _ _ _) (by decide) | exact mr_lk (mr_lk (by assumption) (by decide)) (by decide) | exact mr_wS_8 _ _ _ _ _ _ | exact mr_wS_9 _ _ _ _ _ _ | exact mr_wS_10 _ _ _ _ _ _ | exact (mr_wS_ne _ _ _ _ _ _ (by decide)).trans (by assumption) | exact (mr_wS_ne _ _ _ _ _ _ (by decide)).trans (mr_up_same _ _ _) | exact (mr_wS_ne _ _ _ _ _ _ (by decide)).trans (mr_lk (by assumption) (by decide))) (Nat.le_of_ble_eq_true rfl) ?_
  try rw [mr_up_up]
  refine mr_vret rfl dX2_startText_39 ?_
  exact hP
theorem mr_lks {x : Int} (h1 : x ≠ 1) (h2 : x ≠ 2) : Op.lookupswitch.offset (#[(1, 28), (2, 30)] : Array (Int × Int)).toList 32 x = 32 := by
  simp [Op.lookupswitch.offset, h1, h2, Ne.symm h1, Ne.symm h2]
def T_X2_numbersDue (a : List mr_AV) (w : mr_Wd) (Po : Option mr_AV → mr_Wd → Prop) : Prop := ∃ (v k s n op sl ln md fk fp : Int) (f : Nat → Int), a = [vR 11 0] ∧ w 11 = eRD v k s n op sl ln md fk fp ∧ mr_BK w 12 f ∧ InR op ∧ Po (some (vI (mr_due op f))) w
set_option maxHeartbeats 4000000 in
set_option maxRecDepth 20000 in
theorem ok_X2_numbersDue (l : Launch) (G : mr_G) : mr_Ok l G yX2_numbersDue cX2_numbersDue 1 (some .int) 1 20 T_X2_numbersDue := by
  refine mr_Ok.of (by decide +kernel) ?_
  rintro a w Po ⟨v, k, s, n, op, sl, ln, md, fk, fp, f, rfl, h11, ⟨h12, h13⟩, hop, hP⟩
  refine ⟨Nat.le_of_ble_eq_true rfl, ?_⟩
  show mr_J l G RX2 cX2_numbersDue 1 (some .int) 1 20 Po 0 [some (vR 11 0)] [] w
  have h12b : w 12 = eO 0 [vR 13 0] := h12
  have h13b : w 13 = eA 0 51 f := h13
  by_cases c1 : op = 1
  · subst c1
    refine mr_aload_n dX2_numbersDue_0 rfl ?_
    refine mr_get dX2_numbersDue_1 fl_X2_58 (by first | assumption | exact mr_up_same _ _ _ | exact mr_lk (by assumption) (by decide) | exact mr_lk (mr_up_same _ _ _) (by decide) | exact mr_lk (mr_lk (by assumption) (by decide)) (by decide) | exact mr_wS_8 _ _ _ _ _ _ | exact mr_wS_9 _ _ _ _ _ _ | exact mr_wS_10 _ _ _ _ _ _ | exact (mr_wS_ne _ _ _ _ _ _ (by decide)).trans (by assumption) | exact (mr_wS_ne _ _ _ _ _ _ (by decide)).trans (mr_up_same _ _ _) | exact (mr_wS_ne _ _ _ _ _ _ (by decide)).trans (mr_lk (by assumption) (by decide))) rfl ?_
    refine mr_lookup (tgt := 32) dX2_numbersDue_4 (by omega) (by decide) rfl (by decide) ?_
    refine mr_iconst dX2_numbersDue_32 ?_
    refine mr_iret rfl dX2_numbersDue_33 ?_
    exact hP
  · by_cases c2 : op = 2
    · subst c2
      refine mr_aload_n dX2_numbersDue_0 rfl ?_
      refine mr_get dX2_numbersDue_1 fl_X2_58 (by first | assumption | exact mr_up_same _ _ _ | exact mr_lk (by assumption) (by decide) | exact mr_lk (mr_up_same _ _ _) (by decide) | exact mr_lk (mr_lk (by assumption) (by decide)) (by decide) | exact mr_wS_8 _ _ _ _ _ _ | exact mr_wS_9 _ _ _ _ _ _ | exact mr_wS_10 _ _ _ _ _ _ | exact (mr_wS_ne _ _ _ _ _ _ (by decide)).trans (by assumption) | exact (mr_wS_ne _ _ _ _ _ _ (by decide)).trans (mr_up_same _ _ _) | exact (mr_wS_ne _ _ _ _ _ _ (by decide)).trans (mr_lk (by assumption) (by decide))) rfl ?_
      refine mr_lookup (tgt := 34) dX2_numbersDue_4 (by omega) (by decide) rfl (by decide) ?_
      refine mr_iconst dX2_numbersDue_34 ?_
      refine mr_iret rfl dX2_numbersDue_35 ?_
      exact hP
    · rw [mr_due, if_neg c1, if_neg c2] at hP
      refine mr_aload_n dX2_numbersDue_0 rfl ?_
      refine mr_get dX2_numbersDue_1 fl_X2_58 (by first | assumption | exact mr_up_same _ _ _ | exact mr_lk (by assumption) (by decide) | exact mr_lk (mr_up_same _ _ _) (by decide) | exact mr_lk (mr_lk (by assumption) (by decide)) (by decide) | exact mr_wS_8 _ _ _ _ _ _ | exact mr_wS_9 _ _ _ _ _ _ | exact mr_wS_10 _ _ _ _ _ _ | exact (mr_wS_ne _ _ _ _ _ _ (by decide)).trans (by assumption) | exact (mr_wS_ne _ _ _ _ _ _ (by decide)).trans (mr_up_same _ _ _) | exact (mr_wS_ne _ _ _ _ _ _ (by decide)).trans (mr_lk (by assumption) (by decide))) rfl ?_
      refine mr_lookup (tgt := 36) dX2_numbersDue_4 (by omega) (by decide) (mr_lks c1 c2) (by decide) ?_
      refine mr_aload_n dX2_numbersDue_36 rfl ?_
      refine mr_get dX2_numbersDue_37 fl_X2_12 (by first | assumption | exact mr_up_same _ _ _ | exact mr_lk (by assumption) (by decide) | exact mr_lk (mr_up_same _ _ _) (by decide) | exact mr_lk (mr_lk (by assumption) (by decide)) (by decide) | exact mr_wS_8 _ _ _ _ _ _ | exact mr_wS_9 _ _ _ _ _ _ | exact mr_wS_10 _ _ _ _ _ _ | exact (mr_wS_ne _ _ _ _ _ _ (by decide)).trans (by assumption) | exact (mr_wS_ne _ _ _ _ _ _ (by decide)).trans (mr_up_same _ _ _) | exact (mr_wS_ne _ _ _ _ _ _ (by decide)).trans (mr_lk (by assumption) (by decide))) rfl ?_
      refine mr_callV (as := []) dX2_numbersDue_40 (ok_X0_width l G) ml_X2_103 cl_X0_width cv_X0_width (by decide) rfl rfl (Nat.le_of_ble_eq_true rfl) (by first | assumption | exact mr_up_same _ _ _ | exact mr_lk (by assumption) (by decide) | exact mr_lk (mr_up_same _ _ _) (by decide) | exact mr_lk (mr_lk (by assumption) (by decide)) (by decide) | exact mr_wS_8 _ _ _ _ _ _ | exact mr_wS_9 _ _ _ _ _ _ | exact mr_wS_10 _ _ _ _ _ _ | exact (mr_wS_ne _ _ _ _ _ _ (by decide)).trans (by assumption) | exact (mr_wS_ne _ _ _ _ _ _ (by decide)).trans (mr_up_same _ _ _) | exact (mr_wS_ne _ _ _ _ _ _ (by decide)).trans (mr_lk (by assumption) (by decide))) ?_
      refine ⟨_, _, rfl, ⟨h12, h13⟩, ?_⟩
      dsimp only [Option.toList_some, Option.toList_none, List.cons_append, List.nil_append]
      refine mr_iret rfl dX2_numbersDue_43 ?_
      exact hP
def mr_lst2 (op sl : Int) : Int := if op = 1 then (if sl = 0 then 2 else 1) else 0
def mr_mst2 (op sl : Int) (f : Nat → Int) : Int := if op = 1 then (if sl = 0 then 30 else 3) else f 0 - 1
def T_X2_leastNumber (a : List mr_AV) (w : mr_Wd) (Po : Option mr_AV → mr_Wd → Prop) : Prop := ∃ (v k s n op sl ln md fk fp : Int), a = [vR 11 0] ∧ w 11 = eRD v k s n op sl ln md fk fp ∧ InR op ∧ InR sl ∧ Po (some (vI (mr_lst2 op sl))) w
set_option maxHeartbeats 4000000 in
set_option maxRecDepth 20000 in
theorem ok_X2_leastNumber (l : Launch) (G : mr_G) : mr_Ok l G yX2_leastNumber cX2_leastNumber 1 (some .int) 0 0 T_X2_leastNumber := by
  refine mr_Ok.of (by decide +kernel) ?_
  rintro a w Po ⟨v, k, s, n, op, sl, ln, md, fk, fp, rfl, h11, hop, hsl, hP⟩
  refine ⟨Nat.le_of_ble_eq_true rfl, ?_⟩
  show mr_J l G RX2 cX2_leastNumber 1 (some .int) 0 0 Po 0 [some (vR 11 0)] [] w
  refine mr_aload_n dX2_leastNumber_0 rfl ?_
  refine mr_get dX2_leastNumber_1 fl_X2_58 (by first | assumption | exact mr_up_same _ _ _ | exact mr_lk (by assumption) (by decide) | exact mr_lk (mr_up_same _ _ _) (by decide) | exact mr_lk (mr_lk (by assumption) (by decide)) (by decide) | exact mr_wS_8 _ _ _ _ _ _ | exact mr_wS_9 _ _ _ _ _ _ | exact mr_wS_10 _ _ _ _ _ _ | exact (mr_wS_ne _ _ _ _ _ _ (by decide)).trans (by assumption) | exact (mr_wS_ne _ _ _ _ _ _ (by decide)).trans (mr_up_same _ _ _) | exact (mr_wS_ne _ _ _ _ _ _ (by decide)).trans (mr_lk (by assumption) (by decide))) rfl ?_
  refine mr_iconst dX2_leastNumber_4 ?_
  refine mr_icmp_eq (tgt := 10) dX2_leastNumber_5 (by decide) (by omega) (by omega) (fun hc_5 => ?_) (fun hc_5 => ?_)
  · refine mr_aload_n dX2_leastNumber_10 rfl ?_
    refine mr_get dX2_leastNumber_11 fl_X2_90 (by first | assumption | exact mr_up_same _ _ _ | exact mr_lk (by assumption) (by decide) | exact mr_lk (mr_up_same _ _ _) (by decide) | exact mr_lk (mr_lk (by assumption) (by decide)) (by decide) | exact mr_wS_8 _ _ _ _ _ _ | exact mr_wS_9 _ _ _ _ _ _ | exact mr_wS_10 _ _ _ _ _ _ | exact (mr_wS_ne _ _ _ _ _ _ (by decide)).trans (by assumption) | exact (mr_wS_ne _ _ _ _ _ _ (by decide)).trans (mr_up_same _ _ _) | exact (mr_wS_ne _ _ _ _ _ _ (by decide)).trans (mr_lk (by assumption) (by decide))) rfl ?_
    refine mr_if_ne (tgt := 21) dX2_leastNumber_14 (by decide) (by omega) (fun hc_14 => ?_) (fun hc_14 => ?_)
    · refine mr_iconst dX2_leastNumber_21 ?_
      refine mr_iret rfl dX2_leastNumber_22 ?_
      first | (rw [mr_lst2, if_neg (by omega)] at hP; exact hP) | (rw [mr_lst2, if_pos (by omega), if_pos (by omega)] at hP; exact hP) | (rw [mr_lst2, if_pos (by omega), if_neg (by omega)] at hP; exact hP)
    · refine mr_iconst dX2_leastNumber_17 ?_
      refine mr_goto (tgt := 22) dX2_leastNumber_18 (by decide) ?_
      refine mr_iret rfl dX2_leastNumber_22 ?_
      first | (rw [mr_lst2, if_neg (by omega)] at hP; exact hP) | (rw [mr_lst2, if_pos (by omega), if_pos (by omega)] at hP; exact hP) | (rw [mr_lst2, if_pos (by omega), if_neg (by omega)] at hP; exact hP)
  · refine mr_iconst dX2_leastNumber_8 ?_
    refine mr_iret rfl dX2_leastNumber_9 ?_
    first | (rw [mr_lst2, if_neg (by omega)] at hP; exact hP) | (rw [mr_lst2, if_pos (by omega), if_pos (by omega)] at hP; exact hP) | (rw [mr_lst2, if_pos (by omega), if_neg (by omega)] at hP; exact hP)
def T_X2_mostNumber (a : List mr_AV) (w : mr_Wd) (Po : Option mr_AV → mr_Wd → Prop) : Prop := ∃ (v k s n op sl ln md fk fp : Int) (f : Nat → Int), a = [vR 11 0] ∧ w 11 = eRD v k s n op sl ln md fk fp ∧ mr_BK w 12 f ∧ InR op ∧ InR sl ∧ Po (some (vI (mr_mst2 op sl f))) w
set_option maxHeartbeats 4000000 in
set_option maxRecDepth 20000 in
theorem ok_X2_mostNumber (l : Launch) (G : mr_G) : mr_Ok l G yX2_mostNumber cX2_mostNumber 1 (some .int) 1 20 T_X2_mostNumber := by
  refine mr_Ok.of (by decide +kernel) ?_
  rintro a w Po ⟨v, k, s, n, op, sl, ln, md, fk, fp, f, rfl, h11, ⟨h12, h13⟩, hop, hsl, hP⟩
  refine ⟨Nat.le_of_ble_eq_true rfl, ?_⟩
  show mr_J l G RX2 cX2_mostNumber 1 (some .int) 1 20 Po 0 [some (vR 11 0)] [] w
  have h12b : w 12 = eO 0 [vR 13 0] := h12
  refine mr_aload_n dX2_mostNumber_0 rfl ?_
  refine mr_get dX2_mostNumber_1 fl_X2_58 (by first | assumption | exact mr_up_same _ _ _ | exact mr_lk (by assumption) (by decide) | exact mr_lk (mr_up_same _ _ _) (by decide) | exact mr_lk (mr_lk (by assumption) (by decide)) (by decide) | exact mr_wS_8 _ _ _ _ _ _ | exact mr_wS_9 _ _ _ _ _ _ | exact mr_wS_10 _ _ _ _ _ _ | exact (mr_wS_ne _ _ _ _ _ _ (by decide)).trans (by assumption) | exact (mr_wS_ne _ _ _ _ _ _ (by decide)).trans (mr_up_same _ _ _) | exact (mr_wS_ne _ _ _ _ _ _ (by decide)).trans (mr_lk (by assumption) (by decide))) rfl ?_
  refine mr_iconst dX2_mostNumber_4 ?_
  refine mr_icmp_eq (tgt := 18) dX2_mostNumber_5 (by decide) (by omega) (by omega) (fun hc_5 => ?_) (fun hc_5 => ?_)
  · refine mr_aload_n dX2_mostNumber_18 rfl ?_
    refine mr_get dX2_mostNumber_19 fl_X2_90 (by first | assumption | exact mr_up_same _ _ _ | exact mr_lk (by assumption) (by decide) | exact mr_lk (mr_up_same _ _ _) (by decide) | exact mr_lk (mr_lk (by assumption) (by decide)) (by decide) | exact mr_wS_8 _ _ _ _ _ _ | exact mr_wS_9 _ _ _ _ _ _ | exact mr_wS_10 _ _ _ _ _ _ | exact (mr_wS_ne _ _ _ _ _ _ (by decide)).trans (by assumption) | exact (mr_wS_ne _ _ _ _ _ _ (by decide)).trans (mr_up_same _ _ _) | exact (mr_wS_ne _ _ _ _ _ _ (by decide)).trans (mr_lk (by assumption) (by decide))) rfl ?_
    refine mr_if_ne (tgt := 30) dX2_mostNumber_22 (by decide) (by omega) (fun hc_22 => ?_) (fun hc_22 => ?_)
    · refine mr_iconst dX2_mostNumber_30 ?_
      refine mr_iret rfl dX2_mostNumber_31 ?_
      first | (rw [mr_mst2, if_neg (by omega)] at hP; exact hP) | (rw [mr_mst2, if_pos (by omega), if_pos (by omega)] at hP; exact hP) | (rw [mr_mst2, if_pos (by omega), if_neg (by omega)] at hP; exact hP)
    · refine mr_bipush dX2_mostNumber_25 rfl ?_
      refine mr_goto (tgt := 31) dX2_mostNumber_27 (by decide) ?_
      refine mr_iret rfl dX2_mostNumber_31 ?_
      first | (rw [mr_mst2, if_neg (by omega)] at hP; exact hP) | (rw [mr_mst2, if_pos (by omega), if_pos (by omega)] at hP; exact hP) | (rw [mr_mst2, if_pos (by omega), if_neg (by omega)] at hP; exact hP)
  · refine mr_aload_n dX2_mostNumber_8 rfl ?_
    refine mr_get dX2_mostNumber_9 fl_X2_12 (by first | assumption | exact mr_up_same _ _ _ | exact mr_lk (by assumption) (by decide) | exact mr_lk (mr_up_same _ _ _) (by decide) | exact mr_lk (mr_lk (by assumption) (by decide)) (by decide) | exact mr_wS_8 _ _ _ _ _ _ | exact mr_wS_9 _ _ _ _ _ _ | exact mr_wS_10 _ _ _ _ _ _ | exact (mr_wS_ne _ _ _ _ _ _ (by decide)).trans (by assumption) | exact (mr_wS_ne _ _ _ _ _ _ (by decide)).trans (mr_up_same _ _ _) | exact (mr_wS_ne _ _ _ _ _ _ (by decide)).trans (mr_lk (by assumption) (by decide))) rfl ?_
    refine mr_callV (as := []) dX2_mostNumber_12 (ok_X0_modulus l G) ml_X2_140 cl_X0_modulus cv_X0_modulus (by decide) rfl rfl (Nat.le_of_ble_eq_true rfl) (by first | assumption | exact mr_up_same _ _ _ | exact mr_lk (by assumption) (by decide) | exact mr_lk (mr_up_same _ _ _) (by decide) | exact mr_lk (mr_lk (by assumption) (by decide)) (by decide) | exact mr_wS_8 _ _ _ _ _ _ | exact mr_wS_9 _ _ _ _ _ _ | exact mr_wS_10 _ _ _ _ _ _ | exact (mr_wS_ne _ _ _ _ _ _ (by decide)).trans (by assumption) | exact (mr_wS_ne _ _ _ _ _ _ (by decide)).trans (mr_up_same _ _ _) | exact (mr_wS_ne _ _ _ _ _ _ (by decide)).trans (mr_lk (by assumption) (by decide))) ?_
    refine ⟨_, _, rfl, ⟨h12, h13⟩, ?_⟩
    dsimp only [Option.toList_some, Option.toList_none, List.cons_append, List.nil_append]
    refine mr_iconst dX2_mostNumber_15 ?_
    refine mr_isub dX2_mostNumber_16 ?_
    refine mr_iret rfl dX2_mostNumber_17 ?_
    first | (rw [mr_mst2, if_neg (by omega)] at hP; exact hP) | (rw [mr_mst2, if_pos (by omega), if_pos (by omega)] at hP; exact hP) | (rw [mr_mst2, if_pos (by omega), if_neg (by omega)] at hP; exact hP)
def T_X2_openIf (a : List mr_AV) (w : mr_Wd) (Po : Option mr_AV → mr_Wd → Prop) : Prop := ∃ (v k s n op sl ln md fk fp x y z : Int), a = [vR 11 0, vI x, vI y, vI z] ∧ w 11 = eRD v k s n op sl ln md fk fp ∧ InR x ∧ InR z ∧ (x = 0 → Po none (mr_up w 11 (eRD v k s n op sl ln md 1 s))) ∧ (x ≠ 0 → z = 0 → Po none (mr_up w 11 (eRD v k s n op sl ln md 3 s))) ∧ (x ≠ 0 → z ≠ 0 → Po none (mr_up w 11 (eRD v k s n y sl ln md fk fp)))
set_option maxHeartbeats 4000000 in
set_option maxRecDepth 20000 in
theorem ok_X2_openIf (l : Launch) (G : mr_G) : mr_Ok l G yX2_openIf cX2_openIf 4 none 1 21 T_X2_openIf := by
  refine mr_Ok.of (by decide +kernel) ?_
  rintro a w Po ⟨v, k, s, n, op, sl, ln, md, fk, fp, x, y, z, rfl, h11, hx, hz, hA, hB, hC⟩
  refine ⟨Nat.le_of_ble_eq_true rfl, ?_⟩
  show mr_J l G RX2 cX2_openIf 4 none 1 21 Po 0 [some (vR 11 0), some (vI x), some (vI y), some (vI z)] [] w
  refine mr_iload_n dX2_openIf_0 rfl ?_
  refine mr_if_ne (tgt := 12) dX2_openIf_1 (by decide) (by omega) (fun hc_1 => ?_) (fun hc_1 => ?_)
  · refine mr_iload_n dX2_openIf_12 rfl ?_
    refine mr_if_ne (tgt := 24) dX2_openIf_13 (by decide) (by omega) (fun hc_13 => ?_) (fun hc_13 => ?_)
    · refine mr_aload_n dX2_openIf_24 rfl ?_
      refine mr_iload_n dX2_openIf_25 rfl ?_
      refine mr_put dX2_openIf_26 fl_X2_58 pf_X2_8 rfl rfl (by first | assumption | exact mr_up_same _ _ _ | exact mr_lk (by assumption) (by decide) | exact mr_lk (mr_up_same _ _ _) (by decide) | exact mr_lk (mr_lk (by assumption) (by decide)) (by decide) | exact mr_wS_8 _ _ _ _ _ _ | exact mr_wS_9 _ _ _ _ _ _ | exact mr_wS_10 _ _ _ _ _ _ | exact (mr_wS_ne _ _ _ _ _ _ (by decide)).trans (by assumption) | exact (mr_wS_ne _ _ _ _ _ _ (by decide)).trans (mr_up_same _ _ _) | exact (mr_wS_ne _ _ _ _ _ _ (by decide)).trans (mr_lk (by assumption) (by decide))) (Nat.le_of_ble_eq_true rfl) ?_
      refine mr_vret rfl dX2_openIf_29 ?_
      first | exact hA hc_1 | exact hB hc_1 hc_13 | exact hC hc_1 hc_13
    · refine mr_aload_n dX2_openIf_16 rfl ?_
      refine mr_iconst dX2_openIf_17 ?_
      refine mr_callV (as := [_]) dX2_openIf_18 (ok_X2_refuse l G) ml_X2_99 cl_X2_refuse cv_X2_refuse (by decide) rfl rfl (Nat.le_of_ble_eq_true rfl) (by first | assumption | exact mr_up_same _ _ _ | exact mr_lk (by assumption) (by decide) | exact mr_lk (mr_up_same _ _ _) (by decide) | exact mr_lk (mr_lk (by assumption) (by decide)) (by decide) | exact mr_wS_8 _ _ _ _ _ _ | exact mr_wS_9 _ _ _ _ _ _ | exact mr_wS_10 _ _ _ _ _ _ | exact (mr_wS_ne _ _ _ _ _ _ (by decide)).trans (by assumption) | exact (mr_wS_ne _ _ _ _ _ _ (by decide)).trans (mr_up_same _ _ _) | exact (mr_wS_ne _ _ _ _ _ _ (by decide)).trans (mr_lk (by assumption) (by decide))) ?_
      refine ⟨_, _, _, _, _, _, _, _, _, _, _, rfl, (by first | assumption | exact mr_up_same _ _ _ | exact mr_lk (by assumption) (by decide) | exact mr_lk (mr_up_same _ _ _) (by decide) | exact mr_lk (mr_lk (by assumption) (by decide)) (by decide) | exact mr_wS_8 _ _ _ _ _ _ | exact mr_wS_9 _ _ _ _ _ _ | exact mr_wS_10 _ _ _ _ _ _ | exact (mr_wS_ne _ _ _ _ _ _ (by decide)).trans (by assumption) | exact (mr_wS_ne _ _ _ _ _ _ (by decide)).trans (mr_up_same _ _ _) | exact (mr_wS_ne _ _ _ _ _ _ (by decide)).trans (mr_lk (by assumption) (by decide))), ?_⟩
      dsimp only [Option.toList_some, Option.toList_none, List.cons_append, List.nil_append]
      refine mr_goto (tgt := 29) dX2_openIf_21 (by decide) ?_
      refine mr_vret rfl dX2_openIf_29 ?_
      first | exact hA hc_1 | exact hB hc_1 hc_13 | exact hC hc_1 hc_13
  · refine mr_aload_n dX2_openIf_4 rfl ?_
    refine mr_iconst dX2_openIf_5 ?_
    refine mr_callV (as := [_]) dX2_openIf_6 (ok_X2_refuse l G) ml_X2_99 cl_X2_refuse cv_X2_refuse (by decide) rfl rfl (Nat.le_of_ble_eq_true rfl) (by first | assumption | exact mr_up_same _ _ _ | exact mr_lk (by assumption) (by decide) | exact mr_lk (mr_up_same _ _ _) (by decide) | exact mr_lk (mr_lk (by assumption) (by decide)) (by decide) | exact mr_wS_8 _ _ _ _ _ _ | exact mr_wS_9 _ _ _ _ _ _ | exact mr_wS_10 _ _ _ _ _ _ | exact (mr_wS_ne _ _ _ _ _ _ (by decide)).trans (by assumption) | exact (mr_wS_ne _ _ _ _ _ _ (by decide)).trans (mr_up_same _ _ _) | exact (mr_wS_ne _ _ _ _ _ _ (by decide)).trans (mr_lk (by assumption) (by decide))) ?_
    refine ⟨_, _, _, _, _, _, _, _, _, _, _, rfl, (by first | assumption | exact mr_up_same _ _ _ | exact mr_lk (by assumption) (by decide) | exact mr_lk (mr_up_same _ _ _) (by decide) | exact mr_lk (mr_lk (by assumption) (by decide)) (by decide) | exact mr_wS_8 _ _ _ _ _ _ | exact mr_wS_9 _ _ _ _ _ _ | exact mr_wS_10 _ _ _ _ _ _ | exact (mr_wS_ne _ _ _ _ _ _ (by decide)).trans (by assumption) | exact (mr_wS_ne _ _ _ _ _ _ (by decide)).trans (mr_up_same _ _ _) | exact (mr_wS_ne _ _ _ _ _ _ (by decide)).trans (mr_lk (by assumption) (by decide))), ?_⟩
    dsimp only [Option.toList_some, Option.toList_none, List.cons_append, List.nil_append]
    refine mr_goto (tgt := 29) dX2_openIf_9 (by decide) ?_
    refine mr_vret rfl dX2_openIf_29 ?_
    first | exact hA hc_1 | exact hB hc_1 hc_13 | exact hC hc_1 hc_13
def mr_isw (n0 : Int) (g : Nat → Int) (k s n : Int) (j : Nat) : Prop := k = 2 ∧ n - s = (mr_sl.getD j 0 : Nat) ∧ ∀ i : Nat, i < mr_sl.getD j 0 → mr_ba n0 g (s + i) = mr_tc j i
set_option maxHeartbeats 4000000 in
set_option maxRecDepth 20000 in
theorem lp_X2_isWord (l : Launch) (G : mr_G) {Po : Option mr_AV → mr_Wd → Prop} {w : mr_Wd} {j : Nat} {v k s n op sl ln md fk fp n0 : Int} {g : Nat → Int} (h11 : w 11 = eRD v k s n op sl ln md fk fp) (h1 : w 1 = eO 5 [vR 2 0, vI n0]) (h2 : w 2 = eA 2 540 g) (hj : j < 6) (hn0 : 0 ≤ n0 ∧ n0 ≤ 540) (hs : 0 ≤ s ∧ s ≤ 540) (hP : (∀ i : Nat, i < mr_sl.getD j 0 → mr_ba n0 g (s + i) = mr_tc j i) → Po (some (vI 1)) w) (hQ : ¬ (∀ i : Nat, i < mr_sl.getD j 0 → mr_ba n0 g (s + i) = mr_tc j i) → Po (some (vI 0)) w) : ∀ (m i : Nat), i + m = mr_sl.getD j 0 → (∀ i' : Nat, i' < i → mr_ba n0 g (s + i') = mr_tc j i') → mr_J l G RX2 cX2_isWord 3 (some .boolean) 4 85 Po 28 [some (vR 11 0), some (vS j), some (vI (i : Int))] [] w := by
  intro m
  have h19 := mr_sl_bd hj
  induction m with
  | zero =>
    intro i hi hz
    refine mr_iload_n dX2_isWord_28 rfl ?_
    refine mr_aload_nS dX2_isWord_29 rfl ?_
    refine mr_callT (as := []) (by first | assumption | decide) dX2_isWord_30 (ok_J0_length_8abf5 l G) ml_X2_181 cl_J0_length_8abf5 ct_J0_length_8abf5 (by decide) rfl rfl (Nat.le_of_ble_eq_true rfl) ?_
    refine ⟨_, rfl, hj, ?_⟩
    dsimp only [Option.toList_some, Option.toList_none, List.cons_append, List.nil_append]
    refine mr_icmp_ge (tgt := 65) dX2_isWord_33 (by decide) (by omega) (by omega) (fun hc_33 => ?_) (fun hc_33 => absurd hc_33 (by omega))
    refine mr_iconst dX2_isWord_65 ?_
    refine mr_zret rfl (Or.inr rfl) dX2_isWord_66 ?_
    exact hP (fun i2 g1 => hz i2 (by omega))
  | succ m ih =>
    intro i hi hz
    have hba : InR (mr_ba n0 g (s + i)) := by unfold mr_ba; split <;> omega
    have htc := mr_tc_bd (k := i) hj (by omega)
    have htn : ((i : Int)).toNat = i := by omega
    refine mr_iload_n dX2_isWord_28 rfl ?_
    refine mr_aload_nS dX2_isWord_29 rfl ?_
    refine mr_callT (as := []) (by first | assumption | decide) dX2_isWord_30 (ok_J0_length_8abf5 l G) ml_X2_181 cl_J0_length_8abf5 ct_J0_length_8abf5 (by decide) rfl rfl (Nat.le_of_ble_eq_true rfl) ?_
    refine ⟨_, rfl, hj, ?_⟩
    dsimp only [Option.toList_some, Option.toList_none, List.cons_append, List.nil_append]
    refine mr_icmp_ge (tgt := 65) dX2_isWord_33 (by decide) (by omega) (by omega) (fun hc_33 => absurd hc_33 (by omega)) (fun hc_33 => ?_)
    refine mr_aload_n dX2_isWord_36 rfl ?_
    refine mr_get dX2_isWord_37 fl_X2_22 (by first | assumption | exact mr_up_same _ _ _ | exact mr_lk (by assumption) (by decide) | exact mr_lk (mr_up_same _ _ _) (by decide) | exact mr_lk (mr_lk (by assumption) (by decide)) (by decide) | exact mr_wS_8 _ _ _ _ _ _ | exact mr_wS_9 _ _ _ _ _ _ | exact mr_wS_10 _ _ _ _ _ _ | exact (mr_wS_ne _ _ _ _ _ _ (by decide)).trans (by assumption) | exact (mr_wS_ne _ _ _ _ _ _ (by decide)).trans (mr_up_same _ _ _) | exact (mr_wS_ne _ _ _ _ _ _ (by decide)).trans (mr_lk (by assumption) (by decide))) rfl ?_
    refine mr_aload_n dX2_isWord_40 rfl ?_
    refine mr_get dX2_isWord_41 fl_X2_81 (by first | assumption | exact mr_up_same _ _ _ | exact mr_lk (by assumption) (by decide) | exact mr_lk (mr_up_same _ _ _) (by decide) | exact mr_lk (mr_lk (by assumption) (by decide)) (by decide) | exact mr_wS_8 _ _ _ _ _ _ | exact mr_wS_9 _ _ _ _ _ _ | exact mr_wS_10 _ _ _ _ _ _ | exact (mr_wS_ne _ _ _ _ _ _ (by decide)).trans (by assumption) | exact (mr_wS_ne _ _ _ _ _ _ (by decide)).trans (mr_up_same _ _ _) | exact (mr_wS_ne _ _ _ _ _ _ (by decide)).trans (mr_lk (by assumption) (by decide))) rfl ?_
    refine mr_iload_n dX2_isWord_44 rfl ?_
    refine mr_iadd dX2_isWord_45 ?_
    refine mr_callV (as := [_]) dX2_isWord_46 (ok_X5_byteAt l G) ml_X2_164 cl_X5_byteAt cv_X5_byteAt (by decide) rfl rfl (Nat.le_of_ble_eq_true rfl) (by first | assumption | exact mr_up_same _ _ _ | exact mr_lk (by assumption) (by decide) | exact mr_lk (mr_up_same _ _ _) (by decide) | exact mr_lk (mr_lk (by assumption) (by decide)) (by decide) | exact mr_wS_8 _ _ _ _ _ _ | exact mr_wS_9 _ _ _ _ _ _ | exact mr_wS_10 _ _ _ _ _ _ | exact (mr_wS_ne _ _ _ _ _ _ (by decide)).trans (by assumption) | exact (mr_wS_ne _ _ _ _ _ _ (by decide)).trans (mr_up_same _ _ _) | exact (mr_wS_ne _ _ _ _ _ _ (by decide)).trans (mr_lk (by assumption) (by decide))) ?_
    refine ⟨_, _, _, rfl, ⟨h1, h2⟩, hn0, ⟨by omega, by omega⟩, ?_⟩
    dsimp only [Option.toList_some, Option.toList_none, List.cons_append, List.nil_append]
    refine mr_aload_nS dX2_isWord_49 rfl ?_
    refine mr_iload_n dX2_isWord_50 rfl ?_
    refine mr_callT (as := [_]) (by first | assumption | decide) dX2_isWord_51 (ok_J0_charAt_5068e l G) ml_X2_184 cl_J0_charAt_5068e ct_J0_charAt_5068e (by decide) rfl rfl (Nat.le_of_ble_eq_true rfl) ?_
    refine ⟨_, _, rfl, hj, ⟨by omega, by omega⟩, ?_⟩
    rw [htn]
    dsimp only [Option.toList_some, Option.toList_none, List.cons_append, List.nil_append]
    refine mr_icmp_eq (tgt := 59) dX2_isWord_54 (by decide) hba ⟨by omega, by omega⟩ (fun hc_54 => ?_) (fun hc_54 => ?_)
    · refine mr_iinc dX2_isWord_59 rfl (by decide) rfl ?_
      refine mr_goto (tgt := 28) dX2_isWord_62 (by decide) ?_
      refine ih (i + 1) (by omega) (fun i2 g1 => ?_)
      by_cases e : i2 = i
      · subst e; exact hc_54
      · exact hz i2 (by omega)
    · refine mr_iconst dX2_isWord_57 ?_
      refine mr_zret rfl (Or.inl rfl) dX2_isWord_58 ?_
      exact hQ (fun hh => hc_54 (hh i (by omega)))
def T_X2_isWord (a : List mr_AV) (w : mr_Wd) (Po : Option mr_AV → mr_Wd → Prop) : Prop := ∃ (j : Nat) (v k s n op sl ln md fk fp n0 : Int) (g : Nat → Int), a = [vR 11 0, vS j] ∧ w 11 = eRD v k s n op sl ln md fk fp ∧ mr_TP w n0 g ∧ j < 6 ∧ (0 ≤ n0 ∧ n0 ≤ 540) ∧ (0 ≤ s ∧ s ≤ 540) ∧ InR k ∧ (0 ≤ n ∧ n ≤ 540) ∧ (mr_isw n0 g k s n j → Po (some (vI 1)) w) ∧ (¬ (mr_isw n0 g k s n j) → Po (some (vI 0)) w)
set_option maxHeartbeats 4000000 in
set_option maxRecDepth 20000 in
theorem ok_X2_isWord (l : Launch) (G : mr_G) : mr_Ok l G yX2_isWord cX2_isWord 3 (some .boolean) 4 85 T_X2_isWord := by
  refine mr_Ok.of (by decide +kernel) ?_
  rintro a w Po ⟨j, v, k, s, n, op, sl, ln, md, fk, fp, n0, g, rfl, h11, ⟨h1, h2⟩, hj, hn0, hs, hk, hn, hP, hQ⟩
  refine ⟨Nat.le_of_ble_eq_true rfl, ?_⟩
  show mr_J l G RX2 cX2_isWord 3 (some .boolean) 4 85 Po 0 [some (vR 11 0), some (vS j), none] [] w
  have h19 := mr_sl_bd hj
  refine mr_aload_n dX2_isWord_0 rfl ?_
  refine mr_get dX2_isWord_1 fl_X2_55 (by first | assumption | exact mr_up_same _ _ _ | exact mr_lk (by assumption) (by decide) | exact mr_lk (mr_up_same _ _ _) (by decide) | exact mr_lk (mr_lk (by assumption) (by decide)) (by decide) | exact mr_wS_8 _ _ _ _ _ _ | exact mr_wS_9 _ _ _ _ _ _ | exact mr_wS_10 _ _ _ _ _ _ | exact (mr_wS_ne _ _ _ _ _ _ (by decide)).trans (by assumption) | exact (mr_wS_ne _ _ _ _ _ _ (by decide)).trans (mr_up_same _ _ _) | exact (mr_wS_ne _ _ _ _ _ _ (by decide)).trans (mr_lk (by assumption) (by decide))) rfl ?_
  refine mr_iconst dX2_isWord_4 ?_
  refine mr_icmp_ne (tgt := 24) dX2_isWord_5 (by decide) (by omega) (by omega) (fun hc_5 => ?_) (fun hc_5 => ?_)
  · refine mr_iconst dX2_isWord_24 ?_
    refine mr_zret rfl (Or.inl rfl) dX2_isWord_25 ?_
    exact hQ (fun z => by first | exact hc_5 z.1 | exact hc_21 z.2.1)
  · refine mr_aload_n dX2_isWord_8 rfl ?_
    refine mr_get dX2_isWord_9 fl_X2_75 (by first | assumption | exact mr_up_same _ _ _ | exact mr_lk (by assumption) (by decide) | exact mr_lk (mr_up_same _ _ _) (by decide) | exact mr_lk (mr_lk (by assumption) (by decide)) (by decide) | exact mr_wS_8 _ _ _ _ _ _ | exact mr_wS_9 _ _ _ _ _ _ | exact mr_wS_10 _ _ _ _ _ _ | exact (mr_wS_ne _ _ _ _ _ _ (by decide)).trans (by assumption) | exact (mr_wS_ne _ _ _ _ _ _ (by decide)).trans (mr_up_same _ _ _) | exact (mr_wS_ne _ _ _ _ _ _ (by decide)).trans (mr_lk (by assumption) (by decide))) rfl ?_
    refine mr_aload_n dX2_isWord_12 rfl ?_
    refine mr_get dX2_isWord_13 fl_X2_81 (by first | assumption | exact mr_up_same _ _ _ | exact mr_lk (by assumption) (by decide) | exact mr_lk (mr_up_same _ _ _) (by decide) | exact mr_lk (mr_lk (by assumption) (by decide)) (by decide) | exact mr_wS_8 _ _ _ _ _ _ | exact mr_wS_9 _ _ _ _ _ _ | exact mr_wS_10 _ _ _ _ _ _ | exact (mr_wS_ne _ _ _ _ _ _ (by decide)).trans (by assumption) | exact (mr_wS_ne _ _ _ _ _ _ (by decide)).trans (mr_up_same _ _ _) | exact (mr_wS_ne _ _ _ _ _ _ (by decide)).trans (mr_lk (by assumption) (by decide))) rfl ?_
    refine mr_isub dX2_isWord_16 ?_
    refine mr_aload_nS dX2_isWord_17 rfl ?_
    refine mr_callT (as := []) (by first | assumption | decide) dX2_isWord_18 (ok_J0_length_8abf5 l G) ml_X2_181 cl_J0_length_8abf5 ct_J0_length_8abf5 (by decide) rfl rfl (Nat.le_of_ble_eq_true rfl) ?_
    refine ⟨_, rfl, hj, ?_⟩
    dsimp only [Option.toList_some, Option.toList_none, List.cons_append, List.nil_append]
    refine mr_icmp_eq (tgt := 26) dX2_isWord_21 (by decide) (by omega) (by omega) (fun hc_21 => ?_) (fun hc_21 => ?_)
    · refine mr_iconst dX2_isWord_26 ?_
      refine mr_istore_n dX2_isWord_27 rfl (by decide) ?_
      exact lp_X2_isWord l G h11 h1 h2 hj hn0 hs (fun z => hP ⟨hc_5, hc_21, z⟩) (fun z => hQ (fun y => z y.2.2)) (mr_sl.getD j 0) 0 (by omega) (fun i2 g1 => by omega)
    · refine mr_iconst dX2_isWord_24 ?_
      refine mr_zret rfl (Or.inl rfl) dX2_isWord_25 ?_
      exact hQ (fun z => by first | exact hc_5 z.1 | exact hc_21 z.2.1)
