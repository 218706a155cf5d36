def T_X0_copyForm (a : List mr_AV) (w : mr_Wd) (Po : Option mr_AV → mr_Wd → Prop) : Prop := ∃ (b q : Nat) (f r : Nat → Int) (p c : Int), a = [vR b 0, vI p, vI c, vR q 0] ∧ mr_BK w b f ∧ w q = eA 0 3 r ∧ InR p ∧ InR c ∧ Po none (mr_up w q (eA 0 3 (fun j => mr_fa f p c j)))
set_option maxHeartbeats 4000000 in
set_option maxRecDepth 20000 in
theorem ok_X0_copyForm (l : Launch) (G : mr_G) : mr_Ok l G yX0_copyForm cX0_copyForm 5 none 2 46 T_X0_copyForm := by
  refine mr_Ok.of (by decide +kernel) ?_
  rintro a w Po ⟨b, q, f, r, p, c, rfl, ⟨hb, hc⟩, hq, hp, hc0, hP⟩
  refine ⟨Nat.le_of_ble_eq_true rfl, ?_⟩
  show mr_J l G RX0 cX0_copyForm 5 none 2 46 Po 0 [some (vR b 0), some (vI p), some (vI c), some (vR q 0), none] [] w
  have hqb : b ≠ q := fun e => by rw [e, hq] at hb; cases hb
  have hqc : b + 1 ≠ q := fun e => by rw [e, hq] at hc; cases hc
  refine mr_iconst dX0_copyForm_0 ?_
  refine mr_istore dX0_copyForm_1 rfl (by decide) ?_
  refine mr_iload dX0_copyForm_3 rfl ?_
  refine mr_aload_n dX0_copyForm_5 rfl ?_
  refine mr_alen dX0_copyForm_6 (by first | assumption | exact mr_up_same _ _ _ | exact mr_lk (by assumption) (by first | assumption | decide) | exact mr_lk (mr_up_same _ _ _) (by first | assumption | decide) | exact mr_lk (mr_lk (by assumption) (by first | assumption | decide)) (by first | assumption | decide)) (by decide) ?_
  refine mr_icmp_ge (tgt := 28) dX0_copyForm_7 (by decide) (by omega) (by omega) (fun h => absurd h (by decide)) (fun _ => ?_)
  refine mr_aload_n dX0_copyForm_10 rfl ?_
  refine mr_iload dX0_copyForm_11 rfl ?_
  refine mr_aload_n dX0_copyForm_13 rfl ?_
  refine mr_iload_n dX0_copyForm_14 rfl ?_
  refine mr_iload_n dX0_copyForm_15 rfl ?_
  refine mr_iload dX0_copyForm_16 rfl ?_
  refine mr_callV (as := [_, _, _]) dX0_copyForm_18 (ok_X0_formAt l G) ml_X0_51 cl_X0_formAt cv_X0_formAt (by decide) rfl rfl (Nat.le_of_ble_eq_true rfl) (by first | assumption | exact mr_up_same _ _ _ | exact mr_lk (by assumption) (by first | assumption | decide) | exact mr_lk (mr_up_same _ _ _) (by first | assumption | decide) | exact mr_lk (mr_lk (by assumption) (by first | assumption | decide)) (by first | assumption | decide)) ?_
  refine ⟨_, _, _, _, _, rfl, ⟨(by first | assumption | exact mr_up_same _ _ _ | exact mr_lk (by assumption) (by first | assumption | decide) | exact mr_lk (mr_up_same _ _ _) (by first | assumption | decide) | exact mr_lk (mr_lk (by assumption) (by first | assumption | decide)) (by first | assumption | decide)), (by first | assumption | exact mr_up_same _ _ _ | exact mr_lk (by assumption) (by first | assumption | decide) | exact mr_lk (mr_up_same _ _ _) (by first | assumption | decide) | exact mr_lk (mr_lk (by assumption) (by first | assumption | decide)) (by first | assumption | decide))⟩, (by omega), (by omega), (by omega), ?_⟩
  dsimp only [Option.toList_some, Option.toList_none, List.cons_append, List.nil_append]
  refine mr_iast dX0_copyForm_21 (by first | assumption | exact mr_up_same _ _ _ | exact mr_lk (by assumption) (by first | assumption | decide) | exact mr_lk (mr_up_same _ _ _) (by first | assumption | decide) | exact mr_lk (mr_lk (by assumption) (by first | assumption | decide)) (by first | assumption | decide)) (by omega) (by omega) (by decide) ?_
  try rw [mr_up_up]
  refine mr_iinc dX0_copyForm_22 rfl (by decide) rfl ?_
  refine mr_goto (tgt := 3) dX0_copyForm_25 (by decide) ?_
  refine mr_iload dX0_copyForm_3 rfl ?_
  refine mr_aload_n dX0_copyForm_5 rfl ?_
  refine mr_alen dX0_copyForm_6 (by first | assumption | exact mr_up_same _ _ _ | exact mr_lk (by assumption) (by first | assumption | decide) | exact mr_lk (mr_up_same _ _ _) (by first | assumption | decide) | exact mr_lk (mr_lk (by assumption) (by first | assumption | decide)) (by first | assumption | decide)) (by decide) ?_
  refine mr_icmp_ge (tgt := 28) dX0_copyForm_7 (by decide) (by omega) (by omega) (fun h => absurd h (by decide)) (fun _ => ?_)
  refine mr_aload_n dX0_copyForm_10 rfl ?_
  refine mr_iload dX0_copyForm_11 rfl ?_
  refine mr_aload_n dX0_copyForm_13 rfl ?_
  refine mr_iload_n dX0_copyForm_14 rfl ?_
  refine mr_iload_n dX0_copyForm_15 rfl ?_
  refine mr_iload dX0_copyForm_16 rfl ?_
  refine mr_callV (as := [_, _, _]) dX0_copyForm_18 (ok_X0_formAt l G) ml_X0_51 cl_X0_formAt cv_X0_formAt (by decide) rfl rfl (Nat.le_of_ble_eq_true rfl) (by first | assumption | exact mr_up_same _ _ _ | exact mr_lk (by assumption) (by first | assumption | decide) | exact mr_lk (mr_up_same _ _ _) (by first | assumption | decide) | exact mr_lk (mr_lk (by assumption) (by first | assumption | decide)) (by first | assumption | decide)) ?_
  refine ⟨_, _, _, _, _, rfl, ⟨(by first | assumption | exact mr_up_same _ _ _ | exact mr_lk (by assumption) (by first | assumption | decide) | exact mr_lk (mr_up_same _ _ _) (by first | assumption | decide) | exact mr_lk (mr_lk (by assumption) (by first | assumption | decide)) (by first | assumption | decide)), (by first | assumption | exact mr_up_same _ _ _ | exact mr_lk (by assumption) (by first | assumption | decide) | exact mr_lk (mr_up_same _ _ _) (by first | assumption | decide) | exact mr_lk (mr_lk (by assumption) (by first | assumption | decide)) (by first | assumption | decide))⟩, (by omega), (by omega), (by omega), ?_⟩
  dsimp only [Option.toList_some, Option.toList_none, List.cons_append, List.nil_append]
  refine mr_iast dX0_copyForm_21 (by first | assumption | exact mr_up_same _ _ _ | exact mr_lk (by assumption) (by first | assumption | decide) | exact mr_lk (mr_up_same _ _ _) (by first | assumption | decide) | exact mr_lk (mr_lk (by assumption) (by first | assumption | decide)) (by first | assumption | decide)) (by omega) (by omega) (by decide) ?_
  try rw [mr_up_up]
  refine mr_iinc dX0_copyForm_22 rfl (by decide) rfl ?_
  refine mr_goto (tgt := 3) dX0_copyForm_25 (by decide) ?_
  refine mr_iload dX0_copyForm_3 rfl ?_
  refine mr_aload_n dX0_copyForm_5 rfl ?_
  refine mr_alen dX0_copyForm_6 (by first | assumption | exact mr_up_same _ _ _ | exact mr_lk (by assumption) (by first | assumption | decide) | exact mr_lk (mr_up_same _ _ _) (by first | assumption | decide) | exact mr_lk (mr_lk (by assumption) (by first | assumption | decide)) (by first | assumption | decide)) (by decide) ?_
  refine mr_icmp_ge (tgt := 28) dX0_copyForm_7 (by decide) (by omega) (by omega) (fun h => absurd h (by decide)) (fun _ => ?_)
  refine mr_aload_n dX0_copyForm_10 rfl ?_
  refine mr_iload dX0_copyForm_11 rfl ?_
  refine mr_aload_n dX0_copyForm_13 rfl ?_
  refine mr_iload_n dX0_copyForm_14 rfl ?_
  refine mr_iload_n dX0_copyForm_15 rfl ?_
  refine mr_iload dX0_copyForm_16 rfl ?_
  refine mr_callV (as := [_, _, _]) dX0_copyForm_18 (ok_X0_formAt l G) ml_X0_51 cl_X0_formAt cv_X0_formAt (by decide) rfl rfl (Nat.le_of_ble_eq_true rfl) (by first | assumption | exact mr_up_same _ _ _ | exact mr_lk (by assumption) (by first | assumption | decide) | exact mr_lk (mr_up_same _ _ _) (by first | assumption | decide) | exact mr_lk (mr_lk (by assumption) (by first | assumption | decide)) (by first | assumption | decide)) ?_
  refine ⟨_, _, _, _, _, rfl, ⟨(by first | assumption | exact mr_up_same _ _ _ | exact mr_lk (by assumption) (by first | assumption | decide) | exact mr_lk (mr_up_same _ _ _) (by first | assumption | decide) | exact mr_lk (mr_lk (by assumption) (by first | assumption | decide)) (by first | assumption | decide)), (by first | assumption | exact mr_up_same _ _ _ | exact mr_lk (by assumption) (by first | assumption | decide) | exact mr_lk (mr_up_same _ _ _) (by first | assumption | decide) | exact mr_lk (mr_lk (by assumption) (by first | assumption | decide)) (by first | assumption | decide))⟩, (by omega), (by omega), (by omega), ?_⟩
  dsimp only [Option.toList_some, Option.toList_none, List.cons_append, List.nil_append]
  refine mr_iast dX0_copyForm_21 (by first | assumption | exact mr_up_same _ _ _ | exact mr_lk (by assumption) (by first | assumption | decide) | exact mr_lk (mr_up_same _ _ _) (by first | assumption | decide) | exact mr_lk (mr_lk (by assumption) (by first | assumption | decide)) (by first | assumption | decide)) (by omega) (by omega) (by decide) ?_
  try rw [mr_up_up]
  refine mr_iinc dX0_copyForm_22 rfl (by decide) rfl ?_
  refine mr_goto (tgt := 3) dX0_copyForm_25 (by decide) ?_
  refine mr_iload dX0_copyForm_3 rfl ?_
  refine mr_aload_n dX0_copyForm_5 rfl ?_
  refine mr_alen dX0_copyForm_6 (by first | assumption | exact mr_up_same _ _ _ | exact mr_lk (by assumption) (by first | assumption | decide) | exact mr_lk (mr_up_same _ _ _) (by first | assumption | decide) | exact mr_lk (mr_lk (by assumption) (by first | assumption | decide)) (by first | assumption | decide)) (by decide) ?_
  refine mr_icmp_ge (tgt := 28) dX0_copyForm_7 (by decide) (by omega) (by omega) (fun _ => ?_) (fun h => absurd h (by decide))
  refine mr_extA (mr_up_same _ _ _) (g := fun j => mr_fa f p c j) (fun j hj => ?_) ?_
  · rcases (show j = 0 ∨ j = 1 ∨ j = 2 by omega) with rfl | rfl | rfl <;> rfl
  · rw [mr_up_up]
    exact mr_vret rfl dX0_copyForm_28 hP
def T_X0_choices (a : List mr_AV) (w : mr_Wd) (Po : Option mr_AV → mr_Wd → Prop) : Prop := ∃ (b : Nat) (f : Nat → Int) (p c : Int), a = [vR b 0, vI p, vI c] ∧ mr_BK w b f ∧ mr_Bd f ∧ InR p ∧ InR c ∧ Po (some (vI (mr_ch f p c))) w
set_option maxHeartbeats 4000000 in
set_option maxRecDepth 20000 in
theorem ok_X0_choices (l : Launch) (G : mr_G) : mr_Ok l G yX0_choices cX0_choices 4 (some .int) 2 46 T_X0_choices := by
  refine mr_Ok.of (by decide +kernel) ?_
  rintro a w Po ⟨b, f, p, c, rfl, ⟨hb, hc⟩, hB, hp, hc0, hP⟩
  refine ⟨Nat.le_of_ble_eq_true rfl, ?_⟩
  show mr_J l G RX0 cX0_choices 4 (some .int) 2 46 Po 0 [some (vR b 0), some (vI p), some (vI c), none] [] w
  have h0 := hB.1 0
  have hz : f (Int.toNat 0) = f 0 := rfl
  have hl := mr_fa_bd hB p c c
  refine mr_aload_n dX0_choices_0 rfl ?_
  refine mr_iload_n dX0_choices_1 rfl ?_
  refine mr_iload_n dX0_choices_2 rfl ?_
  refine mr_iload_n dX0_choices_3 rfl ?_
  refine mr_callV (as := [_, _, _]) dX0_choices_4 (ok_X0_formAt l G) ml_X0_51 cl_X0_formAt cv_X0_formAt (by decide) rfl rfl (Nat.le_of_ble_eq_true rfl) (by first | assumption | exact mr_up_same _ _ _ | exact mr_lk (by assumption) (by first | assumption | decide) | exact mr_lk (mr_up_same _ _ _) (by first | assumption | decide) | exact mr_lk (mr_lk (by assumption) (by first | assumption | decide)) (by first | assumption | decide)) ?_
  refine ⟨_, _, _, _, _, rfl, ⟨(by first | assumption | exact mr_up_same _ _ _ | exact mr_lk (by assumption) (by first | assumption | decide) | exact mr_lk (mr_up_same _ _ _) (by first | assumption | decide) | exact mr_lk (mr_lk (by assumption) (by first | assumption | decide)) (by first | assumption | decide)), (by first | assumption | exact mr_up_same _ _ _ | exact mr_lk (by assumption) (by first | assumption | decide) | exact mr_lk (mr_up_same _ _ _) (by first | assumption | decide) | exact mr_lk (mr_lk (by assumption) (by first | assumption | decide)) (by first | assumption | decide))⟩, (by omega), (by omega), (by omega), ?_⟩
  dsimp only [Option.toList_some, Option.toList_none, List.cons_append, List.nil_append]
  refine mr_istore_n dX0_choices_7 rfl (by decide) ?_
  refine mr_iload_n dX0_choices_8 rfl ?_
  refine mr_if_le (tgt := 27) dX0_choices_9 (by decide) (by omega) (fun hc_9 => ?_) (fun hc_9 => ?_)
  · refine mr_iconst dX0_choices_27 ?_
    refine mr_iret rfl dX0_choices_28 ?_
    first | (rw [mr_ch, if_pos (by omega)] at hP; exact hP) | (rw [mr_ch, if_neg (by omega)] at hP; exact hP)
  · refine mr_iconst dX0_choices_12 ?_
    refine mr_aload_n dX0_choices_13 rfl ?_
    refine mr_get dX0_choices_14 fl_X0_11 (by first | assumption | exact mr_up_same _ _ _ | exact mr_lk (by assumption) (by first | assumption | decide) | exact mr_lk (mr_up_same _ _ _) (by first | assumption | decide) | exact mr_lk (mr_lk (by assumption) (by first | assumption | decide)) (by first | assumption | decide)) rfl ?_
    refine mr_iconst dX0_choices_17 ?_
    refine mr_iald dX0_choices_18 (by first | assumption | exact mr_up_same _ _ _ | exact mr_lk (by assumption) (by first | assumption | decide) | exact mr_lk (mr_up_same _ _ _) (by first | assumption | decide) | exact mr_lk (mr_lk (by assumption) (by first | assumption | decide)) (by first | assumption | decide)) (by omega) (by omega) (by decide) ?_
    refine mr_iload_n dX0_choices_19 rfl ?_
    refine mr_idiv dX0_choices_20 ⟨by rw [hz]; omega, by rw [hz]; omega⟩ (by omega) (by omega) ?_
    refine mr_callS (as := [_, _]) dX0_choices_21 (ok_J9_max_7cf53 l G) ml_X0_21 cl_J9_max_7cf53 cs_J9_max_7cf53 (by decide) rfl rfl (Nat.le_of_ble_eq_true rfl) ?_
    have hd : Int.tdiv (f (Int.toNat 0)) (mr_fa f p c c) = f 0 / mr_fa f p c c := by rw [hz]; exact Int.tdiv_eq_ediv_of_nonneg h0.1
    rw [hd]
    have hd1 := Int.ediv_le_self (mr_fa f p c c) h0.1
    have hd2 := Int.ediv_nonneg h0.1 hl.1
    refine ⟨_, _, rfl, (by omega), (by omega), ?_⟩
    dsimp only [Option.toList_some, Option.toList_none, List.cons_append, List.nil_append]
    refine mr_goto (tgt := 28) dX0_choices_24 (by decide) ?_
    refine mr_iret rfl dX0_choices_28 ?_
    first | (rw [mr_ch, if_pos (by omega)] at hP; exact hP) | (rw [mr_ch, if_neg (by omega)] at hP; exact hP)
set_option maxHeartbeats 4000000 in
set_option maxRecDepth 20000 in
theorem lp_X0_sizeFrom (l : Launch) (G : mr_G) {Po : Option mr_AV → mr_Wd → Prop} {b : Nat} {f : Nat → Int} {p : Int} {w : mr_Wd} (hb : w b = eO 0 [vR (b + 1) 0]) (hc : w (b + 1) = eA 0 51 f) (hB : mr_Bd f) (hp : InR p) : ∀ (n : Nat) (c s : Int), 0 ≤ c ∧ c ≤ 5 → f 1 - c ≤ n → Po (some (vI (mr_szl f p n c s))) w → mr_J l G RX0 cX0_sizeFrom 5 (some .int) 3 69 Po 5 [some (vR b 0), some (vI p), none, some (vI s), some (vI c)] [] w := by
  have h1 := hB.1 1
  have h2 := hB.2.1
  have hz : f (Int.toNat 1) = f 1 := rfl
  intro n
  induction n with
  | zero =>
    intro c s hc0 hn hP
    refine mr_iload dX0_sizeFrom_5 rfl ?_
    refine mr_aload_n dX0_sizeFrom_7 rfl ?_
    refine mr_get dX0_sizeFrom_8 fl_X0_11 (by first | assumption | exact mr_up_same _ _ _ | exact mr_lk (by assumption) (by first | assumption | decide) | exact mr_lk (mr_up_same _ _ _) (by first | assumption | decide) | exact mr_lk (mr_lk (by assumption) (by first | assumption | decide)) (by first | assumption | decide)) rfl ?_
    refine mr_iconst dX0_sizeFrom_11 ?_
    refine mr_iald dX0_sizeFrom_12 (by first | assumption | exact mr_up_same _ _ _ | exact mr_lk (by assumption) (by first | assumption | decide) | exact mr_lk (mr_up_same _ _ _) (by first | assumption | decide) | exact mr_lk (mr_lk (by assumption) (by first | assumption | decide)) (by first | assumption | decide)) (by omega) (by omega) (by decide) ?_
    refine mr_icmp_ge (tgt := 32) dX0_sizeFrom_13 (by decide) (by omega) ⟨by rw [hz]; omega, by rw [hz]; omega⟩ (fun hc_13 => ?_) (fun hc_13 => absurd hc_13 (by omega))
    refine mr_iload_n dX0_sizeFrom_32 rfl ?_
    refine mr_iret rfl dX0_sizeFrom_33 ?_
    exact hP
  | succ n ih =>
    intro c s hc0 hn hP
    refine mr_iload dX0_sizeFrom_5 rfl ?_
    refine mr_aload_n dX0_sizeFrom_7 rfl ?_
    refine mr_get dX0_sizeFrom_8 fl_X0_11 (by first | assumption | exact mr_up_same _ _ _ | exact mr_lk (by assumption) (by first | assumption | decide) | exact mr_lk (mr_up_same _ _ _) (by first | assumption | decide) | exact mr_lk (mr_lk (by assumption) (by first | assumption | decide)) (by first | assumption | decide)) rfl ?_
    refine mr_iconst dX0_sizeFrom_11 ?_
    refine mr_iald dX0_sizeFrom_12 (by first | assumption | exact mr_up_same _ _ _ | exact mr_lk (by assumption) (by first | assumption | decide) | exact mr_lk (mr_up_same _ _ _) (by first | assumption | decide) | exact mr_lk (mr_lk (by assumption) (by first | assumption | decide)) (by first | assumption | decide)) (by omega) (by omega) (by decide) ?_
    refine mr_icmp_ge (tgt := 32) dX0_sizeFrom_13 (by decide) (by omega) ⟨by rw [hz]; omega, by rw [hz]; omega⟩ (fun hc_13 => ?_) (fun hc_13 => ?_)
    · refine mr_iload_n dX0_sizeFrom_32 rfl ?_
      refine mr_iret rfl dX0_sizeFrom_33 ?_
      rw [mr_szl, if_neg (by omega)] at hP
      exact hP
    · refine mr_iload_n dX0_sizeFrom_16 rfl ?_
      refine mr_aload_n dX0_sizeFrom_17 rfl ?_
      refine mr_iload_n dX0_sizeFrom_18 rfl ?_
      refine mr_iload dX0_sizeFrom_19 rfl ?_
      refine mr_callV (as := [_, _]) dX0_sizeFrom_21 (ok_X0_choices l G) ml_X0_61 cl_X0_choices cv_X0_choices (by decide) rfl rfl (Nat.le_of_ble_eq_true rfl) (by first | assumption | exact mr_up_same _ _ _ | exact mr_lk (by assumption) (by first | assumption | decide) | exact mr_lk (mr_up_same _ _ _) (by first | assumption | decide) | exact mr_lk (mr_lk (by assumption) (by first | assumption | decide)) (by first | assumption | decide)) ?_
      refine ⟨_, _, _, _, rfl, ⟨(by first | assumption | exact mr_up_same _ _ _ | exact mr_lk (by assumption) (by first | assumption | decide) | exact mr_lk (mr_up_same _ _ _) (by first | assumption | decide) | exact mr_lk (mr_lk (by assumption) (by first | assumption | decide)) (by first | assumption | decide)), (by first | assumption | exact mr_up_same _ _ _ | exact mr_lk (by assumption) (by first | assumption | decide) | exact mr_lk (mr_up_same _ _ _) (by first | assumption | decide) | exact mr_lk (mr_lk (by assumption) (by first | assumption | decide)) (by first | assumption | decide))⟩, (by assumption), (by omega), (by omega), ?_⟩
      dsimp only [Option.toList_some, Option.toList_none, List.cons_append, List.nil_append]
      refine mr_imul dX0_sizeFrom_24 ?_
      refine mr_istore_n dX0_sizeFrom_25 rfl (by decide) ?_
      refine mr_iinc dX0_sizeFrom_26 rfl (by decide) rfl ?_
      refine mr_goto (tgt := 5) dX0_sizeFrom_29 (by decide) ?_
      rw [mr_szl, if_pos (by omega)] at hP
      exact ih (c + 1) _ (by omega) (by omega) hP
def T_X0_sizeFrom (a : List mr_AV) (w : mr_Wd) (Po : Option mr_AV → mr_Wd → Prop) : Prop := ∃ (b : Nat) (f : Nat → Int) (p c : Int), a = [vR b 0, vI p, vI c] ∧ mr_BK w b f ∧ mr_Bd f ∧ InR p ∧ InR c ∧ (0 ≤ c ∧ c ≤ 5) ∧ Po (some (vI (mr_sz f p c))) w
set_option maxHeartbeats 4000000 in
set_option maxRecDepth 20000 in
theorem ok_X0_sizeFrom (l : Launch) (G : mr_G) : mr_Ok l G yX0_sizeFrom cX0_sizeFrom 5 (some .int) 3 69 T_X0_sizeFrom := by
  refine mr_Ok.of (by decide +kernel) ?_
  rintro a w Po ⟨b, f, p, c, rfl, ⟨hb, hc⟩, hB, hp, hc0, hc1, hP⟩
  refine ⟨Nat.le_of_ble_eq_true rfl, ?_⟩
  show mr_J l G RX0 cX0_sizeFrom 5 (some .int) 3 69 Po 0 [some (vR b 0), some (vI p), some (vI c), none, none] [] w
  refine mr_iconst dX0_sizeFrom_0 ?_
  refine mr_istore_n dX0_sizeFrom_1 rfl (by decide) ?_
  refine mr_iload_n dX0_sizeFrom_2 rfl ?_
  refine mr_istore dX0_sizeFrom_3 rfl (by decide) ?_
  refine mr_weak [some (vR b 0), some (vI p), none, some (vI 1), some (vI c)] ⟨rfl, rfl, rfl, rfl, trivial⟩ ?_
  exact lp_X0_sizeFrom l G hb hc hB hp 3 c 1 hc1 (by have := hB.2.1; omega) hP
def T_X0_sizeOf (a : List mr_AV) (w : mr_Wd) (Po : Option mr_AV → mr_Wd → Prop) : Prop := ∃ (b : Nat) (f : Nat → Int) (p : Int), a = [vR b 0, vI p] ∧ mr_BK w b f ∧ mr_Bd f ∧ InR p ∧ Po (some (vI (mr_sz f p 0))) w
set_option maxHeartbeats 4000000 in
set_option maxRecDepth 20000 in
theorem ok_X0_sizeOf (l : Launch) (G : mr_G) : mr_Ok l G yX0_sizeOf cX0_sizeOf 2 (some .int) 4 93 T_X0_sizeOf := by
  refine mr_Ok.of (by decide +kernel) ?_
  rintro a w Po ⟨b, f, p, rfl, ⟨hb, hc⟩, hB, hp, hP⟩
  refine ⟨Nat.le_of_ble_eq_true rfl, ?_⟩
  show mr_J l G RX0 cX0_sizeOf 2 (some .int) 4 93 Po 0 [some (vR b 0), some (vI p)] [] w
  refine mr_aload_n dX0_sizeOf_0 rfl ?_
  refine mr_iload_n dX0_sizeOf_1 rfl ?_
  refine mr_iconst dX0_sizeOf_2 ?_
  refine mr_callV (as := [_, _]) dX0_sizeOf_3 (ok_X0_sizeFrom l G) ml_X0_58 cl_X0_sizeFrom cv_X0_sizeFrom (by decide) rfl rfl (Nat.le_of_ble_eq_true rfl) (by first | assumption | exact mr_up_same _ _ _ | exact mr_lk (by assumption) (by first | assumption | decide) | exact mr_lk (mr_up_same _ _ _) (by first | assumption | decide) | exact mr_lk (mr_lk (by assumption) (by first | assumption | decide)) (by first | assumption | decide)) ?_
  refine ⟨_, _, _, _, rfl, ⟨(by first | assumption | exact mr_up_same _ _ _ | exact mr_lk (by assumption) (by first | assumption | decide) | exact mr_lk (mr_up_same _ _ _) (by first | assumption | decide) | exact mr_lk (mr_lk (by assumption) (by first | assumption | decide)) (by first | assumption | decide)), (by first | assumption | exact mr_up_same _ _ _ | exact mr_lk (by assumption) (by first | assumption | decide) | exact mr_lk (mr_up_same _ _ _) (by first | assumption | decide) | exact mr_lk (mr_lk (by assumption) (by first | assumption | decide)) (by first | assumption | decide))⟩, (by assumption), (by omega), (by omega), (by omega), ?_⟩
  dsimp only [Option.toList_some, Option.toList_none, List.cons_append, List.nil_append]
  refine mr_iret rfl dX0_sizeOf_6 ?_
  exact hP
def mr_Rd (r : Nat → Int) : Prop := ∀ j : Nat, 0 ≤ r j ∧ r j ≤ 30
theorem mr_af_bd {f r : Nat → Int} (hB : mr_Bd f) (hr : mr_Rd r) (p c t : Int) : mr_Rd (mr_af f p c t r) := by
  intro j
  unfold mr_af
  split
  · exact mr_rs_bd hB _
  · exact hr j
theorem mr_mul_bd {x y A B : Int} (hx : -A ≤ x ∧ x ≤ A) (hy : 0 ≤ y ∧ y ≤ B) (hA : 0 ≤ A) : -(A * B) ≤ x * y ∧ x * y ≤ A * B := by
  have h1 : x * y ≤ A * y := Int.mul_le_mul_of_nonneg_right hx.2 hy.1
  have h2 : A * y ≤ A * B := Int.mul_le_mul_of_nonneg_left hy.2 hA
  have h3 : -A * y ≤ x * y := Int.mul_le_mul_of_nonneg_right hx.1 hy.1
  rw [Int.neg_mul] at h3
  omega
set_option maxHeartbeats 4000000 in
set_option maxRecDepth 20000 in
theorem lp_X0_addForm (l : Launch) (G : mr_G) {Po : Option mr_AV → mr_Wd → Prop} {b q : Nat} {f r : Nat → Int} {p c t : Int} {w : mr_Wd} (hb : w b = eO 0 [vR (b + 1) 0]) (hc : w (b + 1) = eA 0 51 f) (hqb : b ≠ q) (hqc : b + 1 ≠ q) (hB : mr_Bd f) (hr : mr_Rd r) (hp : InR p) (hc0 : 0 ≤ c ∧ c ≤ 3) (ht : -100000 ≤ t ∧ t ≤ 100000) (hP : Po none (mr_up w q (eA 0 3 (mr_af f p c t r)))) : ∀ (n : Nat) (a : Int), c ≤ a → a + n = 3 → mr_J l G RX0 cX0_addForm 6 none 2 46 Po 3 [some (vR b 0), some (vI p), some (vI c), some (vI t), some (vR q 0), some (vI a)] [] (mr_up w q (eA 0 3 (mr_afU f p c t r a))) := by
  intro n
  induction n with
  | zero =>
    intro a ha hn
    refine mr_iload dX0_addForm_3 rfl ?_
    refine mr_aload dX0_addForm_5 rfl ?_
    refine mr_alen dX0_addForm_7 (by first | assumption | exact mr_up_same _ _ _ | exact mr_lk (by assumption) (by first | assumption | decide) | exact mr_lk (mr_up_same _ _ _) (by first | assumption | decide) | exact mr_lk (mr_lk (by assumption) (by first | assumption | decide)) (by first | assumption | decide)) (by decide) ?_
    refine mr_icmp_ge (tgt := 42) dX0_addForm_8 (by decide) (by omega) (by omega) (fun hc_8 => ?_) (fun hc_8 => absurd hc_8 (by omega))
    refine mr_extA (mr_up_same _ _ _) (g := mr_af f p c t r) (fun j hj => ?_) ?_
    · unfold mr_afU mr_af
      by_cases h : c ≤ (j : Int)
      · rw [if_pos ⟨h, by omega⟩, if_pos h]
      · rw [if_neg (fun z => h z.1), if_neg h]
    · rw [mr_up_up]
      exact mr_vret rfl dX0_addForm_42 hP
  | succ n ih =>
    intro a ha hn
    have hfa := mr_fa_bd hB p c a
    have hm := mr_mul_bd ht hfa (by decide)
    have hU : mr_afU f p c t r a a.toNat = r a.toNat := by
      unfold mr_afU
      rw [if_neg (fun z => by have := z.2; omega)]
    have hra := hr a.toNat
    refine mr_iload dX0_addForm_3 rfl ?_
    refine mr_aload dX0_addForm_5 rfl ?_
    refine mr_alen dX0_addForm_7 (by first | assumption | exact mr_up_same _ _ _ | exact mr_lk (by assumption) (by first | assumption | decide) | exact mr_lk (mr_up_same _ _ _) (by first | assumption | decide) | exact mr_lk (mr_lk (by assumption) (by first | assumption | decide)) (by first | assumption | decide)) (by decide) ?_
    refine mr_icmp_ge (tgt := 42) dX0_addForm_8 (by decide) (by omega) (by omega) (fun hc_8 => absurd hc_8 (by omega)) (fun hc_8 => ?_)
    refine mr_aload dX0_addForm_11 rfl ?_
    refine mr_iload dX0_addForm_13 rfl ?_
    refine mr_aload_n dX0_addForm_15 rfl ?_
    refine mr_aload dX0_addForm_16 rfl ?_
    refine mr_iload dX0_addForm_18 rfl ?_
    refine mr_iald dX0_addForm_20 (by first | assumption | exact mr_up_same _ _ _ | exact mr_lk (by assumption) (by first | assumption | decide) | exact mr_lk (mr_up_same _ _ _) (by first | assumption | decide) | exact mr_lk (mr_lk (by assumption) (by first | assumption | decide)) (by first | assumption | decide)) (by omega) (by omega) (by decide) ?_
    refine mr_iload_n dX0_addForm_21 rfl ?_
    refine mr_aload_n dX0_addForm_22 rfl ?_
    refine mr_iload_n dX0_addForm_23 rfl ?_
    refine mr_iload_n dX0_addForm_24 rfl ?_
    refine mr_iload dX0_addForm_25 rfl ?_
    refine mr_callV (as := [_, _, _]) dX0_addForm_27 (ok_X0_formAt l G) ml_X0_51 cl_X0_formAt cv_X0_formAt (by decide) rfl rfl (Nat.le_of_ble_eq_true rfl) (by first | assumption | exact mr_up_same _ _ _ | exact mr_lk (by assumption) (by first | assumption | decide) | exact mr_lk (mr_up_same _ _ _) (by first | assumption | decide) | exact mr_lk (mr_lk (by assumption) (by first | assumption | decide)) (by first | assumption | decide)) ?_
    refine ⟨_, _, _, _, _, rfl, ⟨(by first | assumption | exact mr_up_same _ _ _ | exact mr_lk (by assumption) (by first | assumption | decide) | exact mr_lk (mr_up_same _ _ _) (by first | assumption | decide) | exact mr_lk (mr_lk (by assumption) (by first | assumption | decide)) (by first | assumption | decide)), (by first | assumption | exact mr_up_same _ _ _ | exact mr_lk (by assumption) (by first | assumption | decide) | exact mr_lk (mr_up_same _ _ _) (by first | assumption | decide) | exact mr_lk (mr_lk (by assumption) (by first | assumption | decide)) (by first | assumption | decide))⟩, (by omega), (by omega), (by omega), ?_⟩
    dsimp only [Option.toList_some, Option.toList_none, List.cons_append, List.nil_append]
    refine mr_imul dX0_addForm_30 ?_
    refine mr_iadd dX0_addForm_31 ?_
    refine mr_callV (as := [_]) dX0_addForm_32 (ok_X0_residue l G) ml_X0_64 cl_X0_residue cv_X0_residue (by decide) rfl rfl (Nat.le_of_ble_eq_true rfl) (by first | assumption | exact mr_up_same _ _ _ | exact mr_lk (by assumption) (by first | assumption | decide) | exact mr_lk (mr_up_same _ _ _) (by first | assumption | decide) | exact mr_lk (mr_lk (by assumption) (by first | assumption | decide)) (by first | assumption | decide)) ?_
    rw [hU]
    refine ⟨_, _, _, rfl, ⟨(by first | assumption | exact mr_up_same _ _ _ | exact mr_lk (by assumption) (by first | assumption | decide) | exact mr_lk (mr_up_same _ _ _) (by first | assumption | decide) | exact mr_lk (mr_lk (by assumption) (by first | assumption | decide)) (by first | assumption | decide)), (by first | assumption | exact mr_up_same _ _ _ | exact mr_lk (by assumption) (by first | assumption | decide) | exact mr_lk (mr_up_same _ _ _) (by first | assumption | decide) | exact mr_lk (mr_lk (by assumption) (by first | assumption | decide)) (by first | assumption | decide))⟩, hB, ⟨by omega, by omega⟩, ?_⟩
    dsimp only [Option.toList_some, Option.toList_none, List.cons_append, List.nil_append]
    refine mr_iast dX0_addForm_35 (by first | assumption | exact mr_up_same _ _ _ | exact mr_lk (by assumption) (by first | assumption | decide) | exact mr_lk (mr_up_same _ _ _) (by first | assumption | decide) | exact mr_lk (mr_lk (by assumption) (by first | assumption | decide)) (by first | assumption | decide)) (by omega) (by omega) (by decide) ?_
    rw [mr_up_up]
    refine mr_iinc dX0_addForm_36 rfl (by decide) rfl ?_
    refine mr_goto (tgt := 3) dX0_addForm_39 (by decide) ?_
    have e : mr_fs (mr_afU f p c t r a) a.toNat (mr_rs f (r a.toNat + t * mr_fa f p c a)) = mr_afU f p c t r (a + 1) := by
      funext j
      by_cases hj : j = a.toNat
      · subst hj
        rw [mr_fs_same]
        unfold mr_afU
        have e2 : ((a.toNat : Nat) : Int) = a := by omega
        rw [if_pos ⟨by omega, by omega⟩, e2]
      · rw [mr_fs_ne _ _ hj]
        unfold mr_afU
        by_cases h : c ≤ (j : Int) ∧ (j : Int) < a
        · rw [if_pos h, if_pos ⟨h.1, by omega⟩]
        · rw [if_neg h, if_neg (fun z => h ⟨z.1, by omega⟩)]
    rw [e]
    exact ih (a + 1) (by omega) (by omega)
def T_X0_addForm (a : List mr_AV) (w : mr_Wd) (Po : Option mr_AV → mr_Wd → Prop) : Prop := ∃ (b q : Nat) (f r : Nat → Int) (p c t : Int), a = [vR b 0, vI p, vI c, vI t, vR q 0] ∧ mr_BK w b f ∧ w q = eA 0 3 r ∧ mr_Bd f ∧ mr_Rd r ∧ InR p ∧ (0 ≤ c ∧ c ≤ 3) ∧ (-100000 ≤ t ∧ t ≤ 100000) ∧ Po none (mr_up w q (eA 0 3 (mr_af f p c t r)))
set_option maxHeartbeats 4000000 in
set_option maxRecDepth 20000 in
theorem ok_X0_addForm (l : Launch) (G : mr_G) : mr_Ok l G yX0_addForm cX0_addForm 6 none 2 46 T_X0_addForm := by
  refine mr_Ok.of (by decide +kernel) ?_
  rintro a w Po ⟨b, q, f, r, p, c, t, rfl, ⟨hb, hc⟩, hq, hB, hr, hp, hc0, ht, hP⟩
  refine ⟨Nat.le_of_ble_eq_true rfl, ?_⟩
  show mr_J l G RX0 cX0_addForm 6 none 2 46 Po 0 [some (vR b 0), some (vI p), some (vI c), some (vI t), some (vR q 0), none] [] w
  have hqb : b ≠ q := fun e => by rw [e, hq] at hb; cases hb
  have hqc : b + 1 ≠ q := fun e => by rw [e, hq] at hc; cases hc
  refine mr_iload_n dX0_addForm_0 rfl ?_
  refine mr_istore dX0_addForm_1 rfl (by decide) ?_
  have e : mr_afU f p c t r c = r := by
    funext j
    unfold mr_afU
    rw [if_neg (fun z => by omega)]
  have h9 := lp_X0_addForm l G (r := r) hb hc hqb hqc hB hr hp hc0 ht hP (3 - c).toNat c (Int.le_refl c) (by omega)
  rw [e, mr_up_self hq] at h9
  exact h9
theorem mr_lst_bd {f r : Nat → Int} (hB : mr_Bd f) (hr : mr_Rd r) (p c : Int) : mr_Rd (mr_lst f p c r) := by
  unfold mr_lst
  split
  · exact mr_af_bd hB hr _ _ _
  · exact hr
set_option maxHeartbeats 4000000 in
set_option maxRecDepth 20000 in
theorem lp_X0_lessen (l : Launch) (G : mr_G) {Po : Option mr_AV → mr_Wd → Prop} {b q : Nat} {f : Nat → Int} {p : Int} {w : mr_Wd} (hb : w b = eO 0 [vR (b + 1) 0]) (hc : w (b + 1) = eA 0 51 f) (hqb : b ≠ q) (hqc : b + 1 ≠ q) (hB : mr_Bd f) (hp : InR p) : ∀ (n : Nat) (c : Int) (r : Nat → Int), 0 ≤ c ∧ c ≤ 5 → f 1 - c ≤ n → mr_Rd r → Po none (mr_up w q (eA 0 3 (mr_lsl f p n c r))) → mr_J l G RX0 cX0_lessen 5 none 3 71 Po 2 [some (vR b 0), some (vI p), some (vR q 0), some (vI c), none] [] (mr_up w q (eA 0 3 r)) := by
  have h1 := hB.1 1
  have h2 := hB.2.1
  have hz : f (Int.toNat 1) = f 1 := rfl
  intro n
  induction n with
  | zero =>
    intro c r hc0 hn hr hP
    refine mr_iload_n dX0_lessen_2 rfl ?_
    refine mr_aload_n dX0_lessen_3 rfl ?_
    refine mr_get dX0_lessen_4 fl_X0_11 (by first | assumption | exact mr_up_same _ _ _ | exact mr_lk (by assumption) (by first | assumption | decide) | exact mr_lk (mr_up_same _ _ _) (by first | assumption | decide) | exact mr_lk (mr_lk (by assumption) (by first | assumption | decide)) (by first | assumption | decide)) rfl ?_
    refine mr_iconst dX0_lessen_7 ?_
    refine mr_iald dX0_lessen_8 (by first | assumption | exact mr_up_same _ _ _ | exact mr_lk (by assumption) (by first | assumption | decide) | exact mr_lk (mr_up_same _ _ _) (by first | assumption | decide) | exact mr_lk (mr_lk (by assumption) (by first | assumption | decide)) (by first | assumption | decide)) (by omega) (by omega) (by decide) ?_
    refine mr_icmp_ge (tgt := 52) dX0_lessen_9 (by decide) (by omega) ⟨by rw [hz]; omega, by rw [hz]; omega⟩ (fun hc_9 => ?_) (fun hc_9 => absurd hc_9 (by omega))
    refine mr_vret rfl dX0_lessen_52 ?_
    exact hP
  | succ n ih =>
    intro c r hc0 hn hr hP
    have hl := mr_fa_bd hB p c c
    have hrc := hr c.toNat
    refine mr_iload_n dX0_lessen_2 rfl ?_
    refine mr_aload_n dX0_lessen_3 rfl ?_
    refine mr_get dX0_lessen_4 fl_X0_11 (by first | assumption | exact mr_up_same _ _ _ | exact mr_lk (by assumption) (by first | assumption | decide) | exact mr_lk (mr_up_same _ _ _) (by first | assumption | decide) | exact mr_lk (mr_lk (by assumption) (by first | assumption | decide)) (by first | assumption | decide)) rfl ?_
    refine mr_iconst dX0_lessen_7 ?_
    refine mr_iald dX0_lessen_8 (by first | assumption | exact mr_up_same _ _ _ | exact mr_lk (by assumption) (by first | assumption | decide) | exact mr_lk (mr_up_same _ _ _) (by first | assumption | decide) | exact mr_lk (mr_lk (by assumption) (by first | assumption | decide)) (by first | assumption | decide)) (by omega) (by omega) (by decide) ?_
    refine mr_icmp_ge (tgt := 52) dX0_lessen_9 (by decide) (by omega) ⟨by rw [hz]; omega, by rw [hz]; omega⟩ (fun hc_9 => ?_) (fun hc_9 => ?_)
    · refine mr_vret rfl dX0_lessen_52 ?_
      rw [mr_lsl, if_neg (by omega)] at hP
      exact hP
    · refine mr_iload_n dX0_lessen_12 rfl ?_
      refine mr_aload_n dX0_lessen_13 rfl ?_
      refine mr_alen dX0_lessen_14 (by first | assumption | exact mr_up_same _ _ _ | exact mr_lk (by assumption) (by first | assumption | decide) | exact mr_lk (mr_up_same _ _ _) (by first | assumption | decide) | exact mr_lk (mr_lk (by assumption) (by first | assumption | decide)) (by first | assumption | decide)) (by decide) ?_
      refine mr_icmp_ge (tgt := 52) dX0_lessen_15 (by decide) (by omega) (by omega) (fun hc_15 => absurd hc_15 (by omega)) (fun hc_15 => ?_)
      refine mr_aload_n dX0_lessen_18 rfl ?_
      refine mr_iload_n dX0_lessen_19 rfl ?_
      refine mr_iload_n dX0_lessen_20 rfl ?_
      refine mr_iload_n dX0_lessen_21 rfl ?_
      refine mr_callV (as := [_, _, _]) dX0_lessen_22 (ok_X0_formAt l G) ml_X0_51 cl_X0_formAt cv_X0_formAt (by decide) rfl rfl (Nat.le_of_ble_eq_true rfl) (by first | assumption | exact mr_up_same _ _ _ | exact mr_lk (by assumption) (by first | assumption | decide) | exact mr_lk (mr_up_same _ _ _) (by first | assumption | decide) | exact mr_lk (mr_lk (by assumption) (by first | assumption | decide)) (by first | assumption | decide)) ?_
      refine ⟨_, _, _, _, _, rfl, ⟨(by first | assumption | exact mr_up_same _ _ _ | exact mr_lk (by assumption) (by first | assumption | decide) | exact mr_lk (mr_up_same _ _ _) (by first | assumption | decide) | exact mr_lk (mr_lk (by assumption) (by first | assumption | decide)) (by first | assumption | decide)), (by first | assumption | exact mr_up_same _ _ _ | exact mr_lk (by assumption) (by first | assumption | decide) | exact mr_lk (mr_up_same _ _ _) (by first | assumption | decide) | exact mr_lk (mr_lk (by assumption) (by first | assumption | decide)) (by first | assumption | decide))⟩, (by omega), (by omega), (by omega), ?_⟩
      dsimp only [Option.toList_some, Option.toList_none, List.cons_append, List.nil_append]
      refine mr_istore dX0_lessen_25 rfl (by decide) ?_
      refine mr_iload dX0_lessen_27 rfl ?_
      refine mr_if_le (tgt := 46) dX0_lessen_29 (by decide) (by omega) (fun hc_29 => ?_) (fun hc_29 => ?_)
      · refine mr_iinc dX0_lessen_46 rfl (by decide) rfl ?_
        refine mr_goto (tgt := 2) dX0_lessen_49 (by decide) ?_
        refine mr_weak [some (vR b 0), some (vI p), some (vR q 0), some (vI (c + 1)), none] ⟨rfl, rfl, rfl, rfl, trivial⟩ ?_
        rw [mr_lsl, if_pos (by omega)] at hP
        refine ih (c + 1) _ (by omega) (by omega) ?_ ?_
        · first | exact hr | exact mr_af_bd hB hr _ _ _
        · first | (rw [mr_lst, if_neg (by omega)] at hP; exact hP) | (rw [mr_lst, if_pos (by omega)] at hP; exact hP)
      · refine mr_aload_n dX0_lessen_32 rfl ?_
        refine mr_iload_n dX0_lessen_33 rfl ?_
        refine mr_iload_n dX0_lessen_34 rfl ?_
        refine mr_aload_n dX0_lessen_35 rfl ?_
        refine mr_iload_n dX0_lessen_36 rfl ?_
        refine mr_iald dX0_lessen_37 (by first | assumption | exact mr_up_same _ _ _ | exact mr_lk (by assumption) (by first | assumption | decide) | exact mr_lk (mr_up_same _ _ _) (by first | assumption | decide) | exact mr_lk (mr_lk (by assumption) (by first | assumption | decide)) (by first | assumption | decide)) (by omega) (by omega) (by decide) ?_
        refine mr_iload dX0_lessen_38 rfl ?_
        refine mr_idiv dX0_lessen_40 (by omega) (by omega) (by omega) ?_
        refine mr_ineg dX0_lessen_41 ?_
        refine mr_aload_n dX0_lessen_42 rfl ?_
        refine mr_callV (as := [_, _, _, _]) dX0_lessen_43 (ok_X0_addForm l G) ml_X0_68 cl_X0_addForm cv_X0_addForm (by decide) rfl rfl (Nat.le_of_ble_eq_true rfl) (by first | assumption | exact mr_up_same _ _ _ | exact mr_lk (by assumption) (by first | assumption | decide) | exact mr_lk (mr_up_same _ _ _) (by first | assumption | decide) | exact mr_lk (mr_lk (by assumption) (by first | assumption | decide)) (by first | assumption | decide)) ?_
        have hd : (r c.toNat).tdiv (mr_fa f p c c) = r c.toNat / mr_fa f p c c := Int.tdiv_eq_ediv_of_nonneg hrc.1
        rw [hd]
        have hd1 := Int.ediv_le_self (mr_fa f p c c) hrc.1
        have hd2 := Int.ediv_nonneg hrc.1 hl.1
        refine ⟨_, _, _, _, _, _, _, rfl, ⟨(by first | assumption | exact mr_up_same _ _ _ | exact mr_lk (by assumption) (by first | assumption | decide) | exact mr_lk (mr_up_same _ _ _) (by first | assumption | decide) | exact mr_lk (mr_lk (by assumption) (by first | assumption | decide)) (by first | assumption | decide)), (by first | assumption | exact mr_up_same _ _ _ | exact mr_lk (by assumption) (by first | assumption | decide) | exact mr_lk (mr_up_same _ _ _) (by first | assumption | decide) | exact mr_lk (mr_lk (by assumption) (by first | assumption | decide)) (by first | assumption | decide))⟩, (by first | assumption | exact mr_up_same _ _ _ | exact mr_lk (by assumption) (by first | assumption | decide) | exact mr_lk (mr_up_same _ _ _) (by first | assumption | decide) | exact mr_lk (mr_lk (by assumption) (by first | assumption | decide)) (by first | assumption | decide)), hB, hr, hp, ⟨by omega, by omega⟩, ⟨by omega, by omega⟩, ?_⟩
        rw [mr_up_up]
        dsimp only [Option.toList_some, Option.toList_none, List.cons_append, List.nil_append]
        refine mr_iinc dX0_lessen_46 rfl (by decide) rfl ?_
        refine mr_goto (tgt := 2) dX0_lessen_49 (by decide) ?_
        refine mr_weak [some (vR b 0), some (vI p), some (vR q 0), some (vI (c + 1)), none] ⟨rfl, rfl, rfl, rfl, trivial⟩ ?_
        rw [mr_lsl, if_pos (by omega)] at hP
        refine ih (c + 1) _ (by omega) (by omega) ?_ ?_
        · first | exact hr | exact mr_af_bd hB hr _ _ _
        · first | (rw [mr_lst, if_neg (by omega)] at hP; exact hP) | (rw [mr_lst, if_pos (by omega)] at hP; exact hP)
def T_X0_lessen (a : List mr_AV) (w : mr_Wd) (Po : Option mr_AV → mr_Wd → Prop) : Prop := ∃ (b q : Nat) (f r : Nat → Int) (p : Int), a = [vR b 0, vI p, vR q 0] ∧ mr_BK w b f ∧ w q = eA 0 3 r ∧ mr_Bd f ∧ mr_Rd r ∧ InR p ∧ Po none (mr_up w q (eA 0 3 (mr_lsl f p 3 0 r)))
set_option maxHeartbeats 4000000 in
set_option maxRecDepth 20000 in
theorem ok_X0_lessen (l : Launch) (G : mr_G) : mr_Ok l G yX0_lessen cX0_lessen 5 none 3 71 T_X0_lessen := by
  refine mr_Ok.of (by decide +kernel) ?_
  rintro a w Po ⟨b, q, f, r, p, rfl, ⟨hb, hc⟩, hq, hB, hr, hp, hP⟩
  refine ⟨Nat.le_of_ble_eq_true rfl, ?_⟩
  show mr_J l G RX0 cX0_lessen 5 none 3 71 Po 0 [some (vR b 0), some (vI p), some (vR q 0), none, none] [] w
  have hqb : b ≠ q := fun e => by rw [e, hq] at hb; cases hb
  have hqc : b + 1 ≠ q := fun e => by rw [e, hq] at hc; cases hc
  refine mr_iconst dX0_lessen_0 ?_
  refine mr_istore_n dX0_lessen_1 rfl (by decide) ?_
  have h9 := lp_X0_lessen l G hb hc hqb hqc hB hp 3 0 r (by decide) (by have := hB.2.1; omega) hr hP
  rw [mr_up_self hq] at h9
  exact h9
set_option maxHeartbeats 4000000 in
set_option maxRecDepth 20000 in
theorem lp_X0_findRanked (l : Launch) (G : mr_G) {Po : Option mr_AV → mr_Wd → Prop} {b q : Nat} {f : Nat → Int} {p : Int} {w : mr_Wd} (hb : w b = eO 0 [vR (b + 1) 0]) (hc : w (b + 1) = eA 0 51 f) (hqb : b ≠ q) (hqc : b + 1 ≠ q) (hB : mr_Bd f) (hp : InR p) : ∀ (n : Nat) (c t : Int) (r : Nat → Int), 0 ≤ c ∧ c ≤ 5 → f 1 - c ≤ n → 0 ≤ t ∧ t ≤ 27000 → mr_Rd r → Po none (mr_up w q (eA 0 3 (mr_frl f p n c t r))) → mr_J l G RX0 cX0_findRanked 8 none 4 93 Po 11 [some (vR b 0), some (vI p), none, some (vR q 0), some (vI t), some (vI c), none, none] [] (mr_up w q (eA 0 3 r)) := by
  have h1 := hB.1 1
  have h2 := hB.2.1
  have hz : f (Int.toNat 1) = f 1 := rfl
  intro n
  induction n with
  | zero =>
    intro c t r hc0 hn ht hr hP
    refine mr_iload dX0_findRanked_11 rfl ?_
    refine mr_aload_n dX0_findRanked_13 rfl ?_
    refine mr_get dX0_findRanked_14 fl_X0_11 (by first | assumption | exact mr_up_same _ _ _ | exact mr_lk (by assumption) (by first | assumption | decide) | exact mr_lk (mr_up_same _ _ _) (by first | assumption | decide) | exact mr_lk (mr_lk (by assumption) (by first | assumption | decide)) (by first | assumption | decide)) rfl ?_
    refine mr_iconst dX0_findRanked_17 ?_
    refine mr_iald dX0_findRanked_18 (by first | assumption | exact mr_up_same _ _ _ | exact mr_lk (by assumption) (by first | assumption | decide) | exact mr_lk (mr_up_same _ _ _) (by first | assumption | decide) | exact mr_lk (mr_lk (by assumption) (by first | assumption | decide)) (by first | assumption | decide)) (by omega) (by omega) (by decide) ?_
    refine mr_icmp_ge (tgt := 94) dX0_findRanked_19 (by decide) (by omega) ⟨by rw [hz]; omega, by rw [hz]; omega⟩ (fun hc_19 => ?_) (fun hc_19 => absurd hc_19 (by omega))
    refine mr_vret rfl dX0_findRanked_94 ?_
    exact hP
  | succ n ih =>
    intro c t r hc0 hn ht hr hP
    have hl := mr_fa_bd hB p c c
    have hrc := hr c.toNat
    have hs := mr_sz_bd hB p (c + 1)
    have hd3 : t.tdiv (max 1 (mr_sz f p (c + 1))) = t / max 1 (mr_sz f p (c + 1)) := Int.tdiv_eq_ediv_of_nonneg ht.1
    have hd4 : t.tmod (max 1 (mr_sz f p (c + 1))) = t % max 1 (mr_sz f p (c + 1)) := Int.tmod_eq_emod_of_nonneg ht.1
    have hd5 := Int.ediv_le_self (max 1 (mr_sz f p (c + 1))) ht.1
    have hd6 := Int.ediv_nonneg ht.1 (show 0 ≤ max 1 (mr_sz f p (c + 1)) by omega)
    have hd7 := Int.emod_nonneg t (show max 1 (mr_sz f p (c + 1)) ≠ 0 by omega)
    have hd8 := Int.emod_lt_of_pos t (show 0 < max 1 (mr_sz f p (c + 1)) by omega)
    refine mr_iload dX0_findRanked_11 rfl ?_
    refine mr_aload_n dX0_findRanked_13 rfl ?_
    refine mr_get dX0_findRanked_14 fl_X0_11 (by first | assumption | exact mr_up_same _ _ _ | exact mr_lk (by assumption) (by first | assumption | decide) | exact mr_lk (mr_up_same _ _ _) (by first | assumption | decide) | exact mr_lk (mr_lk (by assumption) (by first | assumption | decide)) (by first | assumption | decide)) rfl ?_
    refine mr_iconst dX0_findRanked_17 ?_
    refine mr_iald dX0_findRanked_18 (by first | assumption | exact mr_up_same _ _ _ | exact mr_lk (by assumption) (by first | assumption | decide) | exact mr_lk (mr_up_same _ _ _) (by first | assumption | decide) | exact mr_lk (mr_lk (by assumption) (by first | assumption | decide)) (by first | assumption | decide)) (by omega) (by omega) (by decide) ?_
    refine mr_icmp_ge (tgt := 94) dX0_findRanked_19 (by decide) (by omega) ⟨by rw [hz]; omega, by rw [hz]; omega⟩ (fun hc_19 => ?_) (fun hc_19 => ?_)
    · refine mr_vret rfl dX0_findRanked_94 ?_
      rw [mr_frl, if_neg (by omega)] at hP
      exact hP
    · refine mr_iload dX0_findRanked_22 rfl ?_
      refine mr_aload_n dX0_findRanked_24 rfl ?_
      refine mr_alen dX0_findRanked_25 (by first | assumption | exact mr_up_same _ _ _ | exact mr_lk (by assumption) (by first | assumption | decide) | exact mr_lk (mr_up_same _ _ _) (by first | assumption | decide) | exact mr_lk (mr_lk (by assumption) (by first | assumption | decide)) (by first | assumption | decide)) (by decide) ?_
      refine mr_icmp_ge (tgt := 94) dX0_findRanked_26 (by decide) (by omega) (by omega) (fun hc_26 => absurd hc_26 (by omega)) (fun hc_26 => ?_)
      refine mr_iconst dX0_findRanked_29 ?_
      refine mr_aload_n dX0_findRanked_30 rfl ?_
      refine mr_iload_n dX0_findRanked_31 rfl ?_
      refine mr_iload dX0_findRanked_32 rfl ?_
      refine mr_iconst dX0_findRanked_34 ?_
      refine mr_iadd dX0_findRanked_35 ?_
      refine mr_callV (as := [_, _]) dX0_findRanked_36 (ok_X0_sizeFrom l G) ml_X0_58 cl_X0_sizeFrom cv_X0_sizeFrom (by decide) rfl rfl (Nat.le_of_ble_eq_true rfl) (by first | assumption | exact mr_up_same _ _ _ | exact mr_lk (by assumption) (by first | assumption | decide) | exact mr_lk (mr_up_same _ _ _) (by first | assumption | decide) | exact mr_lk (mr_lk (by assumption) (by first | assumption | decide)) (by first | assumption | decide)) ?_
      refine ⟨_, _, _, _, rfl, ⟨(by first | assumption | exact mr_up_same _ _ _ | exact mr_lk (by assumption) (by first | assumption | decide) | exact mr_lk (mr_up_same _ _ _) (by first | assumption | decide) | exact mr_lk (mr_lk (by assumption) (by first | assumption | decide)) (by first | assumption | decide)), (by first | assumption | exact mr_up_same _ _ _ | exact mr_lk (by assumption) (by first | assumption | decide) | exact mr_lk (mr_up_same _ _ _) (by first | assumption | decide) | exact mr_lk (mr_lk (by assumption) (by first | assumption | decide)) (by first | assumption | decide))⟩, (by assumption), (by omega), (by omega), (by omega), ?_⟩
      dsimp only [Option.toList_some, Option.toList_none, List.cons_append, List.nil_append]
      refine mr_callS (as := [_, _]) dX0_findRanked_39 (ok_J9_max_7cf53 l G) ml_X0_21 cl_J9_max_7cf53 cs_J9_max_7cf53 (by decide) rfl rfl (Nat.le_of_ble_eq_true rfl) ?_
      refine ⟨_, _, rfl, (by omega), (by omega), ?_⟩
      dsimp only [Option.toList_some, Option.toList_none, List.cons_append, List.nil_append]
      refine mr_istore dX0_findRanked_42 rfl (by decide) ?_
      refine mr_aload_n dX0_findRanked_44 rfl ?_
      refine mr_iload_n dX0_findRanked_45 rfl ?_
      refine mr_iload dX0_findRanked_46 rfl ?_
      refine mr_iload dX0_findRanked_48 rfl ?_
      refine mr_callV (as := [_, _, _]) dX0_findRanked_50 (ok_X0_formAt l G) ml_X0_51 cl_X0_formAt cv_X0_formAt (by decide) rfl rfl (Nat.le_of_ble_eq_true rfl) (by first | assumption | exact mr_up_same _ _ _ | exact mr_lk (by assumption) (by first | assumption | decide) | exact mr_lk (mr_up_same _ _ _) (by first | assumption | decide) | exact mr_lk (mr_lk (by assumption) (by first | assumption | decide)) (by first | assumption | decide)) ?_
      refine ⟨_, _, _, _, _, rfl, ⟨(by first | assumption | exact mr_up_same _ _ _ | exact mr_lk (by assumption) (by first | assumption | decide) | exact mr_lk (mr_up_same _ _ _) (by first | assumption | decide) | exact mr_lk (mr_lk (by assumption) (by first | assumption | decide)) (by first | assumption | decide)), (by first | assumption | exact mr_up_same _ _ _ | exact mr_lk (by assumption) (by first | assumption | decide) | exact mr_lk (mr_up_same _ _ _) (by first | assumption | decide) | exact mr_lk (mr_lk (by assumption) (by first | assumption | decide)) (by first | assumption | decide))⟩, (by omega), (by omega), (by omega), ?_⟩
      dsimp only [Option.toList_some, Option.toList_none, List.cons_append, List.nil_append]
      refine mr_istore dX0_findRanked_53 rfl (by decide) ?_
      refine mr_iload dX0_findRanked_55 rfl ?_
      refine mr_if_le (tgt := 81) dX0_findRanked_57 (by decide) (by omega) (fun hc_57 => ?_) (fun hc_57 => ?_)
      · refine mr_iload dX0_findRanked_81 rfl ?_
        refine mr_iload dX0_findRanked_83 rfl ?_
        refine mr_irem dX0_findRanked_85 (by omega) (by omega) (by omega) ?_
        refine mr_istore dX0_findRanked_86 rfl (by decide) ?_
        refine mr_iinc dX0_findRanked_88 rfl (by decide) rfl ?_
        refine mr_goto (tgt := 11) dX0_findRanked_91 (by decide) ?_
        refine mr_weak [some (vR b 0), some (vI p), none, some (vR q 0), some (vI (t % max 1 (mr_sz f p (c + 1)))), some (vI (c + 1)), none, none] ⟨rfl, rfl, rfl, by rw [hd4], rfl, trivial⟩ ?_
        rw [mr_frl, if_pos (by omega)] at hP
        refine ih (c + 1) _ _ (by omega) (by omega) (by omega) ?_ ?_
        · first | exact hr | exact mr_af_bd hB hr _ _ _
        · first | (rw [if_neg (by omega)] at hP; exact hP) | (rw [if_pos (by omega)] at hP; exact hP)
      · refine mr_aload_n dX0_findRanked_60 rfl ?_
        refine mr_iload_n dX0_findRanked_61 rfl ?_
        refine mr_iload dX0_findRanked_62 rfl ?_
        refine mr_iload dX0_findRanked_64 rfl ?_
        refine mr_iload dX0_findRanked_66 rfl ?_
        refine mr_idiv dX0_findRanked_68 (by omega) (by omega) (by omega) ?_
        refine mr_aload_n dX0_findRanked_69 rfl ?_
        refine mr_iload dX0_findRanked_70 rfl ?_
        refine mr_iald dX0_findRanked_72 (by first | assumption | exact mr_up_same _ _ _ | exact mr_lk (by assumption) (by first | assumption | decide) | exact mr_lk (mr_up_same _ _ _) (by first | assumption | decide) | exact mr_lk (mr_lk (by assumption) (by first | assumption | decide)) (by first | assumption | decide)) (by omega) (by omega) (by decide) ?_
        refine mr_iload dX0_findRanked_73 rfl ?_
        refine mr_idiv dX0_findRanked_75 (by omega) (by omega) (by omega) ?_
        refine mr_isub dX0_findRanked_76 ?_
        refine mr_aload_n dX0_findRanked_77 rfl ?_
        refine mr_callV (as := [_, _, _, _]) dX0_findRanked_78 (ok_X0_addForm l G) ml_X0_68 cl_X0_addForm cv_X0_addForm (by decide) rfl rfl (Nat.le_of_ble_eq_true rfl) (by first | assumption | exact mr_up_same _ _ _ | exact mr_lk (by assumption) (by first | assumption | decide) | exact mr_lk (mr_up_same _ _ _) (by first | assumption | decide) | exact mr_lk (mr_lk (by assumption) (by first | assumption | decide)) (by first | assumption | decide)) ?_
        have hd : (r c.toNat).tdiv (mr_fa f p c c) = r c.toNat / mr_fa f p c c := Int.tdiv_eq_ediv_of_nonneg hrc.1
        rw [hd, hd3]
        have hd1 := Int.ediv_le_self (mr_fa f p c c) hrc.1
        have hd2 := Int.ediv_nonneg hrc.1 hl.1
        refine ⟨_, _, _, _, _, _, _, rfl, ⟨(by first | assumption | exact mr_up_same _ _ _ | exact mr_lk (by assumption) (by first | assumption | decide) | exact mr_lk (mr_up_same _ _ _) (by first | assumption | decide) | exact mr_lk (mr_lk (by assumption) (by first | assumption | decide)) (by first | assumption | decide)), (by first | assumption | exact mr_up_same _ _ _ | exact mr_lk (by assumption) (by first | assumption | decide) | exact mr_lk (mr_up_same _ _ _) (by first | assumption | decide) | exact mr_lk (mr_lk (by assumption) (by first | assumption | decide)) (by first | assumption | decide))⟩, (by first | assumption | exact mr_up_same _ _ _ | exact mr_lk (by assumption) (by first | assumption | decide) | exact mr_lk (mr_up_same _ _ _) (by first | assumption | decide) | exact mr_lk (mr_lk (by assumption) (by first | assumption | decide)) (by first | assumption | decide)), hB, hr, hp, ⟨by omega, by omega⟩, ⟨by omega, by omega⟩, ?_⟩
        rw [mr_up_up]
        dsimp only [Option.toList_some, Option.toList_none, List.cons_append, List.nil_append]
        refine mr_iload dX0_findRanked_81 rfl ?_
        refine mr_iload dX0_findRanked_83 rfl ?_
        refine mr_irem dX0_findRanked_85 (by omega) (by omega) (by omega) ?_
        refine mr_istore dX0_findRanked_86 rfl (by decide) ?_
        refine mr_iinc dX0_findRanked_88 rfl (by decide) rfl ?_
        refine mr_goto (tgt := 11) dX0_findRanked_91 (by decide) ?_
        refine mr_weak [some (vR b 0), some (vI p), none, some (vR q 0), some (vI (t % max 1 (mr_sz f p (c + 1)))), some (vI (c + 1)), none, none] ⟨rfl, rfl, rfl, by rw [hd4], rfl, trivial⟩ ?_
        rw [mr_frl, if_pos (by omega)] at hP
        refine ih (c + 1) _ _ (by omega) (by omega) (by omega) ?_ ?_
        · first | exact hr | exact mr_af_bd hB hr _ _ _
        · first | (rw [if_neg (by omega)] at hP; exact hP) | (rw [if_pos (by omega)] at hP; exact hP)
def T_X0_findRanked (a : List mr_AV) (w : mr_Wd) (Po : Option mr_AV → mr_Wd → Prop) : Prop := ∃ (b q : Nat) (f r : Nat → Int) (p t : Int), a = [vR b 0, vI p, vI t, vR q 0] ∧ mr_BK w b f ∧ w q = eA 0 3 r ∧ mr_Bd f ∧ InR p ∧ (0 ≤ t ∧ t ≤ 27000) ∧ Po none (mr_up w q (eA 0 3 (mr_frl f p 3 0 t (fun _ => 0))))
set_option maxHeartbeats 4000000 in
set_option maxRecDepth 20000 in
theorem ok_X0_findRanked (l : Launch) (G : mr_G) : mr_Ok l G yX0_findRanked cX0_findRanked 8 none 4 93 T_X0_findRanked := by
  refine mr_Ok.of (by decide +kernel) ?_
  rintro a w Po ⟨b, q, f, r, p, t, rfl, ⟨hb, hc⟩, hq, hB, hp, ht, hP⟩
  refine ⟨Nat.le_of_ble_eq_true rfl, ?_⟩
  show mr_J l G RX0 cX0_findRanked 8 none 4 93 Po 0 [some (vR b 0), some (vI p), some (vI t), some (vR q 0), none, none, none, none] [] w
  have hqb : b ≠ q := fun e => by rw [e, hq] at hb; cases hb
  have hqc : b + 1 ≠ q := fun e => by rw [e, hq] at hc; cases hc
  refine mr_aload_n dX0_findRanked_0 rfl ?_
  refine mr_iconst dX0_findRanked_1 ?_
  refine mr_callS (as := [_, _]) dX0_findRanked_2 (ok_J7_fill_53178 l G) ml_X0_24 cl_J7_fill_53178 cs_J7_fill_53178 (by decide) rfl rfl (Nat.le_of_ble_eq_true rfl) ?_
  refine Or.inl ⟨_, _, _, _, rfl, (by first | assumption | exact mr_up_same _ _ _ | exact mr_lk (by assumption) (by first | assumption | decide) | exact mr_lk (mr_up_same _ _ _) (by first | assumption | decide) | exact mr_lk (mr_lk (by assumption) (by first | assumption | decide)) (by first | assumption | decide)), by decide, ?_⟩
  dsimp only [Option.toList_some, Option.toList_none, List.cons_append, List.nil_append]
  refine mr_iload_n dX0_findRanked_5 rfl ?_
  refine mr_istore dX0_findRanked_6 rfl (by decide) ?_
  refine mr_iconst dX0_findRanked_8 ?_
  refine mr_istore dX0_findRanked_9 rfl (by decide) ?_
  refine mr_weak [some (vR b 0), some (vI p), none, some (vR q 0), some (vI t), some (vI 0), none, none] ⟨rfl, rfl, rfl, rfl, rfl, trivial⟩ ?_
  exact lp_X0_findRanked l G hb hc hqb hqc hB hp 3 0 t (fun _ => 0) (by decide) (by have := hB.2.1; omega) ht (fun j => show (0 : Int) ≤ 0 ∧ (0 : Int) ≤ 30 by decide) hP
set_option maxHeartbeats 4000000 in
set_option maxRecDepth 20000 in
theorem lp_X0_countAhead (l : Launch) (G : mr_G) {Po : Option mr_AV → mr_Wd → Prop} {b q : Nat} {f r : Nat → Int} {p : Int} {w : mr_Wd} (hb : w b = eO 0 [vR (b + 1) 0]) (hc : w (b + 1) = eA 0 51 f) (hq : w q = eA 0 3 r) (hB : mr_Bd f) (hr : mr_Rd r) (hp : InR p) : ∀ (n : Nat) (c s : Int), 0 ≤ c ∧ c ≤ 5 → f 1 - c ≤ n → Po (some (vI (mr_cal f p r n c s))) w → mr_J l G RX0 cX0_countAhead 6 (some .int) 4 93 Po 5 [some (vR b 0), some (vI p), some (vR q 0), some (vI s), some (vI c), none] [] w := by
  have h1 := hB.1 1
  have h2 := hB.2.1
  have hz : f (Int.toNat 1) = f 1 := rfl
  intro n
  induction n with
  | zero =>
    intro c s hc0 hn hP
    refine mr_iload dX0_countAhead_5 rfl ?_
    refine mr_aload_n dX0_countAhead_7 rfl ?_
    refine mr_get dX0_countAhead_8 fl_X0_11 (by first | assumption | exact mr_up_same _ _ _ | exact mr_lk (by assumption) (by first | assumption | decide) | exact mr_lk (mr_up_same _ _ _) (by first | assumption | decide) | exact mr_lk (mr_lk (by assumption) (by first | assumption | decide)) (by first | assumption | decide)) rfl ?_
    refine mr_iconst dX0_countAhead_11 ?_
    refine mr_iald dX0_countAhead_12 (by first | assumption | exact mr_up_same _ _ _ | exact mr_lk (by assumption) (by first | assumption | decide) | exact mr_lk (mr_up_same _ _ _) (by first | assumption | decide) | exact mr_lk (mr_lk (by assumption) (by first | assumption | decide)) (by first | assumption | decide)) (by omega) (by omega) (by decide) ?_
    refine mr_icmp_ge (tgt := 65) dX0_countAhead_13 (by decide) (by omega) ⟨by rw [hz]; omega, by rw [hz]; omega⟩ (fun hc_13 => ?_) (fun hc_13 => absurd hc_13 (by omega))
    refine mr_iload_n dX0_countAhead_65 rfl ?_
    refine mr_iret rfl dX0_countAhead_66 ?_
    exact hP
  | succ n ih =>
    intro c s hc0 hn hP
    have hl := mr_fa_bd hB p c c
    have hrc := hr c.toNat
    refine mr_iload dX0_countAhead_5 rfl ?_
    refine mr_aload_n dX0_countAhead_7 rfl ?_
    refine mr_get dX0_countAhead_8 fl_X0_11 (by first | assumption | exact mr_up_same _ _ _ | exact mr_lk (by assumption) (by first | assumption | decide) | exact mr_lk (mr_up_same _ _ _) (by first | assumption | decide) | exact mr_lk (mr_lk (by assumption) (by first | assumption | decide)) (by first | assumption | decide)) rfl ?_
    refine mr_iconst dX0_countAhead_11 ?_
    refine mr_iald dX0_countAhead_12 (by first | assumption | exact mr_up_same _ _ _ | exact mr_lk (by assumption) (by first | assumption | decide) | exact mr_lk (mr_up_same _ _ _) (by first | assumption | decide) | exact mr_lk (mr_lk (by assumption) (by first | assumption | decide)) (by first | assumption | decide)) (by omega) (by omega) (by decide) ?_
    refine mr_icmp_ge (tgt := 65) dX0_countAhead_13 (by decide) (by omega) ⟨by rw [hz]; omega, by rw [hz]; omega⟩ (fun hc_13 => ?_) (fun hc_13 => ?_)
    · refine mr_iload_n dX0_countAhead_65 rfl ?_
      refine mr_iret rfl dX0_countAhead_66 ?_
      rw [mr_cal, if_neg (by omega)] at hP
      exact hP
    · refine mr_iload dX0_countAhead_16 rfl ?_
      refine mr_aload_n dX0_countAhead_18 rfl ?_
      refine mr_alen dX0_countAhead_19 (by first | assumption | exact mr_up_same _ _ _ | exact mr_lk (by assumption) (by first | assumption | decide) | exact mr_lk (mr_up_same _ _ _) (by first | assumption | decide) | exact mr_lk (mr_lk (by assumption) (by first | assumption | decide)) (by first | assumption | decide)) (by decide) ?_
      refine mr_icmp_ge (tgt := 65) dX0_countAhead_20 (by decide) (by omega) (by omega) (fun hc_20 => absurd hc_20 (by omega)) (fun hc_20 => ?_)
      refine mr_aload_n dX0_countAhead_23 rfl ?_
      refine mr_iload_n dX0_countAhead_24 rfl ?_
      refine mr_iload dX0_countAhead_25 rfl ?_
      refine mr_iload dX0_countAhead_27 rfl ?_
      refine mr_callV (as := [_, _, _]) dX0_countAhead_29 (ok_X0_formAt l G) ml_X0_51 cl_X0_formAt cv_X0_formAt (by decide) rfl rfl (Nat.le_of_ble_eq_true rfl) (by first | assumption | exact mr_up_same _ _ _ | exact mr_lk (by assumption) (by first | assumption | decide) | exact mr_lk (mr_up_same _ _ _) (by first | assumption | decide) | exact mr_lk (mr_lk (by assumption) (by first | assumption | decide)) (by first | assumption | decide)) ?_
      refine ⟨_, _, _, _, _, rfl, ⟨(by first | assumption | exact mr_up_same _ _ _ | exact mr_lk (by assumption) (by first | assumption | decide) | exact mr_lk (mr_up_same _ _ _) (by first | assumption | decide) | exact mr_lk (mr_lk (by assumption) (by first | assumption | decide)) (by first | assumption | decide)), (by first | assumption | exact mr_up_same _ _ _ | exact mr_lk (by assumption) (by first | assumption | decide) | exact mr_lk (mr_up_same _ _ _) (by first | assumption | decide) | exact mr_lk (mr_lk (by assumption) (by first | assumption | decide)) (by first | assumption | decide))⟩, (by omega), (by omega), (by omega), ?_⟩
      dsimp only [Option.toList_some, Option.toList_none, List.cons_append, List.nil_append]
      refine mr_istore dX0_countAhead_32 rfl (by decide) ?_
      refine mr_iload dX0_countAhead_34 rfl ?_
      refine mr_if_le (tgt := 59) dX0_countAhead_36 (by decide) (by omega) (fun hc_36 => ?_) (fun hc_36 => ?_)
      · refine mr_iinc dX0_countAhead_59 rfl (by decide) rfl ?_
        refine mr_goto (tgt := 5) dX0_countAhead_62 (by decide) ?_
        rw [mr_cal, if_pos (by omega)] at hP
        refine mr_weak [some (vR b 0), some (vI p), some (vR q 0), some (vI _), some (vI (c + 1)), none] ⟨rfl, rfl, rfl, rfl, rfl, trivial⟩ ?_
        refine ih (c + 1) _ (by omega) (by omega) ?_
        first | (rw [if_neg (by omega)] at hP; exact hP) | (rw [if_pos (by omega)] at hP; exact hP)
      · refine mr_iload_n dX0_countAhead_39 rfl ?_
        refine mr_aload_n dX0_countAhead_40 rfl ?_
        refine mr_iload dX0_countAhead_41 rfl ?_
        refine mr_iald dX0_countAhead_43 (by first | assumption | exact mr_up_same _ _ _ | exact mr_lk (by assumption) (by first | assumption | decide) | exact mr_lk (mr_up_same _ _ _) (by first | assumption | decide) | exact mr_lk (mr_lk (by assumption) (by first | assumption | decide)) (by first | assumption | decide)) (by omega) (by omega) (by decide) ?_
        refine mr_iload dX0_countAhead_44 rfl ?_
        refine mr_idiv dX0_countAhead_46 (by omega) (by omega) (by omega) ?_
        have hd : (r c.toNat).tdiv (mr_fa f p c c) = r c.toNat / mr_fa f p c c := Int.tdiv_eq_ediv_of_nonneg hrc.1
        rw [hd]
        refine mr_aload_n dX0_countAhead_47 rfl ?_
        refine mr_iload_n dX0_countAhead_48 rfl ?_
        refine mr_iload dX0_countAhead_49 rfl ?_
        refine mr_iconst dX0_countAhead_51 ?_
        refine mr_iadd dX0_countAhead_52 ?_
        refine mr_callV (as := [_, _]) dX0_countAhead_53 (ok_X0_sizeFrom l G) ml_X0_58 cl_X0_sizeFrom cv_X0_sizeFrom (by decide) rfl rfl (Nat.le_of_ble_eq_true rfl) (by first | assumption | exact mr_up_same _ _ _ | exact mr_lk (by assumption) (by first | assumption | decide) | exact mr_lk (mr_up_same _ _ _) (by first | assumption | decide) | exact mr_lk (mr_lk (by assumption) (by first | assumption | decide)) (by first | assumption | decide)) ?_
        refine ⟨_, _, _, _, rfl, ⟨(by first | assumption | exact mr_up_same _ _ _ | exact mr_lk (by assumption) (by first | assumption | decide) | exact mr_lk (mr_up_same _ _ _) (by first | assumption | decide) | exact mr_lk (mr_lk (by assumption) (by first | assumption | decide)) (by first | assumption | decide)), (by first | assumption | exact mr_up_same _ _ _ | exact mr_lk (by assumption) (by first | assumption | decide) | exact mr_lk (mr_up_same _ _ _) (by first | assumption | decide) | exact mr_lk (mr_lk (by assumption) (by first | assumption | decide)) (by first | assumption | decide))⟩, (by assumption), (by omega), (by omega), (by omega), ?_⟩
        dsimp only [Option.toList_some, Option.toList_none, List.cons_append, List.nil_append]
        refine mr_imul dX0_countAhead_56 ?_
        refine mr_iadd dX0_countAhead_57 ?_
        refine mr_istore_n dX0_countAhead_58 rfl (by decide) ?_
        refine mr_iinc dX0_countAhead_59 rfl (by decide) rfl ?_
        refine mr_goto (tgt := 5) dX0_countAhead_62 (by decide) ?_
        rw [mr_cal, if_pos (by omega)] at hP
        refine mr_weak [some (vR b 0), some (vI p), some (vR q 0), some (vI _), some (vI (c + 1)), none] ⟨rfl, rfl, rfl, rfl, rfl, trivial⟩ ?_
        refine ih (c + 1) _ (by omega) (by omega) ?_
        first | (rw [if_neg (by omega)] at hP; exact hP) | (rw [if_pos (by omega)] at hP; exact hP)
def T_X0_countAhead (a : List mr_AV) (w : mr_Wd) (Po : Option mr_AV → mr_Wd → Prop) : Prop := ∃ (b q : Nat) (f r : Nat → Int) (p : Int), a = [vR b 0, vI p, vR q 0] ∧ mr_BK w b f ∧ w q = eA 0 3 r ∧ mr_Bd f ∧ mr_Rd r ∧ InR p ∧ Po (some (vI (mr_cal f p r 3 0 0))) w
set_option maxHeartbeats 4000000 in
set_option maxRecDepth 20000 in
theorem ok_X0_countAhead (l : Launch) (G : mr_G) : mr_Ok l G yX0_countAhead cX0_countAhead 6 (some .int) 4 93 T_X0_countAhead := by
  refine mr_Ok.of (by decide +kernel) ?_
  rintro a w Po ⟨b, q, f, r, p, rfl, ⟨hb, hc⟩, hq, hB, hr, hp, hP⟩
  refine ⟨Nat.le_of_ble_eq_true rfl, ?_⟩
  show mr_J l G RX0 cX0_countAhead 6 (some .int) 4 93 Po 0 [some (vR b 0), some (vI p), some (vR q 0), none, none, none] [] w
  refine mr_iconst dX0_countAhead_0 ?_
  refine mr_istore_n dX0_countAhead_1 rfl (by decide) ?_
  refine mr_iconst dX0_countAhead_2 ?_
  refine mr_istore dX0_countAhead_3 rfl (by decide) ?_
  exact lp_X0_countAhead l G hb hc hq hB hr hp 3 0 0 (by decide) (by have := hB.2.1; omega) hP
set_option maxHeartbeats 4000000 in
set_option maxRecDepth 20000 in
theorem lpi_X0_noughts (l : Launch) (G : mr_G) {Po : Option mr_AV → mr_Wd → Prop} {b : Nat} {f : Nat → Int} {p u c : Int} {w : mr_Wd} (hb : w b = eO 0 [vR (b + 1) 0]) (hc : w (b + 1) = eA 0 51 f) (hB : mr_Bd f) (hp : InR p) (hu : 0 ≤ u ∧ u ≤ 30) (hc0 : 0 ≤ c ∧ c ≤ 5) (hQ : ¬ mr_nt f p u → Po (some (vI 0)) w) (hk : (∀ a : Int, c ≤ a → a < f 1 → mr_rs f (u * mr_fa f p c a) = 0) → mr_J l G RX0 cX0_noughts 5 (some .boolean) 2 46 Po 51 [some (vR b 0), some (vI p), some (vI u), some (vI c), none] [] w) : ∀ (n : Nat) (a : Int), c ≤ a ∧ a ≤ 9 → f 1 - a ≤ n → (∀ a' : Int, c ≤ a' → a' < a → mr_rs f (u * mr_fa f p c a') = 0) → mr_J l G RX0 cX0_noughts 5 (some .boolean) 2 46 Po 15 [some (vR b 0), some (vI p), some (vI u), some (vI c), some (vI a)] [] w := by
  have h1 := hB.1 1
  have h2 := hB.2.1
  have hz : f (Int.toNat 1) = f 1 := rfl
  intro n
  induction n with
  | zero =>
    intro a ha hn hz0
    refine mr_iload dX0_noughts_15 rfl ?_
    refine mr_aload_n dX0_noughts_17 rfl ?_
    refine mr_get dX0_noughts_18 fl_X0_11 (by first | assumption | exact mr_up_same _ _ _ | exact mr_lk (by assumption) (by first | assumption | decide) | exact mr_lk (mr_up_same _ _ _) (by first | assumption | decide) | exact mr_lk (mr_lk (by assumption) (by first | assumption | decide)) (by first | assumption | decide)) rfl ?_
    refine mr_iconst dX0_noughts_21 ?_
    refine mr_iald dX0_noughts_22 (by first | assumption | exact mr_up_same _ _ _ | exact mr_lk (by assumption) (by first | assumption | decide) | exact mr_lk (mr_up_same _ _ _) (by first | assumption | decide) | exact mr_lk (mr_lk (by assumption) (by first | assumption | decide)) (by first | assumption | decide)) (by omega) (by omega) (by decide) ?_
    refine mr_icmp_ge (tgt := 51) dX0_noughts_23 (by decide) (by omega) ⟨by rw [hz]; omega, by rw [hz]; omega⟩ (fun hc_23 => ?_) (fun hc_23 => absurd hc_23 (by omega))
    refine mr_weak [some (vR b 0), some (vI p), some (vI u), some (vI c), none] ⟨rfl, rfl, rfl, rfl, trivial⟩ ?_
    exact hk (fun a' g1 g2 => hz0 a' g1 (by omega))
  | succ n ih =>
    intro a ha hn hz0
    have hfa := mr_fa_bd hB p c a
    have hm := mr_mul_bd (A := 30) (x := u) ⟨by omega, by omega⟩ hfa (by decide)
    have hrs := mr_rs_bd hB (u * mr_fa f p c a)
    refine mr_iload dX0_noughts_15 rfl ?_
    refine mr_aload_n dX0_noughts_17 rfl ?_
    refine mr_get dX0_noughts_18 fl_X0_11 (by first | assumption | exact mr_up_same _ _ _ | exact mr_lk (by assumption) (by first | assumption | decide) | exact mr_lk (mr_up_same _ _ _) (by first | assumption | decide) | exact mr_lk (mr_lk (by assumption) (by first | assumption | decide)) (by first | assumption | decide)) rfl ?_
    refine mr_iconst dX0_noughts_21 ?_
    refine mr_iald dX0_noughts_22 (by first | assumption | exact mr_up_same _ _ _ | exact mr_lk (by assumption) (by first | assumption | decide) | exact mr_lk (mr_up_same _ _ _) (by first | assumption | decide) | exact mr_lk (mr_lk (by assumption) (by first | assumption | decide)) (by first | assumption | decide)) (by omega) (by omega) (by decide) ?_
    refine mr_icmp_ge (tgt := 51) dX0_noughts_23 (by decide) (by omega) ⟨by rw [hz]; omega, by rw [hz]; omega⟩ (fun hc_23 => ?_) (fun hc_23 => ?_)
    · refine mr_weak [some (vR b 0), some (vI p), some (vI u), some (vI c), none] ⟨rfl, rfl, rfl, rfl, trivial⟩ ?_
      exact hk (fun a' g1 g2 => hz0 a' g1 (by omega))
    · refine mr_aload_n dX0_noughts_26 rfl ?_
      refine mr_iload_n dX0_noughts_27 rfl ?_
      refine mr_aload_n dX0_noughts_28 rfl ?_
      refine mr_iload_n dX0_noughts_29 rfl ?_
      refine mr_iload_n dX0_noughts_30 rfl ?_
      refine mr_iload dX0_noughts_31 rfl ?_
      refine mr_callV (as := [_, _, _]) dX0_noughts_33 (ok_X0_formAt l G) ml_X0_51 cl_X0_formAt cv_X0_formAt (by decide) rfl rfl (Nat.le_of_ble_eq_true rfl) (by first | assumption | exact mr_up_same _ _ _ | exact mr_lk (by assumption) (by first | assumption | decide) | exact mr_lk (mr_up_same _ _ _) (by first | assumption | decide) | exact mr_lk (mr_lk (by assumption) (by first | assumption | decide)) (by first | assumption | decide)) ?_
      refine ⟨_, _, _, _, _, rfl, ⟨(by first | assumption | exact mr_up_same _ _ _ | exact mr_lk (by assumption) (by first | assumption | decide) | exact mr_lk (mr_up_same _ _ _) (by first | assumption | decide) | exact mr_lk (mr_lk (by assumption) (by first | assumption | decide)) (by first | assumption | decide)), (by first | assumption | exact mr_up_same _ _ _ | exact mr_lk (by assumption) (by first | assumption | decide) | exact mr_lk (mr_up_same _ _ _) (by first | assumption | decide) | exact mr_lk (mr_lk (by assumption) (by first | assumption | decide)) (by first | assumption | decide))⟩, (by omega), (by omega), (by omega), ?_⟩
      dsimp only [Option.toList_some, Option.toList_none, List.cons_append, List.nil_append]
      refine mr_imul dX0_noughts_36 ?_
      refine mr_callV (as := [_]) dX0_noughts_37 (ok_X0_residue l G) ml_X0_64 cl_X0_residue cv_X0_residue (by decide) rfl rfl (Nat.le_of_ble_eq_true rfl) (by first | assumption | exact mr_up_same _ _ _ | exact mr_lk (by assumption) (by first | assumption | decide) | exact mr_lk (mr_up_same _ _ _) (by first | assumption | decide) | exact mr_lk (mr_lk (by assumption) (by first | assumption | decide)) (by first | assumption | decide)) ?_
      refine ⟨_, _, _, rfl, ⟨(by first | assumption | exact mr_up_same _ _ _ | exact mr_lk (by assumption) (by first | assumption | decide) | exact mr_lk (mr_up_same _ _ _) (by first | assumption | decide) | exact mr_lk (mr_lk (by assumption) (by first | assumption | decide)) (by first | assumption | decide)), (by first | assumption | exact mr_up_same _ _ _ | exact mr_lk (by assumption) (by first | assumption | decide) | exact mr_lk (mr_up_same _ _ _) (by first | assumption | decide) | exact mr_lk (mr_lk (by assumption) (by first | assumption | decide)) (by first | assumption | decide))⟩, (by assumption), (by omega), ?_⟩
      dsimp only [Option.toList_some, Option.toList_none, List.cons_append, List.nil_append]
      refine mr_if_eq (tgt := 45) dX0_noughts_40 (by decide) (by omega) (fun hc_40 => ?_) (fun hc_40 => ?_)
      · refine mr_iinc dX0_noughts_45 rfl (by decide) rfl ?_
        refine mr_goto (tgt := 15) dX0_noughts_48 (by decide) ?_
        refine ih (a + 1) (by omega) (by omega) (fun a' g1 g2 => ?_)
        by_cases e : a' = a
        · subst e; exact hc_40
        · exact hz0 a' g1 (by omega)
      · refine mr_iconst dX0_noughts_43 ?_
        refine mr_zret rfl (Or.inl rfl) dX0_noughts_44 ?_
        exact hQ (fun hh => hc_40 (hh c a hc0.1 ha.1 (by omega)))
set_option maxHeartbeats 4000000 in
set_option maxRecDepth 20000 in
theorem lp_X0_noughts (l : Launch) (G : mr_G) {Po : Option mr_AV → mr_Wd → Prop} {b : Nat} {f : Nat → Int} {p u : Int} {w : mr_Wd} (hb : w b = eO 0 [vR (b + 1) 0]) (hc : w (b + 1) = eA 0 51 f) (hB : mr_Bd f) (hp : InR p) (hu : 0 ≤ u ∧ u ≤ 30) (hP : mr_nt f p u → Po (some (vI 1)) w) (hQ : ¬ mr_nt f p u → Po (some (vI 0)) w) : ∀ (n : Nat) (c : Int), 0 ≤ c ∧ c ≤ 5 → f 1 - c ≤ n → (∀ c' a : Int, 0 ≤ c' → c' < c → c' ≤ a → a < f 1 → mr_rs f (u * mr_fa f p c' a) = 0) → mr_J l G RX0 cX0_noughts 5 (some .boolean) 2 46 Po 2 [some (vR b 0), some (vI p), some (vI u), some (vI c), none] [] w := by
  have h1 := hB.1 1
  have h2 := hB.2.1
  have hz : f (Int.toNat 1) = f 1 := rfl
  intro n
  induction n with
  | zero =>
    intro c hc0 hn hz0
    refine mr_iload_n dX0_noughts_2 rfl ?_
    refine mr_aload_n dX0_noughts_3 rfl ?_
    refine mr_get dX0_noughts_4 fl_X0_11 (by first | assumption | exact mr_up_same _ _ _ | exact mr_lk (by assumption) (by first | assumption | decide) | exact mr_lk (mr_up_same _ _ _) (by first | assumption | decide) | exact mr_lk (mr_lk (by assumption) (by first | assumption | decide)) (by first | assumption | decide)) rfl ?_
    refine mr_iconst dX0_noughts_7 ?_
    refine mr_iald dX0_noughts_8 (by first | assumption | exact mr_up_same _ _ _ | exact mr_lk (by assumption) (by first | assumption | decide) | exact mr_lk (mr_up_same _ _ _) (by first | assumption | decide) | exact mr_lk (mr_lk (by assumption) (by first | assumption | decide)) (by first | assumption | decide)) (by omega) (by omega) (by decide) ?_
    refine mr_icmp_ge (tgt := 57) dX0_noughts_9 (by decide) (by omega) ⟨by rw [hz]; omega, by rw [hz]; omega⟩ (fun hc_9 => ?_) (fun hc_9 => absurd hc_9 (by omega))
    refine mr_iconst dX0_noughts_57 ?_
    refine mr_zret rfl (Or.inr rfl) dX0_noughts_58 ?_
    exact hP (fun c' a g1 g2 g3 => hz0 c' a g1 (by omega) g2 g3)
  | succ n ih =>
    intro c hc0 hn hz0
    refine mr_iload_n dX0_noughts_2 rfl ?_
    refine mr_aload_n dX0_noughts_3 rfl ?_
    refine mr_get dX0_noughts_4 fl_X0_11 (by first | assumption | exact mr_up_same _ _ _ | exact mr_lk (by assumption) (by first | assumption | decide) | exact mr_lk (mr_up_same _ _ _) (by first | assumption | decide) | exact mr_lk (mr_lk (by assumption) (by first | assumption | decide)) (by first | assumption | decide)) rfl ?_
    refine mr_iconst dX0_noughts_7 ?_
    refine mr_iald dX0_noughts_8 (by first | assumption | exact mr_up_same _ _ _ | exact mr_lk (by assumption) (by first | assumption | decide) | exact mr_lk (mr_up_same _ _ _) (by first | assumption | decide) | exact mr_lk (mr_lk (by assumption) (by first | assumption | decide)) (by first | assumption | decide)) (by omega) (by omega) (by decide) ?_
    refine mr_icmp_ge (tgt := 57) dX0_noughts_9 (by decide) (by omega) ⟨by rw [hz]; omega, by rw [hz]; omega⟩ (fun hc_9 => ?_) (fun hc_9 => ?_)
    · refine mr_iconst dX0_noughts_57 ?_
      refine mr_zret rfl (Or.inr rfl) dX0_noughts_58 ?_
      exact hP (fun c' a g1 g2 g3 => hz0 c' a g1 (by omega) g2 g3)
    · refine mr_iload_n dX0_noughts_12 rfl ?_
      refine mr_istore dX0_noughts_13 rfl (by decide) ?_
      refine lpi_X0_noughts l G hb hc hB hp hu hc0 hQ (fun hin => ?_) 9 c ⟨Int.le_refl c, by omega⟩ (by omega) (fun a' g1 g2 => by omega)
      refine mr_iinc dX0_noughts_51 rfl (by decide) rfl ?_
      refine mr_goto (tgt := 2) dX0_noughts_54 (by decide) ?_
      refine ih (c + 1) (by omega) (by omega) (fun c' a g1 g2 g3 g4 => ?_)
      by_cases e : c' = c
      · subst e; exact hin a g3 g4
      · exact hz0 c' a g1 (by omega) g3 g4
def T_X0_noughts (a : List mr_AV) (w : mr_Wd) (Po : Option mr_AV → mr_Wd → Prop) : Prop := ∃ (b : Nat) (f : Nat → Int) (p u : Int), a = [vR b 0, vI p, vI u] ∧ mr_BK w b f ∧ mr_Bd f ∧ InR p ∧ (0 ≤ u ∧ u ≤ 30) ∧ (mr_nt f p u → Po (some (vI 1)) w) ∧ (¬ (mr_nt f p u) → Po (some (vI 0)) w)
set_option maxHeartbeats 4000000 in
set_option maxRecDepth 20000 in
theorem ok_X0_noughts (l : Launch) (G : mr_G) : mr_Ok l G yX0_noughts cX0_noughts 5 (some .boolean) 2 46 T_X0_noughts := by
  refine mr_Ok.of (by decide +kernel) ?_
  rintro a w Po ⟨b, f, p, u, rfl, ⟨hb, hc⟩, hB, hp, hu, hP, hQ⟩
  refine ⟨Nat.le_of_ble_eq_true rfl, ?_⟩
  show mr_J l G RX0 cX0_noughts 5 (some .boolean) 2 46 Po 0 [some (vR b 0), some (vI p), some (vI u), none, none] [] w
  refine mr_iconst dX0_noughts_0 ?_
  refine mr_istore_n dX0_noughts_1 rfl (by decide) ?_
  exact lp_X0_noughts l G hb hc hB hp hu hP hQ 3 0 (by decide) (by have := hB.2.1; omega) (fun c' a g1 g2 => by omega)
set_option maxHeartbeats 4000000 in
set_option maxRecDepth 20000 in
theorem lp_X0_leastNoughting (l : Launch) (G : mr_G) {Po : Option mr_AV → mr_Wd → Prop} {b : Nat} {f : Nat → Int} {p : Int} {w : mr_Wd} (hb : w b = eO 0 [vR (b + 1) 0]) (hc : w (b + 1) = eA 0 51 f) (hB : mr_Bd f) (hp : InR p) (hP : ∀ u : Int, 1 ≤ u → u ≤ 30 ∨ u = 1 → (∀ v : Int, 1 ≤ v → v < u → ¬ mr_nt f p v) → (mr_nt f p u ∨ f 0 ≤ u) → Po (some (vI u)) w) : ∀ (n : Nat) (u : Int), 1 ≤ u ∧ u ≤ 30 → 30 - u ≤ n → (∀ v : Int, 1 ≤ v → v < u → ¬ mr_nt f p v) → mr_J l G RX0 cX0_leastNoughting 3 (some .int) 3 70 Po 2 [some (vR b 0), some (vI p), some (vI u)] [] w := by
  have h1 := hB.1 0
  have hz : f (Int.toNat 0) = f 0 := rfl
  intro n
  induction n with
  | zero =>
    intro u hu hn hz0
    refine mr_iload_n dX0_leastNoughting_2 rfl ?_
    refine mr_aload_n dX0_leastNoughting_3 rfl ?_
    refine mr_get dX0_leastNoughting_4 fl_X0_11 (by first | assumption | exact mr_up_same _ _ _ | exact mr_lk (by assumption) (by first | assumption | decide) | exact mr_lk (mr_up_same _ _ _) (by first | assumption | decide) | exact mr_lk (mr_lk (by assumption) (by first | assumption | decide)) (by first | assumption | decide)) rfl ?_
    refine mr_iconst dX0_leastNoughting_7 ?_
    refine mr_iald dX0_leastNoughting_8 (by first | assumption | exact mr_up_same _ _ _ | exact mr_lk (by assumption) (by first | assumption | decide) | exact mr_lk (mr_up_same _ _ _) (by first | assumption | decide) | exact mr_lk (mr_lk (by assumption) (by first | assumption | decide)) (by first | assumption | decide)) (by omega) (by omega) (by decide) ?_
    refine mr_icmp_ge (tgt := 27) dX0_leastNoughting_9 (by decide) (by omega) ⟨by rw [hz]; omega, by rw [hz]; omega⟩ (fun hc_9 => ?_) (fun hc_9 => absurd hc_9 (by omega))
    refine mr_iload_n dX0_leastNoughting_27 rfl ?_
    refine mr_iret rfl dX0_leastNoughting_28 ?_
    exact hP u hu.1 (Or.inl hu.2) hz0 (Or.inr (by omega))
  | succ n ih =>
    intro u hu hn hz0
    refine mr_iload_n dX0_leastNoughting_2 rfl ?_
    refine mr_aload_n dX0_leastNoughting_3 rfl ?_
    refine mr_get dX0_leastNoughting_4 fl_X0_11 (by first | assumption | exact mr_up_same _ _ _ | exact mr_lk (by assumption) (by first | assumption | decide) | exact mr_lk (mr_up_same _ _ _) (by first | assumption | decide) | exact mr_lk (mr_lk (by assumption) (by first | assumption | decide)) (by first | assumption | decide)) rfl ?_
    refine mr_iconst dX0_leastNoughting_7 ?_
    refine mr_iald dX0_leastNoughting_8 (by first | assumption | exact mr_up_same _ _ _ | exact mr_lk (by assumption) (by first | assumption | decide) | exact mr_lk (mr_up_same _ _ _) (by first | assumption | decide) | exact mr_lk (mr_lk (by assumption) (by first | assumption | decide)) (by first | assumption | decide)) (by omega) (by omega) (by decide) ?_
    refine mr_icmp_ge (tgt := 27) dX0_leastNoughting_9 (by decide) (by omega) ⟨by rw [hz]; omega, by rw [hz]; omega⟩ (fun hc_9 => ?_) (fun hc_9 => ?_)
    · refine mr_iload_n dX0_leastNoughting_27 rfl ?_
      refine mr_iret rfl dX0_leastNoughting_28 ?_
      first | exact hP u hu.1 (Or.inl hu.2) hz0 (Or.inr (by omega)) | exact hP u hu.1 (Or.inl hu.2) hz0 (Or.inl hy)
    · refine mr_aload_n dX0_leastNoughting_12 rfl ?_
      refine mr_iload_n dX0_leastNoughting_13 rfl ?_
      refine mr_iload_n dX0_leastNoughting_14 rfl ?_
      refine mr_callV (as := [_, _]) dX0_leastNoughting_15 (ok_X0_noughts l G) ml_X0_72 cl_X0_noughts cv_X0_noughts (by decide) rfl rfl (Nat.le_of_ble_eq_true rfl) (by first | assumption | exact mr_up_same _ _ _ | exact mr_lk (by assumption) (by first | assumption | decide) | exact mr_lk (mr_up_same _ _ _) (by first | assumption | decide) | exact mr_lk (mr_lk (by assumption) (by first | assumption | decide)) (by first | assumption | decide)) ?_
      refine ⟨_, _, _, _, rfl, ⟨(by first | assumption | exact mr_up_same _ _ _ | exact mr_lk (by assumption) (by first | assumption | decide) | exact mr_lk (mr_up_same _ _ _) (by first | assumption | decide) | exact mr_lk (mr_lk (by assumption) (by first | assumption | decide)) (by first | assumption | decide)), (by first | assumption | exact mr_up_same _ _ _ | exact mr_lk (by assumption) (by first | assumption | decide) | exact mr_lk (mr_up_same _ _ _) (by first | assumption | decide) | exact mr_lk (mr_lk (by assumption) (by first | assumption | decide)) (by first | assumption | decide))⟩, (by assumption), (by omega), (by omega), ?_, ?_⟩
      · intro hy
        dsimp only [Option.toList_some, Option.toList_none, List.cons_append, List.nil_append]
        refine mr_if_ne (tgt := 27) dX0_leastNoughting_18 (by decide) (by omega) (fun _ => ?_) (fun h => absurd h (by decide))
        refine mr_iload_n dX0_leastNoughting_27 rfl ?_
        refine mr_iret rfl dX0_leastNoughting_28 ?_
        first | exact hP u hu.1 (Or.inl hu.2) hz0 (Or.inr (by omega)) | exact hP u hu.1 (Or.inl hu.2) hz0 (Or.inl hy)
      · intro hy
        dsimp only [Option.toList_some, Option.toList_none, List.cons_append, List.nil_append]
        refine mr_if_ne (tgt := 27) dX0_leastNoughting_18 (by decide) (by omega) (fun h => absurd h (by decide)) (fun _ => ?_)
        refine mr_iinc dX0_leastNoughting_21 rfl (by decide) rfl ?_
        refine mr_goto (tgt := 2) dX0_leastNoughting_24 (by decide) ?_
        refine ih (u + 1) (by omega) (by omega) (fun v g1 g2 => ?_)
        by_cases e : v = u
        · subst e; exact hy
        · exact hz0 v g1 (by omega)
def T_X0_leastNoughting (a : List mr_AV) (w : mr_Wd) (Po : Option mr_AV → mr_Wd → Prop) : Prop := ∃ (b : Nat) (f : Nat → Int) (p : Int), a = [vR b 0, vI p] ∧ mr_BK w b f ∧ mr_Bd f ∧ InR p ∧ (∀ u : Int, 1 ≤ u → u ≤ 30 ∨ u = 1 → (∀ v : Int, 1 ≤ v → v < u → ¬ mr_nt f p v) → (mr_nt f p u ∨ f 0 ≤ u) → Po (some (vI u)) w)
set_option maxHeartbeats 4000000 in
set_option maxRecDepth 20000 in
theorem ok_X0_leastNoughting (l : Launch) (G : mr_G) : mr_Ok l G yX0_leastNoughting cX0_leastNoughting 3 (some .int) 3 70 T_X0_leastNoughting := by
  refine mr_Ok.of (by decide +kernel) ?_
  rintro a w Po ⟨b, f, p, rfl, ⟨hb, hc⟩, hB, hp, hP⟩
  refine ⟨Nat.le_of_ble_eq_true rfl, ?_⟩
  show mr_J l G RX0 cX0_leastNoughting 3 (some .int) 3 70 Po 0 [some (vR b 0), some (vI p), none] [] w
  refine mr_iconst dX0_leastNoughting_0 ?_
  refine mr_istore_n dX0_leastNoughting_1 rfl (by decide) ?_
  exact lp_X0_leastNoughting l G hb hc hB hp hP 30 1 (by decide) (by decide) (fun v g1 g2 => by omega)
def T_X0_setEquation (a : List mr_AV) (w : mr_Wd) (Po : Option mr_AV → mr_Wd → Prop) : Prop := ∃ (b q : Nat) (f r : Nat → Int) (i v : Int), a = [vR b 0, vI i, vR q 0, vI v] ∧ mr_BK w b f ∧ w q = eA 0 3 r ∧ InR i ∧ Po none (mr_up w (b + 1) (eA 0 51 (mr_seq f i r v)))
set_option maxHeartbeats 4000000 in
set_option maxRecDepth 20000 in
theorem ok_X0_setEquation (l : Launch) (G : mr_G) : mr_Ok l G yX0_setEquation cX0_setEquation 5 none 2 45 T_X0_setEquation := by
  refine mr_Ok.of (by decide +kernel) ?_
  rintro a w Po ⟨b, q, f, r, i, v, rfl, ⟨hb, hc⟩, hq, hi, hP⟩
  refine ⟨Nat.le_of_ble_eq_true rfl, ?_⟩
  show mr_J l G RX0 cX0_setEquation 5 none 2 45 Po 0 [some (vR b 0), some (vI i), some (vR q 0), some (vI v), none] [] w
  have hqb : b ≠ q := fun e => by rw [e, hq] at hb; cases hb
  have hqc : b + 1 ≠ q := fun e => by rw [e, hq] at hc; cases hc
  have hbc : b ≠ b + 1 := by omega
  have hqc2 : q ≠ b + 1 := fun e => hqc e.symm
  refine mr_iconst dX0_setEquation_0 ?_
  refine mr_istore dX0_setEquation_1 rfl (by decide) ?_
  refine mr_iload dX0_setEquation_3 rfl ?_
  refine mr_iconst dX0_setEquation_5 ?_
  refine mr_icmp_ge (tgt := 33) dX0_setEquation_6 (by decide) (by omega) (by omega) (fun h => absurd h (by decide)) (fun _ => ?_)
  refine mr_iload dX0_setEquation_9 rfl ?_
  refine mr_aload_n dX0_setEquation_11 rfl ?_
  refine mr_alen dX0_setEquation_12 (by first | assumption | exact mr_up_same _ _ _ | exact mr_lk (by assumption) (by first | assumption | decide) | exact mr_lk (mr_up_same _ _ _) (by first | assumption | decide) | exact mr_lk (mr_lk (by assumption) (by first | assumption | decide)) (by first | assumption | decide)) (by decide) ?_
  refine mr_icmp_ge (tgt := 33) dX0_setEquation_13 (by decide) (by omega) (by omega) (fun h => absurd h (by decide)) (fun _ => ?_)
  refine mr_aload_n dX0_setEquation_16 rfl ?_
  refine mr_iload_n dX0_setEquation_17 rfl ?_
  refine mr_iload dX0_setEquation_18 rfl ?_
  refine mr_aload_n dX0_setEquation_20 rfl ?_
  refine mr_iload dX0_setEquation_21 rfl ?_
  refine mr_iald dX0_setEquation_23 (by first | assumption | exact mr_up_same _ _ _ | exact mr_lk (by assumption) (by first | assumption | decide) | exact mr_lk (mr_up_same _ _ _) (by first | assumption | decide) | exact mr_lk (mr_lk (by assumption) (by first | assumption | decide)) (by first | assumption | decide)) (by omega) (by omega) (by decide) ?_
  refine mr_callV (as := [_, _, _]) dX0_setEquation_24 (ok_X0_setSideAt l G) ml_X0_78 cl_X0_setSideAt cv_X0_setSideAt (by decide) rfl rfl (Nat.le_of_ble_eq_true rfl) (by first | assumption | exact mr_up_same _ _ _ | exact mr_lk (by assumption) (by first | assumption | decide) | exact mr_lk (mr_up_same _ _ _) (by first | assumption | decide) | exact mr_lk (mr_lk (by assumption) (by first | assumption | decide)) (by first | assumption | decide)) ?_
  refine ⟨_, _, _, _, _, rfl, ⟨(by first | assumption | exact mr_up_same _ _ _ | exact mr_lk (by assumption) (by first | assumption | decide) | exact mr_lk (mr_up_same _ _ _) (by first | assumption | decide) | exact mr_lk (mr_lk (by assumption) (by first | assumption | decide)) (by first | assumption | decide)), (by first | assumption | exact mr_up_same _ _ _ | exact mr_lk (by assumption) (by first | assumption | decide) | exact mr_lk (mr_up_same _ _ _) (by first | assumption | decide) | exact mr_lk (mr_lk (by assumption) (by first | assumption | decide)) (by first | assumption | decide))⟩, (by omega), (by decide), ?_⟩
  try rw [mr_up_up]
  dsimp only [Option.toList_some, Option.toList_none, List.cons_append, List.nil_append]
  refine mr_iinc dX0_setEquation_27 rfl (by decide) rfl ?_
  refine mr_goto (tgt := 3) dX0_setEquation_30 (by decide) ?_
  refine mr_iload dX0_setEquation_3 rfl ?_
  refine mr_iconst dX0_setEquation_5 ?_
  refine mr_icmp_ge (tgt := 33) dX0_setEquation_6 (by decide) (by omega) (by omega) (fun h => absurd h (by decide)) (fun _ => ?_)
  refine mr_iload dX0_setEquation_9 rfl ?_
  refine mr_aload_n dX0_setEquation_11 rfl ?_
  refine mr_alen dX0_setEquation_12 (by first | assumption | exact mr_up_same _ _ _ | exact mr_lk (by assumption) (by first | assumption | decide) | exact mr_lk (mr_up_same _ _ _) (by first | assumption | decide) | exact mr_lk (mr_lk (by assumption) (by first | assumption | decide)) (by first | assumption | decide)) (by decide) ?_
  refine mr_icmp_ge (tgt := 33) dX0_setEquation_13 (by decide) (by omega) (by omega) (fun h => absurd h (by decide)) (fun _ => ?_)
  refine mr_aload_n dX0_setEquation_16 rfl ?_
  refine mr_iload_n dX0_setEquation_17 rfl ?_
  refine mr_iload dX0_setEquation_18 rfl ?_
  refine mr_aload_n dX0_setEquation_20 rfl ?_
  refine mr_iload dX0_setEquation_21 rfl ?_
  refine mr_iald dX0_setEquation_23 (by first | assumption | exact mr_up_same _ _ _ | exact mr_lk (by assumption) (by first | assumption | decide) | exact mr_lk (mr_up_same _ _ _) (by first | assumption | decide) | exact mr_lk (mr_lk (by assumption) (by first | assumption | decide)) (by first | assumption | decide)) (by omega) (by omega) (by decide) ?_
  refine mr_callV (as := [_, _, _]) dX0_setEquation_24 (ok_X0_setSideAt l G) ml_X0_78 cl_X0_setSideAt cv_X0_setSideAt (by decide) rfl rfl (Nat.le_of_ble_eq_true rfl) (by first | assumption | exact mr_up_same _ _ _ | exact mr_lk (by assumption) (by first | assumption | decide) | exact mr_lk (mr_up_same _ _ _) (by first | assumption | decide) | exact mr_lk (mr_lk (by assumption) (by first | assumption | decide)) (by first | assumption | decide)) ?_
  refine ⟨_, _, _, _, _, rfl, ⟨(by first | assumption | exact mr_up_same _ _ _ | exact mr_lk (by assumption) (by first | assumption | decide) | exact mr_lk (mr_up_same _ _ _) (by first | assumption | decide) | exact mr_lk (mr_lk (by assumption) (by first | assumption | decide)) (by first | assumption | decide)), (by first | assumption | exact mr_up_same _ _ _ | exact mr_lk (by assumption) (by first | assumption | decide) | exact mr_lk (mr_up_same _ _ _) (by first | assumption | decide) | exact mr_lk (mr_lk (by assumption) (by first | assumption | decide)) (by first | assumption | decide))⟩, (by omega), (by decide), ?_⟩
  try rw [mr_up_up]
  dsimp only [Option.toList_some, Option.toList_none, List.cons_append, List.nil_append]
  refine mr_iinc dX0_setEquation_27 rfl (by decide) rfl ?_
  refine mr_goto (tgt := 3) dX0_setEquation_30 (by decide) ?_
  refine mr_iload dX0_setEquation_3 rfl ?_
  refine mr_iconst dX0_setEquation_5 ?_
  refine mr_icmp_ge (tgt := 33) dX0_setEquation_6 (by decide) (by omega) (by omega) (fun h => absurd h (by decide)) (fun _ => ?_)
  refine mr_iload dX0_setEquation_9 rfl ?_
  refine mr_aload_n dX0_setEquation_11 rfl ?_
  refine mr_alen dX0_setEquation_12 (by first | assumption | exact mr_up_same _ _ _ | exact mr_lk (by assumption) (by first | assumption | decide) | exact mr_lk (mr_up_same _ _ _) (by first | assumption | decide) | exact mr_lk (mr_lk (by assumption) (by first | assumption | decide)) (by first | assumption | decide)) (by decide) ?_
  refine mr_icmp_ge (tgt := 33) dX0_setEquation_13 (by decide) (by omega) (by omega) (fun h => absurd h (by decide)) (fun _ => ?_)
  refine mr_aload_n dX0_setEquation_16 rfl ?_
  refine mr_iload_n dX0_setEquation_17 rfl ?_
  refine mr_iload dX0_setEquation_18 rfl ?_
  refine mr_aload_n dX0_setEquation_20 rfl ?_
  refine mr_iload dX0_setEquation_21 rfl ?_
  refine mr_iald dX0_setEquation_23 (by first | assumption | exact mr_up_same _ _ _ | exact mr_lk (by assumption) (by first | assumption | decide) | exact mr_lk (mr_up_same _ _ _) (by first | assumption | decide) | exact mr_lk (mr_lk (by assumption) (by first | assumption | decide)) (by first | assumption | decide)) (by omega) (by omega) (by decide) ?_
  refine mr_callV (as := [_, _, _]) dX0_setEquation_24 (ok_X0_setSideAt l G) ml_X0_78 cl_X0_setSideAt cv_X0_setSideAt (by decide) rfl rfl (Nat.le_of_ble_eq_true rfl) (by first | assumption | exact mr_up_same _ _ _ | exact mr_lk (by assumption) (by first | assumption | decide) | exact mr_lk (mr_up_same _ _ _) (by first | assumption | decide) | exact mr_lk (mr_lk (by assumption) (by first | assumption | decide)) (by first | assumption | decide)) ?_
  refine ⟨_, _, _, _, _, rfl, ⟨(by first | assumption | exact mr_up_same _ _ _ | exact mr_lk (by assumption) (by first | assumption | decide) | exact mr_lk (mr_up_same _ _ _) (by first | assumption | decide) | exact mr_lk (mr_lk (by assumption) (by first | assumption | decide)) (by first | assumption | decide)), (by first | assumption | exact mr_up_same _ _ _ | exact mr_lk (by assumption) (by first | assumption | decide) | exact mr_lk (mr_up_same _ _ _) (by first | assumption | decide) | exact mr_lk (mr_lk (by assumption) (by first | assumption | decide)) (by first | assumption | decide))⟩, (by omega), (by decide), ?_⟩
  try rw [mr_up_up]
  dsimp only [Option.toList_some, Option.toList_none, List.cons_append, List.nil_append]
  refine mr_iinc dX0_setEquation_27 rfl (by decide) rfl ?_
  refine mr_goto (tgt := 3) dX0_setEquation_30 (by decide) ?_
  refine mr_iload dX0_setEquation_3 rfl ?_
  refine mr_iconst dX0_setEquation_5 ?_
  refine mr_icmp_ge (tgt := 33) dX0_setEquation_6 (by decide) (by omega) (by omega) (fun _ => ?_) (fun h => absurd h (by decide))
  refine mr_aload_n dX0_setEquation_33 rfl ?_
  refine mr_iload_n dX0_setEquation_34 rfl ?_
  refine mr_iconst dX0_setEquation_35 ?_
  refine mr_iload_n dX0_setEquation_36 rfl ?_
  refine mr_callV (as := [_, _, _]) dX0_setEquation_37 (ok_X0_setSideAt l G) ml_X0_78 cl_X0_setSideAt cv_X0_setSideAt (by decide) rfl rfl (Nat.le_of_ble_eq_true rfl) (by first | assumption | exact mr_up_same _ _ _ | exact mr_lk (by assumption) (by first | assumption | decide) | exact mr_lk (mr_up_same _ _ _) (by first | assumption | decide) | exact mr_lk (mr_lk (by assumption) (by first | assumption | decide)) (by first | assumption | decide)) ?_
  refine ⟨_, _, _, _, _, rfl, ⟨(by first | assumption | exact mr_up_same _ _ _ | exact mr_lk (by assumption) (by first | assumption | decide) | exact mr_lk (mr_up_same _ _ _) (by first | assumption | decide) | exact mr_lk (mr_lk (by assumption) (by first | assumption | decide)) (by first | assumption | decide)), (by first | assumption | exact mr_up_same _ _ _ | exact mr_lk (by assumption) (by first | assumption | decide) | exact mr_lk (mr_up_same _ _ _) (by first | assumption | decide) | exact mr_lk (mr_lk (by assumption) (by first | assumption | decide)) (by first | assumption | decide))⟩, (by omega), (by decide), ?_⟩
  try rw [mr_up_up]
  dsimp only [Option.toList_some, Option.toList_none, List.cons_append, List.nil_append]
  refine mr_vret rfl dX0_setEquation_40 ?_
  exact hP
theorem mr_sse_lo (f : Nat → Int) (i h v : Int) {k : Nat} (hk : k < 39) : mr_sse f i h v k = f k := by
  unfold mr_sse
  split
  · rw [mr_fs_ne _ _ (by omega)]
  · rfl
theorem mr_sse_ne (f : Nat → Int) {i j : Int} (h g v : Int) (hij : i ≠ j) : mr_se (mr_sse f i h v) j g = mr_se f j g := by
  unfold mr_se mr_sse
  split
  · split
    · rw [mr_fs_ne _ _ (by omega)]
    · rfl
  · rfl
theorem mr_rms_lo (f : Nat → Int) (i : Int) {k : Nat} (hk : k < 39) : mr_rms f i k = f k := by
  unfold mr_rms
  rw [mr_sse_lo _ _ _ _ hk, mr_sse_lo _ _ _ _ hk, mr_sse_lo _ _ _ _ hk, mr_sse_lo _ _ _ _ hk]
theorem mr_sse_bd {f : Nat → Int} (hB : mr_Bd f) (i h v : Int) (hv : 0 ≤ v ∧ v ≤ 30) : mr_Bd (mr_sse f i h v) := by
  refine ⟨fun k => ?_, by rw [mr_sse_lo _ _ _ _ (by decide)]; exact hB.2.1, by rw [mr_sse_lo _ _ _ _ (by decide)]; exact hB.2.2⟩
  unfold mr_sse
  split
  · unfold mr_fs
    split
    · exact hv
    · exact hB.1 k
  · exact hB.1 k
theorem mr_rms_bd {f : Nat → Int} (hB : mr_Bd f) (i : Int) : mr_Bd (mr_rms f i) :=
  mr_sse_bd (mr_sse_bd (mr_sse_bd (mr_sse_bd hB _ _ _ (mr_se_bd hB _ _)) _ _ _ (mr_se_bd hB _ _)) _ _ _ (mr_se_bd hB _ _)) _ _ _ (mr_se_bd hB _ _)
set_option maxHeartbeats 4000000 in
set_option maxRecDepth 20000 in
theorem lp_X0_removeEquation (l : Launch) (G : mr_G) {Po : Option mr_AV → mr_Wd → Prop} {b : Nat} {w : mr_Wd} (hb : w b = eO 0 [vR (b + 1) 0]) (hbc : b ≠ b + 1) : ∀ (n : Nat) (i : Int) (f : Nat → Int), mr_Bd f → 0 ≤ i ∧ i ≤ 5 → f 2 - 1 - i ≤ n → Po none (mr_up w (b + 1) (eA 0 51 (mr_fs (mr_rml n i f) 2 (max 0 (min (f 2 - 1) 3))))) → mr_J l G RX0 cX0_removeEquation 4 none 2 45 Po 2 [some (vR b 0), none, some (vI i), none] [] (mr_up w (b + 1) (eA 0 51 f)) := by
  intro n
  have hz : ∀ f : Nat → Int, f (Int.toNat 2) = f 2 := fun f => rfl
  induction n with
  | zero =>
    intro i f hB hi hn hP
    have h1 := hB.1 2
    have h2 := hB.2.2
    refine mr_iload_n dX0_removeEquation_2 rfl ?_
    refine mr_aload_n dX0_removeEquation_3 rfl ?_
    refine mr_get dX0_removeEquation_4 fl_X0_11 (by first | assumption | exact mr_up_same _ _ _ | exact mr_lk (by assumption) (by first | assumption | decide) | exact mr_lk (mr_up_same _ _ _) (by first | assumption | decide) | exact mr_lk (mr_lk (by assumption) (by first | assumption | decide)) (by first | assumption | decide)) rfl ?_
    refine mr_iconst dX0_removeEquation_7 ?_
    refine mr_iald dX0_removeEquation_8 (by first | assumption | exact mr_up_same _ _ _ | exact mr_lk (by assumption) (by first | assumption | decide) | exact mr_lk (mr_up_same _ _ _) (by first | assumption | decide) | exact mr_lk (mr_lk (by assumption) (by first | assumption | decide)) (by first | assumption | decide)) (by omega) (by omega) (by decide) ?_
    refine mr_iconst dX0_removeEquation_9 ?_
    refine mr_isub dX0_removeEquation_10 ?_
    refine mr_icmp_ge (tgt := 47) dX0_removeEquation_11 (by decide) (by omega) ⟨by rw [hz f]; omega, by rw [hz f]; omega⟩ (fun hc_11 => ?_) (fun hc_11 => absurd hc_11 (by rw [hz f]; omega))
    refine mr_aload_n dX0_removeEquation_47 rfl ?_
    refine mr_aload_n dX0_removeEquation_48 rfl ?_
    refine mr_get dX0_removeEquation_49 fl_X0_11 (by first | assumption | exact mr_up_same _ _ _ | exact mr_lk (by assumption) (by first | assumption | decide) | exact mr_lk (mr_up_same _ _ _) (by first | assumption | decide) | exact mr_lk (mr_lk (by assumption) (by first | assumption | decide)) (by first | assumption | decide)) rfl ?_
    refine mr_iconst dX0_removeEquation_52 ?_
    refine mr_iald dX0_removeEquation_53 (by first | assumption | exact mr_up_same _ _ _ | exact mr_lk (by assumption) (by first | assumption | decide) | exact mr_lk (mr_up_same _ _ _) (by first | assumption | decide) | exact mr_lk (mr_lk (by assumption) (by first | assumption | decide)) (by first | assumption | decide)) (by omega) (by omega) (by decide) ?_
    refine mr_iconst dX0_removeEquation_54 ?_
    refine mr_isub dX0_removeEquation_55 ?_
    refine mr_callV (as := [_]) dX0_removeEquation_56 (ok_X0_setEquationCount l G) ml_X0_85 cl_X0_setEquationCount cv_X0_setEquationCount (by decide) rfl rfl (Nat.le_of_ble_eq_true rfl) (by first | assumption | exact mr_up_same _ _ _ | exact mr_lk (by assumption) (by first | assumption | decide) | exact mr_lk (mr_up_same _ _ _) (by first | assumption | decide) | exact mr_lk (mr_lk (by assumption) (by first | assumption | decide)) (by first | assumption | decide)) ?_
    refine ⟨_, _, _, rfl, ⟨(by first | assumption | exact mr_up_same _ _ _ | exact mr_lk (by assumption) (by first | assumption | decide) | exact mr_lk (mr_up_same _ _ _) (by first | assumption | decide) | exact mr_lk (mr_lk (by assumption) (by first | assumption | decide)) (by first | assumption | decide)), (by first | assumption | exact mr_up_same _ _ _ | exact mr_lk (by assumption) (by first | assumption | decide) | exact mr_lk (mr_up_same _ _ _) (by first | assumption | decide) | exact mr_lk (mr_lk (by assumption) (by first | assumption | decide)) (by first | assumption | decide))⟩, ⟨by rw [hz f]; omega, by rw [hz f]; omega⟩, ?_⟩
    rw [mr_up_up]
    dsimp only [Option.toList_some, Option.toList_none, List.cons_append, List.nil_append]
    refine mr_vret rfl dX0_removeEquation_59 ?_
    exact hP
  | succ n ih =>
    intro i f hB hi hn hP
    have h1 := hB.1 2
    have h2 := hB.2.2
    refine mr_iload_n dX0_removeEquation_2 rfl ?_
    refine mr_aload_n dX0_removeEquation_3 rfl ?_
    refine mr_get dX0_removeEquation_4 fl_X0_11 (by first | assumption | exact mr_up_same _ _ _ | exact mr_lk (by assumption) (by first | assumption | decide) | exact mr_lk (mr_up_same _ _ _) (by first | assumption | decide) | exact mr_lk (mr_lk (by assumption) (by first | assumption | decide)) (by first | assumption | decide)) rfl ?_
    refine mr_iconst dX0_removeEquation_7 ?_
    refine mr_iald dX0_removeEquation_8 (by first | assumption | exact mr_up_same _ _ _ | exact mr_lk (by assumption) (by first | assumption | decide) | exact mr_lk (mr_up_same _ _ _) (by first | assumption | decide) | exact mr_lk (mr_lk (by assumption) (by first | assumption | decide)) (by first | assumption | decide)) (by omega) (by omega) (by decide) ?_
    refine mr_iconst dX0_removeEquation_9 ?_
    refine mr_isub dX0_removeEquation_10 ?_
    refine mr_icmp_ge (tgt := 47) dX0_removeEquation_11 (by decide) (by omega) ⟨by rw [hz f]; omega, by rw [hz f]; omega⟩ (fun hc_11 => ?_) (fun hc_11 => ?_)
    · refine mr_aload_n dX0_removeEquation_47 rfl ?_
      refine mr_aload_n dX0_removeEquation_48 rfl ?_
      refine mr_get dX0_removeEquation_49 fl_X0_11 (by first | assumption | exact mr_up_same _ _ _ | exact mr_lk (by assumption) (by first | assumption | decide) | exact mr_lk (mr_up_same _ _ _) (by first | assumption | decide) | exact mr_lk (mr_lk (by assumption) (by first | assumption | decide)) (by first | assumption | decide)) rfl ?_
      refine mr_iconst dX0_removeEquation_52 ?_
      refine mr_iald dX0_removeEquation_53 (by first | assumption | exact mr_up_same _ _ _ | exact mr_lk (by assumption) (by first | assumption | decide) | exact mr_lk (mr_up_same _ _ _) (by first | assumption | decide) | exact mr_lk (mr_lk (by assumption) (by first | assumption | decide)) (by first | assumption | decide)) (by omega) (by omega) (by decide) ?_
      refine mr_iconst dX0_removeEquation_54 ?_
      refine mr_isub dX0_removeEquation_55 ?_
      refine mr_callV (as := [_]) dX0_removeEquation_56 (ok_X0_setEquationCount l G) ml_X0_85 cl_X0_setEquationCount cv_X0_setEquationCount (by decide) rfl rfl (Nat.le_of_ble_eq_true rfl) (by first | assumption | exact mr_up_same _ _ _ | exact mr_lk (by assumption) (by first | assumption | decide) | exact mr_lk (mr_up_same _ _ _) (by first | assumption | decide) | exact mr_lk (mr_lk (by assumption) (by first | assumption | decide)) (by first | assumption | decide)) ?_
      refine ⟨_, _, _, rfl, ⟨(by first | assumption | exact mr_up_same _ _ _ | exact mr_lk (by assumption) (by first | assumption | decide) | exact mr_lk (mr_up_same _ _ _) (by first | assumption | decide) | exact mr_lk (mr_lk (by assumption) (by first | assumption | decide)) (by first | assumption | decide)), (by first | assumption | exact mr_up_same _ _ _ | exact mr_lk (by assumption) (by first | assumption | decide) | exact mr_lk (mr_up_same _ _ _) (by first | assumption | decide) | exact mr_lk (mr_lk (by assumption) (by first | assumption | decide)) (by first | assumption | decide))⟩, ⟨by rw [hz f]; omega, by rw [hz f]; omega⟩, ?_⟩
      rw [mr_up_up]
      dsimp only [Option.toList_some, Option.toList_none, List.cons_append, List.nil_append]
      refine mr_vret rfl dX0_removeEquation_59 ?_
      rw [mr_rml, if_neg (by have := hz f; omega)] at hP
      exact hP
    · refine mr_iconst dX0_removeEquation_14 ?_
      refine mr_istore_n dX0_removeEquation_15 rfl (by decide) ?_
      refine mr_iload_n dX0_removeEquation_16 rfl ?_
      refine mr_iconst dX0_removeEquation_17 ?_
      refine mr_icmp_ge (tgt := 41) dX0_removeEquation_18 (by decide) (by omega) (by omega) (fun h => absurd h (by decide)) (fun _ => ?_)
      refine mr_aload_n dX0_removeEquation_21 rfl ?_
      refine mr_iload_n dX0_removeEquation_22 rfl ?_
      refine mr_iload_n dX0_removeEquation_23 rfl ?_
      refine mr_aload_n dX0_removeEquation_24 rfl ?_
      refine mr_iload_n dX0_removeEquation_25 rfl ?_
      refine mr_iconst dX0_removeEquation_26 ?_
      refine mr_iadd dX0_removeEquation_27 ?_
      refine mr_iload_n dX0_removeEquation_28 rfl ?_
      refine mr_callV (as := [_, _]) dX0_removeEquation_29 (ok_X0_sideAt l G) ml_X0_82 cl_X0_sideAt cv_X0_sideAt (by decide) rfl rfl (Nat.le_of_ble_eq_true rfl) (by first | assumption | exact mr_up_same _ _ _ | exact mr_lk (by assumption) (by first | assumption | decide) | exact mr_lk (mr_up_same _ _ _) (by first | assumption | decide) | exact mr_lk (mr_lk (by assumption) (by first | assumption | decide)) (by first | assumption | decide)) ?_
      refine ⟨_, _, _, _, rfl, ⟨(by first | assumption | exact mr_up_same _ _ _ | exact mr_lk (by assumption) (by first | assumption | decide) | exact mr_lk (mr_up_same _ _ _) (by first | assumption | decide) | exact mr_lk (mr_lk (by assumption) (by first | assumption | decide)) (by first | assumption | decide)), (by first | assumption | exact mr_up_same _ _ _ | exact mr_lk (by assumption) (by first | assumption | decide) | exact mr_lk (mr_up_same _ _ _) (by first | assumption | decide) | exact mr_lk (mr_lk (by assumption) (by first | assumption | decide)) (by first | assumption | decide))⟩, (by omega), (by decide), ?_⟩
      dsimp only [Option.toList_some, Option.toList_none, List.cons_append, List.nil_append]
      refine mr_callV (as := [_, _, _]) dX0_removeEquation_32 (ok_X0_setSideAt l G) ml_X0_78 cl_X0_setSideAt cv_X0_setSideAt (by decide) rfl rfl (Nat.le_of_ble_eq_true rfl) (by first | assumption | exact mr_up_same _ _ _ | exact mr_lk (by assumption) (by first | assumption | decide) | exact mr_lk (mr_up_same _ _ _) (by first | assumption | decide) | exact mr_lk (mr_lk (by assumption) (by first | assumption | decide)) (by first | assumption | decide)) ?_
      refine ⟨_, _, _, _, _, rfl, ⟨(by first | assumption | exact mr_up_same _ _ _ | exact mr_lk (by assumption) (by first | assumption | decide) | exact mr_lk (mr_up_same _ _ _) (by first | assumption | decide) | exact mr_lk (mr_lk (by assumption) (by first | assumption | decide)) (by first | assumption | decide)), (by first | assumption | exact mr_up_same _ _ _ | exact mr_lk (by assumption) (by first | assumption | decide) | exact mr_lk (mr_up_same _ _ _) (by first | assumption | decide) | exact mr_lk (mr_lk (by assumption) (by first | assumption | decide)) (by first | assumption | decide))⟩, (by omega), (by decide), ?_⟩
      rw [mr_up_up]
      dsimp only [Option.toList_some, Option.toList_none, List.cons_append, List.nil_append]
      refine mr_iinc dX0_removeEquation_35 rfl (by decide) rfl ?_
      refine mr_goto (tgt := 16) dX0_removeEquation_38 (by decide) ?_
      refine mr_iload_n dX0_removeEquation_16 rfl ?_
      refine mr_iconst dX0_removeEquation_17 ?_
      refine mr_icmp_ge (tgt := 41) dX0_removeEquation_18 (by decide) (by omega) (by omega) (fun h => absurd h (by decide)) (fun _ => ?_)
      refine mr_aload_n dX0_removeEquation_21 rfl ?_
      refine mr_iload_n dX0_removeEquation_22 rfl ?_
      refine mr_iload_n dX0_removeEquation_23 rfl ?_
      refine mr_aload_n dX0_removeEquation_24 rfl ?_
      refine mr_iload_n dX0_removeEquation_25 rfl ?_
      refine mr_iconst dX0_removeEquation_26 ?_
      refine mr_iadd dX0_removeEquation_27 ?_
      refine mr_iload_n dX0_removeEquation_28 rfl ?_
      refine mr_callV (as := [_, _]) dX0_removeEquation_29 (ok_X0_sideAt l G) ml_X0_82 cl_X0_sideAt cv_X0_sideAt (by decide) rfl rfl (Nat.le_of_ble_eq_true rfl) (by first | assumption | exact mr_up_same _ _ _ | exact mr_lk (by assumption) (by first | assumption | decide) | exact mr_lk (mr_up_same _ _ _) (by first | assumption | decide) | exact mr_lk (mr_lk (by assumption) (by first | assumption | decide)) (by first | assumption | decide)) ?_
      refine ⟨_, _, _, _, rfl, ⟨(by first | assumption | exact mr_up_same _ _ _ | exact mr_lk (by assumption) (by first | assumption | decide) | exact mr_lk (mr_up_same _ _ _) (by first | assumption | decide) | exact mr_lk (mr_lk (by assumption) (by first | assumption | decide)) (by first | assumption | decide)), (by first | assumption | exact mr_up_same _ _ _ | exact mr_lk (by assumption) (by first | assumption | decide) | exact mr_lk (mr_up_same _ _ _) (by first | assumption | decide) | exact mr_lk (mr_lk (by assumption) (by first | assumption | decide)) (by first | assumption | decide))⟩, (by omega), (by decide), ?_⟩
      dsimp only [Option.toList_some, Option.toList_none, List.cons_append, List.nil_append]
      refine mr_callV (as := [_, _, _]) dX0_removeEquation_32 (ok_X0_setSideAt l G) ml_X0_78 cl_X0_setSideAt cv_X0_setSideAt (by decide) rfl rfl (Nat.le_of_ble_eq_true rfl) (by first | assumption | exact mr_up_same _ _ _ | exact mr_lk (by assumption) (by first | assumption | decide) | exact mr_lk (mr_up_same _ _ _) (by first | assumption | decide) | exact mr_lk (mr_lk (by assumption) (by first | assumption | decide)) (by first | assumption | decide)) ?_
      refine ⟨_, _, _, _, _, rfl, ⟨(by first | assumption | exact mr_up_same _ _ _ | exact mr_lk (by assumption) (by first | assumption | decide) | exact mr_lk (mr_up_same _ _ _) (by first | assumption | decide) | exact mr_lk (mr_lk (by assumption) (by first | assumption | decide)) (by first | assumption | decide)), (by first | assumption | exact mr_up_same _ _ _ | exact mr_lk (by assumption) (by first | assumption | decide) | exact mr_lk (mr_up_same _ _ _) (by first | assumption | decide) | exact mr_lk (mr_lk (by assumption) (by first | assumption | decide)) (by first | assumption | decide))⟩, (by omega), (by decide), ?_⟩
      rw [mr_up_up]
      dsimp only [Option.toList_some, Option.toList_none, List.cons_append, List.nil_append]
      refine mr_iinc dX0_removeEquation_35 rfl (by decide) rfl ?_
      refine mr_goto (tgt := 16) dX0_removeEquation_38 (by decide) ?_
      refine mr_iload_n dX0_removeEquation_16 rfl ?_
      refine mr_iconst dX0_removeEquation_17 ?_
      refine mr_icmp_ge (tgt := 41) dX0_removeEquation_18 (by decide) (by omega) (by omega) (fun h => absurd h (by decide)) (fun _ => ?_)
      refine mr_aload_n dX0_removeEquation_21 rfl ?_
      refine mr_iload_n dX0_removeEquation_22 rfl ?_
      refine mr_iload_n dX0_removeEquation_23 rfl ?_
      refine mr_aload_n dX0_removeEquation_24 rfl ?_
      refine mr_iload_n dX0_removeEquation_25 rfl ?_
      refine mr_iconst dX0_removeEquation_26 ?_
      refine mr_iadd dX0_removeEquation_27 ?_
      refine mr_iload_n dX0_removeEquation_28 rfl ?_
      refine mr_callV (as := [_, _]) dX0_removeEquation_29 (ok_X0_sideAt l G) ml_X0_82 cl_X0_sideAt cv_X0_sideAt (by decide) rfl rfl (Nat.le_of_ble_eq_true rfl) (by first | assumption | exact mr_up_same _ _ _ | exact mr_lk (by assumption) (by first | assumption | decide) | exact mr_lk (mr_up_same _ _ _) (by first | assumption | decide) | exact mr_lk (mr_lk (by assumption) (by first | assumption | decide)) (by first | assumption | decide)) ?_
      refine ⟨_, _, _, _, rfl, ⟨(by first | assumption | exact mr_up_same _ _ _ | exact mr_lk (by assumption) (by first | assumption | decide) | exact mr_lk (mr_up_same _ _ _) (by first | assumption | decide) | exact mr_lk (mr_lk (by assumption) (by first | assumption | decide)) (by first | assumption | decide)), (by first | assumption | exact mr_up_same _ _ _ | exact mr_lk (by assumption) (by first | assumption | decide) | exact mr_lk (mr_up_same _ _ _) (by first | assumption | decide) | exact mr_lk (mr_lk (by assumption) (by first | assumption | decide)) (by first | assumption | decide))⟩, (by omega), (by decide), ?_⟩
      dsimp only [Option.toList_some, Option.toList_none, List.cons_append, List.nil_append]
      refine mr_callV (as := [_, _, _]) dX0_removeEquation_32 (ok_X0_setSideAt l G) ml_X0_78 cl_X0_setSideAt cv_X0_setSideAt (by decide) rfl rfl (Nat.le_of_ble_eq_true rfl) (by first | assumption | exact mr_up_same _ _ _ | exact mr_lk (by assumption) (by first | assumption | decide) | exact mr_lk (mr_up_same _ _ _) (by first | assumption | decide) | exact mr_lk (mr_lk (by assumption) (by first | assumption | decide)) (by first | assumption | decide)) ?_
      refine ⟨_, _, _, _, _, rfl, ⟨(by first | assumption | exact mr_up_same _ _ _ | exact mr_lk (by assumption) (by first | assumption | decide) | exact mr_lk (mr_up_same _ _ _) (by first | assumption | decide) | exact mr_lk (mr_lk (by assumption) (by first | assumption | decide)) (by first | assumption | decide)), (by first | assumption | exact mr_up_same _ _ _ | exact mr_lk (by assumption) (by first | assumption | decide) | exact mr_lk (mr_up_same _ _ _) (by first | assumption | decide) | exact mr_lk (mr_lk (by assumption) (by first | assumption | decide)) (by first | assumption | decide))⟩, (by omega), (by decide), ?_⟩
      rw [mr_up_up]
      dsimp only [Option.toList_some, Option.toList_none, List.cons_append, List.nil_append]
      refine mr_iinc dX0_removeEquation_35 rfl (by decide) rfl ?_
      refine mr_goto (tgt := 16) dX0_removeEquation_38 (by decide) ?_
      refine mr_iload_n dX0_removeEquation_16 rfl ?_
      refine mr_iconst dX0_removeEquation_17 ?_
      refine mr_icmp_ge (tgt := 41) dX0_removeEquation_18 (by decide) (by omega) (by omega) (fun h => absurd h (by decide)) (fun _ => ?_)
      refine mr_aload_n dX0_removeEquation_21 rfl ?_
      refine mr_iload_n dX0_removeEquation_22 rfl ?_
      refine mr_iload_n dX0_removeEquation_23 rfl ?_
      refine mr_aload_n dX0_removeEquation_24 rfl ?_
      refine mr_iload_n dX0_removeEquation_25 rfl ?_
      refine mr_iconst dX0_removeEquation_26 ?_
      refine mr_iadd dX0_removeEquation_27 ?_
      refine mr_iload_n dX0_removeEquation_28 rfl ?_
      refine mr_callV (as := [_, _]) dX0_removeEquation_29 (ok_X0_sideAt l G) ml_X0_82 cl_X0_sideAt cv_X0_sideAt (by decide) rfl rfl (Nat.le_of_ble_eq_true rfl) (by first | assumption | exact mr_up_same _ _ _ | exact mr_lk (by assumption) (by first | assumption | decide) | exact mr_lk (mr_up_same _ _ _) (by first | assumption | decide) | exact mr_lk (mr_lk (by assumption) (by first | assumption | decide)) (by first | assumption | decide)) ?_
      refine ⟨_, _, _, _, rfl, ⟨(by first | assumption | exact mr_up_same _ _ _ | exact mr_lk (by assumption) (by first | assumption | decide) | exact mr_lk (mr_up_same _ _ _) (by first | assumption | decide) | exact mr_lk (mr_lk (by assumption) (by first | assumption | decide)) (by first | assumption | decide)), (by first | assumption | exact mr_up_same _ _ _ | exact mr_lk (by assumption) (by first | assumption | decide) | exact mr_lk (mr_up_same _ _ _) (by first | assumption | decide) | exact mr_lk (mr_lk (by assumption) (by first | assumption | decide)) (by first | assumption | decide))⟩, (by omega), (by decide), ?_⟩
      dsimp only [Option.toList_some, Option.toList_none, List.cons_append, List.nil_append]
      refine mr_callV (as := [_, _, _]) dX0_removeEquation_32 (ok_X0_setSideAt l G) ml_X0_78 cl_X0_setSideAt cv_X0_setSideAt (by decide) rfl rfl (Nat.le_of_ble_eq_true rfl) (by first | assumption | exact mr_up_same _ _ _ | exact mr_lk (by assumption) (by first | assumption | decide) | exact mr_lk (mr_up_same _ _ _) (by first | assumption | decide) | exact mr_lk (mr_lk (by assumption) (by first | assumption | decide)) (by first | assumption | decide)) ?_
      refine ⟨_, _, _, _, _, rfl, ⟨(by first | assumption | exact mr_up_same _ _ _ | exact mr_lk (by assumption) (by first | assumption | decide) | exact mr_lk (mr_up_same _ _ _) (by first | assumption | decide) | exact mr_lk (mr_lk (by assumption) (by first | assumption | decide)) (by first | assumption | decide)), (by first | assumption | exact mr_up_same _ _ _ | exact mr_lk (by assumption) (by first | assumption | decide) | exact mr_lk (mr_up_same _ _ _) (by first | assumption | decide) | exact mr_lk (mr_lk (by assumption) (by first | assumption | decide)) (by first | assumption | decide))⟩, (by omega), (by decide), ?_⟩
      rw [mr_up_up]
      dsimp only [Option.toList_some, Option.toList_none, List.cons_append, List.nil_append]
      refine mr_iinc dX0_removeEquation_35 rfl (by decide) rfl ?_
      refine mr_goto (tgt := 16) dX0_removeEquation_38 (by decide) ?_
      refine mr_iload_n dX0_removeEquation_16 rfl ?_
      refine mr_iconst dX0_removeEquation_17 ?_
      refine mr_icmp_ge (tgt := 41) dX0_removeEquation_18 (by decide) (by omega) (by omega) (fun _ => ?_) (fun h => absurd h (by decide))
      refine mr_iinc dX0_removeEquation_41 rfl (by decide) rfl ?_
      refine mr_goto (tgt := 2) dX0_removeEquation_44 (by decide) ?_
      refine mr_weak [some (vR b 0), none, some (vI (i + 1)), none] ⟨rfl, rfl, trivial⟩ ?_
      have e : mr_sse (mr_sse (mr_sse (mr_sse f i 0 (mr_se f (i + 1) 0)) i 1 (mr_se (mr_sse f i 0 (mr_se f (i + 1) 0)) (i + 1) 1)) i 2 (mr_se (mr_sse (mr_sse f i 0 (mr_se f (i + 1) 0)) i 1 (mr_se (mr_sse f i 0 (mr_se f (i + 1) 0)) (i + 1) 1)) (i + 1) 2)) i 3 (mr_se (mr_sse (mr_sse (mr_sse f i 0 (mr_se f (i + 1) 0)) i 1 (mr_se (mr_sse f i 0 (mr_se f (i + 1) 0)) (i + 1) 1)) i 2 (mr_se (mr_sse (mr_sse f i 0 (mr_se f (i + 1) 0)) i 1 (mr_se (mr_sse f i 0 (mr_se f (i + 1) 0)) (i + 1) 1)) (i + 1) 2)) (i + 1) 3) = mr_rms f i := by
        have hne : i ≠ i + 1 := by omega
        simp only [mr_sse_ne _ _ _ _ hne]
        rfl
      refine mr_cw (congrArg (fun z => mr_up w (b + 1) (eA 0 51 z)) e) ?_
      rw [mr_rml, if_pos (by have := hz f; omega)] at hP
      refine ih (i + 1) _ (mr_rms_bd hB i) (by have := hz f; omega) (by rw [mr_rms_lo _ _ (by decide)]; omega) ?_
      rw [mr_rms_lo _ _ (by decide)]
      exact hP
def T_X0_removeEquation (a : List mr_AV) (w : mr_Wd) (Po : Option mr_AV → mr_Wd → Prop) : Prop := ∃ (b : Nat) (f : Nat → Int) (i : Int), a = [vR b 0, vI i] ∧ mr_BK w b f ∧ mr_Bd f ∧ (0 ≤ i ∧ i ≤ 5) ∧ Po none (mr_up w (b + 1) (eA 0 51 (mr_fs (mr_rml 3 i f) 2 (max 0 (min (f 2 - 1) 3)))))
set_option maxHeartbeats 4000000 in
set_option maxRecDepth 20000 in
theorem ok_X0_removeEquation (l : Launch) (G : mr_G) : mr_Ok l G yX0_removeEquation cX0_removeEquation 4 none 2 45 T_X0_removeEquation := by
  refine mr_Ok.of (by decide +kernel) ?_
  rintro a w Po ⟨b, f, i, rfl, ⟨hb, hc⟩, hB, hi, hP⟩
  refine ⟨Nat.le_of_ble_eq_true rfl, ?_⟩
  show mr_J l G RX0 cX0_removeEquation 4 none 2 45 Po 0 [some (vR b 0), some (vI i), none, none] [] w
  refine mr_iload_n dX0_removeEquation_0 rfl ?_
  refine mr_istore_n dX0_removeEquation_1 rfl (by decide) ?_
  refine mr_weak [some (vR b 0), none, some (vI i), none] ⟨rfl, rfl, trivial⟩ ?_
  have h9 := lp_X0_removeEquation l G hb (by omega) 3 i f hB hi (by have := hB.2.2; omega) hP
  rw [mr_up_self hc] at h9
  exact h9
