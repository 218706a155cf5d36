theorem mr_pt_step (f : Nat → Int) (p : Int) (g : Int → Int → Int) {C A : Int} (hp : 0 ≤ p ∧ p < 4) (hC : 0 ≤ C ∧ C < f 1) (hA : 0 ≤ A ∧ A < f 1) (h3 : f 1 ≤ 3) : mr_sfa (mr_pt f p g C A) p C A (g C A) = mr_pt f p g C (A + 1) := by
  unfold mr_sfa
  rw [if_pos ⟨hp.1, hp.2, hC.1, by omega, hA.1, by omega⟩]
  funext k
  by_cases hk : k = (3 + (p * 3 + C) * 3 + A).toNat
  · subst hk
    rw [mr_fs_same]
    unfold mr_pt
    have e1 : (((3 + (p * 3 + C) * 3 + A).toNat : Nat) : Int) - 3 - 9 * p = C * 3 + A := by omega
    have e2 : (C * 3 + A) / 3 = C := by omega
    have e3 : (C * 3 + A) % 3 = A := by omega
    rw [e1, e2, e3, if_pos ⟨by omega, by omega, hC.2, hA.2, Or.inr ⟨rfl, by omega⟩⟩]
  · rw [mr_fs_ne _ _ hk]
    unfold mr_pt
    have hne : ¬ (3 + 9 * p ≤ (k : Int) ∧ ((k : Int) - 3 - 9 * p) / 3 = C ∧ ((k : Int) - 3 - 9 * p) % 3 = A) := fun z => hk (by omega)
    by_cases h : 3 + 9 * p ≤ (k : Int) ∧ (k : Int) < 12 + 9 * p ∧ ((k : Int) - 3 - 9 * p) / 3 < f 1 ∧ ((k : Int) - 3 - 9 * p) % 3 < f 1 ∧ (((k : Int) - 3 - 9 * p) / 3 < C ∨ (((k : Int) - 3 - 9 * p) / 3 = C ∧ ((k : Int) - 3 - 9 * p) % 3 < A))
    · rw [if_pos h, if_pos ⟨h.1, h.2.1, h.2.2.1, h.2.2.2.1, by omega⟩]
    · rw [if_neg h, if_neg (fun z => h ⟨z.1, z.2.1, z.2.2.1, z.2.2.2.1, by omega⟩)]
theorem mr_pt_next (f : Nat → Int) (p : Int) (g : Int → Int → Int) {C A : Int} (h3 : f 1 ≤ A) : mr_pt f p g C A = mr_pt f p g (C + 1) 0 := by
  funext k
  unfold mr_pt
  by_cases h : 3 + 9 * p ≤ (k : Int) ∧ (k : Int) < 12 + 9 * p ∧ ((k : Int) - 3 - 9 * p) / 3 < f 1 ∧ ((k : Int) - 3 - 9 * p) % 3 < f 1 ∧ (((k : Int) - 3 - 9 * p) / 3 < C ∨ (((k : Int) - 3 - 9 * p) / 3 = C ∧ ((k : Int) - 3 - 9 * p) % 3 < A))
  · rw [if_pos h, if_pos ⟨h.1, h.2.1, h.2.2.1, h.2.2.2.1, by omega⟩]
  · rw [if_neg h, if_neg (fun z => h ⟨z.1, z.2.1, z.2.2.1, z.2.2.2.1, by omega⟩)]
theorem mr_pt_0 (f : Nat → Int) (p : Int) (g : Int → Int → Int) : mr_pt f p g 0 0 = f := by
  funext k
  unfold mr_pt
  rw [if_neg (fun z => by omega)]
theorem mr_pt_lo (f : Nat → Int) (p : Int) (g : Int → Int → Int) (C A : Int) {k : Nat} (hp : 0 ≤ p) (hk : k < 3) : mr_pt f p g C A k = f k := by
  unfold mr_pt
  rw [if_neg (fun z => by omega)]
theorem mr_pt_bd {f : Nat → Int} (hB : mr_Bd f) (p : Int) (g : Int → Int → Int) (C A : Int) (hp : 0 ≤ p) (hg : ∀ c a : Int, 0 ≤ g c a ∧ g c a ≤ 30) : mr_Bd (mr_pt f p g C A) := by
  refine ⟨fun k => ?_, by rw [mr_pt_lo _ _ _ _ _ hp (by decide)]; exact hB.2.1, by rw [mr_pt_lo _ _ _ _ _ hp (by decide)]; exact hB.2.2⟩
  unfold mr_pt
  split
  · exact hg _ _
  · exact hB.1 k
/-- the whole of a form is put: all columns -/
abbrev mr_pA (f : Nat → Int) (p : Int) (g : Int → Int → Int) : Nat → Int := mr_pt f p g (f 1) 0
set_option maxHeartbeats 4000000 in
set_option maxRecDepth 20000 in
theorem lpi_X0_setPlain (l : Launch) (G : mr_G) {Po : Option mr_AV → mr_Wd → Prop} {b : Nat} {f : Nat → Int} {p v c : Int} {w : mr_Wd} (hb : w b = eO 0 [vR (b + 1) 0]) (hbc : b ≠ b + 1) (hB : mr_Bd f) (hp : 0 ≤ p ∧ p < 4) (hc0 : 0 ≤ c ∧ c < f 1) (hk : mr_J l G RX0 cX0_setPlain 5 none 2 47 Po 51 [some (vR b 0), some (vI p), some (vI v), some (vI c), none] [] (mr_up w (b + 1) (eA 0 51 (mr_pt f p (fun c a => if a = c then v else 0) (c + 1) 0)))) : ∀ (n : Nat) (a : Int), 0 ≤ a ∧ a ≤ 9 → f 1 - a ≤ n → mr_J l G RX0 cX0_setPlain 5 none 2 47 Po 15 [some (vR b 0), some (vI p), some (vI v), some (vI c), some (vI a)] [] (mr_up w (b + 1) (eA 0 51 (mr_pt f p (fun c a => if a = c then v else 0) c a))) := by
  have h1 := hB.1 1
  have h2 := hB.2.1
  have hz : ∀ C A : Int, mr_pt f p (fun c a => if a = c then v else 0) C A (Int.toNat 1) = f 1 := fun C A => mr_pt_lo _ _ _ _ _ hp.1 (by decide)
  intro n
  induction n with
  | zero =>
    intro a ha hn
    refine mr_iload dX0_setPlain_15 rfl ?_
    refine mr_aload_n dX0_setPlain_17 rfl ?_
    refine mr_get dX0_setPlain_18 fl_X0_11 (by first | assumption | exact mr_up_same _ _ _ | exact mr_lk (by assumption) (by first | assumption | decide) | exact mr_lk (mr_up_same _ _ _) (by first | assumption | decide) | exact mr_lk (mr_lk (by assumption) (by first | assumption | decide)) (by first | assumption | decide)) rfl ?_
    refine mr_iconst dX0_setPlain_21 ?_
    refine mr_iald dX0_setPlain_22 (by first | assumption | exact mr_up_same _ _ _ | exact mr_lk (by assumption) (by first | assumption | decide) | exact mr_lk (mr_up_same _ _ _) (by first | assumption | decide) | exact mr_lk (mr_lk (by assumption) (by first | assumption | decide)) (by first | assumption | decide)) (by omega) (by omega) (by decide) ?_
    refine mr_icmp_ge (tgt := 51) dX0_setPlain_23 (by decide) (by omega) ⟨by rw [hz]; omega, by rw [hz]; omega⟩ (fun hc_23 => ?_) (fun hc_23 => absurd hc_23 (by rw [hz]; omega))
    refine mr_weak [some (vR b 0), some (vI p), some (vI v), some (vI c), none] ⟨rfl, rfl, rfl, rfl, trivial⟩ ?_
    rw [mr_pt_next _ _ _ (by omega)]
    exact hk
  | succ n ih =>
    intro a ha hn
    refine mr_iload dX0_setPlain_15 rfl ?_
    refine mr_aload_n dX0_setPlain_17 rfl ?_
    refine mr_get dX0_setPlain_18 fl_X0_11 (by first | assumption | exact mr_up_same _ _ _ | exact mr_lk (by assumption) (by first | assumption | decide) | exact mr_lk (mr_up_same _ _ _) (by first | assumption | decide) | exact mr_lk (mr_lk (by assumption) (by first | assumption | decide)) (by first | assumption | decide)) rfl ?_
    refine mr_iconst dX0_setPlain_21 ?_
    refine mr_iald dX0_setPlain_22 (by first | assumption | exact mr_up_same _ _ _ | exact mr_lk (by assumption) (by first | assumption | decide) | exact mr_lk (mr_up_same _ _ _) (by first | assumption | decide) | exact mr_lk (mr_lk (by assumption) (by first | assumption | decide)) (by first | assumption | decide)) (by omega) (by omega) (by decide) ?_
    refine mr_icmp_ge (tgt := 51) dX0_setPlain_23 (by decide) (by omega) ⟨by rw [hz]; omega, by rw [hz]; omega⟩ (fun hc_23 => ?_) (fun hc_23 => ?_)
    · refine mr_weak [some (vR b 0), some (vI p), some (vI v), some (vI c), none] ⟨rfl, rfl, rfl, rfl, trivial⟩ ?_
      rw [hz] at hc_23
      rw [mr_pt_next _ _ _ (by omega)]
      exact hk
    · refine mr_aload_n dX0_setPlain_26 rfl ?_
      refine mr_iload_n dX0_setPlain_27 rfl ?_
      refine mr_iload_n dX0_setPlain_28 rfl ?_
      refine mr_iload dX0_setPlain_29 rfl ?_
      refine mr_iload dX0_setPlain_31 rfl ?_
      refine mr_iload_n dX0_setPlain_33 rfl ?_
      refine mr_icmp_ne (tgt := 41) dX0_setPlain_34 (by decide) (by omega) (by omega) (fun hc_34 => ?_) (fun hc_34 => ?_)
      · refine mr_iconst dX0_setPlain_41 ?_
        refine mr_callV (as := [_, _, _, _]) dX0_setPlain_42 (ok_X0_setFormAt l G) ml_X0_54 cl_X0_setFormAt cv_X0_setFormAt (by decide) rfl rfl (Nat.le_of_ble_eq_true rfl) (by first | assumption | exact mr_up_same _ _ _ | exact mr_lk (by assumption) (by first | assumption | decide) | exact mr_lk (mr_up_same _ _ _) (by first | assumption | decide) | exact mr_lk (mr_lk (by assumption) (by first | assumption | decide)) (by first | assumption | decide)) ?_
        refine ⟨_, _, _, _, _, _, rfl, ⟨(by first | assumption | exact mr_up_same _ _ _ | exact mr_lk (by assumption) (by first | assumption | decide) | exact mr_lk (mr_up_same _ _ _) (by first | assumption | decide) | exact mr_lk (mr_lk (by assumption) (by first | assumption | decide)) (by first | assumption | decide)), (by first | assumption | exact mr_up_same _ _ _ | exact mr_lk (by assumption) (by first | assumption | decide) | exact mr_lk (mr_up_same _ _ _) (by first | assumption | decide) | exact mr_lk (mr_lk (by assumption) (by first | assumption | decide)) (by first | assumption | decide))⟩, (by omega), (by omega), (by omega), ?_⟩
        rw [mr_up_up]
        dsimp only [Option.toList_some, Option.toList_none, List.cons_append, List.nil_append]
        refine mr_iinc dX0_setPlain_45 rfl (by decide) rfl ?_
        refine mr_goto (tgt := 15) dX0_setPlain_48 (by decide) ?_
        rw [hz] at hc_23
        have e := mr_pt_step f p (fun c a => if a = c then v else 0) (C := c) (A := a) hp hc0 ⟨ha.1, by omega⟩ h2
        first | rw [if_pos (by omega)] at e | rw [if_neg (by omega)] at e
        rw [e]
        exact ih (a + 1) (by omega) (by omega)
      · refine mr_iload_n dX0_setPlain_37 rfl ?_
        refine mr_goto (tgt := 42) dX0_setPlain_38 (by decide) ?_
        refine mr_callV (as := [_, _, _, _]) dX0_setPlain_42 (ok_X0_setFormAt l G) ml_X0_54 cl_X0_setFormAt cv_X0_setFormAt (by decide) rfl rfl (Nat.le_of_ble_eq_true rfl) (by first | assumption | exact mr_up_same _ _ _ | exact mr_lk (by assumption) (by first | assumption | decide) | exact mr_lk (mr_up_same _ _ _) (by first | assumption | decide) | exact mr_lk (mr_lk (by assumption) (by first | assumption | decide)) (by first | assumption | decide)) ?_
        refine ⟨_, _, _, _, _, _, rfl, ⟨(by first | assumption | exact mr_up_same _ _ _ | exact mr_lk (by assumption) (by first | assumption | decide) | exact mr_lk (mr_up_same _ _ _) (by first | assumption | decide) | exact mr_lk (mr_lk (by assumption) (by first | assumption | decide)) (by first | assumption | decide)), (by first | assumption | exact mr_up_same _ _ _ | exact mr_lk (by assumption) (by first | assumption | decide) | exact mr_lk (mr_up_same _ _ _) (by first | assumption | decide) | exact mr_lk (mr_lk (by assumption) (by first | assumption | decide)) (by first | assumption | decide))⟩, (by omega), (by omega), (by omega), ?_⟩
        rw [mr_up_up]
        dsimp only [Option.toList_some, Option.toList_none, List.cons_append, List.nil_append]
        refine mr_iinc dX0_setPlain_45 rfl (by decide) rfl ?_
        refine mr_goto (tgt := 15) dX0_setPlain_48 (by decide) ?_
        rw [hz] at hc_23
        have e := mr_pt_step f p (fun c a => if a = c then v else 0) (C := c) (A := a) hp hc0 ⟨ha.1, by omega⟩ h2
        first | rw [if_pos (by omega)] at e | rw [if_neg (by omega)] at e
        rw [e]
        exact ih (a + 1) (by omega) (by omega)
set_option maxHeartbeats 4000000 in
set_option maxRecDepth 20000 in
theorem lp_X0_setPlain (l : Launch) (G : mr_G) {Po : Option mr_AV → mr_Wd → Prop} {b : Nat} {f : Nat → Int} {p v : Int} {w : mr_Wd} (hb : w b = eO 0 [vR (b + 1) 0]) (hbc : b ≠ b + 1) (hB : mr_Bd f) (hp : 0 ≤ p ∧ p < 4) (hP : Po none (mr_up w (b + 1) (eA 0 51 (mr_pt f p (fun c a => if a = c then v else 0) (f 1) 0)))) : ∀ (n : Nat) (c : Int), 0 ≤ c ∧ c ≤ f 1 → f 1 - c ≤ n → mr_J l G RX0 cX0_setPlain 5 none 2 47 Po 2 [some (vR b 0), some (vI p), some (vI v), some (vI c), none] [] (mr_up w (b + 1) (eA 0 51 (mr_pt f p (fun c a => if a = c then v else 0) c 0))) := by
  have h1 := hB.1 1
  have h2 := hB.2.1
  have hz : ∀ C A : Int, mr_pt f p (fun c a => if a = c then v else 0) C A (Int.toNat 1) = f 1 := fun C A => mr_pt_lo _ _ _ _ _ hp.1 (by decide)
  intro n
  induction n with
  | zero =>
    intro c hc0 hn
    refine mr_iload_n dX0_setPlain_2 rfl ?_
    refine mr_aload_n dX0_setPlain_3 rfl ?_
    refine mr_get dX0_setPlain_4 fl_X0_11 (by first | assumption | exact mr_up_same _ _ _ | exact mr_lk (by assumption) (by first | assumption | decide) | exact mr_lk (mr_up_same _ _ _) (by first | assumption | decide) | exact mr_lk (mr_lk (by assumption) (by first | assumption | decide)) (by first | assumption | decide)) rfl ?_
    refine mr_iconst dX0_setPlain_7 ?_
    refine mr_iald dX0_setPlain_8 (by first | assumption | exact mr_up_same _ _ _ | exact mr_lk (by assumption) (by first | assumption | decide) | exact mr_lk (mr_up_same _ _ _) (by first | assumption | decide) | exact mr_lk (mr_lk (by assumption) (by first | assumption | decide)) (by first | assumption | decide)) (by omega) (by omega) (by decide) ?_
    refine mr_icmp_ge (tgt := 57) dX0_setPlain_9 (by decide) (by omega) ⟨by rw [hz]; omega, by rw [hz]; omega⟩ (fun hc_9 => ?_) (fun hc_9 => absurd hc_9 (by rw [hz]; omega))
    refine mr_vret rfl dX0_setPlain_57 ?_
    have e : c = f 1 := by omega
    subst e
    exact hP
  | succ n ih =>
    intro c hc0 hn
    refine mr_iload_n dX0_setPlain_2 rfl ?_
    refine mr_aload_n dX0_setPlain_3 rfl ?_
    refine mr_get dX0_setPlain_4 fl_X0_11 (by first | assumption | exact mr_up_same _ _ _ | exact mr_lk (by assumption) (by first | assumption | decide) | exact mr_lk (mr_up_same _ _ _) (by first | assumption | decide) | exact mr_lk (mr_lk (by assumption) (by first | assumption | decide)) (by first | assumption | decide)) rfl ?_
    refine mr_iconst dX0_setPlain_7 ?_
    refine mr_iald dX0_setPlain_8 (by first | assumption | exact mr_up_same _ _ _ | exact mr_lk (by assumption) (by first | assumption | decide) | exact mr_lk (mr_up_same _ _ _) (by first | assumption | decide) | exact mr_lk (mr_lk (by assumption) (by first | assumption | decide)) (by first | assumption | decide)) (by omega) (by omega) (by decide) ?_
    refine mr_icmp_ge (tgt := 57) dX0_setPlain_9 (by decide) (by omega) ⟨by rw [hz]; omega, by rw [hz]; omega⟩ (fun hc_9 => ?_) (fun hc_9 => ?_)
    · refine mr_vret rfl dX0_setPlain_57 ?_
      rw [hz] at hc_9
      have e : c = f 1 := by omega
      subst e
      exact hP
    · refine mr_iconst dX0_setPlain_12 ?_
      refine mr_istore dX0_setPlain_13 rfl (by decide) ?_
      rw [hz] at hc_9
      refine lpi_X0_setPlain l G hb hbc hB hp ⟨hc0.1, hc_9⟩ ?_ 9 0 (by decide) (by omega)
      refine mr_iinc dX0_setPlain_51 rfl (by decide) rfl ?_
      refine mr_goto (tgt := 2) dX0_setPlain_54 (by decide) ?_
      exact ih (c + 1) (by omega) (by omega)
def T_X0_setPlain (a : List mr_AV) (w : mr_Wd) (Po : Option mr_AV → mr_Wd → Prop) : Prop := ∃ (b : Nat) (f : Nat → Int) (p v : Int), a = [vR b 0, vI p, vI v] ∧ mr_BK w b f ∧ mr_Bd f ∧ (0 ≤ p ∧ p < 4) ∧ Po none (mr_up w (b + 1) (eA 0 51 (mr_pA f p (fun c a => if a = c then v else 0))))
set_option maxHeartbeats 4000000 in
set_option maxRecDepth 20000 in
theorem ok_X0_setPlain (l : Launch) (G : mr_G) : mr_Ok l G yX0_setPlain cX0_setPlain 5 none 2 47 T_X0_setPlain := by
  refine mr_Ok.of (by decide +kernel) ?_
  rintro a w Po ⟨b, f, p, v, rfl, ⟨hb, hc⟩, hB, hp, hP⟩
  refine ⟨Nat.le_of_ble_eq_true rfl, ?_⟩
  show mr_J l G RX0 cX0_setPlain 5 none 2 47 Po 0 [some (vR b 0), some (vI p), some (vI v), none, none] [] w
  refine mr_iconst dX0_setPlain_0 ?_
  refine mr_istore_n dX0_setPlain_1 rfl (by decide) ?_
  have h9 := lp_X0_setPlain l G (v := v) hb (by omega) hB hp hP 3 0 ⟨by decide, (hB.1 1).1⟩ (by have := hB.2.1; omega)
  rw [mr_pt_0, mr_up_self hc] at h9
  exact h9
/-! THE TAPE (1, its bytes 2), THE PAST (5, its slots 6). -/
def mr_TP (w : mr_Wd) (n : Int) (g : Nat → Int) : Prop := w 1 = eO 5 [vR 2 0, vI n] ∧ w 2 = eA 2 540 g
def mr_b4 (g : Nat → Int) (n x : Int) : Nat → Int := mr_fs (mr_fs (mr_fs (mr_fs g n.toNat (((x % 4294967296) / 2 ^ 24).bmod 256)) (n + 1).toNat (((x % 4294967296) / 2 ^ 16).bmod 256)) (n + 2).toNat (((x % 4294967296) / 2 ^ 8).bmod 256)) (n + 3).toNat (x.bmod 256)
def mr_PA (w : mr_Wd) (nx ct : Int) (S : Nat → Nat → Int) : Prop := w 5 = eO 1 [vR 6 0, vI nx, vI ct] ∧ w 6 = eM 8 51 S
def T_X5_length (a : List mr_AV) (w : mr_Wd) (Po : Option mr_AV → mr_Wd → Prop) : Prop := ∃ (n : Int) (g : Nat → Int), a = [vR 1 0] ∧ mr_TP w n g ∧ Po (some (vI n)) w
set_option maxHeartbeats 4000000 in
set_option maxRecDepth 20000 in
theorem ok_X5_length (l : Launch) (G : mr_G) : mr_Ok l G yX5_length cX5_length 1 (some .int) 0 0 T_X5_length := by
  refine mr_Ok.of (by decide +kernel) ?_
  rintro a w Po ⟨n, g, rfl, ⟨hb, hc⟩, hP⟩
  refine ⟨Nat.le_of_ble_eq_true rfl, ?_⟩
  show mr_J l G RX5 cX5_length 1 (some .int) 0 0 Po 0 [some (vR 1 0)] [] w
  refine mr_aload_n dX5_length_0 rfl ?_
  refine mr_get dX5_length_1 fl_X5_15 (by first | assumption | exact mr_up_same _ _ _ | exact mr_lk (by assumption) (by first | assumption | decide) | exact mr_lk (mr_up_same _ _ _) (by first | assumption | decide) | exact mr_lk (mr_lk (by assumption) (by first | assumption | decide)) (by first | assumption | decide)) rfl ?_
  refine mr_iret rfl dX5_length_4 ?_
  exact hP
def T_X5_hasRoom (a : List mr_AV) (w : mr_Wd) (Po : Option mr_AV → mr_Wd → Prop) : Prop := ∃ (n x : Int) (g : Nat → Int), a = [vR 1 0, vI x] ∧ mr_TP w n g ∧ (0 ≤ n ∧ n ≤ 540) ∧ InR x ∧ (x ≤ 540 - n → Po (some (vI 1)) w) ∧ (¬ (x ≤ 540 - n) → Po (some (vI 0)) w)
set_option maxHeartbeats 4000000 in
set_option maxRecDepth 20000 in
theorem ok_X5_hasRoom (l : Launch) (G : mr_G) : mr_Ok l G yX5_hasRoom cX5_hasRoom 2 (some .boolean) 0 0 T_X5_hasRoom := by
  refine mr_Ok.of (by decide +kernel) ?_
  rintro a w Po ⟨n, x, g, rfl, ⟨hb, hc⟩, hn, hx, hP, hQ⟩
  refine ⟨Nat.le_of_ble_eq_true rfl, ?_⟩
  show mr_J l G RX5 cX5_hasRoom 2 (some .boolean) 0 0 Po 0 [some (vR 1 0), some (vI x)] [] w
  refine mr_iload_n dX5_hasRoom_0 rfl ?_
  refine mr_sipush dX5_hasRoom_1 rfl ?_
  refine mr_aload_n dX5_hasRoom_4 rfl ?_
  refine mr_get dX5_hasRoom_5 fl_X5_15 (by first | assumption | exact mr_up_same _ _ _ | exact mr_lk (by assumption) (by first | assumption | decide) | exact mr_lk (mr_up_same _ _ _) (by first | assumption | decide) | exact mr_lk (mr_lk (by assumption) (by first | assumption | decide)) (by first | assumption | decide)) rfl ?_
  refine mr_isub dX5_hasRoom_8 ?_
  refine mr_icmp_gt (tgt := 16) dX5_hasRoom_9 (by decide) (by omega) (by omega) (fun hc_9 => ?_) (fun hc_9 => ?_)
  · refine mr_iconst dX5_hasRoom_16 ?_
    refine mr_zret rfl (Or.inl rfl) dX5_hasRoom_17 ?_
    first | exact hP (by omega) | exact hQ (by omega)
  · refine mr_iconst dX5_hasRoom_12 ?_
    refine mr_goto (tgt := 17) dX5_hasRoom_13 (by decide) ?_
    refine mr_zret rfl (Or.inr rfl) dX5_hasRoom_17 ?_
    first | exact hP (by omega) | exact hQ (by omega)
def T_X5_append (a : List mr_AV) (w : mr_Wd) (Po : Option mr_AV → mr_Wd → Prop) : Prop := ∃ (n x : Int) (g : Nat → Int), a = [vR 1 0, vI x] ∧ mr_TP w n g ∧ (0 ≤ n ∧ n ≤ 536) ∧ Po none (mr_up (mr_up w 2 (eA 2 540 (mr_b4 g n x))) 1 (eO 5 [vR 2 0, vI (n + 4)]))
set_option maxHeartbeats 4000000 in
set_option maxRecDepth 20000 in
theorem ok_X5_append (l : Launch) (G : mr_G) : mr_Ok l G yX5_append cX5_append 2 none 1 21 T_X5_append := by
  refine mr_Ok.of (by decide +kernel) ?_
  rintro a w Po ⟨n, x, g, rfl, ⟨hb, hc⟩, hn, hP⟩
  refine ⟨Nat.le_of_ble_eq_true rfl, ?_⟩
  show mr_J l G RX5 cX5_append 2 none 1 21 Po 0 [some (vR 1 0), some (vI x)] [] w
  refine mr_aload_n dX5_append_0 rfl ?_
  refine mr_iconst dX5_append_1 ?_
  refine mr_callV (as := [_]) dX5_append_2 (ok_X5_hasRoom l G) ml_X5_19 cl_X5_hasRoom cv_X5_hasRoom (by decide) rfl rfl (Nat.le_of_ble_eq_true rfl) (by first | assumption | exact mr_up_same _ _ _ | exact mr_lk (by assumption) (by first | assumption | decide) | exact mr_lk (mr_up_same _ _ _) (by first | assumption | decide) | exact mr_lk (mr_lk (by assumption) (by first | assumption | decide)) (by first | assumption | decide)) ?_
  refine ⟨_, _, _, rfl, ⟨(by first | assumption | exact mr_up_same _ _ _ | exact mr_lk (by assumption) (by first | assumption | decide) | exact mr_lk (mr_up_same _ _ _) (by first | assumption | decide) | exact mr_lk (mr_lk (by assumption) (by first | assumption | decide)) (by first | assumption | decide)), (by first | assumption | exact mr_up_same _ _ _ | exact mr_lk (by assumption) (by first | assumption | decide) | exact mr_lk (mr_up_same _ _ _) (by first | assumption | decide) | exact mr_lk (mr_lk (by assumption) (by first | assumption | decide)) (by first | assumption | decide))⟩, (by omega), (by decide), ?_, ?_⟩
  · intro hy
    dsimp only [Option.toList_some, Option.toList_none, List.cons_append, List.nil_append]
    refine mr_if_eq (tgt := 77) dX5_append_5 (by decide) (by omega) (fun h => absurd h (by decide)) (fun _ => ?_)
    refine mr_aload_n dX5_append_8 rfl ?_
    refine mr_get dX5_append_9 fl_X5_11 (by first | assumption | exact mr_up_same _ _ _ | exact mr_lk (by assumption) (by first | assumption | decide) | exact mr_lk (mr_up_same _ _ _) (by first | assumption | decide) | exact mr_lk (mr_lk (by assumption) (by first | assumption | decide)) (by first | assumption | decide)) rfl ?_
    refine mr_aload_n dX5_append_12 rfl ?_
    refine mr_get dX5_append_13 fl_X5_15 (by first | assumption | exact mr_up_same _ _ _ | exact mr_lk (by assumption) (by first | assumption | decide) | exact mr_lk (mr_up_same _ _ _) (by first | assumption | decide) | exact mr_lk (mr_lk (by assumption) (by first | assumption | decide)) (by first | assumption | decide)) rfl ?_
    refine mr_iload_n dX5_append_16 rfl ?_
    refine mr_bipush dX5_append_17 rfl ?_
    refine mr_iushr 24 (by decide) dX5_append_19 (by decide) ?_
    refine mr_i2b dX5_append_20 ?_
    refine mr_bast dX5_append_21 (by first | assumption | exact mr_up_same _ _ _ | exact mr_lk (by assumption) (by first | assumption | decide) | exact mr_lk (mr_up_same _ _ _) (by first | assumption | decide) | exact mr_lk (mr_lk (by assumption) (by first | assumption | decide)) (by first | assumption | decide)) (by omega) (by omega) (by decide) ⟨Int.le_bmod (by decide), Int.bmod_lt (by decide)⟩ ?_
    try rw [mr_up_up]
    refine mr_aload_n dX5_append_22 rfl ?_
    refine mr_get dX5_append_23 fl_X5_11 (by first | assumption | exact mr_up_same _ _ _ | exact mr_lk (by assumption) (by first | assumption | decide) | exact mr_lk (mr_up_same _ _ _) (by first | assumption | decide) | exact mr_lk (mr_lk (by assumption) (by first | assumption | decide)) (by first | assumption | decide)) rfl ?_
    refine mr_aload_n dX5_append_26 rfl ?_
    refine mr_get dX5_append_27 fl_X5_15 (by first | assumption | exact mr_up_same _ _ _ | exact mr_lk (by assumption) (by first | assumption | decide) | exact mr_lk (mr_up_same _ _ _) (by first | assumption | decide) | exact mr_lk (mr_lk (by assumption) (by first | assumption | decide)) (by first | assumption | decide)) rfl ?_
    refine mr_iconst dX5_append_30 ?_
    refine mr_iadd dX5_append_31 ?_
    refine mr_iload_n dX5_append_32 rfl ?_
    refine mr_bipush dX5_append_33 rfl ?_
    refine mr_iushr 16 (by decide) dX5_append_35 (by decide) ?_
    refine mr_i2b dX5_append_36 ?_
    refine mr_bast dX5_append_37 (by first | assumption | exact mr_up_same _ _ _ | exact mr_lk (by assumption) (by first | assumption | decide) | exact mr_lk (mr_up_same _ _ _) (by first | assumption | decide) | exact mr_lk (mr_lk (by assumption) (by first | assumption | decide)) (by first | assumption | decide)) (by omega) (by omega) (by decide) ⟨Int.le_bmod (by decide), Int.bmod_lt (by decide)⟩ ?_
    try rw [mr_up_up]
    refine mr_aload_n dX5_append_38 rfl ?_
    refine mr_get dX5_append_39 fl_X5_11 (by first | assumption | exact mr_up_same _ _ _ | exact mr_lk (by assumption) (by first | assumption | decide) | exact mr_lk (mr_up_same _ _ _) (by first | assumption | decide) | exact mr_lk (mr_lk (by assumption) (by first | assumption | decide)) (by first | assumption | decide)) rfl ?_
    refine mr_aload_n dX5_append_42 rfl ?_
    refine mr_get dX5_append_43 fl_X5_15 (by first | assumption | exact mr_up_same _ _ _ | exact mr_lk (by assumption) (by first | assumption | decide) | exact mr_lk (mr_up_same _ _ _) (by first | assumption | decide) | exact mr_lk (mr_lk (by assumption) (by first | assumption | decide)) (by first | assumption | decide)) rfl ?_
    refine mr_iconst dX5_append_46 ?_
    refine mr_iadd dX5_append_47 ?_
    refine mr_iload_n dX5_append_48 rfl ?_
    refine mr_bipush dX5_append_49 rfl ?_
    refine mr_iushr 8 (by decide) dX5_append_51 (by decide) ?_
    refine mr_i2b dX5_append_52 ?_
    refine mr_bast dX5_append_53 (by first | assumption | exact mr_up_same _ _ _ | exact mr_lk (by assumption) (by first | assumption | decide) | exact mr_lk (mr_up_same _ _ _) (by first | assumption | decide) | exact mr_lk (mr_lk (by assumption) (by first | assumption | decide)) (by first | assumption | decide)) (by omega) (by omega) (by decide) ⟨Int.le_bmod (by decide), Int.bmod_lt (by decide)⟩ ?_
    try rw [mr_up_up]
    refine mr_aload_n dX5_append_54 rfl ?_
    refine mr_get dX5_append_55 fl_X5_11 (by first | assumption | exact mr_up_same _ _ _ | exact mr_lk (by assumption) (by first | assumption | decide) | exact mr_lk (mr_up_same _ _ _) (by first | assumption | decide) | exact mr_lk (mr_lk (by assumption) (by first | assumption | decide)) (by first | assumption | decide)) rfl ?_
    refine mr_aload_n dX5_append_58 rfl ?_
    refine mr_get dX5_append_59 fl_X5_15 (by first | assumption | exact mr_up_same _ _ _ | exact mr_lk (by assumption) (by first | assumption | decide) | exact mr_lk (mr_up_same _ _ _) (by first | assumption | decide) | exact mr_lk (mr_lk (by assumption) (by first | assumption | decide)) (by first | assumption | decide)) rfl ?_
    refine mr_iconst dX5_append_62 ?_
    refine mr_iadd dX5_append_63 ?_
    refine mr_iload_n dX5_append_64 rfl ?_
    refine mr_i2b dX5_append_65 ?_
    refine mr_bast dX5_append_66 (by first | assumption | exact mr_up_same _ _ _ | exact mr_lk (by assumption) (by first | assumption | decide) | exact mr_lk (mr_up_same _ _ _) (by first | assumption | decide) | exact mr_lk (mr_lk (by assumption) (by first | assumption | decide)) (by first | assumption | decide)) (by omega) (by omega) (by decide) ⟨Int.le_bmod (by decide), Int.bmod_lt (by decide)⟩ ?_
    try rw [mr_up_up]
    refine mr_aload_n dX5_append_67 rfl ?_
    refine mr_dup dX5_append_68 rfl ?_
    refine mr_get dX5_append_69 fl_X5_15 (by first | assumption | exact mr_up_same _ _ _ | exact mr_lk (by assumption) (by first | assumption | decide) | exact mr_lk (mr_up_same _ _ _) (by first | assumption | decide) | exact mr_lk (mr_lk (by assumption) (by first | assumption | decide)) (by first | assumption | decide)) rfl ?_
    refine mr_iconst dX5_append_72 ?_
    refine mr_iadd dX5_append_73 ?_
    refine mr_put dX5_append_74 fl_X5_15 pf_X5_1 rfl rfl (by first | assumption | exact mr_up_same _ _ _ | exact mr_lk (by assumption) (by first | assumption | decide) | exact mr_lk (mr_up_same _ _ _) (by first | assumption | decide) | exact mr_lk (mr_lk (by assumption) (by first | assumption | decide)) (by first | assumption | decide)) (Nat.le_of_ble_eq_true rfl) ?_
    try rw [mr_up_up]
    refine mr_vret rfl dX5_append_77 ?_
    exact hP
  · intro hy
    exfalso
    omega
def T_X5_cut (a : List mr_AV) (w : mr_Wd) (Po : Option mr_AV → mr_Wd → Prop) : Prop := ∃ (n x : Int) (g : Nat → Int), a = [vR 1 0, vI x] ∧ mr_TP w n g ∧ (0 ≤ n ∧ n ≤ 540) ∧ InR x ∧ (0 ≤ x ∧ x ≤ n → Po (some (vI 1)) (mr_up w 1 (eO 5 [vR 2 0, vI x]))) ∧ (¬ (0 ≤ x ∧ x ≤ n) → Po (some (vI 0)) w)
set_option maxHeartbeats 4000000 in
set_option maxRecDepth 20000 in
theorem ok_X5_cut (l : Launch) (G : mr_G) : mr_Ok l G yX5_cut cX5_cut 2 (some .boolean) 0 0 T_X5_cut := by
  refine mr_Ok.of (by decide +kernel) ?_
  rintro a w Po ⟨n, x, g, rfl, ⟨hb, hc⟩, hn, hx, hP, hQ⟩
  refine ⟨Nat.le_of_ble_eq_true rfl, ?_⟩
  show mr_J l G RX5 cX5_cut 2 (some .boolean) 0 0 Po 0 [some (vR 1 0), some (vI x)] [] w
  refine mr_iload_n dX5_cut_0 rfl ?_
  refine mr_if_lt (tgt := 12) dX5_cut_1 (by decide) (by omega) (fun hc_1 => ?_) (fun hc_1 => ?_)
  · refine mr_iconst dX5_cut_12 ?_
    refine mr_zret rfl (Or.inl rfl) dX5_cut_13 ?_
    first | exact hP (by omega) | exact hQ (by omega)
  · refine mr_iload_n dX5_cut_4 rfl ?_
    refine mr_aload_n dX5_cut_5 rfl ?_
    refine mr_get dX5_cut_6 fl_X5_15 (by first | assumption | exact mr_up_same _ _ _ | exact mr_lk (by assumption) (by first | assumption | decide) | exact mr_lk (mr_up_same _ _ _) (by first | assumption | decide) | exact mr_lk (mr_lk (by assumption) (by first | assumption | decide)) (by first | assumption | decide)) rfl ?_
    refine mr_icmp_le (tgt := 14) dX5_cut_9 (by decide) (by omega) (by omega) (fun hc_9 => ?_) (fun hc_9 => ?_)
    · refine mr_aload_n dX5_cut_14 rfl ?_
      refine mr_iload_n dX5_cut_15 rfl ?_
      refine mr_put dX5_cut_16 fl_X5_15 pf_X5_1 rfl rfl (by first | assumption | exact mr_up_same _ _ _ | exact mr_lk (by assumption) (by first | assumption | decide) | exact mr_lk (mr_up_same _ _ _) (by first | assumption | decide) | exact mr_lk (mr_lk (by assumption) (by first | assumption | decide)) (by first | assumption | decide)) (Nat.le_of_ble_eq_true rfl) ?_
      refine mr_iconst dX5_cut_19 ?_
      refine mr_zret rfl (Or.inr rfl) dX5_cut_20 ?_
      first | exact hP (by omega) | exact hQ (by omega)
    · refine mr_iconst dX5_cut_12 ?_
      refine mr_zret rfl (Or.inl rfl) dX5_cut_13 ?_
      first | exact hP (by omega) | exact hQ (by omega)
def mr_ba (n : Int) (g : Nat → Int) (x : Int) : Int := if 0 ≤ x ∧ x < n then g x.toNat % 256 else -1
def T_X5_byteAt (a : List mr_AV) (w : mr_Wd) (Po : Option mr_AV → mr_Wd → Prop) : Prop := ∃ (n x : Int) (g : Nat → Int), a = [vR 1 0, vI x] ∧ mr_TP w n g ∧ (0 ≤ n ∧ n ≤ 540) ∧ InR x ∧ Po (some (vI (mr_ba n g x))) w
set_option maxHeartbeats 4000000 in
set_option maxRecDepth 20000 in
theorem ok_X5_byteAt (l : Launch) (G : mr_G) : mr_Ok l G yX5_byteAt cX5_byteAt 2 (some .int) 0 0 T_X5_byteAt := by
  refine mr_Ok.of (by decide +kernel) ?_
  rintro a w Po ⟨n, x, g, rfl, ⟨hb, hc⟩, hn, hx, hP⟩
  refine ⟨Nat.le_of_ble_eq_true rfl, ?_⟩
  show mr_J l G RX5 cX5_byteAt 2 (some .int) 0 0 Po 0 [some (vR 1 0), some (vI x)] [] w
  refine mr_iload_n dX5_byteAt_0 rfl ?_
  refine mr_if_lt (tgt := 25) dX5_byteAt_1 (by decide) (by omega) (fun hc_1 => ?_) (fun hc_1 => ?_)
  · refine mr_iconst dX5_byteAt_25 ?_
    refine mr_iret rfl dX5_byteAt_26 ?_
    first | (rw [mr_ba, if_pos (by omega)] at hP; exact hP) | (rw [mr_ba, if_neg (by omega)] at hP; exact hP)
  · refine mr_iload_n dX5_byteAt_4 rfl ?_
    refine mr_aload_n dX5_byteAt_5 rfl ?_
    refine mr_get dX5_byteAt_6 fl_X5_15 (by first | assumption | exact mr_up_same _ _ _ | exact mr_lk (by assumption) (by first | assumption | decide) | exact mr_lk (mr_up_same _ _ _) (by first | assumption | decide) | exact mr_lk (mr_lk (by assumption) (by first | assumption | decide)) (by first | assumption | decide)) rfl ?_
    refine mr_icmp_ge (tgt := 25) dX5_byteAt_9 (by decide) (by omega) (by omega) (fun hc_9 => ?_) (fun hc_9 => ?_)
    · refine mr_iconst dX5_byteAt_25 ?_
      refine mr_iret rfl dX5_byteAt_26 ?_
      first | (rw [mr_ba, if_pos (by omega)] at hP; exact hP) | (rw [mr_ba, if_neg (by omega)] at hP; exact hP)
    · refine mr_aload_n dX5_byteAt_12 rfl ?_
      refine mr_get dX5_byteAt_13 fl_X5_11 (by first | assumption | exact mr_up_same _ _ _ | exact mr_lk (by assumption) (by first | assumption | decide) | exact mr_lk (mr_up_same _ _ _) (by first | assumption | decide) | exact mr_lk (mr_lk (by assumption) (by first | assumption | decide)) (by first | assumption | decide)) rfl ?_
      refine mr_iload_n dX5_byteAt_16 rfl ?_
      refine mr_bald dX5_byteAt_17 (by first | assumption | exact mr_up_same _ _ _ | exact mr_lk (by assumption) (by first | assumption | decide) | exact mr_lk (mr_up_same _ _ _) (by first | assumption | decide) | exact mr_lk (mr_lk (by assumption) (by first | assumption | decide)) (by first | assumption | decide)) (by omega) (by omega) (by decide) ?_
      refine mr_sipush dX5_byteAt_18 rfl ?_
      refine mr_iand 8 (by decide) dX5_byteAt_21 (by decide) ?_
      refine mr_goto (tgt := 26) dX5_byteAt_22 (by decide) ?_
      refine mr_iret rfl dX5_byteAt_26 ?_
      first | (rw [mr_ba, if_pos (by omega)] at hP; exact hP) | (rw [mr_ba, if_neg (by omega)] at hP; exact hP)
def T_X1_count (a : List mr_AV) (w : mr_Wd) (Po : Option mr_AV → mr_Wd → Prop) : Prop := ∃ (nx ct : Int) (S : Nat → Nat → Int), a = [vR 5 0] ∧ mr_PA w nx ct S ∧ Po (some (vI ct)) w
set_option maxHeartbeats 4000000 in
set_option maxRecDepth 20000 in
theorem ok_X1_count (l : Launch) (G : mr_G) : mr_Ok l G yX1_count cX1_count 1 (some .int) 0 0 T_X1_count := by
  refine mr_Ok.of (by decide +kernel) ?_
  rintro a w Po ⟨nx, ct, S, rfl, ⟨hb, hc⟩, hP⟩
  refine ⟨Nat.le_of_ble_eq_true rfl, ?_⟩
  show mr_J l G RX1 cX1_count 1 (some .int) 0 0 Po 0 [some (vR 5 0)] [] w
  refine mr_aload_n dX1_count_0 rfl ?_
  refine mr_get dX1_count_1 fl_X1_16 (by first | assumption | exact mr_up_same _ _ _ | exact mr_lk (by assumption) (by first | assumption | decide) | exact mr_lk (mr_up_same _ _ _) (by first | assumption | decide) | exact mr_lk (mr_lk (by assumption) (by first | assumption | decide)) (by first | assumption | decide)) rfl ?_
  refine mr_iret rfl dX1_count_4 ?_
  exact hP
def T_X1_forget (a : List mr_AV) (w : mr_Wd) (Po : Option mr_AV → mr_Wd → Prop) : Prop := ∃ (nx ct : Int) (S : Nat → Nat → Int), a = [vR 5 0] ∧ mr_PA w nx ct S ∧ Po none (mr_up w 5 (eO 1 [vR 6 0, vI nx, vI 0]))
set_option maxHeartbeats 4000000 in
set_option maxRecDepth 20000 in
theorem ok_X1_forget (l : Launch) (G : mr_G) : mr_Ok l G yX1_forget cX1_forget 1 none 0 0 T_X1_forget := by
  refine mr_Ok.of (by decide +kernel) ?_
  rintro a w Po ⟨nx, ct, S, rfl, ⟨hb, hc⟩, hP⟩
  refine ⟨Nat.le_of_ble_eq_true rfl, ?_⟩
  show mr_J l G RX1 cX1_forget 1 none 0 0 Po 0 [some (vR 5 0)] [] w
  refine mr_aload_n dX1_forget_0 rfl ?_
  refine mr_iconst dX1_forget_1 ?_
  refine mr_put dX1_forget_2 fl_X1_16 pf_X1_2 rfl rfl (by first | assumption | exact mr_up_same _ _ _ | exact mr_lk (by assumption) (by first | assumption | decide) | exact mr_lk (mr_up_same _ _ _) (by first | assumption | decide) | exact mr_lk (mr_lk (by assumption) (by first | assumption | decide)) (by first | assumption | decide)) (Nat.le_of_ble_eq_true rfl) ?_
  refine mr_vret rfl dX1_forget_5 ?_
  exact hP
def T_X1_keep (a : List mr_AV) (w : mr_Wd) (Po : Option mr_AV → mr_Wd → Prop) : Prop := ∃ (nx ct : Int) (S : Nat → Nat → Int) (f : Nat → Int), a = [vR 5 0, vR 3 0] ∧ mr_PA w nx ct S ∧ mr_BK w 3 f ∧ (0 ≤ nx ∧ nx < 8) ∧ (0 ≤ ct ∧ ct ≤ 8) ∧ Po none (mr_up (mr_up w 6 (eM 8 51 (fun i => if i = nx.toNat then f else S i))) 5 (eO 1 [vR 6 0, vI ((nx + 1) % 8), vI (min (ct + 1) 8)]))
set_option maxHeartbeats 4000000 in
set_option maxRecDepth 20000 in
theorem ok_X1_keep (l : Launch) (G : mr_G) : mr_Ok l G yX1_keep cX1_keep 2 none 2 42 T_X1_keep := by
  refine mr_Ok.of (by decide +kernel) ?_
  rintro a w Po ⟨nx, ct, S, f, rfl, ⟨h5, h6⟩, ⟨hb, hc⟩, hn, hct, hP⟩
  refine ⟨Nat.le_of_ble_eq_true rfl, ?_⟩
  show mr_J l G RX1 cX1_keep 2 none 2 42 Po 0 [some (vR 5 0), some (vR 3 0)] [] w
  have e0 : nx % 2 ^ 3 = nx := by omega
  have h3n : w 3 = eO 0 [vR (3 + 1) 0] := hb
  refine mr_aload_n dX1_keep_0 rfl ?_
  refine mr_aload_n dX1_keep_1 rfl ?_
  refine mr_get dX1_keep_2 fl_X1_13 (by first | assumption | exact mr_up_same _ _ _ | exact mr_lk (by assumption) (by first | assumption | decide) | exact mr_lk (mr_up_same _ _ _) (by first | assumption | decide) | exact mr_lk (mr_lk (by assumption) (by first | assumption | decide)) (by first | assumption | decide)) rfl ?_
  refine mr_aload_n dX1_keep_5 rfl ?_
  refine mr_get dX1_keep_6 fl_X1_20 (by first | assumption | exact mr_up_same _ _ _ | exact mr_lk (by assumption) (by first | assumption | decide) | exact mr_lk (mr_up_same _ _ _) (by first | assumption | decide) | exact mr_lk (mr_lk (by assumption) (by first | assumption | decide)) (by first | assumption | decide)) rfl ?_
  refine mr_bipush dX1_keep_9 rfl ?_
  refine mr_iand 3 (by decide) dX1_keep_11 (by decide) ?_
  rw [e0]
  refine mr_aald dX1_keep_12 (by first | assumption | exact mr_up_same _ _ _ | exact mr_lk (by assumption) (by first | assumption | decide) | exact mr_lk (mr_up_same _ _ _) (by first | assumption | decide) | exact mr_lk (mr_lk (by assumption) (by first | assumption | decide)) (by first | assumption | decide)) (by omega) (by omega) (by decide) ?_
  refine mr_callV (as := [_]) dX1_keep_13 (ok_X0_copyTo l G) ml_X1_23 cl_X0_copyTo cv_X0_copyTo (by decide) rfl rfl (Nat.le_of_ble_eq_true rfl) (by first | assumption | exact mr_up_same _ _ _ | exact mr_lk (by assumption) (by first | assumption | decide) | exact mr_lk (mr_up_same _ _ _) (by first | assumption | decide) | exact mr_lk (mr_lk (by assumption) (by first | assumption | decide)) (by first | assumption | decide)) ?_
  refine ⟨_, _, _, _, _, _, rfl, ⟨(by first | assumption | exact mr_up_same _ _ _ | exact mr_lk (by assumption) (by first | assumption | decide) | exact mr_lk (mr_up_same _ _ _) (by first | assumption | decide) | exact mr_lk (mr_lk (by assumption) (by first | assumption | decide)) (by first | assumption | decide)), (by first | assumption | exact mr_up_same _ _ _ | exact mr_lk (by assumption) (by first | assumption | decide) | exact mr_lk (mr_up_same _ _ _) (by first | assumption | decide) | exact mr_lk (mr_lk (by assumption) (by first | assumption | decide)) (by first | assumption | decide))⟩, (by first | assumption | exact mr_up_same _ _ _ | exact mr_lk (by assumption) (by first | assumption | decide) | exact mr_lk (mr_up_same _ _ _) (by first | assumption | decide) | exact mr_lk (mr_lk (by assumption) (by first | assumption | decide)) (by first | assumption | decide)), (by omega), ?_⟩
  dsimp only [Option.toList_some, Option.toList_none, List.cons_append, List.nil_append]
  refine mr_aload_n dX1_keep_16 rfl ?_
  refine mr_aload_n dX1_keep_17 rfl ?_
  refine mr_get dX1_keep_18 fl_X1_20 (by first | assumption | exact mr_up_same _ _ _ | exact mr_lk (by assumption) (by first | assumption | decide) | exact mr_lk (mr_up_same _ _ _) (by first | assumption | decide) | exact mr_lk (mr_lk (by assumption) (by first | assumption | decide)) (by first | assumption | decide)) rfl ?_
  refine mr_iconst dX1_keep_21 ?_
  refine mr_iadd dX1_keep_22 ?_
  refine mr_bipush dX1_keep_23 rfl ?_
  refine mr_iand 3 (by decide) dX1_keep_25 (by decide) ?_
  refine mr_put dX1_keep_26 fl_X1_20 pf_X1_1 rfl rfl (by first | assumption | exact mr_up_same _ _ _ | exact mr_lk (by assumption) (by first | assumption | decide) | exact mr_lk (mr_up_same _ _ _) (by first | assumption | decide) | exact mr_lk (mr_lk (by assumption) (by first | assumption | decide)) (by first | assumption | decide)) (Nat.le_of_ble_eq_true rfl) ?_
  try rw [mr_up_up]
  refine mr_aload_n dX1_keep_29 rfl ?_
  refine mr_aload_n dX1_keep_30 rfl ?_
  refine mr_get dX1_keep_31 fl_X1_16 (by first | assumption | exact mr_up_same _ _ _ | exact mr_lk (by assumption) (by first | assumption | decide) | exact mr_lk (mr_up_same _ _ _) (by first | assumption | decide) | exact mr_lk (mr_lk (by assumption) (by first | assumption | decide)) (by first | assumption | decide)) rfl ?_
  refine mr_iconst dX1_keep_34 ?_
  refine mr_iadd dX1_keep_35 ?_
  refine mr_bipush dX1_keep_36 rfl ?_
  refine mr_callS (as := [_, _]) dX1_keep_38 (ok_J9_min_7cf53 l G) ml_X1_27 cl_J9_min_7cf53 cs_J9_min_7cf53 (by decide) rfl rfl (Nat.le_of_ble_eq_true rfl) ?_
  refine ⟨_, _, rfl, (by omega), (by omega), ?_⟩
  dsimp only [Option.toList_some, Option.toList_none, List.cons_append, List.nil_append]
  refine mr_put dX1_keep_41 fl_X1_16 pf_X1_2 rfl rfl (by first | assumption | exact mr_up_same _ _ _ | exact mr_lk (by assumption) (by first | assumption | decide) | exact mr_lk (mr_up_same _ _ _) (by first | assumption | decide) | exact mr_lk (mr_lk (by assumption) (by first | assumption | decide)) (by first | assumption | decide)) (Nat.le_of_ble_eq_true rfl) ?_
  try rw [mr_up_up]
  refine mr_vret rfl dX1_keep_44 ?_
  exact hP
def T_X1_goBack (a : List mr_AV) (w : mr_Wd) (Po : Option mr_AV → mr_Wd → Prop) : Prop := ∃ (nx ct : Int) (S : Nat → Nat → Int) (f : Nat → Int), a = [vR 5 0, vR 3 0] ∧ mr_PA w nx ct S ∧ mr_BK w 3 f ∧ (0 ≤ nx ∧ nx < 8) ∧ (0 ≤ ct ∧ ct ≤ 8) ∧ (0 < ct → Po (some (vI 1)) (mr_up (mr_up w 5 (eO 1 [vR 6 0, vI ((nx - 1) % 8), vI (ct - 1)])) 4 (eA 0 51 (S ((nx - 1) % 8).toNat)))) ∧ (ct = 0 → Po (some (vI 0)) w)
set_option maxHeartbeats 4000000 in
set_option maxRecDepth 20000 in
theorem ok_X1_goBack (l : Launch) (G : mr_G) : mr_Ok l G yX1_goBack cX1_goBack 2 (some .boolean) 2 42 T_X1_goBack := by
  refine mr_Ok.of (by decide +kernel) ?_
  rintro a w Po ⟨nx, ct, S, f, rfl, ⟨h5, h6⟩, ⟨hb, hc⟩, hn, hct, hP, hQ⟩
  refine ⟨Nat.le_of_ble_eq_true rfl, ?_⟩
  show mr_J l G RX1 cX1_goBack 2 (some .boolean) 2 42 Po 0 [some (vR 5 0), some (vR 3 0)] [] w
  have e0 : ((nx - 1) % 2 ^ 3) % 2 ^ 3 = (nx - 1) % 8 := by omega
  have e1 : ((nx - 1) % 2 ^ 3) = (nx - 1) % 8 := by omega
  have h3n : w 3 = eO 0 [vR (3 + 1) 0] := hb
  refine mr_aload_n dX1_goBack_0 rfl ?_
  refine mr_get dX1_goBack_1 fl_X1_16 (by first | assumption | exact mr_up_same _ _ _ | exact mr_lk (by assumption) (by first | assumption | decide) | exact mr_lk (mr_up_same _ _ _) (by first | assumption | decide) | exact mr_lk (mr_lk (by assumption) (by first | assumption | decide)) (by first | assumption | decide)) rfl ?_
  refine mr_if_ne (tgt := 9) dX1_goBack_4 (by decide) (by omega) (fun hc_4 => ?_) (fun hc_4 => ?_)
  · refine mr_aload_n dX1_goBack_9 rfl ?_
    refine mr_aload_n dX1_goBack_10 rfl ?_
    refine mr_get dX1_goBack_11 fl_X1_20 (by first | assumption | exact mr_up_same _ _ _ | exact mr_lk (by assumption) (by first | assumption | decide) | exact mr_lk (mr_up_same _ _ _) (by first | assumption | decide) | exact mr_lk (mr_lk (by assumption) (by first | assumption | decide)) (by first | assumption | decide)) rfl ?_
    refine mr_iconst dX1_goBack_14 ?_
    refine mr_isub dX1_goBack_15 ?_
    refine mr_bipush dX1_goBack_16 rfl ?_
    refine mr_iand 3 (by decide) dX1_goBack_18 (by decide) ?_
    refine mr_put dX1_goBack_19 fl_X1_20 pf_X1_1 rfl rfl (by first | assumption | exact mr_up_same _ _ _ | exact mr_lk (by assumption) (by first | assumption | decide) | exact mr_lk (mr_up_same _ _ _) (by first | assumption | decide) | exact mr_lk (mr_lk (by assumption) (by first | assumption | decide)) (by first | assumption | decide)) (Nat.le_of_ble_eq_true rfl) ?_
    try rw [mr_up_up]
    refine mr_aload_n dX1_goBack_22 rfl ?_
    refine mr_dup dX1_goBack_23 rfl ?_
    refine mr_get dX1_goBack_24 fl_X1_16 (by first | assumption | exact mr_up_same _ _ _ | exact mr_lk (by assumption) (by first | assumption | decide) | exact mr_lk (mr_up_same _ _ _) (by first | assumption | decide) | exact mr_lk (mr_lk (by assumption) (by first | assumption | decide)) (by first | assumption | decide)) rfl ?_
    refine mr_iconst dX1_goBack_27 ?_
    refine mr_isub dX1_goBack_28 ?_
    refine mr_put dX1_goBack_29 fl_X1_16 pf_X1_2 rfl rfl (by first | assumption | exact mr_up_same _ _ _ | exact mr_lk (by assumption) (by first | assumption | decide) | exact mr_lk (mr_up_same _ _ _) (by first | assumption | decide) | exact mr_lk (mr_lk (by assumption) (by first | assumption | decide)) (by first | assumption | decide)) (Nat.le_of_ble_eq_true rfl) ?_
    try rw [mr_up_up]
    refine mr_aload_n dX1_goBack_32 rfl ?_
    refine mr_aload_n dX1_goBack_33 rfl ?_
    refine mr_get dX1_goBack_34 fl_X1_13 (by first | assumption | exact mr_up_same _ _ _ | exact mr_lk (by assumption) (by first | assumption | decide) | exact mr_lk (mr_up_same _ _ _) (by first | assumption | decide) | exact mr_lk (mr_lk (by assumption) (by first | assumption | decide)) (by first | assumption | decide)) rfl ?_
    refine mr_aload_n dX1_goBack_37 rfl ?_
    refine mr_get dX1_goBack_38 fl_X1_20 (by first | assumption | exact mr_up_same _ _ _ | exact mr_lk (by assumption) (by first | assumption | decide) | exact mr_lk (mr_up_same _ _ _) (by first | assumption | decide) | exact mr_lk (mr_lk (by assumption) (by first | assumption | decide)) (by first | assumption | decide)) rfl ?_
    refine mr_bipush dX1_goBack_41 rfl ?_
    refine mr_iand 3 (by decide) dX1_goBack_43 (by decide) ?_
    rw [e0, e1]
    refine mr_aald dX1_goBack_44 (by first | assumption | exact mr_up_same _ _ _ | exact mr_lk (by assumption) (by first | assumption | decide) | exact mr_lk (mr_up_same _ _ _) (by first | assumption | decide) | exact mr_lk (mr_lk (by assumption) (by first | assumption | decide)) (by first | assumption | decide)) (by omega) (by omega) (by decide) ?_
    refine mr_callV (as := [_]) dX1_goBack_45 (ok_X0_copyFrom l G) ml_X1_33 cl_X0_copyFrom cv_X0_copyFrom (by decide) rfl rfl (Nat.le_of_ble_eq_true rfl) (by first | assumption | exact mr_up_same _ _ _ | exact mr_lk (by assumption) (by first | assumption | decide) | exact mr_lk (mr_up_same _ _ _) (by first | assumption | decide) | exact mr_lk (mr_lk (by assumption) (by first | assumption | decide)) (by first | assumption | decide)) ?_
    refine Or.inl ⟨_, _, _, _, _, _, rfl, ⟨(by first | assumption | exact mr_up_same _ _ _ | exact mr_lk (by assumption) (by first | assumption | decide) | exact mr_lk (mr_up_same _ _ _) (by first | assumption | decide) | exact mr_lk (mr_lk (by assumption) (by first | assumption | decide)) (by first | assumption | decide)), (by first | assumption | exact mr_up_same _ _ _ | exact mr_lk (by assumption) (by first | assumption | decide) | exact mr_lk (mr_up_same _ _ _) (by first | assumption | decide) | exact mr_lk (mr_lk (by assumption) (by first | assumption | decide)) (by first | assumption | decide))⟩, (by first | assumption | exact mr_up_same _ _ _ | exact mr_lk (by assumption) (by first | assumption | decide) | exact mr_lk (mr_up_same _ _ _) (by first | assumption | decide) | exact mr_lk (mr_lk (by assumption) (by first | assumption | decide)) (by first | assumption | decide)), (by omega), ?_⟩
    dsimp only [Option.toList_some, Option.toList_none, List.cons_append, List.nil_append]
    refine mr_iconst dX1_goBack_48 ?_
    refine mr_zret rfl (Or.inr rfl) dX1_goBack_49 ?_
    first | exact hQ (by omega) | exact hP (by omega)
  · refine mr_iconst dX1_goBack_7 ?_
    refine mr_zret rfl (Or.inl rfl) dX1_goBack_8 ?_
    first | exact hQ (by omega) | exact hP (by omega)
