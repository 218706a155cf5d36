theorem mr_ialdK {l : Launch} {G : mr_G} {own : String} {cc : ByteArray} {nL : Nat} {ret : Option FieldType} {rf rl : Nat} {Po : Option mr_AV → mr_Wd → Prop} {pc : Nat} {ls : List (Option mr_AV)} {st : List mr_AV} {w : mr_Wd} (j : Nat) {a n : Nat} {f : Nat → Int} {i : Int} (d : decode cc pc = .ok (.iaload, 1)) (hw : w a = eA 0 n f) (hi : i = (j : Int)) (hn : j < n ∧ n < 2147483648) (kk : mr_J l G own cc nL ret rf rl Po (pc + 1) ls (vI (f j) :: st) w) : mr_J l G own cc nL ret rf rl Po pc ls (vI i :: vR a 0 :: st) w := by
  subst hi
  refine mr_iald d hw (by omega) (by omega) hn.2 ?_
  rw [Int.toNat_natCast]
  exact kk
/-! FORMS in the Model's state. -/
def mr_nf (N : Nat → Int) (t j : Int) : Int := N (2 + 3 * t + j).toNat
def mr_FN (M : Int) (W : Nat) (N : Nat → Int) (t : Int) (L : mr_V → Prop) : Prop := mr_Fo M W (fun c => mr_dec M (mr_nf N t c)) L ∧ ∀ j : Int, 0 ≤ j → j < 3 → 0 ≤ mr_nf N t j ∧ mr_nf N t j < M * M * M
theorem mr_w3_w3 (w : mr_Wd) (q : Nat) (st ls st' ls' : Nat → Int) (mo mo' : mr_AE) : mr_w3 (mr_w3 w q st ls mo) q st' ls' mo' = mr_w3 w q st' ls' mo' := mr_w3_up w q st ls st' ls' mo mo'
def T_X7_laysSet (a : List mr_AV) (w : mr_Wd) (Po : Option mr_AV → mr_Wd → Prop) : Prop := ∃ (th tp sz zo fr kd nb ft pl wd sm md li sd : Int) (q c : Nat) (N st ls : Nat → Int) (t M : Int) (W : Nat) (L : mr_V → Prop), a = [vR 18 0, vR c 0, vI t, vR q 0] ∧ (q = 25 ∨ q = 26) ∧ (c = 20 ∨ c = 21) ∧ w 18 = eMo th tp sz zo fr kd nb ft pl wd sm md li sd ∧ w c = eA 0 21 N ∧ w q = eA 1 27000 st ∧ w 27 = eA 0 27000 ls ∧ N 0 = M ∧ (1 ≤ M ∧ M ≤ 30) ∧ (0 ≤ t ∧ t ≤ 3) ∧ mr_FN M W N t L ∧ (∀ (st' li' : Nat → Int) (n' : Nat), mr_Lp M st' li' n' (mr_S M L) → Po none (mr_w3 w q st' li' (eMo th tp sz zo fr kd nb ft pl wd sm md ((n' : Int)) sd)))
set_option maxHeartbeats 4000000 in
set_option maxRecDepth 20000 in
theorem ok_X7_laysSet (l : Launch) (G : mr_G) : mr_Ok l G yX7_laysSet cX7_laysSet 5 none 2 49 T_X7_laysSet := by
  refine mr_Ok.of (by decide +kernel) ?_
  rintro a w Po ⟨th, tp, sz, zo, fr, kd, nb, ft, pl, wd, sm, md, li, sd, q, c, N, st, ls, t, M, W, L, rfl, hq, hc, h18, hcN, hqs, h27, hN0, hM, ht, hFN, hP⟩
  refine ⟨Nat.le_of_ble_eq_true rfl, ?_⟩
  show mr_J l G RX7 cX7_laysSet 5 none 2 49 Po 0 [some (vR 18 0), some (vR c 0), some (vI t), some (vR q 0), none] [] w
  have hm3 := mr_m3 hM
  have hq18 : q ≠ 18 := by omega
  have hq27 : q ≠ 27 := by omega
  have hc18 : c ≠ 18 := by omega
  have hc27 : c ≠ 27 := by omega
  have hcq : c ≠ q := by omega
  have hp0 := mr_Lp_0 hM.1 hm3.1 ls
  refine mr_aload_n dX7_laysSet_0 rfl ?_
  refine mr_aload_n dX7_laysSet_1 rfl ?_
  refine mr_callV (as := [_]) dX7_laysSet_2 (ok_X7_clears l G) ml_X7_187 cl_X7_clears cv_X7_clears (by decide) rfl rfl (Nat.le_of_ble_eq_true rfl) h18 ?_
  refine ⟨_, _, _, _, _, _, _, _, _, _, _, _, _, _, q, st, ls, rfl, hq18, hq27, h18, hqs, h27, ?_⟩
  refine mr_cw (show _ = (mr_w3 w q (fun r : Nat => if r = 0 then 1 else 0) (mr_fs ls 0 0) (eMo th tp sz zo fr kd nb ft pl wd sm md (((1 : Nat) : Int)) sd)) from rfl) ?_
  dsimp only [Option.toList_some, Option.toList_none, List.cons_append, List.nil_append]
  refine mr_iconst dX7_laysSet_5 ?_
  refine mr_istore dX7_laysSet_6 rfl (by decide) ?_
  refine mr_iload dX7_laysSet_8 rfl ?_
  refine mr_iconst dX7_laysSet_10 ?_
  refine mr_icmp_ge (tgt := 36) dX7_laysSet_11 (by decide) (by omega) (by omega) (fun h => absurd h (by decide)) (fun _ => ?_)
  refine mr_aload_n dX7_laysSet_14 rfl ?_
  refine mr_aload_n dX7_laysSet_15 rfl ?_
  refine mr_aload_n dX7_laysSet_16 rfl ?_
  refine mr_aload_n dX7_laysSet_17 rfl ?_
  refine mr_iconst dX7_laysSet_18 ?_
  refine mr_iconst dX7_laysSet_19 ?_
  refine mr_iload_n dX7_laysSet_20 rfl ?_
  refine mr_imul dX7_laysSet_21 ?_
  refine mr_iadd dX7_laysSet_22 ?_
  refine mr_iload dX7_laysSet_23 rfl ?_
  refine mr_iadd dX7_laysSet_25 ?_
  refine mr_iald dX7_laysSet_26 ((mr_w3_ne _ _ _ _ hc18 hc27 hcq).trans hcN) (by omega) (by omega) (by decide) ?_
  refine mr_callV (as := [_, _, _]) dX7_laysSet_27 (ok_X7_adds l G) ml_X7_132 cl_X7_adds cv_X7_adds (by decide) rfl rfl (Nat.le_of_ble_eq_true rfl) (mr_w3_18 _ _ _ _ _) ?_
  refine ⟨_, _, _, _, _, _, _, _, _, _, _, _, _, q, c, N, _, _, _, M, mr_nf N t 0, (mr_L0 M), rfl, hq, hc, mr_w3_18 _ _ _ _ _, (mr_w3_ne _ _ _ _ hc18 hc27 hcq).trans hcN, mr_w3_q _ _ _ _ hq18 hq27, mr_w3_27 _ _ _ _ _, hN0, hM, (hFN.2 0 (by decide) (by decide)), (mr_L0_Li M), hp0, (fun st1 li1 n1 hp1 => ?_)⟩
  refine mr_cw (mr_w3_w3 _ _ _ _ _ _ _ _) ?_
  dsimp only [Option.toList_some, Option.toList_none, List.cons_append, List.nil_append]
  refine mr_iinc dX7_laysSet_30 rfl (by decide) rfl ?_
  refine mr_goto (tgt := 8) dX7_laysSet_33 (by decide) ?_
  refine mr_iload dX7_laysSet_8 rfl ?_
  refine mr_iconst dX7_laysSet_10 ?_
  refine mr_icmp_ge (tgt := 36) dX7_laysSet_11 (by decide) (by omega) (by omega) (fun h => absurd h (by decide)) (fun _ => ?_)
  refine mr_aload_n dX7_laysSet_14 rfl ?_
  refine mr_aload_n dX7_laysSet_15 rfl ?_
  refine mr_aload_n dX7_laysSet_16 rfl ?_
  refine mr_aload_n dX7_laysSet_17 rfl ?_
  refine mr_iconst dX7_laysSet_18 ?_
  refine mr_iconst dX7_laysSet_19 ?_
  refine mr_iload_n dX7_laysSet_20 rfl ?_
  refine mr_imul dX7_laysSet_21 ?_
  refine mr_iadd dX7_laysSet_22 ?_
  refine mr_iload dX7_laysSet_23 rfl ?_
  refine mr_iadd dX7_laysSet_25 ?_
  refine mr_iald dX7_laysSet_26 ((mr_w3_ne _ _ _ _ hc18 hc27 hcq).trans hcN) (by omega) (by omega) (by decide) ?_
  refine mr_callV (as := [_, _, _]) dX7_laysSet_27 (ok_X7_adds l G) ml_X7_132 cl_X7_adds cv_X7_adds (by decide) rfl rfl (Nat.le_of_ble_eq_true rfl) (mr_w3_18 _ _ _ _ _) ?_
  refine ⟨_, _, _, _, _, _, _, _, _, _, _, _, _, q, c, N, _, _, _, M, mr_nf N t 1, (mr_LA (mr_L0 M) (mr_dec M (mr_nf N t 0))), rfl, hq, hc, mr_w3_18 _ _ _ _ _, (mr_w3_ne _ _ _ _ hc18 hc27 hcq).trans hcN, mr_w3_q _ _ _ _ hq18 hq27, mr_w3_27 _ _ _ _ _, hN0, hM, (hFN.2 1 (by decide) (by decide)), (mr_LA_Li (mr_L0_Li M) _), hp1, (fun st2 li2 n2 hp2 => ?_)⟩
  refine mr_cw (mr_w3_w3 _ _ _ _ _ _ _ _) ?_
  dsimp only [Option.toList_some, Option.toList_none, List.cons_append, List.nil_append]
  refine mr_iinc dX7_laysSet_30 rfl (by decide) rfl ?_
  refine mr_goto (tgt := 8) dX7_laysSet_33 (by decide) ?_
  refine mr_iload dX7_laysSet_8 rfl ?_
  refine mr_iconst dX7_laysSet_10 ?_
  refine mr_icmp_ge (tgt := 36) dX7_laysSet_11 (by decide) (by omega) (by omega) (fun h => absurd h (by decide)) (fun _ => ?_)
  refine mr_aload_n dX7_laysSet_14 rfl ?_
  refine mr_aload_n dX7_laysSet_15 rfl ?_
  refine mr_aload_n dX7_laysSet_16 rfl ?_
  refine mr_aload_n dX7_laysSet_17 rfl ?_
  refine mr_iconst dX7_laysSet_18 ?_
  refine mr_iconst dX7_laysSet_19 ?_
  refine mr_iload_n dX7_laysSet_20 rfl ?_
  refine mr_imul dX7_laysSet_21 ?_
  refine mr_iadd dX7_laysSet_22 ?_
  refine mr_iload dX7_laysSet_23 rfl ?_
  refine mr_iadd dX7_laysSet_25 ?_
  refine mr_iald dX7_laysSet_26 ((mr_w3_ne _ _ _ _ hc18 hc27 hcq).trans hcN) (by omega) (by omega) (by decide) ?_
  refine mr_callV (as := [_, _, _]) dX7_laysSet_27 (ok_X7_adds l G) ml_X7_132 cl_X7_adds cv_X7_adds (by decide) rfl rfl (Nat.le_of_ble_eq_true rfl) (mr_w3_18 _ _ _ _ _) ?_
  refine ⟨_, _, _, _, _, _, _, _, _, _, _, _, _, q, c, N, _, _, _, M, mr_nf N t 2, (mr_LA (mr_LA (mr_L0 M) (mr_dec M (mr_nf N t 0))) (mr_dec M (mr_nf N t 1))), rfl, hq, hc, mr_w3_18 _ _ _ _ _, (mr_w3_ne _ _ _ _ hc18 hc27 hcq).trans hcN, mr_w3_q _ _ _ _ hq18 hq27, mr_w3_27 _ _ _ _ _, hN0, hM, (hFN.2 2 (by decide) (by decide)), (mr_LA_Li (mr_LA_Li (mr_L0_Li M) _) _), hp2, (fun st3 li3 n3 hp3 => ?_)⟩
  refine mr_cw (mr_w3_w3 _ _ _ _ _ _ _ _) ?_
  dsimp only [Option.toList_some, Option.toList_none, List.cons_append, List.nil_append]
  refine mr_iinc dX7_laysSet_30 rfl (by decide) rfl ?_
  refine mr_goto (tgt := 8) dX7_laysSet_33 (by decide) ?_
  refine mr_iload dX7_laysSet_8 rfl ?_
  refine mr_iconst dX7_laysSet_10 ?_
  refine mr_icmp_ge (tgt := 36) dX7_laysSet_11 (by decide) (by omega) (by omega) (fun _ => ?_) (fun h => absurd h (by decide))
  refine mr_vret rfl dX7_laysSet_36 ?_
  exact hP st3 li3 n3 (mr_Lp_cg hp3 (fun r _ _ => mr_Fo_LA hFN.1 (mr_dec M r)))
def mr_kp (N : Nat → Int) (t r0 r1 r2 : Int) : Nat → Int := mr_fs (mr_fs (mr_fs N (2 + 3 * t).toNat r0) (2 + 3 * t + 1).toNat r1) (2 + 3 * t + 2).toNat r2
def T_X7_keeps (a : List mr_AV) (w : mr_Wd) (Po : Option mr_AV → mr_Wd → Prop) : Prop := ∃ (q c : Nat) (N st : Nat → Int) (t M : Int), a = [vR c 0, vR q 0, vI t] ∧ (q = 25 ∨ q = 26) ∧ (c = 20 ∨ c = 21) ∧ w c = eA 0 21 N ∧ w q = eA 1 27000 st ∧ (∀ r : Nat, st r = 0 ∨ st r = 1) ∧ N 0 = M ∧ (1 ≤ M ∧ M ≤ 30) ∧ (0 ≤ t ∧ t ≤ 3) ∧ (∀ r0 r1 r2 : Int, mr_fo st (M * M) (M * M * M) r0 → mr_fo st M (M * M) r1 → mr_fo st 1 M r2 → Po none (mr_up w c (eA 0 21 (mr_kp N t r0 r1 r2))))
set_option maxHeartbeats 4000000 in
set_option maxRecDepth 20000 in
theorem ok_X7_keeps (l : Launch) (G : mr_G) : mr_Ok l G yX7_keeps cX7_keeps 4 none 1 23 T_X7_keeps := by
  refine mr_Ok.of (by decide +kernel) ?_
  rintro a w Po ⟨q, c, N, st, t, M, rfl, hq, hc, hcN, hqs, h01, hN0, hM, ht, hP⟩
  refine ⟨Nat.le_of_ble_eq_true rfl, ?_⟩
  show mr_J l G RX7 cX7_keeps 4 none 1 23 Po 0 [some (vR c 0), some (vR q 0), some (vI t), none] [] w
  have hm3 := mr_m3 hM
  have hm2 := mr_m2 hM
  have hqc : q ≠ c := by omega
  subst hN0
  refine mr_aload_n dX7_keeps_0 rfl ?_
  refine mr_iconst dX7_keeps_1 ?_
  refine mr_ialdK 0 dX7_keeps_2 (by first | assumption | exact mr_up_same _ _ _ | (refine mr_lk ?_ (by first | assumption | decide); first | assumption | exact mr_up_same _ _ _ | (refine mr_lk ?_ (by first | assumption | decide); first | assumption | exact mr_up_same _ _ _ | (refine mr_lk ?_ (by first | assumption | decide); first | assumption | exact mr_up_same _ _ _ | (refine mr_lk ?_ (by first | assumption | decide); first | assumption | exact mr_up_same _ _ _))))) (by decide) (by decide) ?_
  refine mr_istore_n dX7_keeps_3 rfl (by decide) ?_
  refine mr_aload_n dX7_keeps_4 rfl ?_
  refine mr_iconst dX7_keeps_5 ?_
  refine mr_iconst dX7_keeps_6 ?_
  refine mr_iload_n dX7_keeps_7 rfl ?_
  refine mr_imul dX7_keeps_8 ?_
  refine mr_iadd dX7_keeps_9 ?_
  refine mr_aload_n dX7_keeps_10 rfl ?_
  refine mr_iload_n dX7_keeps_11 rfl ?_
  refine mr_iload_n dX7_keeps_12 rfl ?_
  refine mr_imul dX7_keeps_13 ?_
  refine mr_iload_n dX7_keeps_14 rfl ?_
  refine mr_iload_n dX7_keeps_15 rfl ?_
  refine mr_imul dX7_keeps_16 ?_
  refine mr_iload_n dX7_keeps_17 rfl ?_
  refine mr_imul dX7_keeps_18 ?_
  refine mr_callS (as := [_, _, _]) dX7_keeps_19 (ok_X7_firstOf l G) ml_X7_191 cl_X7_firstOf cs_X7_firstOf (by decide) rfl rfl (Nat.le_of_ble_eq_true rfl) ?_
  refine ⟨q, st, _, _, rfl, (by first | assumption | exact mr_up_same _ _ _ | (refine mr_lk ?_ (by first | assumption | decide); first | assumption | exact mr_up_same _ _ _ | (refine mr_lk ?_ (by first | assumption | decide); first | assumption | exact mr_up_same _ _ _ | (refine mr_lk ?_ (by first | assumption | decide); first | assumption | exact mr_up_same _ _ _ | (refine mr_lk ?_ (by first | assumption | decide); first | assumption | exact mr_up_same _ _ _))))), h01, (by omega), (by omega), (fun r0 hr0 => ?_)⟩
  dsimp only [Option.toList_some, Option.toList_none, List.cons_append, List.nil_append]
  refine mr_iast dX7_keeps_22 (by first | assumption | exact mr_up_same _ _ _ | (refine mr_lk ?_ (by first | assumption | decide); first | assumption | exact mr_up_same _ _ _ | (refine mr_lk ?_ (by first | assumption | decide); first | assumption | exact mr_up_same _ _ _ | (refine mr_lk ?_ (by first | assumption | decide); first | assumption | exact mr_up_same _ _ _ | (refine mr_lk ?_ (by first | assumption | decide); first | assumption | exact mr_up_same _ _ _))))) (by omega) (by omega) (by decide) ?_
  refine mr_aload_n dX7_keeps_23 rfl ?_
  refine mr_iconst dX7_keeps_24 ?_
  refine mr_iconst dX7_keeps_25 ?_
  refine mr_iload_n dX7_keeps_26 rfl ?_
  refine mr_imul dX7_keeps_27 ?_
  refine mr_iadd dX7_keeps_28 ?_
  refine mr_iconst dX7_keeps_29 ?_
  refine mr_iadd dX7_keeps_30 ?_
  refine mr_aload_n dX7_keeps_31 rfl ?_
  refine mr_iload_n dX7_keeps_32 rfl ?_
  refine mr_iload_n dX7_keeps_33 rfl ?_
  refine mr_iload_n dX7_keeps_34 rfl ?_
  refine mr_imul dX7_keeps_35 ?_
  refine mr_callS (as := [_, _, _]) dX7_keeps_36 (ok_X7_firstOf l G) ml_X7_191 cl_X7_firstOf cs_X7_firstOf (by decide) rfl rfl (Nat.le_of_ble_eq_true rfl) ?_
  refine ⟨q, st, _, _, rfl, (by first | assumption | exact mr_up_same _ _ _ | (refine mr_lk ?_ (by first | assumption | decide); first | assumption | exact mr_up_same _ _ _ | (refine mr_lk ?_ (by first | assumption | decide); first | assumption | exact mr_up_same _ _ _ | (refine mr_lk ?_ (by first | assumption | decide); first | assumption | exact mr_up_same _ _ _ | (refine mr_lk ?_ (by first | assumption | decide); first | assumption | exact mr_up_same _ _ _))))), h01, (by omega), (by omega), (fun r1 hr1 => ?_)⟩
  dsimp only [Option.toList_some, Option.toList_none, List.cons_append, List.nil_append]
  refine mr_iast dX7_keeps_39 (by first | assumption | exact mr_up_same _ _ _ | (refine mr_lk ?_ (by first | assumption | decide); first | assumption | exact mr_up_same _ _ _ | (refine mr_lk ?_ (by first | assumption | decide); first | assumption | exact mr_up_same _ _ _ | (refine mr_lk ?_ (by first | assumption | decide); first | assumption | exact mr_up_same _ _ _ | (refine mr_lk ?_ (by first | assumption | decide); first | assumption | exact mr_up_same _ _ _))))) (by omega) (by omega) (by decide) ?_
  refine mr_aload_n dX7_keeps_40 rfl ?_
  refine mr_iconst dX7_keeps_41 ?_
  refine mr_iconst dX7_keeps_42 ?_
  refine mr_iload_n dX7_keeps_43 rfl ?_
  refine mr_imul dX7_keeps_44 ?_
  refine mr_iadd dX7_keeps_45 ?_
  refine mr_iconst dX7_keeps_46 ?_
  refine mr_iadd dX7_keeps_47 ?_
  refine mr_aload_n dX7_keeps_48 rfl ?_
  refine mr_iconst dX7_keeps_49 ?_
  refine mr_iload_n dX7_keeps_50 rfl ?_
  refine mr_callS (as := [_, _, _]) dX7_keeps_51 (ok_X7_firstOf l G) ml_X7_191 cl_X7_firstOf cs_X7_firstOf (by decide) rfl rfl (Nat.le_of_ble_eq_true rfl) ?_
  refine ⟨q, st, _, _, rfl, (by first | assumption | exact mr_up_same _ _ _ | (refine mr_lk ?_ (by first | assumption | decide); first | assumption | exact mr_up_same _ _ _ | (refine mr_lk ?_ (by first | assumption | decide); first | assumption | exact mr_up_same _ _ _ | (refine mr_lk ?_ (by first | assumption | decide); first | assumption | exact mr_up_same _ _ _ | (refine mr_lk ?_ (by first | assumption | decide); first | assumption | exact mr_up_same _ _ _))))), h01, (by omega), (by omega), (fun r2 hr2 => ?_)⟩
  dsimp only [Option.toList_some, Option.toList_none, List.cons_append, List.nil_append]
  refine mr_iast dX7_keeps_54 (by first | assumption | exact mr_up_same _ _ _ | (refine mr_lk ?_ (by first | assumption | decide); first | assumption | exact mr_up_same _ _ _ | (refine mr_lk ?_ (by first | assumption | decide); first | assumption | exact mr_up_same _ _ _ | (refine mr_lk ?_ (by first | assumption | decide); first | assumption | exact mr_up_same _ _ _ | (refine mr_lk ?_ (by first | assumption | decide); first | assumption | exact mr_up_same _ _ _))))) (by omega) (by omega) (by decide) ?_
  refine mr_vret rfl dX7_keeps_55 ?_
  rw [mr_up_up, mr_up_up]
  exact hP r0 r1 r2 hr0 hr1 hr2
theorem mw_lays1 {w : mr_Wd} {th tp sz zo fr kd nb ft pl wd sm md li sd : Int} {T N R K Sn ik s1 s2 ls : Nat → Int} {Po : Option mr_AV → mr_Wd → Prop} {t M : Int} {W : Nat} {L : mr_V → Prop} (hM : mr_MW w th tp sz zo fr kd nb ft pl wd sm md li sd T N R K Sn ik s1 s2 ls) (hN0 : N 0 = M) (hM0 : 1 ≤ M ∧ M ≤ 30) (ht : 0 ≤ t ∧ t ≤ 3) (hF : mr_FN M W N t L) (k : ∀ (w' : mr_Wd) (st li' : Nat → Int) (n : Nat), mr_Lp M st li' n (mr_S M L) → mr_MW w' th tp sz zo fr kd nb ft pl wd sm md ((n : Int)) sd T N R K Sn ik (st) s2 (li') → mr_FM w w' → Po none w') : T_X7_laysSet [vR 18 0, vR 20 0, vI t, vR 25 0] w Po := by
  obtain ⟨h18, h19, h20, h21, h22, h23, h24, h25, h26, h27, hs1, hs2, hik⟩ := hM
  refine ⟨_, _, _, _, _, _, _, _, _, _, _, _, _, _, 25, 20, N, s1, ls, t, M, W, L, rfl, Or.inl rfl, Or.inl rfl, h18, h20, h25, h27, hN0, hM0, ht, hF, fun st li' n hp => k _ st li' n hp ⟨rfl, h19, h20, h21, h22, h23, h24, rfl, h26, rfl, hp.1, hs2, hik⟩ ((((mr_FM.rf w).up _ (by decide)).up _ (by decide)).up _ (by decide))⟩
theorem mw_lays1R {w : mr_Wd} {th tp sz zo fr kd nb ft pl wd sm md li sd : Int} {T N R K Sn ik s1 s2 ls : Nat → Int} {Po : Option mr_AV → mr_Wd → Prop} {t M : Int} {W : Nat} {L : mr_V → Prop} (hM : mr_MW w th tp sz zo fr kd nb ft pl wd sm md li sd T N R K Sn ik s1 s2 ls) (hN0 : R 0 = M) (hM0 : 1 ≤ M ∧ M ≤ 30) (ht : 0 ≤ t ∧ t ≤ 3) (hF : mr_FN M W R t L) (k : ∀ (w' : mr_Wd) (st li' : Nat → Int) (n : Nat), mr_Lp M st li' n (mr_S M L) → mr_MW w' th tp sz zo fr kd nb ft pl wd sm md ((n : Int)) sd T N R K Sn ik (st) s2 (li') → mr_FM w w' → Po none w') : T_X7_laysSet [vR 18 0, vR 21 0, vI t, vR 25 0] w Po := by
  obtain ⟨h18, h19, h20, h21, h22, h23, h24, h25, h26, h27, hs1, hs2, hik⟩ := hM
  refine ⟨_, _, _, _, _, _, _, _, _, _, _, _, _, _, 25, 21, R, s1, ls, t, M, W, L, rfl, Or.inl rfl, Or.inr rfl, h18, h21, h25, h27, hN0, hM0, ht, hF, fun st li' n hp => k _ st li' n hp ⟨rfl, h19, h20, h21, h22, h23, h24, rfl, h26, rfl, hp.1, hs2, hik⟩ ((((mr_FM.rf w).up _ (by decide)).up _ (by decide)).up _ (by decide))⟩
theorem mw_lays2 {w : mr_Wd} {th tp sz zo fr kd nb ft pl wd sm md li sd : Int} {T N R K Sn ik s1 s2 ls : Nat → Int} {Po : Option mr_AV → mr_Wd → Prop} {t M : Int} {W : Nat} {L : mr_V → Prop} (hM : mr_MW w th tp sz zo fr kd nb ft pl wd sm md li sd T N R K Sn ik s1 s2 ls) (hN0 : N 0 = M) (hM0 : 1 ≤ M ∧ M ≤ 30) (ht : 0 ≤ t ∧ t ≤ 3) (hF : mr_FN M W N t L) (k : ∀ (w' : mr_Wd) (st li' : Nat → Int) (n : Nat), mr_Lp M st li' n (mr_S M L) → mr_MW w' th tp sz zo fr kd nb ft pl wd sm md ((n : Int)) sd T N R K Sn ik s1 (st) (li') → mr_FM w w' → Po none w') : T_X7_laysSet [vR 18 0, vR 20 0, vI t, vR 26 0] w Po := by
  obtain ⟨h18, h19, h20, h21, h22, h23, h24, h25, h26, h27, hs1, hs2, hik⟩ := hM
  refine ⟨_, _, _, _, _, _, _, _, _, _, _, _, _, _, 26, 20, N, s2, ls, t, M, W, L, rfl, Or.inr rfl, Or.inl rfl, h18, h20, h26, h27, hN0, hM0, ht, hF, fun st li' n hp => k _ st li' n hp ⟨rfl, h19, h20, h21, h22, h23, h24, h25, rfl, rfl, hs1, hp.1, hik⟩ ((((mr_FM.rf w).up _ (by decide)).up _ (by decide)).up _ (by decide))⟩
theorem mw_adds {w : mr_Wd} {th tp sz zo fr kd nb ft pl wd sm md li sd : Int} {T N R K Sn ik s1 s2 ls : Nat → Int} {Po : Option mr_AV → mr_Wd → Prop} {v0 M : Int} {n : Nat} {L : mr_V → Prop} (hM : mr_MW w th tp sz zo fr kd nb ft pl wd sm md ((n : Int)) sd T N R K Sn ik s1 s2 ls) (hN0 : N 0 = M) (hM0 : 1 ≤ M ∧ M ≤ 30) (hv : 0 ≤ v0 ∧ v0 < M * M * M) (hL : mr_Li M L) (hp : mr_Lp M s1 ls n (mr_S M L)) (k : ∀ (w' : mr_Wd) (st li' : Nat → Int) (n' : Nat), mr_Lp M st li' n' (mr_S M (mr_LA L (mr_dec M v0))) → mr_MW w' th tp sz zo fr kd nb ft pl wd sm md ((n' : Int)) sd T N R K Sn ik (st) s2 (li') → mr_FM w w' → Po none w') : T_X7_adds [vR 18 0, vR 20 0, vR 25 0, vI v0] w Po := by
  obtain ⟨h18, h19, h20, h21, h22, h23, h24, h25, h26, h27, hs1, hs2, hik⟩ := hM
  refine ⟨_, _, _, _, _, _, _, _, _, _, _, _, _, 25, 20, N, s1, ls, n, M, v0, L, rfl, Or.inl rfl, Or.inl rfl, h18, h20, h25, h27, hN0, hM0, hv, hL, hp, fun st li' n' hp => k _ st li' n' hp ⟨rfl, h19, h20, h21, h22, h23, h24, rfl, h26, rfl, hp.1, hs2, hik⟩ ((((mr_FM.rf w).up _ (by decide)).up _ (by decide)).up _ (by decide))⟩
theorem mw_addsR {w : mr_Wd} {th tp sz zo fr kd nb ft pl wd sm md li sd : Int} {T N R K Sn ik s1 s2 ls : Nat → Int} {Po : Option mr_AV → mr_Wd → Prop} {v0 M : Int} {n : Nat} {L : mr_V → Prop} (hM : mr_MW w th tp sz zo fr kd nb ft pl wd sm md ((n : Int)) sd T N R K Sn ik s1 s2 ls) (hN0 : R 0 = M) (hM0 : 1 ≤ M ∧ M ≤ 30) (hv : 0 ≤ v0 ∧ v0 < M * M * M) (hL : mr_Li M L) (hp : mr_Lp M s1 ls n (mr_S M L)) (k : ∀ (w' : mr_Wd) (st li' : Nat → Int) (n' : Nat), mr_Lp M st li' n' (mr_S M (mr_LA L (mr_dec M v0))) → mr_MW w' th tp sz zo fr kd nb ft pl wd sm md ((n' : Int)) sd T N R K Sn ik (st) s2 (li') → mr_FM w w' → Po none w') : T_X7_adds [vR 18 0, vR 21 0, vR 25 0, vI v0] w Po := by
  obtain ⟨h18, h19, h20, h21, h22, h23, h24, h25, h26, h27, hs1, hs2, hik⟩ := hM
  refine ⟨_, _, _, _, _, _, _, _, _, _, _, _, _, 25, 21, R, s1, ls, n, M, v0, L, rfl, Or.inl rfl, Or.inr rfl, h18, h21, h25, h27, hN0, hM0, hv, hL, hp, fun st li' n' hp => k _ st li' n' hp ⟨rfl, h19, h20, h21, h22, h23, h24, rfl, h26, rfl, hp.1, hs2, hik⟩ ((((mr_FM.rf w).up _ (by decide)).up _ (by decide)).up _ (by decide))⟩
/-- the state with another form at a place -/
noncomputable def mr_kf (M : Int) (N : Nat → Int) (t : Int) (F : Nat → mr_V) : Nat → Int := mr_kp N t (mr_ec M (F 0)) (mr_ec M (F 1)) (mr_ec M (F 2))
theorem mw_keeps1 {w : mr_Wd} {th tp sz zo fr kd nb ft pl wd sm md li sd : Int} {T N R K Sn ik s1 s2 ls : Nat → Int} {Po : Option mr_AV → mr_Wd → Prop} {t M : Int} {W : Nat} {F : Nat → mr_V} {L : mr_V → Prop} (hM : mr_MW w th tp sz zo fr kd nb ft pl wd sm md li sd T N R K Sn ik s1 s2 ls) (hN0 : N 0 = M) (hM0 : 1 ≤ M ∧ M ≤ 30) (ht : 0 ≤ t ∧ t ≤ 3) (hF : mr_Fo M W F L) (hs : mr_St M s1 (mr_S M L)) (k : ∀ w' : mr_Wd, mr_MW w' th tp sz zo fr kd nb ft pl wd sm md li sd T (mr_kf M N t F) R K Sn ik s1 s2 ls → mr_FM w w' → Po none w') : T_X7_keeps [vR 20 0, vR 25 0, vI t] w Po := by
  obtain ⟨h18, h19, h20, h21, h22, h23, h24, h25, h26, h27, hs1, hs2, hik⟩ := hM
  refine ⟨25, 20, N, s1, t, M, rfl, Or.inl rfl, Or.inl rfl, h20, h25, hs1, hN0, hM0, ht, fun r0 r1 r2 g0 g1 g2 => ?_⟩
  rw [mr_kp_0 hM0.1 hF hs g0, mr_kp_1 hM0.1 hF hs g1, mr_kp_2 hM0.1 hF hs g2]
  exact k _ ⟨h18, h19, rfl, h21, h22, h23, h24, h25, h26, h27, hs1, hs2, hik⟩ ((mr_FM.rf w).up _ (by decide))
theorem mw_keeps2 {w : mr_Wd} {th tp sz zo fr kd nb ft pl wd sm md li sd : Int} {T N R K Sn ik s1 s2 ls : Nat → Int} {Po : Option mr_AV → mr_Wd → Prop} {t M : Int} {W : Nat} {F : Nat → mr_V} {L : mr_V → Prop} (hM : mr_MW w th tp sz zo fr kd nb ft pl wd sm md li sd T N R K Sn ik s1 s2 ls) (hN0 : N 0 = M) (hM0 : 1 ≤ M ∧ M ≤ 30) (ht : 0 ≤ t ∧ t ≤ 3) (hF : mr_Fo M W F L) (hs : mr_St M s2 (mr_S M L)) (k : ∀ w' : mr_Wd, mr_MW w' th tp sz zo fr kd nb ft pl wd sm md li sd T (mr_kf M N t F) R K Sn ik s1 s2 ls → mr_FM w w' → Po none w') : T_X7_keeps [vR 20 0, vR 26 0, vI t] w Po := by
  obtain ⟨h18, h19, h20, h21, h22, h23, h24, h25, h26, h27, hs1, hs2, hik⟩ := hM
  refine ⟨26, 20, N, s2, t, M, rfl, Or.inr rfl, Or.inl rfl, h20, h26, hs2, hN0, hM0, ht, fun r0 r1 r2 g0 g1 g2 => ?_⟩
  rw [mr_kp_0 hM0.1 hF hs g0, mr_kp_1 hM0.1 hF hs g1, mr_kp_2 hM0.1 hF hs g2]
  exact k _ ⟨h18, h19, rfl, h21, h22, h23, h24, h25, h26, h27, hs1, hs2, hik⟩ ((mr_FM.rf w).up _ (by decide))
theorem mw_keepsR {w : mr_Wd} {th tp sz zo fr kd nb ft pl wd sm md li sd : Int} {T N R K Sn ik s1 s2 ls : Nat → Int} {Po : Option mr_AV → mr_Wd → Prop} {t M : Int} {W : Nat} {F : Nat → mr_V} {L : mr_V → Prop} (hM : mr_MW w th tp sz zo fr kd nb ft pl wd sm md li sd T N R K Sn ik s1 s2 ls) (hN0 : R 0 = M) (hM0 : 1 ≤ M ∧ M ≤ 30) (ht : 0 ≤ t ∧ t ≤ 3) (hF : mr_Fo M W F L) (hs : mr_St M s1 (mr_S M L)) (k : ∀ w' : mr_Wd, mr_MW w' th tp sz zo fr kd nb ft pl wd sm md li sd T N (mr_kf M R t F) K Sn ik s1 s2 ls → mr_FM w w' → Po none w') : T_X7_keeps [vR 21 0, vR 25 0, vI t] w Po := by
  obtain ⟨h18, h19, h20, h21, h22, h23, h24, h25, h26, h27, hs1, hs2, hik⟩ := hM
  refine ⟨25, 21, R, s1, t, M, rfl, Or.inl rfl, Or.inr rfl, h21, h25, hs1, hN0, hM0, ht, fun r0 r1 r2 g0 g1 g2 => ?_⟩
  rw [mr_kp_0 hM0.1 hF hs g0, mr_kp_1 hM0.1 hF hs g1, mr_kp_2 hM0.1 hF hs g2]
  exact k _ ⟨h18, h19, h20, rfl, h22, h23, h24, h25, h26, h27, hs1, hs2, hik⟩ ((mr_FM.rf w).up _ (by decide))
theorem mr_kf_at {M : Int} {N : Nat → Int} {t : Int} {F : Nat → mr_V} (ht : 0 ≤ t ∧ t ≤ 3) : (∀ p c : Int, 0 ≤ p → p ≤ 3 → 0 ≤ c → c < 3 → mr_nf (mr_kf M N t F) p c = if p = t then mr_ec M (F c.toNat) else mr_nf N p c) ∧ (∀ j : Nat, j < 2 ∨ 14 ≤ j → mr_kf M N t F j = N j) := by
  refine ⟨fun p c hp1 hp2 hc1 hc2 => ?_, fun j hj => ?_⟩
  · unfold mr_nf mr_kf mr_kp
    by_cases e : p = t
    · subst e
      rw [if_pos rfl]
      rcases (show c = 0 ∨ c = 1 ∨ c = 2 by omega) with rfl | rfl | rfl
      · rw [mr_fs_ne _ _ (by omega), mr_fs_ne _ _ (by omega), show (2 + 3 * p + 0).toNat = (2 + 3 * p).toNat by omega, mr_fs_same]; rfl
      · rw [mr_fs_ne _ _ (by omega), mr_fs_same]; rfl
      · rw [mr_fs_same]; rfl
    · rw [if_neg e, mr_fs_ne _ _ (by omega), mr_fs_ne _ _ (by omega), mr_fs_ne _ _ (by omega)]
  · unfold mr_kf mr_kp
    rw [mr_fs_ne _ _ (by omega), mr_fs_ne _ _ (by omega), mr_fs_ne _ _ (by omega)]
theorem mr_Fo_Fcg {M : Int} {w : Nat} {F F' : Nat → mr_V} {L : mr_V → Prop} (h : mr_Fo M w F L) (e : ∀ c j, c < 3 → j < 3 → F' c j = F c j) : mr_Fo M w F' L := by
  obtain ⟨h1, h2, h3, h4, h5⟩ := h
  have eh : ∀ c j, c < 3 → j < 3 → mr_hat M F' c j = mr_hat M F c j := fun c j hc hj => by
    unfold mr_hat
    rw [e c c hc hc]
    split
    · exact e c j hc hj
    · rfl
  refine ⟨h1, h2, h3, fun c hc => ?_, fun c hc => ?_⟩
  · obtain ⟨a1, a2, a3, a4, a5⟩ := h4 c hc
    refine ⟨h1.1 _ _ (fun j hj => (eh c j hc hj).symm) a1, fun j hj => by rw [eh c j hc (by omega)]; exact a2 j hj, by rw [eh c c hc hc]; exact a3, fun x hx hz => by rw [eh c c hc hc]; exact a4 x hx hz, fun j g1 g2 => by rw [eh c j hc g2, eh j j g2 g2]; exact a5 j g1 g2⟩
  · obtain ⟨a1, a2, a3⟩ := h5 c hc
    exact ⟨fun j hj => by rw [e c j hc hj]; exact a1 j hj, fun j hj => by rw [e c j hc (by omega)]; exact a2 j hj, fun z j hj => by rw [e c j hc hj]; rw [e c c hc hc] at z; exact a3 z j hj⟩
theorem mr_FN_of {M : Int} (hM : 0 < M) {W : Nat} {F : Nat → mr_V} {L : mr_V → Prop} {N : Nat → Int} {t : Int} (h : mr_Fo M W F L) (e : ∀ c : Int, 0 ≤ c → c < 3 → mr_nf N t c = mr_ec M (F c.toNat)) : mr_FN M W N t L := by
  refine ⟨mr_Fo_Fcg h (fun c j hc hj => ?_), fun j h1 h2 => by rw [e j h1 h2]; exact mr_ec_bd hM _⟩
  show mr_dec M (mr_nf N t c) j = F c j
  rw [e c (by omega) (by omega), Int.toNat_natCast]
  exact mr_dec_ec_box hM (mr_Fo_box h hc) j hj
