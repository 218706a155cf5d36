def T_X7_readModulo (a : List mr_AV) (w : mr_Wd) (Po : Option mr_AV → mr_Wd → Prop) : Prop := ∃ (th tp sz zo fr kd nb ft pl wd sm md li sd : Int) (T N R K Sn ik s1 s2 ls : Nat → Int) (g f nm : Nat → Int) (C : mr_Ct9) (sl ln n v : Int), a = [vR 18 0] ∧ mr_MW w th tp sz zo fr kd nb ft pl wd sm md li sd T N R K Sn ik s1 s2 ls ∧ (0 ≤ sz ∧ sz ≤ 540) ∧ (∀ j : Nat, (j : Int) < sz → T j = mr_ba sz g j) ∧ (0 ≤ n ∧ n ≤ sz) ∧ mr_Tok sz g n fr kd nb wd zo ∧ mr_at sz g C n 0 sl ln md f nm v ∧ (0 ≤ md ∧ md ≤ 4) ∧ ln = 0 ∧ mr_isw sz g (mr_tK sz g n) (mr_tS sz g n) (mr_tX sz g n) 0 ∧ (∀ j : Nat, j < 21 → R j = 0) ∧ (∀ (w' : mr_Wd) (zo' fr' kd' nb' wd' md' li' a b : Int) (R' s1' ls' : Nat → Int), C = .inl (a, b) → (-1000000 ≤ nb' ∧ nb' ≤ 1000000) → InL wd' → mr_MW w' th tp sz (zo') (fr') (kd') (nb') (a) (b) (wd') sm (md') (li') sd T N (R') K Sn ik (s1') s2 (ls') → mr_FM w w' → Po (some (vI 0)) w') ∧ (∀ (w' : mr_Wd) (zo' fr' kd' nb' wd' md' li' n' : Int) (R' s1' ls' : Nat → Int), (n < n' ∧ n' ≤ sz) → mr_Tok sz g n' fr' kd' nb' wd' zo' → mr_RL sz g C ln md f R' md' n' → mr_MW w' th tp sz (zo') (fr') (kd') (nb') ft pl (wd') sm (md') (li') sd T N (R') K Sn ik (s1') s2 (ls') → mr_FM w w' → Po (some (vI 1)) w')
set_option maxHeartbeats 4000000 in
set_option maxRecDepth 20000 in
theorem ok_X7_readModulo (l : Launch) (G : mr_G) : mr_Ok l G yX7_readModulo cX7_readModulo 2 (some .boolean) 2 45 T_X7_readModulo := by
  refine mr_Ok.of (by decide +kernel) ?_
  rintro a w Po ⟨th, tp, sz, zo, fr, kd, nb, ft, pl, wd, sm, md, li, sd, T, N, R, K, Sn, ik, s1, s2, ls, g, f, nm, C, sl, ln, n, v, rfl, hM, hsz, hT, hn, hTk, hat, hmd, hln, hw, hRz, hB, hG⟩
  refine ⟨Nat.le_of_ble_eq_true rfl, ?_⟩
  show mr_J l G RX7 cX7_readModulo 2 (some .boolean) 2 45 Po 0 [some (vR 18 0), none] [] w
  obtain ⟨h18, h19, h20, h21, h22, h23, h24, h25, h26, h27, hs1, hs2, hik⟩ := id hM
  have hkb := mr_kdR hsz hn hTk
  have hK2 := hw.1
  refine mr_aload_n dX7_readModulo_0 rfl ?_
  refine mr_callV (as := []) dX7_readModulo_1 (ok_X7_next l G) ml_X7_114 cl_X7_next cv_X7_next (by decide) rfl rfl (Nat.le_of_ble_eq_true rfl) (by first | assumption | exact mr_up_same _ _ _ | (refine mr_lk ?_ (by first | assumption | decide); first | assumption | exact mr_up_same _ _ _ | (refine mr_lk ?_ (by first | assumption | decide); first | assumption | exact mr_up_same _ _ _ | (refine mr_lk ?_ (by first | assumption | decide); first | assumption | exact mr_up_same _ _ _ | (refine mr_lk ?_ (by first | assumption | decide); first | assumption | exact mr_up_same _ _ _))))) ?_
  have hat2 := mr_at_go hsz hn hat (by omega) (by omega) ((mr_tt_l0 hln).1 hw)
  have ez : zo = mr_tX sz g n := hTk.2.2.1 (by omega)
  have hlt := (mr_tk_bd (g := g) hsz hn).2.2.2.1 (by omega)
  rw [← ez] at hat2
  refine ⟨_, _, _, _, _, _, _, _, _, _, _, _, _, _, _, _, _, _, _, _, _, _, _, g, rfl, hM, hsz, hT, hTk.2.2.2.2.2.2.2, hTk.2.2.2.2.2.2.1, hTk.2.2.2.2.2.1, (fun w1 zo1 fr1 kd1 nb1 wd1 hTk1 hM1 hF1 => ?_)⟩
  obtain ⟨h18, h19, h20, h21, h22, h23, h24, h25, h26, h27, hs1, hs2, hik⟩ := id hM1
  have kb1 := mr_kdR hsz hTk.2.2.2.2.2.2.2 hTk1
  have hsl0 : (0 : Int) < mr_due 1 f ∨ ((1 : Int) = 4 ∧ (0 : Int) = mr_due 1 f + 1) := Or.inl (by unfold mr_due; rw [if_pos rfl]; decide)
  have hsl1 : (0 + 1 : Int) < mr_due 1 f ∨ ((1 : Int) = 4 ∧ (0 + 1 : Int) = mr_due 1 f + 1) := Or.inl (by unfold mr_due; rw [if_pos rfl]; decide)
  dsimp only [Option.toList_some, Option.toList_none, List.cons_append, List.nil_append]
  refine mr_aload_n dX7_readModulo_4 rfl ?_
  refine mr_get dX7_readModulo_5 fl_X7_27 (by first | assumption | exact mr_up_same _ _ _ | (refine mr_lk ?_ (by first | assumption | decide); first | assumption | exact mr_up_same _ _ _ | (refine mr_lk ?_ (by first | assumption | decide); first | assumption | exact mr_up_same _ _ _ | (refine mr_lk ?_ (by first | assumption | decide); first | assumption | exact mr_up_same _ _ _ | (refine mr_lk ?_ (by first | assumption | decide); first | assumption | exact mr_up_same _ _ _))))) rfl ?_
  refine mr_iconst dX7_readModulo_8 ?_
  refine mr_icmp_eq (tgt := 18) dX7_readModulo_9 (by decide) ⟨by omega, by omega⟩ (by decide) (fun hc_9 => ?_) (fun hc_9 => ?_)
  · refine mr_aload_n dX7_readModulo_18 rfl ?_
    refine mr_get dX7_readModulo_19 fl_X7_41 (by first | assumption | exact mr_up_same _ _ _ | (refine mr_lk ?_ (by first | assumption | decide); first | assumption | exact mr_up_same _ _ _ | (refine mr_lk ?_ (by first | assumption | decide); first | assumption | exact mr_up_same _ _ _ | (refine mr_lk ?_ (by first | assumption | decide); first | assumption | exact mr_up_same _ _ _ | (refine mr_lk ?_ (by first | assumption | decide); first | assumption | exact mr_up_same _ _ _))))) rfl ?_
    refine mr_iconst dX7_readModulo_22 ?_
    refine mr_bipush dX7_readModulo_23 rfl ?_
    refine mr_callS (as := [_, _, _]) dX7_readModulo_25 (ok_X7_isIn l G) ml_X7_117 cl_X7_isIn cs_X7_isIn (by decide) rfl rfl (Nat.le_of_ble_eq_true rfl) ?_
    have hK3_1 : mr_tK sz g zo = 3 := kb1.2.2.1.mp (by first | exact hc_9 | exact hc_51)
    have hvv_1 : ∀ q : Int, mr_vv sz g zo q = nb1 := fun q => by unfold mr_vv; rw [if_pos hK3_1]; exact (hTk1.2.2.2.1 hK3_1).symm
    refine ⟨_, _, _, rfl, ⟨by have := hTk1.2.2.2.2.2.2.1; omega, by have := hTk1.2.2.2.2.2.2.1; omega⟩, (by decide), (by decide), ?_, ?_⟩
    · intro q1
      dsimp only [Option.toList_some, Option.toList_none, List.cons_append, List.nil_append]
      refine mr_if_ne (tgt := 37) dX7_readModulo_28 (by decide) (by omega) (fun _ => ?_) (fun h => absurd h (by decide))
      refine mr_aload_n dX7_readModulo_37 rfl ?_
      refine mr_get dX7_readModulo_38 fl_X7_41 (by first | assumption | exact mr_up_same _ _ _ | (refine mr_lk ?_ (by first | assumption | decide); first | assumption | exact mr_up_same _ _ _ | (refine mr_lk ?_ (by first | assumption | decide); first | assumption | exact mr_up_same _ _ _ | (refine mr_lk ?_ (by first | assumption | decide); first | assumption | exact mr_up_same _ _ _ | (refine mr_lk ?_ (by first | assumption | decide); first | assumption | exact mr_up_same _ _ _))))) rfl ?_
      refine mr_istore_n dX7_readModulo_41 rfl (by decide) ?_
      refine mr_aload_n dX7_readModulo_42 rfl ?_
      refine mr_callV (as := []) dX7_readModulo_43 (ok_X7_next l G) ml_X7_114 cl_X7_next cv_X7_next (by decide) rfl rfl (Nat.le_of_ble_eq_true rfl) (by first | assumption | exact mr_up_same _ _ _ | (refine mr_lk ?_ (by first | assumption | decide); first | assumption | exact mr_up_same _ _ _ | (refine mr_lk ?_ (by first | assumption | decide); first | assumption | exact mr_up_same _ _ _ | (refine mr_lk ?_ (by first | assumption | decide); first | assumption | exact mr_up_same _ _ _ | (refine mr_lk ?_ (by first | assumption | decide); first | assumption | exact mr_up_same _ _ _))))) ?_
      have hat3 := mr_at_go hsz hTk.2.2.2.2.2.2.2 hat2 (by omega) (by omega) ((mr_tt_num (by decide) hsl0).2.2 hK3_1 (by rw [hvv_1]; unfold mr_lst2 mr_mst2; rw [if_pos rfl, if_pos rfl, if_pos rfl, if_pos rfl]; omega))
      have ez1 : zo1 = mr_tX sz g zo := hTk1.2.2.1 (by omega)
      have hlt1 := (mr_tk_bd (g := g) hsz hTk.2.2.2.2.2.2.2).2.2.2.1 (by omega)
      rw [← ez1, hvv_1] at hat3
      refine ⟨_, _, _, _, _, _, _, _, _, _, _, _, _, _, _, _, _, _, _, _, _, _, _, g, rfl, hM1, hsz, hT, hTk1.2.2.2.2.2.2.2, hTk1.2.2.2.2.2.2.1, hTk1.2.2.2.2.2.1, (fun w2 zo2 fr2 kd2 nb2 wd2 hTk2 hM2 hF2 => ?_)⟩
      obtain ⟨h18, h19, h20, h21, h22, h23, h24, h25, h26, h27, hs1, hs2, hik⟩ := id hM2
      have kb2 := mr_kdR hsz hTk1.2.2.2.2.2.2.2 hTk2
      dsimp only [Option.toList_some, Option.toList_none, List.cons_append, List.nil_append]
      refine mr_aload_n dX7_readModulo_46 rfl ?_
      refine mr_get dX7_readModulo_47 fl_X7_27 (by first | assumption | exact mr_up_same _ _ _ | (refine mr_lk ?_ (by first | assumption | decide); first | assumption | exact mr_up_same _ _ _ | (refine mr_lk ?_ (by first | assumption | decide); first | assumption | exact mr_up_same _ _ _ | (refine mr_lk ?_ (by first | assumption | decide); first | assumption | exact mr_up_same _ _ _ | (refine mr_lk ?_ (by first | assumption | decide); first | assumption | exact mr_up_same _ _ _))))) rfl ?_
      refine mr_iconst dX7_readModulo_50 ?_
      refine mr_icmp_eq (tgt := 60) dX7_readModulo_51 (by decide) ⟨by omega, by omega⟩ (by decide) (fun hc_51 => ?_) (fun hc_51 => ?_)
      · refine mr_aload_n dX7_readModulo_60 rfl ?_
        refine mr_get dX7_readModulo_61 fl_X7_41 (by first | assumption | exact mr_up_same _ _ _ | (refine mr_lk ?_ (by first | assumption | decide); first | assumption | exact mr_up_same _ _ _ | (refine mr_lk ?_ (by first | assumption | decide); first | assumption | exact mr_up_same _ _ _ | (refine mr_lk ?_ (by first | assumption | decide); first | assumption | exact mr_up_same _ _ _ | (refine mr_lk ?_ (by first | assumption | decide); first | assumption | exact mr_up_same _ _ _))))) rfl ?_
        refine mr_iconst dX7_readModulo_64 ?_
        refine mr_iconst dX7_readModulo_65 ?_
        refine mr_callS (as := [_, _, _]) dX7_readModulo_66 (ok_X7_isIn l G) ml_X7_117 cl_X7_isIn cs_X7_isIn (by decide) rfl rfl (Nat.le_of_ble_eq_true rfl) ?_
        have hc_51 := hc_51
        have hK3_2 : mr_tK sz g zo1 = 3 := kb2.2.2.1.mp (by first | exact hc_9 | exact hc_51)
        have hvv_2 : ∀ q : Int, mr_vv sz g zo1 q = nb2 := fun q => by unfold mr_vv; rw [if_pos hK3_2]; exact (hTk2.2.2.2.1 hK3_2).symm
        refine ⟨_, _, _, rfl, ⟨by have := hTk2.2.2.2.2.2.2.1; omega, by have := hTk2.2.2.2.2.2.2.1; omega⟩, (by decide), (by decide), ?_, ?_⟩
        · intro q2
          dsimp only [Option.toList_some, Option.toList_none, List.cons_append, List.nil_append]
          refine mr_if_ne (tgt := 78) dX7_readModulo_69 (by decide) (by omega) (fun _ => ?_) (fun h => absurd h (by decide))
          refine mr_aload_n dX7_readModulo_78 rfl ?_
          refine mr_get dX7_readModulo_79 fl_X7_89 (by first | assumption | exact mr_up_same _ _ _ | (refine mr_lk ?_ (by first | assumption | decide); first | assumption | exact mr_up_same _ _ _ | (refine mr_lk ?_ (by first | assumption | decide); first | assumption | exact mr_up_same _ _ _ | (refine mr_lk ?_ (by first | assumption | decide); first | assumption | exact mr_up_same _ _ _ | (refine mr_lk ?_ (by first | assumption | decide); first | assumption | exact mr_up_same _ _ _))))) rfl ?_
          refine mr_iconst dX7_readModulo_82 ?_
          refine mr_iload_n dX7_readModulo_83 rfl ?_
          refine mr_iast dX7_readModulo_84 (by first | assumption | exact mr_up_same _ _ _ | (refine mr_lk ?_ (by first | assumption | decide); first | assumption | exact mr_up_same _ _ _ | (refine mr_lk ?_ (by first | assumption | decide); first | assumption | exact mr_up_same _ _ _ | (refine mr_lk ?_ (by first | assumption | decide); first | assumption | exact mr_up_same _ _ _ | (refine mr_lk ?_ (by first | assumption | decide); first | assumption | exact mr_up_same _ _ _))))) (by omega) (by omega) (by decide) ?_
          refine mw_a21 hM2 (fun w3 hM3 hF3 => ?_)
          obtain ⟨h18, h19, h20, h21, h22, h23, h24, h25, h26, h27, hs1, hs2, hik⟩ := id hM3
          refine mr_aload_n dX7_readModulo_85 rfl ?_
          refine mr_get dX7_readModulo_86 fl_X7_89 (by first | assumption | exact mr_up_same _ _ _ | (refine mr_lk ?_ (by first | assumption | decide); first | assumption | exact mr_up_same _ _ _ | (refine mr_lk ?_ (by first | assumption | decide); first | assumption | exact mr_up_same _ _ _ | (refine mr_lk ?_ (by first | assumption | decide); first | assumption | exact mr_up_same _ _ _ | (refine mr_lk ?_ (by first | assumption | decide); first | assumption | exact mr_up_same _ _ _))))) rfl ?_
          refine mr_iconst dX7_readModulo_89 ?_
          refine mr_aload_n dX7_readModulo_90 rfl ?_
          refine mr_get dX7_readModulo_91 fl_X7_41 (by first | assumption | exact mr_up_same _ _ _ | (refine mr_lk ?_ (by first | assumption | decide); first | assumption | exact mr_up_same _ _ _ | (refine mr_lk ?_ (by first | assumption | decide); first | assumption | exact mr_up_same _ _ _ | (refine mr_lk ?_ (by first | assumption | decide); first | assumption | exact mr_up_same _ _ _ | (refine mr_lk ?_ (by first | assumption | decide); first | assumption | exact mr_up_same _ _ _))))) rfl ?_
          refine mr_iast dX7_readModulo_94 (by first | assumption | exact mr_up_same _ _ _ | (refine mr_lk ?_ (by first | assumption | decide); first | assumption | exact mr_up_same _ _ _ | (refine mr_lk ?_ (by first | assumption | decide); first | assumption | exact mr_up_same _ _ _ | (refine mr_lk ?_ (by first | assumption | decide); first | assumption | exact mr_up_same _ _ _ | (refine mr_lk ?_ (by first | assumption | decide); first | assumption | exact mr_up_same _ _ _))))) (by omega) (by omega) (by decide) ?_
          refine mw_a21 hM3 (fun w4 hM4 hF4 => ?_)
          obtain ⟨h18, h19, h20, h21, h22, h23, h24, h25, h26, h27, hs1, hs2, hik⟩ := id hM4
          refine mr_aload_n dX7_readModulo_95 rfl ?_
          refine mr_callV (as := []) dX7_readModulo_96 (ok_X7_next l G) ml_X7_114 cl_X7_next cv_X7_next (by decide) rfl rfl (Nat.le_of_ble_eq_true rfl) (by first | assumption | exact mr_up_same _ _ _ | (refine mr_lk ?_ (by first | assumption | decide); first | assumption | exact mr_up_same _ _ _ | (refine mr_lk ?_ (by first | assumption | decide); first | assumption | exact mr_up_same _ _ _ | (refine mr_lk ?_ (by first | assumption | decide); first | assumption | exact mr_up_same _ _ _ | (refine mr_lk ?_ (by first | assumption | decide); first | assumption | exact mr_up_same _ _ _))))) ?_
          have hat4 := mr_at_go hsz hTk1.2.2.2.2.2.2.2 hat3 (by omega) (by omega) ((mr_tt_num (by decide) hsl1).2.2 hK3_2 (by rw [hvv_2]; unfold mr_lst2 mr_mst2; rw [if_pos rfl, if_pos rfl, if_neg (by decide), if_neg (by decide)]; omega))
          have ez2 : zo2 = mr_tX sz g zo1 := hTk2.2.2.1 (by omega)
          have hlt2 := (mr_tk_bd (g := g) hsz hTk1.2.2.2.2.2.2.2).2.2.2.1 (by omega)
          rw [← ez2, hvv_2] at hat4
          refine ⟨_, _, _, _, _, _, _, _, _, _, _, _, _, _, _, _, _, _, _, _, _, _, _, g, rfl, hM4, hsz, hT, hTk2.2.2.2.2.2.2.2, hTk2.2.2.2.2.2.2.1, hTk2.2.2.2.2.2.1, (fun w5 zo5 fr5 kd5 nb5 wd5 hTk5 hM5 hF5 => ?_)⟩
          obtain ⟨h18, h19, h20, h21, h22, h23, h24, h25, h26, h27, hs1, hs2, hik⟩ := id hM5
          have kb5 := mr_kdR hsz hTk2.2.2.2.2.2.2.2 hTk5
          dsimp only [Option.toList_some, Option.toList_none, List.cons_append, List.nil_append]
          refine mr_iconst dX7_readModulo_99 ?_
          refine mr_zret rfl (Or.inr rfl) dX7_readModulo_100 ?_
          have hn1 : mr_nset 1 0 f (fun _ => 0) nb1 = mr_fs (fun _ => 0) 0 nb1 := by unfold mr_nset mr_due; rw [if_pos ⟨by decide, by rw [if_pos rfl]; decide, by decide⟩]; rfl
          have hn2 : mr_nset 1 (0 + 1) f (mr_fs (fun _ => 0) 0 nb1) nb2 = mr_fs (mr_fs (fun _ => 0) 0 nb1) 1 nb2 := by unfold mr_nset mr_due; rw [if_pos ⟨by decide, by rw [if_pos rfl]; decide, by decide⟩]; rfl
          rw [hn1, hn2] at hat4
          have hok := mr_anew_ok (m := nb1) (x := nb2) q1 q2 (R' := mr_fs (mr_fs R 0 nb1) 1 nb2) hRz rfl rfl (fun j g1 g2 => by rw [mr_fs_ne _ _ (by omega), mr_fs_ne _ _ (by omega)])
          exact hG w5 _ _ _ _ _ _ _ zo2 _ _ _ ⟨by omega, hTk2.2.2.2.2.2.2.2.2⟩ hTk5 ⟨1, _, _, _, hat4, by decide, by unfold mr_due; rw [if_pos rfl]; omega, by omega, rfl, hmd, _, _, _, hok.1, hok.2⟩ hM5 (hF1.tr (hF2.tr (hF3.tr (hF4.tr hF5))))
        · intro q2
          dsimp only [Option.toList_some, Option.toList_none, List.cons_append, List.nil_append]
          refine mr_if_ne (tgt := 78) dX7_readModulo_69 (by decide) (by omega) (fun h => absurd h (by decide)) (fun _ => ?_)
          refine mr_aload_n dX7_readModulo_72 rfl ?_
          refine mr_iconst dX7_readModulo_73 ?_
          refine mr_callV (as := [_]) dX7_readModulo_74 (ok_X7_bad l G) ml_X7_111 cl_X7_bad cv_X7_bad (by decide) rfl rfl (Nat.le_of_ble_eq_true rfl) (by first | assumption | exact mr_up_same _ _ _ | (refine mr_lk ?_ (by first | assumption | decide); first | assumption | exact mr_up_same _ _ _ | (refine mr_lk ?_ (by first | assumption | decide); first | assumption | exact mr_up_same _ _ _ | (refine mr_lk ?_ (by first | assumption | decide); first | assumption | exact mr_up_same _ _ _ | (refine mr_lk ?_ (by first | assumption | decide); first | assumption | exact mr_up_same _ _ _))))) ?_
          refine ⟨_, _, _, _, _, _, _, _, _, _, _, _, _, _, _, _, _, _, _, _, _, _, _, _, rfl, hM2, ⟨by omega, by omega⟩, (fun w6 hM6 hF6 => ?_)⟩
          dsimp only [Option.toList_some, Option.toList_none, List.cons_append, List.nil_append]
          refine mr_zret rfl (Or.inl rfl) dX7_readModulo_77 ?_
          have h9 := hM6
          rw [if_neg (by omega), hTk2.1] at h9
          exact hB w6 _ _ _ _ _ _ _ 2 _ _ _ _ (mr_at_bad hTk1.2.2.2.2.2.2.2 hat3 (fun z => by omega) ((mr_tt_num (by decide) hsl1).2.1 hK3_2 (by rw [hvv_2]; unfold mr_lst2 mr_mst2; rw [if_pos rfl, if_pos rfl, if_neg (by decide), if_neg (by decide)]; omega))) hTk2.2.2.2.2.2.2.1 hTk2.2.2.2.2.2.1 h9 (hF1.tr (hF2.tr hF6))
      · refine mr_aload_n dX7_readModulo_54 rfl ?_
        refine mr_iconst dX7_readModulo_55 ?_
        refine mr_callV (as := [_]) dX7_readModulo_56 (ok_X7_bad l G) ml_X7_111 cl_X7_bad cv_X7_bad (by decide) rfl rfl (Nat.le_of_ble_eq_true rfl) (by first | assumption | exact mr_up_same _ _ _ | (refine mr_lk ?_ (by first | assumption | decide); first | assumption | exact mr_up_same _ _ _ | (refine mr_lk ?_ (by first | assumption | decide); first | assumption | exact mr_up_same _ _ _ | (refine mr_lk ?_ (by first | assumption | decide); first | assumption | exact mr_up_same _ _ _ | (refine mr_lk ?_ (by first | assumption | decide); first | assumption | exact mr_up_same _ _ _))))) ?_
        refine ⟨_, _, _, _, _, _, _, _, _, _, _, _, _, _, _, _, _, _, _, _, _, _, _, _, rfl, hM2, ⟨by omega, by omega⟩, (fun w7 hM7 hF7 => ?_)⟩
        dsimp only [Option.toList_some, Option.toList_none, List.cons_append, List.nil_append]
        refine mr_zret rfl (Or.inl rfl) dX7_readModulo_59 ?_
        have h9 := hM7
        rw [mr_if1, hTk2.1] at h9
        exact hB w7 _ _ _ _ _ _ _ 1 _ _ _ _ (mr_at_bad hTk1.2.2.2.2.2.2.2 hat3 (fun z => by omega) ((mr_tt_num (by decide) hsl1).1 (fun z => hc_51 (kb2.2.2.1.mpr z)))) hTk2.2.2.2.2.2.2.1 hTk2.2.2.2.2.2.1 h9 (hF1.tr (hF2.tr hF7))
    · intro q1
      dsimp only [Option.toList_some, Option.toList_none, List.cons_append, List.nil_append]
      refine mr_if_ne (tgt := 37) dX7_readModulo_28 (by decide) (by omega) (fun h => absurd h (by decide)) (fun _ => ?_)
      refine mr_aload_n dX7_readModulo_31 rfl ?_
      refine mr_iconst dX7_readModulo_32 ?_
      refine mr_callV (as := [_]) dX7_readModulo_33 (ok_X7_bad l G) ml_X7_111 cl_X7_bad cv_X7_bad (by decide) rfl rfl (Nat.le_of_ble_eq_true rfl) (by first | assumption | exact mr_up_same _ _ _ | (refine mr_lk ?_ (by first | assumption | decide); first | assumption | exact mr_up_same _ _ _ | (refine mr_lk ?_ (by first | assumption | decide); first | assumption | exact mr_up_same _ _ _ | (refine mr_lk ?_ (by first | assumption | decide); first | assumption | exact mr_up_same _ _ _ | (refine mr_lk ?_ (by first | assumption | decide); first | assumption | exact mr_up_same _ _ _))))) ?_
      refine ⟨_, _, _, _, _, _, _, _, _, _, _, _, _, _, _, _, _, _, _, _, _, _, _, _, rfl, hM1, ⟨by omega, by omega⟩, (fun w8 hM8 hF8 => ?_)⟩
      dsimp only [Option.toList_some, Option.toList_none, List.cons_append, List.nil_append]
      refine mr_zret rfl (Or.inl rfl) dX7_readModulo_36 ?_
      have h9 := hM8
      rw [if_neg (by omega), hTk1.1] at h9
      exact hB w8 _ _ _ _ _ _ _ 2 _ _ _ _ (mr_at_bad hTk.2.2.2.2.2.2.2 hat2 (fun z => by omega) ((mr_tt_num (by decide) hsl0).2.1 hK3_1 (by rw [hvv_1]; unfold mr_lst2 mr_mst2; rw [if_pos rfl, if_pos rfl, if_pos rfl, if_pos rfl]; omega))) hTk1.2.2.2.2.2.2.1 hTk1.2.2.2.2.2.1 h9 (hF1.tr hF8)
  · refine mr_aload_n dX7_readModulo_12 rfl ?_
    refine mr_iconst dX7_readModulo_13 ?_
    refine mr_callV (as := [_]) dX7_readModulo_14 (ok_X7_bad l G) ml_X7_111 cl_X7_bad cv_X7_bad (by decide) rfl rfl (Nat.le_of_ble_eq_true rfl) (by first | assumption | exact mr_up_same _ _ _ | (refine mr_lk ?_ (by first | assumption | decide); first | assumption | exact mr_up_same _ _ _ | (refine mr_lk ?_ (by first | assumption | decide); first | assumption | exact mr_up_same _ _ _ | (refine mr_lk ?_ (by first | assumption | decide); first | assumption | exact mr_up_same _ _ _ | (refine mr_lk ?_ (by first | assumption | decide); first | assumption | exact mr_up_same _ _ _))))) ?_
    refine ⟨_, _, _, _, _, _, _, _, _, _, _, _, _, _, _, _, _, _, _, _, _, _, _, _, rfl, hM1, ⟨by omega, by omega⟩, (fun w9 hM9 hF9 => ?_)⟩
    dsimp only [Option.toList_some, Option.toList_none, List.cons_append, List.nil_append]
    refine mr_zret rfl (Or.inl rfl) dX7_readModulo_17 ?_
    have h9 := hM9
    rw [mr_if1, hTk1.1] at h9
    exact hB w9 _ _ _ _ _ _ _ 1 _ _ _ _ (mr_at_bad hTk.2.2.2.2.2.2.2 hat2 (fun z => by omega) ((mr_tt_num (by decide) hsl0).1 (fun z => hc_9 (kb1.2.2.1.mpr z)))) hTk1.2.2.2.2.2.2.1 hTk1.2.2.2.2.2.1 h9 (hF1.tr hF9)
def T_X7_readEquation (a : List mr_AV) (w : mr_Wd) (Po : Option mr_AV → mr_Wd → Prop) : Prop := ∃ (th tp sz zo fr kd nb ft pl wd sm md li sd : Int) (T N R K Sn ik s1 s2 ls : Nat → Int) (g f nm : Nat → Int) (C : mr_Ct9) (sl ln n v : Int), a = [vR 18 0] ∧ mr_MW w th tp sz zo fr kd nb ft pl wd sm md li sd T N R K Sn ik s1 s2 ls ∧ (0 ≤ sz ∧ sz ≤ 540) ∧ (∀ j : Nat, (j : Int) < sz → T j = mr_ba sz g j) ∧ (0 ≤ n ∧ n ≤ sz) ∧ mr_Tok sz g n fr kd nb wd zo ∧ mr_at sz g C n 0 sl ln md f nm v ∧ (0 ≤ md ∧ md ≤ 4) ∧ ln ≠ 0 ∧ ¬ mr_isw sz g (mr_tK sz g n) (mr_tS sz g n) (mr_tX sz g n) 1 ∧ ¬ mr_isw sz g (mr_tK sz g n) (mr_tS sz g n) (mr_tX sz g n) 2 ∧ mr_isw sz g (mr_tK sz g n) (mr_tS sz g n) (mr_tX sz g n) 3 ∧ (∃ (M : Int) (W : Nat) (L : Int → mr_V → Prop), mr_WB f M W L ∧ mr_Cq f R) ∧ (∀ (w' : mr_Wd) (zo' fr' kd' nb' wd' md' li' a b : Int) (R' s1' ls' : Nat → Int), C = .inl (a, b) → (-1000000 ≤ nb' ∧ nb' ≤ 1000000) → InL wd' → mr_MW w' th tp sz (zo') (fr') (kd') (nb') (a) (b) (wd') sm (md') (li') sd T N (R') K Sn ik (s1') s2 (ls') → mr_FM w w' → Po (some (vI 0)) w') ∧ (∀ (w' : mr_Wd) (zo' fr' kd' nb' wd' md' li' n' : Int) (R' s1' ls' : Nat → Int), (n < n' ∧ n' ≤ sz) → mr_Tok sz g n' fr' kd' nb' wd' zo' → mr_RL sz g C ln md f R' md' n' → mr_MW w' th tp sz (zo') (fr') (kd') (nb') ft pl (wd') sm (md') (li') sd T N (R') K Sn ik (s1') s2 (ls') → mr_FM w w' → Po (some (vI 1)) w')
set_option maxHeartbeats 4000000 in
set_option maxRecDepth 20000 in
theorem ok_X7_readEquation (l : Launch) (G : mr_G) : mr_Ok l G yX7_readEquation cX7_readEquation 3 (some .boolean) 3 69 T_X7_readEquation := by
  refine mr_Ok.of (by decide +kernel) ?_
  rintro a w Po ⟨th, tp, sz, zo, fr, kd, nb, ft, pl, wd, sm, md, li, sd, T, N, R, K, Sn, ik, s1, s2, ls, g, f, nm, C, sl, ln, n, v, rfl, hM, hsz, hT, hn, hTk, hat, hmd, hln, hw1, hw2, hw, ⟨M, W, L, hWB, hCq⟩, hB, hG⟩
  refine ⟨Nat.le_of_ble_eq_true rfl, ?_⟩
  show mr_J l G RX7 cX7_readEquation 3 (some .boolean) 3 69 Po 0 [some (vR 18 0), none, none] [] w
  obtain ⟨h18, h19, h20, h21, h22, h23, h24, h25, h26, h27, hs1, hs2, hik⟩ := id hM
  have hkb := mr_kdR hsz hn hTk
  have hK2 := hw.1
  obtain ⟨hf0, hf1, hM0, hW0, hf2, hfF, hfE⟩ := id hWB
  have hR0 : R 0 = M := by rw [hCq.1]; exact hf0
  have hfR : f 0 = R 0 := by omega
  have hR1 : R 1 = W := by rw [hCq.2.1]; exact hf1
  have hMR : 2 ≤ R 0 ∧ R 0 ≤ 30 := by omega
  have hMM : 1 ≤ R 0 ∧ R 0 ≤ 30 := by omega
  have hm3 := mr_m3 hMM
  have hdu : mr_due 4 f = W := by unfold mr_due; rw [if_neg (by decide), if_neg (by decide)]; exact hf1
  have hR14 : R 14 = f 2 := hCq.2.2.1
  refine mr_aload_n dX7_readEquation_0 rfl ?_
  refine mr_get dX7_readEquation_1 fl_X7_89 (by first | assumption | exact mr_up_same _ _ _ | (refine mr_lk ?_ (by first | assumption | decide); first | assumption | exact mr_up_same _ _ _ | (refine mr_lk ?_ (by first | assumption | decide); first | assumption | exact mr_up_same _ _ _ | (refine mr_lk ?_ (by first | assumption | decide); first | assumption | exact mr_up_same _ _ _ | (refine mr_lk ?_ (by first | assumption | decide); first | assumption | exact mr_up_same _ _ _))))) rfl ?_
  refine mr_bipush dX7_readEquation_4 rfl ?_
  refine mr_ialdK 14 dX7_readEquation_6 (by first | assumption | exact mr_up_same _ _ _ | (refine mr_lk ?_ (by first | assumption | decide); first | assumption | exact mr_up_same _ _ _ | (refine mr_lk ?_ (by first | assumption | decide); first | assumption | exact mr_up_same _ _ _ | (refine mr_lk ?_ (by first | assumption | decide); first | assumption | exact mr_up_same _ _ _ | (refine mr_lk ?_ (by first | assumption | decide); first | assumption | exact mr_up_same _ _ _))))) (by decide) (by decide) ?_
  refine mr_istore_n dX7_readEquation_7 rfl (by decide) ?_
  refine mr_iload_n dX7_readEquation_8 rfl ?_
  refine mr_iconst dX7_readEquation_9 ?_
  refine mr_icmp_ne (tgt := 19) dX7_readEquation_10 (by decide) ⟨by omega, by omega⟩ (by decide) (fun hc_10 => ?_) (fun hc_10 => ?_)
  · refine mr_aload_n dX7_readEquation_19 rfl ?_
    refine mr_callV (as := []) dX7_readEquation_20 (ok_X7_next l G) ml_X7_114 cl_X7_next cv_X7_next (by decide) rfl rfl (Nat.le_of_ble_eq_true rfl) (by first | assumption | exact mr_up_same _ _ _ | (refine mr_lk ?_ (by first | assumption | decide); first | assumption | exact mr_up_same _ _ _ | (refine mr_lk ?_ (by first | assumption | decide); first | assumption | exact mr_up_same _ _ _ | (refine mr_lk ?_ (by first | assumption | decide); first | assumption | exact mr_up_same _ _ _ | (refine mr_lk ?_ (by first | assumption | decide); first | assumption | exact mr_up_same _ _ _))))) ?_
    have hat2 := mr_at_go hsz hn hat (by omega) (by omega) ((mr_tt_l1 hln).2.2.2.2.1 hw1 hw2 hw (by omega))
    have ez : zo = mr_tX sz g n := hTk.2.2.1 (by omega)
    have hlt := (mr_tk_bd (g := g) hsz hn).2.2.2.1 (by omega)
    rw [← ez] at hat2
    refine ⟨_, _, _, _, _, _, _, _, _, _, _, _, _, _, _, _, _, _, _, _, _, _, _, g, rfl, hM, hsz, hT, hTk.2.2.2.2.2.2.2, hTk.2.2.2.2.2.2.1, hTk.2.2.2.2.2.1, (fun w1 zo1 fr1 kd1 nb1 wd1 hTk1 hM1 hF1 => ?_)⟩
    obtain ⟨h18, h19, h20, h21, h22, h23, h24, h25, h26, h27, hs1, hs2, hik⟩ := id hM1
    have kb1 := mr_kdR hsz hTk.2.2.2.2.2.2.2 hTk1
    dsimp only [Option.toList_some, Option.toList_none, List.cons_append, List.nil_append]
    refine mr_aload_n dX7_readEquation_23 rfl ?_
    refine mr_aload_n dX7_readEquation_24 rfl ?_
    refine mr_get dX7_readEquation_25 fl_X7_89 (by first | assumption | exact mr_up_same _ _ _ | (refine mr_lk ?_ (by first | assumption | decide); first | assumption | exact mr_up_same _ _ _ | (refine mr_lk ?_ (by first | assumption | decide); first | assumption | exact mr_up_same _ _ _ | (refine mr_lk ?_ (by first | assumption | decide); first | assumption | exact mr_up_same _ _ _ | (refine mr_lk ?_ (by first | assumption | decide); first | assumption | exact mr_up_same _ _ _))))) rfl ?_
    refine mr_callV (as := [_]) dX7_readEquation_28 (ok_X7_numbers l G) ml_X7_124 cl_X7_numbers cv_X7_numbers (by decide) rfl rfl (Nat.le_of_ble_eq_true rfl) (by first | assumption | exact mr_up_same _ _ _ | (refine mr_lk ?_ (by first | assumption | decide); first | assumption | exact mr_up_same _ _ _ | (refine mr_lk ?_ (by first | assumption | decide); first | assumption | exact mr_up_same _ _ _ | (refine mr_lk ?_ (by first | assumption | decide); first | assumption | exact mr_up_same _ _ _ | (refine mr_lk ?_ (by first | assumption | decide); first | assumption | exact mr_up_same _ _ _))))) ?_
    refine ⟨_, _, _, _, _, _, _, _, _, _, _, _, _, _, _, _, _, _, _, _, _, _, _, g, f, _, C, 4, ln, _, _, W, rfl, hM1, hsz, hT, (by decide), hfR, hWB.2.1, hR1, hMR, hWB.2.2.2.1, hTk.2.2.2.2.2.2.2, hTk1, hat2, (fun j _ => rfl), ?_, ?_⟩
    · intro w2 zo2 fr2 kd2 nb2 wd2 a2 b2 hC2 hnb2 hwd2 hM2 hF2
      obtain ⟨h18, h19, h20, h21, h22, h23, h24, h25, h26, h27, hs1, hs2, hik⟩ := id hM2
      dsimp only [Option.toList_some, Option.toList_none, List.cons_append, List.nil_append]
      refine mr_istore_n dX7_readEquation_31 rfl (by decide) ?_
      refine mr_iload_n dX7_readEquation_32 rfl ?_
      refine mr_iconst dX7_readEquation_33 ?_
      refine mr_icmp_ne (tgt := 39) dX7_readEquation_34 (by decide) ⟨by omega, by omega⟩ (by decide) (fun h => absurd h (by decide)) (fun _ => ?_)
      refine mr_iconst dX7_readEquation_37 ?_
      refine mr_zret rfl (Or.inl rfl) dX7_readEquation_38 ?_
      first
        | exact hB w2 _ _ _ _ _ _ _ _ _ _ _ _ hC2 hnb2 hwd2 hM2 (hF1.tr hF2)
        | (exfalso; omega)
    · intro w3 zo3 fr3 kd3 nb3 wd3 n3 v3 nm3 hn3 hTk3 hat3 hbx3 hnw3 hM3 hF3
      have hec3 := mr_ec_bd (M := R 0) (by omega) nm3
      obtain ⟨h18, h19, h20, h21, h22, h23, h24, h25, h26, h27, hs1, hs2, hik⟩ := id hM3
      have kb3 := mr_kdR hsz (show 0 ≤ n3 ∧ n3 ≤ sz from ⟨by have := hTk.2.2.2.2.2.2.2.1; omega, hn3.2⟩) hTk3
      dsimp only [Option.toList_some, Option.toList_none, List.cons_append, List.nil_append]
      refine mr_istore_n dX7_readEquation_31 rfl (by decide) ?_
      refine mr_iload_n dX7_readEquation_32 rfl ?_
      refine mr_iconst dX7_readEquation_33 ?_
      refine mr_icmp_ne (tgt := 39) dX7_readEquation_34 (by decide) ⟨by omega, by omega⟩ (by decide) (fun hc_34 => ?_) (fun hc_34 => ?_)
      · refine mr_aload_n dX7_readEquation_39 rfl ?_
        refine mr_callV (as := []) dX7_readEquation_40 (ok_X7_isIs l G) ml_X7_139 cl_X7_isIs cv_X7_isIs (by decide) rfl rfl (Nat.le_of_ble_eq_true rfl) (by first | assumption | exact mr_up_same _ _ _ | (refine mr_lk ?_ (by first | assumption | decide); first | assumption | exact mr_up_same _ _ _ | (refine mr_lk ?_ (by first | assumption | decide); first | assumption | exact mr_up_same _ _ _ | (refine mr_lk ?_ (by first | assumption | decide); first | assumption | exact mr_up_same _ _ _ | (refine mr_lk ?_ (by first | assumption | decide); first | assumption | exact mr_up_same _ _ _))))) ?_
        have hwE := mr_isw_e hsz (show 0 ≤ n3 ∧ n3 ≤ sz from ⟨by have := hTk.2.2.2.2.2.2.2.1; omega, hn3.2⟩) hTk3 (j := 4) (by decide)
        refine ⟨_, _, _, _, _, _, _, _, _, _, _, _, _, _, rfl, (by first | assumption | exact mr_up_same _ _ _ | (refine mr_lk ?_ (by first | assumption | decide); first | assumption | exact mr_up_same _ _ _ | (refine mr_lk ?_ (by first | assumption | decide); first | assumption | exact mr_up_same _ _ _ | (refine mr_lk ?_ (by first | assumption | decide); first | assumption | exact mr_up_same _ _ _ | (refine mr_lk ?_ (by first | assumption | decide); first | assumption | exact mr_up_same _ _ _))))), ⟨by omega, by omega⟩, hTk3.2.2.2.2.2.1, ?_, ?_⟩
        · intro ki
          dsimp only [Option.toList_some, Option.toList_none, List.cons_append, List.nil_append]
          refine mr_if_ne (tgt := 52) dX7_readEquation_43 (by decide) (by omega) (fun _ => ?_) (fun h => absurd h (by decide))
          refine mr_aload_n dX7_readEquation_52 rfl ?_
          refine mr_callV (as := []) dX7_readEquation_53 (ok_X7_next l G) ml_X7_114 cl_X7_next cv_X7_next (by decide) rfl rfl (Nat.le_of_ble_eq_true rfl) (by first | assumption | exact mr_up_same _ _ _ | (refine mr_lk ?_ (by first | assumption | decide); first | assumption | exact mr_up_same _ _ _ | (refine mr_lk ?_ (by first | assumption | decide); first | assumption | exact mr_up_same _ _ _ | (refine mr_lk ?_ (by first | assumption | decide); first | assumption | exact mr_up_same _ _ _ | (refine mr_lk ?_ (by first | assumption | decide); first | assumption | exact mr_up_same _ _ _))))) ?_
          have hisw := hwE.mp ki
          have hat3 := mr_at_go hsz (show 0 ≤ n3 ∧ n3 ≤ sz from ⟨by have := hTk.2.2.2.2.2.2.2.1; omega, hn3.2⟩) hat3 (by have := hisw.1; omega) (by have := hisw.1; omega) ((mr_tt_is4 rfl hdu.symm).1 hisw)
          have ez1 : zo3 = mr_tX sz g n3 := hTk3.2.2.1 (by have := hisw.1; omega)
          have hlt1 := (mr_tk_bd (g := g) hsz (show 0 ≤ n3 ∧ n3 ≤ sz from ⟨by have := hTk.2.2.2.2.2.2.2.1; omega, hn3.2⟩)).2.2.2.1 (by have := hisw.1; omega)
          rw [← ez1] at hat3
          refine ⟨_, _, _, _, _, _, _, _, _, _, _, _, _, _, _, _, _, _, _, _, _, _, _, g, rfl, hM3, hsz, hT, hTk3.2.2.2.2.2.2.2, hTk3.2.2.2.2.2.2.1, hTk3.2.2.2.2.2.1, (fun w4 zo4 fr4 kd4 nb4 wd4 hTk4 hM4 hF4 => ?_)⟩
          obtain ⟨h18, h19, h20, h21, h22, h23, h24, h25, h26, h27, hs1, hs2, hik⟩ := id hM4
          have kb4 := mr_kdR hsz hTk3.2.2.2.2.2.2.2 hTk4
          have hsl1 : (W : Int) + 1 < mr_due 4 f ∨ ((4 : Int) = 4 ∧ (W : Int) + 1 = mr_due 4 f + 1) := Or.inr ⟨rfl, by rw [hdu]⟩
          have hmst : mr_mst2 4 ((W : Int) + 1) f = R 0 - 1 := by unfold mr_mst2; rw [if_neg (by decide), hfR]
          have hlst : mr_lst2 4 ((W : Int) + 1) = 0 := by unfold mr_lst2; rw [if_neg (by decide)]
          dsimp only [Option.toList_some, Option.toList_none, List.cons_append, List.nil_append]
          refine mr_aload_n dX7_readEquation_56 rfl ?_
          refine mr_get dX7_readEquation_57 fl_X7_27 (by first | assumption | exact mr_up_same _ _ _ | (refine mr_lk ?_ (by first | assumption | decide); first | assumption | exact mr_up_same _ _ _ | (refine mr_lk ?_ (by first | assumption | decide); first | assumption | exact mr_up_same _ _ _ | (refine mr_lk ?_ (by first | assumption | decide); first | assumption | exact mr_up_same _ _ _ | (refine mr_lk ?_ (by first | assumption | decide); first | assumption | exact mr_up_same _ _ _))))) rfl ?_
          refine mr_iconst dX7_readEquation_60 ?_
          refine mr_icmp_eq (tgt := 70) dX7_readEquation_61 (by decide) ⟨by omega, by omega⟩ (by decide) (fun hc_61 => ?_) (fun hc_61 => ?_)
          · have hK3 : mr_tK sz g zo3 = 3 := kb4.2.2.1.mp hc_61
            have hvv : ∀ q : Int, mr_vv sz g zo3 q = nb4 := fun q => by unfold mr_vv; rw [if_pos hK3]; exact (hTk4.2.2.2.1 hK3).symm
            have hnb0 : 0 ≤ nb4 ∧ nb4 ≤ 99 := by rw [hTk4.2.2.2.1 hK3]; exact (mr_tk_bd (g := g) hsz hTk3.2.2.2.2.2.2.2).2.2.2.2.1 hK3
            refine mr_aload_n dX7_readEquation_70 rfl ?_
            refine mr_get dX7_readEquation_71 fl_X7_41 (by first | assumption | exact mr_up_same _ _ _ | (refine mr_lk ?_ (by first | assumption | decide); first | assumption | exact mr_up_same _ _ _ | (refine mr_lk ?_ (by first | assumption | decide); first | assumption | exact mr_up_same _ _ _ | (refine mr_lk ?_ (by first | assumption | decide); first | assumption | exact mr_up_same _ _ _ | (refine mr_lk ?_ (by first | assumption | decide); first | assumption | exact mr_up_same _ _ _))))) rfl ?_
            refine mr_aload_n dX7_readEquation_74 rfl ?_
            refine mr_get dX7_readEquation_75 fl_X7_89 (by first | assumption | exact mr_up_same _ _ _ | (refine mr_lk ?_ (by first | assumption | decide); first | assumption | exact mr_up_same _ _ _ | (refine mr_lk ?_ (by first | assumption | decide); first | assumption | exact mr_up_same _ _ _ | (refine mr_lk ?_ (by first | assumption | decide); first | assumption | exact mr_up_same _ _ _ | (refine mr_lk ?_ (by first | assumption | decide); first | assumption | exact mr_up_same _ _ _))))) rfl ?_
            refine mr_iconst dX7_readEquation_78 ?_
            refine mr_ialdK 0 dX7_readEquation_79 (by first | assumption | exact mr_up_same _ _ _ | (refine mr_lk ?_ (by first | assumption | decide); first | assumption | exact mr_up_same _ _ _ | (refine mr_lk ?_ (by first | assumption | decide); first | assumption | exact mr_up_same _ _ _ | (refine mr_lk ?_ (by first | assumption | decide); first | assumption | exact mr_up_same _ _ _ | (refine mr_lk ?_ (by first | assumption | decide); first | assumption | exact mr_up_same _ _ _))))) (by decide) (by decide) ?_
            refine mr_icmp_lt (tgt := 89) dX7_readEquation_80 (by decide) ⟨by omega, by omega⟩ ⟨by omega, by omega⟩ (fun hc_80 => ?_) (fun hc_80 => ?_)
            · refine mr_aload_n dX7_readEquation_89 rfl ?_
              refine mr_get dX7_readEquation_90 fl_X7_89 (by first | assumption | exact mr_up_same _ _ _ | (refine mr_lk ?_ (by first | assumption | decide); first | assumption | exact mr_up_same _ _ _ | (refine mr_lk ?_ (by first | assumption | decide); first | assumption | exact mr_up_same _ _ _ | (refine mr_lk ?_ (by first | assumption | decide); first | assumption | exact mr_up_same _ _ _ | (refine mr_lk ?_ (by first | assumption | decide); first | assumption | exact mr_up_same _ _ _))))) rfl ?_
              refine mr_bipush dX7_readEquation_93 rfl ?_
              refine mr_iload_n dX7_readEquation_95 rfl ?_
              refine mr_iadd dX7_readEquation_96 ?_
              refine mr_iload_n dX7_readEquation_97 rfl ?_
              refine mr_iast dX7_readEquation_98 (by first | assumption | exact mr_up_same _ _ _ | (refine mr_lk ?_ (by first | assumption | decide); first | assumption | exact mr_up_same _ _ _ | (refine mr_lk ?_ (by first | assumption | decide); first | assumption | exact mr_up_same _ _ _ | (refine mr_lk ?_ (by first | assumption | decide); first | assumption | exact mr_up_same _ _ _ | (refine mr_lk ?_ (by first | assumption | decide); first | assumption | exact mr_up_same _ _ _))))) (by omega) (by omega) (by decide) ?_
              refine mw_a21 hM4 (fun w5 hM5 hF5 => ?_)
              obtain ⟨h18, h19, h20, h21, h22, h23, h24, h25, h26, h27, hs1, hs2, hik⟩ := id hM5
              refine mr_aload_n dX7_readEquation_99 rfl ?_
              refine mr_get dX7_readEquation_100 fl_X7_89 (by first | assumption | exact mr_up_same _ _ _ | (refine mr_lk ?_ (by first | assumption | decide); first | assumption | exact mr_up_same _ _ _ | (refine mr_lk ?_ (by first | assumption | decide); first | assumption | exact mr_up_same _ _ _ | (refine mr_lk ?_ (by first | assumption | decide); first | assumption | exact mr_up_same _ _ _ | (refine mr_lk ?_ (by first | assumption | decide); first | assumption | exact mr_up_same _ _ _))))) rfl ?_
              refine mr_bipush dX7_readEquation_103 rfl ?_
              refine mr_iload_n dX7_readEquation_105 rfl ?_
              refine mr_iadd dX7_readEquation_106 ?_
              refine mr_aload_n dX7_readEquation_107 rfl ?_
              refine mr_get dX7_readEquation_108 fl_X7_41 (by first | assumption | exact mr_up_same _ _ _ | (refine mr_lk ?_ (by first | assumption | decide); first | assumption | exact mr_up_same _ _ _ | (refine mr_lk ?_ (by first | assumption | decide); first | assumption | exact mr_up_same _ _ _ | (refine mr_lk ?_ (by first | assumption | decide); first | assumption | exact mr_up_same _ _ _ | (refine mr_lk ?_ (by first | assumption | decide); first | assumption | exact mr_up_same _ _ _))))) rfl ?_
              refine mr_iast dX7_readEquation_111 (by first | assumption | exact mr_up_same _ _ _ | (refine mr_lk ?_ (by first | assumption | decide); first | assumption | exact mr_up_same _ _ _ | (refine mr_lk ?_ (by first | assumption | decide); first | assumption | exact mr_up_same _ _ _ | (refine mr_lk ?_ (by first | assumption | decide); first | assumption | exact mr_up_same _ _ _ | (refine mr_lk ?_ (by first | assumption | decide); first | assumption | exact mr_up_same _ _ _))))) (by omega) (by omega) (by decide) ?_
              refine mw_a21 hM5 (fun w6 hM6 hF6 => ?_)
              obtain ⟨h18, h19, h20, h21, h22, h23, h24, h25, h26, h27, hs1, hs2, hik⟩ := id hM6
              refine mr_aload_n dX7_readEquation_112 rfl ?_
              refine mr_get dX7_readEquation_113 fl_X7_89 (by first | assumption | exact mr_up_same _ _ _ | (refine mr_lk ?_ (by first | assumption | decide); first | assumption | exact mr_up_same _ _ _ | (refine mr_lk ?_ (by first | assumption | decide); first | assumption | exact mr_up_same _ _ _ | (refine mr_lk ?_ (by first | assumption | decide); first | assumption | exact mr_up_same _ _ _ | (refine mr_lk ?_ (by first | assumption | decide); first | assumption | exact mr_up_same _ _ _))))) rfl ?_
              refine mr_bipush dX7_readEquation_116 rfl ?_
              refine mr_dup2 dX7_readEquation_118 rfl rfl ?_
              refine mr_ialdK 14 dX7_readEquation_119 (by first | assumption | exact mr_up_same _ _ _ | (refine mr_lk ?_ (by first | assumption | decide); first | assumption | exact mr_up_same _ _ _ | (refine mr_lk ?_ (by first | assumption | decide); first | assumption | exact mr_up_same _ _ _ | (refine mr_lk ?_ (by first | assumption | decide); first | assumption | exact mr_up_same _ _ _ | (refine mr_lk ?_ (by first | assumption | decide); first | assumption | exact mr_up_same _ _ _))))) (by decide) (by decide) ?_
              rw [show mr_fs (mr_fs R (15 + R 14).toNat (mr_ec (R 0) nm3)) (18 + R 14).toNat nb4 14 = R 14 by rw [mr_fs_ne _ _ (by omega), mr_fs_ne _ _ (by omega)]]
              refine mr_iconst dX7_readEquation_120 ?_
              refine mr_iadd dX7_readEquation_121 ?_
              refine mr_iast dX7_readEquation_122 (by first | assumption | exact mr_up_same _ _ _ | (refine mr_lk ?_ (by first | assumption | decide); first | assumption | exact mr_up_same _ _ _ | (refine mr_lk ?_ (by first | assumption | decide); first | assumption | exact mr_up_same _ _ _ | (refine mr_lk ?_ (by first | assumption | decide); first | assumption | exact mr_up_same _ _ _ | (refine mr_lk ?_ (by first | assumption | decide); first | assumption | exact mr_up_same _ _ _))))) (by omega) (by omega) (by decide) ?_
              refine mw_a21 hM6 (fun w7 hM7 hF7 => ?_)
              obtain ⟨h18, h19, h20, h21, h22, h23, h24, h25, h26, h27, hs1, hs2, hik⟩ := id hM7
              refine mr_aload_n dX7_readEquation_123 rfl ?_
              refine mr_callV (as := []) dX7_readEquation_124 (ok_X7_next l G) ml_X7_114 cl_X7_next cv_X7_next (by decide) rfl rfl (Nat.le_of_ble_eq_true rfl) (by first | assumption | exact mr_up_same _ _ _ | (refine mr_lk ?_ (by first | assumption | decide); first | assumption | exact mr_up_same _ _ _ | (refine mr_lk ?_ (by first | assumption | decide); first | assumption | exact mr_up_same _ _ _ | (refine mr_lk ?_ (by first | assumption | decide); first | assumption | exact mr_up_same _ _ _ | (refine mr_lk ?_ (by first | assumption | decide); first | assumption | exact mr_up_same _ _ _))))) ?_
              have hat4 := mr_at_go hsz hTk3.2.2.2.2.2.2.2 hat3 (by omega) (by omega) ((mr_tt_num (by decide) hsl1).2.2 hK3 (by rw [hvv, hmst, hlst]; omega))
              have ez2 : zo4 = mr_tX sz g zo3 := hTk4.2.2.1 (by omega)
              have hlt2 := (mr_tk_bd (g := g) hsz hTk3.2.2.2.2.2.2.2).2.2.2.1 (by omega)
              rw [← ez2, hvv] at hat4
              refine ⟨_, _, _, _, _, _, _, _, _, _, _, _, _, _, _, _, _, _, _, _, _, _, _, g, rfl, hM7, hsz, hT, hTk4.2.2.2.2.2.2.2, hTk4.2.2.2.2.2.2.1, hTk4.2.2.2.2.2.1, (fun w8 zo8 fr8 kd8 nb8 wd8 hTk8 hM8 hF8 => ?_)⟩
              obtain ⟨h18, h19, h20, h21, h22, h23, h24, h25, h26, h27, hs1, hs2, hik⟩ := id hM8
              have kb8 := mr_kdR hsz hTk4.2.2.2.2.2.2.2 hTk8
              dsimp only [Option.toList_some, Option.toList_none, List.cons_append, List.nil_append]
              refine mr_iconst dX7_readEquation_127 ?_
              refine mr_zret rfl (Or.inr rfl) dX7_readEquation_128 ?_
              have hn1 : mr_nset 4 ((W : Int) + 1) f nm3 nb4 = nm3 := by unfold mr_nset; rw [if_neg (by rw [hdu]; omega)]
              rw [hn1] at hat4
              have hok := mr_eqn_ok (nm := nm3) (v := nb4) (R' := mr_fs (mr_fs (mr_fs R (15 + R 14).toNat (mr_ec (R 0) nm3)) (18 + R 14).toNat nb4) 14 (R 14 + 1)) hWB hCq (by omega) (by rw [← hR0]; exact hbx3) hnw3 ⟨by omega, by omega⟩ (by rw [hR14, hR0])
              exact hG w8 _ _ _ _ _ _ _ zo4 _ _ _ ⟨by omega, hTk4.2.2.2.2.2.2.2.2⟩ hTk8 ⟨4, _, _, _, hat4, by decide, by rw [hdu]; omega, by rw [hdu]; omega, rfl, hmd, _, _, _, hok.1, hok.2⟩ hM8 (hF1.tr (hF3.tr (hF4.tr (hF5.tr (hF6.tr (hF7.tr hF8))))))
            · refine mr_aload_n dX7_readEquation_83 rfl ?_
              refine mr_iconst dX7_readEquation_84 ?_
              refine mr_callV (as := [_]) dX7_readEquation_85 (ok_X7_bad l G) ml_X7_111 cl_X7_bad cv_X7_bad (by decide) rfl rfl (Nat.le_of_ble_eq_true rfl) (by first | assumption | exact mr_up_same _ _ _ | (refine mr_lk ?_ (by first | assumption | decide); first | assumption | exact mr_up_same _ _ _ | (refine mr_lk ?_ (by first | assumption | decide); first | assumption | exact mr_up_same _ _ _ | (refine mr_lk ?_ (by first | assumption | decide); first | assumption | exact mr_up_same _ _ _ | (refine mr_lk ?_ (by first | assumption | decide); first | assumption | exact mr_up_same _ _ _))))) ?_
              refine ⟨_, _, _, _, _, _, _, _, _, _, _, _, _, _, _, _, _, _, _, _, _, _, _, _, rfl, hM4, ⟨by omega, by omega⟩, (fun w9 hM9 hF9 => ?_)⟩
              dsimp only [Option.toList_some, Option.toList_none, List.cons_append, List.nil_append]
              refine mr_zret rfl (Or.inl rfl) dX7_readEquation_88 ?_
              have h9 := hM9
              rw [if_neg (by omega), hTk4.1] at h9
              exact hB w9 _ _ _ _ _ _ _ 2 _ _ _ _ (mr_at_bad hTk3.2.2.2.2.2.2.2 hat3 (fun z => by omega) ((mr_tt_num (by decide) hsl1).2.1 hK3 (by rw [hvv, hmst]; omega))) hTk4.2.2.2.2.2.2.1 hTk4.2.2.2.2.2.1 h9 (hF1.tr (hF3.tr (hF4.tr hF9)))
          · refine mr_aload_n dX7_readEquation_64 rfl ?_
            refine mr_iconst dX7_readEquation_65 ?_
            refine mr_callV (as := [_]) dX7_readEquation_66 (ok_X7_bad l G) ml_X7_111 cl_X7_bad cv_X7_bad (by decide) rfl rfl (Nat.le_of_ble_eq_true rfl) (by first | assumption | exact mr_up_same _ _ _ | (refine mr_lk ?_ (by first | assumption | decide); first | assumption | exact mr_up_same _ _ _ | (refine mr_lk ?_ (by first | assumption | decide); first | assumption | exact mr_up_same _ _ _ | (refine mr_lk ?_ (by first | assumption | decide); first | assumption | exact mr_up_same _ _ _ | (refine mr_lk ?_ (by first | assumption | decide); first | assumption | exact mr_up_same _ _ _))))) ?_
            refine ⟨_, _, _, _, _, _, _, _, _, _, _, _, _, _, _, _, _, _, _, _, _, _, _, _, rfl, hM4, ⟨by omega, by omega⟩, (fun w10 hM10 hF10 => ?_)⟩
            dsimp only [Option.toList_some, Option.toList_none, List.cons_append, List.nil_append]
            refine mr_zret rfl (Or.inl rfl) dX7_readEquation_69 ?_
            first
              | (exfalso; omega)
              | (have h9 := hM10
                 rw [mr_if1, hTk4.1] at h9
                 exact hB w10 _ _ _ _ _ _ _ 1 _ _ _ _ (mr_at_bad hTk3.2.2.2.2.2.2.2 hat3 (fun z => by omega) ((mr_tt_num (by decide) hsl1).1 (fun z => hc_61 (kb4.2.2.1.mpr z)))) hTk4.2.2.2.2.2.2.1 hTk4.2.2.2.2.2.1 h9 (hF1.tr (hF3.tr (hF4.tr hF10))))
        · intro ki
          dsimp only [Option.toList_some, Option.toList_none, List.cons_append, List.nil_append]
          refine mr_if_ne (tgt := 52) dX7_readEquation_43 (by decide) (by omega) (fun h => absurd h (by decide)) (fun _ => ?_)
          refine mr_aload_n dX7_readEquation_46 rfl ?_
          refine mr_iconst dX7_readEquation_47 ?_
          refine mr_callV (as := [_]) dX7_readEquation_48 (ok_X7_bad l G) ml_X7_111 cl_X7_bad cv_X7_bad (by decide) rfl rfl (Nat.le_of_ble_eq_true rfl) (by first | assumption | exact mr_up_same _ _ _ | (refine mr_lk ?_ (by first | assumption | decide); first | assumption | exact mr_up_same _ _ _ | (refine mr_lk ?_ (by first | assumption | decide); first | assumption | exact mr_up_same _ _ _ | (refine mr_lk ?_ (by first | assumption | decide); first | assumption | exact mr_up_same _ _ _ | (refine mr_lk ?_ (by first | assumption | decide); first | assumption | exact mr_up_same _ _ _))))) ?_
          refine ⟨_, _, _, _, _, _, _, _, _, _, _, _, _, _, _, _, _, _, _, _, _, _, _, _, rfl, hM3, ⟨by omega, by omega⟩, (fun w11 hM11 hF11 => ?_)⟩
          dsimp only [Option.toList_some, Option.toList_none, List.cons_append, List.nil_append]
          refine mr_zret rfl (Or.inl rfl) dX7_readEquation_51 ?_
          first
            | (exfalso; omega)
            | (have h9 := hM11
               rw [mr_if1, hTk3.1] at h9
               exact hB w11 _ _ _ _ _ _ _ 1 _ _ _ _ (mr_at_bad (show 0 ≤ n3 ∧ n3 ≤ sz from ⟨by have := hTk.2.2.2.2.2.2.2.1; omega, hn3.2⟩) hat3 (fun z => by omega) ((mr_tt_is4 rfl hdu.symm).2 (fun z => ki (hwE.mpr z)))) hTk3.2.2.2.2.2.2.1 hTk3.2.2.2.2.2.1 h9 (hF1.tr (hF3.tr hF11)))
      · refine mr_iconst dX7_readEquation_37 ?_
        refine mr_zret rfl (Or.inl rfl) dX7_readEquation_38 ?_
        first
          | exact hB w3 _ _ _ _ _ _ _ _ _ _ _ _ hC3 hnb3 hwd3 hM3 (hF1.tr hF3)
          | (exfalso; omega)
  · refine mr_aload_n dX7_readEquation_13 rfl ?_
    refine mr_iconst dX7_readEquation_14 ?_
    refine mr_callV (as := [_]) dX7_readEquation_15 (ok_X7_bad l G) ml_X7_111 cl_X7_bad cv_X7_bad (by decide) rfl rfl (Nat.le_of_ble_eq_true rfl) (by first | assumption | exact mr_up_same _ _ _ | (refine mr_lk ?_ (by first | assumption | decide); first | assumption | exact mr_up_same _ _ _ | (refine mr_lk ?_ (by first | assumption | decide); first | assumption | exact mr_up_same _ _ _ | (refine mr_lk ?_ (by first | assumption | decide); first | assumption | exact mr_up_same _ _ _ | (refine mr_lk ?_ (by first | assumption | decide); first | assumption | exact mr_up_same _ _ _))))) ?_
    refine ⟨_, _, _, _, _, _, _, _, _, _, _, _, _, _, _, _, _, _, _, _, _, _, _, _, rfl, hM, ⟨by omega, by omega⟩, (fun w12 hM12 hF12 => ?_)⟩
    dsimp only [Option.toList_some, Option.toList_none, List.cons_append, List.nil_append]
    refine mr_zret rfl (Or.inl rfl) dX7_readEquation_18 ?_
    have h9 := hM12
    rw [if_neg (by omega), hTk.1] at h9
    exact hB w12 _ _ _ _ _ _ _ 3 _ _ _ _ (mr_at_bad hn hat (fun z => by omega) ((mr_tt_l1 hln).2.2.2.2.2.1 hw1 hw2 hw (by omega))) hTk.2.2.2.2.2.2.1 hTk.2.2.2.2.2.1 h9 hF12
