def mr_drp (N : Nat → Int) (i : Int) (N' : Nat → Int) : Prop := (∀ j : Nat, j < 14 → N' j = N j) ∧ N' 14 = N 14 - 1 ∧ (∀ q : Nat, q < 3 → N' (15 + q) = if (q : Int) < i then N (15 + q) else if q + 1 < 3 then N (15 + q + 1) else 0) ∧ ∀ q : Nat, q < 3 → N' (18 + q) = if (q : Int) < i then N (18 + q) else if q + 1 < 3 then N (18 + q + 1) else 0
def T_X7_drop (a : List mr_AV) (w : mr_Wd) (Po : Option mr_AV → mr_Wd → Prop) : Prop := ∃ (th tp sz zo fr kd nb ft pl wd sm md li sd : Int) (T N R K Sn ik s1 s2 ls : Nat → Int) (W : Nat) (L : Int → mr_V → Prop) (i : Int), a = [vR 18 0, vI i] ∧ mr_MW w th tp sz zo fr kd nb ft pl wd sm md li sd T N R K Sn ik s1 s2 ls ∧ mr_NG N W L ∧ InR i ∧ (0 ≤ sm ∧ sm ≤ 8) ∧ ((0 ≤ i ∧ i < N 14) → (∀ (w' : mr_Wd) (Sn' N' : Nat → Int) (sm' : Int), mr_snr N Sn sm Sn' sm' → mr_drp N i N' → mr_MW w' (0) tp sz zo fr kd nb ft pl wd (sm') md li sd T (N') R K (Sn') ik s1 s2 ls → mr_FM w w' → Po (some (vI (N 14 - 1))) w')) ∧ (¬ (0 ≤ i ∧ i < N 14) → (∀ w' : mr_Wd, mr_MW w' (0) tp sz zo fr kd nb ft pl wd sm md li sd T N R K Sn ik s1 s2 ls → mr_FM w w' → Po (some (vI (-1))) w'))
set_option maxHeartbeats 4000000 in
set_option maxRecDepth 20000 in
theorem ok_X7_drop (l : Launch) (G : mr_G) : mr_Ok l G yX7_drop cX7_drop 3 (some .int) 2 45 T_X7_drop := by
  refine mr_Ok.of (by decide +kernel) ?_
  rintro a w Po ⟨th, tp, sz, zo, fr, kd, nb, ft, pl, wd, sm, md, li, sd, T, N, R, K, Sn, ik, s1, s2, ls, W, L, i, rfl, hM, ⟨hG0, hG1, hG14, hGW⟩, h_i, hsm, hP, hQ⟩
  refine ⟨Nat.le_of_ble_eq_true rfl, ?_⟩
  show mr_J l G RX7 cX7_drop 3 (some .int) 2 45 Po 0 [some (vR 18 0), some (vI i), none] [] w
  obtain ⟨h18, h19, h20, h21, h22, h23, h24, h25, h26, h27, hs1, hs2, hik⟩ := id hM
  refine mr_aload_n dX7_drop_0 rfl ?_
  refine mr_iconst dX7_drop_1 ?_
  refine mr_put dX7_drop_2 fl_X7_1 pf_X7_0 rfl rfl (by first | assumption | exact mr_up_same _ _ _ | (refine mr_lk ?_ (by first | assumption | decide); first | assumption | exact mr_up_same _ _ _ | (refine mr_lk ?_ (by first | assumption | decide); first | assumption | exact mr_up_same _ _ _ | (refine mr_lk ?_ (by first | assumption | decide); first | assumption | exact mr_up_same _ _ _ | (refine mr_lk ?_ (by first | assumption | decide); first | assumption | exact mr_up_same _ _ _))))) (Nat.le_of_ble_eq_true rfl) ?_
  refine mw_p0 hM (fun w1 hM1 hF1 => ?_)
  obtain ⟨h18, h19, h20, h21, h22, h23, h24, h25, h26, h27, hs1, hs2, hik⟩ := id hM1
  refine mr_iload_n dX7_drop_5 rfl ?_
  refine mr_iconst dX7_drop_6 ?_
  refine mr_aload_n dX7_drop_7 rfl ?_
  refine mr_callV (as := []) dX7_drop_8 (ok_X7_equations l G) ml_X7_250 cl_X7_equations cv_X7_equations (by decide) rfl rfl (Nat.le_of_ble_eq_true rfl) (by first | assumption | exact mr_up_same _ _ _ | (refine mr_lk ?_ (by first | assumption | decide); first | assumption | exact mr_up_same _ _ _ | (refine mr_lk ?_ (by first | assumption | decide); first | assumption | exact mr_up_same _ _ _ | (refine mr_lk ?_ (by first | assumption | decide); first | assumption | exact mr_up_same _ _ _ | (refine mr_lk ?_ (by first | assumption | decide); first | assumption | exact mr_up_same _ _ _))))) ?_
  refine ⟨_, _, _, _, _, _, _, _, _, _, _, _, _, _, _, rfl, (by first | assumption | exact mr_up_same _ _ _ | (refine mr_lk ?_ (by first | assumption | decide); first | assumption | exact mr_up_same _ _ _ | (refine mr_lk ?_ (by first | assumption | decide); first | assumption | exact mr_up_same _ _ _ | (refine mr_lk ?_ (by first | assumption | decide); first | assumption | exact mr_up_same _ _ _ | (refine mr_lk ?_ (by first | assumption | decide); first | assumption | exact mr_up_same _ _ _))))), (by first | assumption | exact mr_up_same _ _ _ | (refine mr_lk ?_ (by first | assumption | decide); first | assumption | exact mr_up_same _ _ _ | (refine mr_lk ?_ (by first | assumption | decide); first | assumption | exact mr_up_same _ _ _ | (refine mr_lk ?_ (by first | assumption | decide); first | assumption | exact mr_up_same _ _ _ | (refine mr_lk ?_ (by first | assumption | decide); first | assumption | exact mr_up_same _ _ _))))), ?_⟩
  dsimp only [Option.toList_some, Option.toList_none, List.cons_append, List.nil_append]
  refine mr_iconst dX7_drop_11 ?_
  refine mr_isub dX7_drop_12 ?_
  refine mr_callS (as := [_, _, _]) dX7_drop_13 (ok_X7_isIn l G) ml_X7_117 cl_X7_isIn cs_X7_isIn (by decide) rfl rfl (Nat.le_of_ble_eq_true rfl) ?_
  refine ⟨_, _, _, rfl, h_i, (by decide), ⟨by omega, by omega⟩, ?_, ?_⟩
  · intro k1
    dsimp only [Option.toList_some, Option.toList_none, List.cons_append, List.nil_append]
    refine mr_if_ne (tgt := 21) dX7_drop_16 (by decide) (by omega) (fun _ => ?_) (fun h => absurd h (by decide))
    refine mr_aload_n dX7_drop_21 rfl ?_
    refine mr_callV (as := []) dX7_drop_22 (ok_X7_snap l G) ml_X7_223 cl_X7_snap cv_X7_snap (by decide) rfl rfl (Nat.le_of_ble_eq_true rfl) (by first | assumption | exact mr_up_same _ _ _ | (refine mr_lk ?_ (by first | assumption | decide); first | assumption | exact mr_up_same _ _ _ | (refine mr_lk ?_ (by first | assumption | decide); first | assumption | exact mr_up_same _ _ _ | (refine mr_lk ?_ (by first | assumption | decide); first | assumption | exact mr_up_same _ _ _ | (refine mr_lk ?_ (by first | assumption | decide); first | assumption | exact mr_up_same _ _ _))))) ?_
    refine ⟨_, _, _, _, _, _, _, _, _, _, _, _, _, _, _, _, _, _, _, _, _, _, _, rfl, hM1, (by omega), (fun w2 Sn2 sm2 hsn2 hM2 hF2 => ?_)⟩
    obtain ⟨h18, h19, h20, h21, h22, h23, h24, h25, h26, h27, hs1, hs2, hik⟩ := id hM2
    dsimp only [Option.toList_some, Option.toList_none, List.cons_append, List.nil_append]
    rcases (show i = 0 ∨ i = 1 ∨ i = 2 by omega) with rfl | rfl | rfl
    · refine mr_iload_n dX7_drop_25 rfl ?_
      refine mr_istore_n dX7_drop_26 rfl (by decide) ?_
      refine mr_iload_n dX7_drop_27 rfl ?_
      refine mr_iconst dX7_drop_28 ?_
      refine mr_icmp_ge (tgt := 100) dX7_drop_29 (by decide) (by omega) (by omega) (fun h => absurd h (by decide)) (fun _ => ?_)
      refine mr_aload_n dX7_drop_32 rfl ?_
      refine mr_get dX7_drop_33 fl_X7_86 (by first | assumption | exact mr_up_same _ _ _ | (refine mr_lk ?_ (by first | assumption | decide); first | assumption | exact mr_up_same _ _ _ | (refine mr_lk ?_ (by first | assumption | decide); first | assumption | exact mr_up_same _ _ _ | (refine mr_lk ?_ (by first | assumption | decide); first | assumption | exact mr_up_same _ _ _ | (refine mr_lk ?_ (by first | assumption | decide); first | assumption | exact mr_up_same _ _ _))))) rfl ?_
      refine mr_bipush dX7_drop_36 rfl ?_
      refine mr_iload_n dX7_drop_38 rfl ?_
      refine mr_iadd dX7_drop_39 ?_
      refine mr_iload_n dX7_drop_40 rfl ?_
      refine mr_iconst dX7_drop_41 ?_
      refine mr_iadd dX7_drop_42 ?_
      refine mr_iconst dX7_drop_43 ?_
      refine mr_icmp_ge (tgt := 61) dX7_drop_44 (by decide) (by omega) (by omega) (fun h => absurd h (by decide)) (fun _ => ?_)
      refine mr_aload_n dX7_drop_47 rfl ?_
      refine mr_get dX7_drop_48 fl_X7_86 (by first | assumption | exact mr_up_same _ _ _ | (refine mr_lk ?_ (by first | assumption | decide); first | assumption | exact mr_up_same _ _ _ | (refine mr_lk ?_ (by first | assumption | decide); first | assumption | exact mr_up_same _ _ _ | (refine mr_lk ?_ (by first | assumption | decide); first | assumption | exact mr_up_same _ _ _ | (refine mr_lk ?_ (by first | assumption | decide); first | assumption | exact mr_up_same _ _ _))))) rfl ?_
      refine mr_bipush dX7_drop_51 rfl ?_
      refine mr_iload_n dX7_drop_53 rfl ?_
      refine mr_iadd dX7_drop_54 ?_
      refine mr_iconst dX7_drop_55 ?_
      refine mr_iadd dX7_drop_56 ?_
      refine mr_ialdK 16 dX7_drop_57 (by first | assumption | exact mr_up_same _ _ _ | (refine mr_lk ?_ (by first | assumption | decide); first | assumption | exact mr_up_same _ _ _ | (refine mr_lk ?_ (by first | assumption | decide); first | assumption | exact mr_up_same _ _ _ | (refine mr_lk ?_ (by first | assumption | decide); first | assumption | exact mr_up_same _ _ _ | (refine mr_lk ?_ (by first | assumption | decide); first | assumption | exact mr_up_same _ _ _))))) (by decide) (by decide) ?_
      refine mr_goto (tgt := 62) dX7_drop_58 (by decide) ?_
      refine mr_iast dX7_drop_62 (by first | assumption | exact mr_up_same _ _ _ | (refine mr_lk ?_ (by first | assumption | decide); first | assumption | exact mr_up_same _ _ _ | (refine mr_lk ?_ (by first | assumption | decide); first | assumption | exact mr_up_same _ _ _ | (refine mr_lk ?_ (by first | assumption | decide); first | assumption | exact mr_up_same _ _ _ | (refine mr_lk ?_ (by first | assumption | decide); first | assumption | exact mr_up_same _ _ _))))) (by omega) (by omega) (by decide) ?_
      refine mw_a20 hM2 (fun w3 hM3 hF3 => ?_)
      obtain ⟨h18, h19, h20, h21, h22, h23, h24, h25, h26, h27, hs1, hs2, hik⟩ := id hM3
      refine mr_aload_n dX7_drop_63 rfl ?_
      refine mr_get dX7_drop_64 fl_X7_86 (by first | assumption | exact mr_up_same _ _ _ | (refine mr_lk ?_ (by first | assumption | decide); first | assumption | exact mr_up_same _ _ _ | (refine mr_lk ?_ (by first | assumption | decide); first | assumption | exact mr_up_same _ _ _ | (refine mr_lk ?_ (by first | assumption | decide); first | assumption | exact mr_up_same _ _ _ | (refine mr_lk ?_ (by first | assumption | decide); first | assumption | exact mr_up_same _ _ _))))) rfl ?_
      refine mr_bipush dX7_drop_67 rfl ?_
      refine mr_iload_n dX7_drop_69 rfl ?_
      refine mr_iadd dX7_drop_70 ?_
      refine mr_iload_n dX7_drop_71 rfl ?_
      refine mr_iconst dX7_drop_72 ?_
      refine mr_iadd dX7_drop_73 ?_
      refine mr_iconst dX7_drop_74 ?_
      refine mr_icmp_ge (tgt := 92) dX7_drop_75 (by decide) (by omega) (by omega) (fun h => absurd h (by decide)) (fun _ => ?_)
      refine mr_aload_n dX7_drop_78 rfl ?_
      refine mr_get dX7_drop_79 fl_X7_86 (by first | assumption | exact mr_up_same _ _ _ | (refine mr_lk ?_ (by first | assumption | decide); first | assumption | exact mr_up_same _ _ _ | (refine mr_lk ?_ (by first | assumption | decide); first | assumption | exact mr_up_same _ _ _ | (refine mr_lk ?_ (by first | assumption | decide); first | assumption | exact mr_up_same _ _ _ | (refine mr_lk ?_ (by first | assumption | decide); first | assumption | exact mr_up_same _ _ _))))) rfl ?_
      refine mr_bipush dX7_drop_82 rfl ?_
      refine mr_iload_n dX7_drop_84 rfl ?_
      refine mr_iadd dX7_drop_85 ?_
      refine mr_iconst dX7_drop_86 ?_
      refine mr_iadd dX7_drop_87 ?_
      refine mr_ialdK 19 dX7_drop_88 (by first | assumption | exact mr_up_same _ _ _ | (refine mr_lk ?_ (by first | assumption | decide); first | assumption | exact mr_up_same _ _ _ | (refine mr_lk ?_ (by first | assumption | decide); first | assumption | exact mr_up_same _ _ _ | (refine mr_lk ?_ (by first | assumption | decide); first | assumption | exact mr_up_same _ _ _ | (refine mr_lk ?_ (by first | assumption | decide); first | assumption | exact mr_up_same _ _ _))))) (by decide) (by decide) ?_
      refine mr_goto (tgt := 93) dX7_drop_89 (by decide) ?_
      refine mr_iast dX7_drop_93 (by first | assumption | exact mr_up_same _ _ _ | (refine mr_lk ?_ (by first | assumption | decide); first | assumption | exact mr_up_same _ _ _ | (refine mr_lk ?_ (by first | assumption | decide); first | assumption | exact mr_up_same _ _ _ | (refine mr_lk ?_ (by first | assumption | decide); first | assumption | exact mr_up_same _ _ _ | (refine mr_lk ?_ (by first | assumption | decide); first | assumption | exact mr_up_same _ _ _))))) (by omega) (by omega) (by decide) ?_
      refine mw_a20 hM3 (fun w4 hM4 hF4 => ?_)
      obtain ⟨h18, h19, h20, h21, h22, h23, h24, h25, h26, h27, hs1, hs2, hik⟩ := id hM4
      refine mr_iinc dX7_drop_94 rfl (by decide) rfl ?_
      refine mr_goto (tgt := 27) dX7_drop_97 (by decide) ?_
      refine mr_iload_n dX7_drop_27 rfl ?_
      refine mr_iconst dX7_drop_28 ?_
      refine mr_icmp_ge (tgt := 100) dX7_drop_29 (by decide) (by omega) (by omega) (fun h => absurd h (by decide)) (fun _ => ?_)
      refine mr_aload_n dX7_drop_32 rfl ?_
      refine mr_get dX7_drop_33 fl_X7_86 (by first | assumption | exact mr_up_same _ _ _ | (refine mr_lk ?_ (by first | assumption | decide); first | assumption | exact mr_up_same _ _ _ | (refine mr_lk ?_ (by first | assumption | decide); first | assumption | exact mr_up_same _ _ _ | (refine mr_lk ?_ (by first | assumption | decide); first | assumption | exact mr_up_same _ _ _ | (refine mr_lk ?_ (by first | assumption | decide); first | assumption | exact mr_up_same _ _ _))))) rfl ?_
      refine mr_bipush dX7_drop_36 rfl ?_
      refine mr_iload_n dX7_drop_38 rfl ?_
      refine mr_iadd dX7_drop_39 ?_
      refine mr_iload_n dX7_drop_40 rfl ?_
      refine mr_iconst dX7_drop_41 ?_
      refine mr_iadd dX7_drop_42 ?_
      refine mr_iconst dX7_drop_43 ?_
      refine mr_icmp_ge (tgt := 61) dX7_drop_44 (by decide) (by omega) (by omega) (fun h => absurd h (by decide)) (fun _ => ?_)
      refine mr_aload_n dX7_drop_47 rfl ?_
      refine mr_get dX7_drop_48 fl_X7_86 (by first | assumption | exact mr_up_same _ _ _ | (refine mr_lk ?_ (by first | assumption | decide); first | assumption | exact mr_up_same _ _ _ | (refine mr_lk ?_ (by first | assumption | decide); first | assumption | exact mr_up_same _ _ _ | (refine mr_lk ?_ (by first | assumption | decide); first | assumption | exact mr_up_same _ _ _ | (refine mr_lk ?_ (by first | assumption | decide); first | assumption | exact mr_up_same _ _ _))))) rfl ?_
      refine mr_bipush dX7_drop_51 rfl ?_
      refine mr_iload_n dX7_drop_53 rfl ?_
      refine mr_iadd dX7_drop_54 ?_
      refine mr_iconst dX7_drop_55 ?_
      refine mr_iadd dX7_drop_56 ?_
      refine mr_ialdK 17 dX7_drop_57 (by first | assumption | exact mr_up_same _ _ _ | (refine mr_lk ?_ (by first | assumption | decide); first | assumption | exact mr_up_same _ _ _ | (refine mr_lk ?_ (by first | assumption | decide); first | assumption | exact mr_up_same _ _ _ | (refine mr_lk ?_ (by first | assumption | decide); first | assumption | exact mr_up_same _ _ _ | (refine mr_lk ?_ (by first | assumption | decide); first | assumption | exact mr_up_same _ _ _))))) (by decide) (by decide) ?_
      refine mr_goto (tgt := 62) dX7_drop_58 (by decide) ?_
      refine mr_iast dX7_drop_62 (by first | assumption | exact mr_up_same _ _ _ | (refine mr_lk ?_ (by first | assumption | decide); first | assumption | exact mr_up_same _ _ _ | (refine mr_lk ?_ (by first | assumption | decide); first | assumption | exact mr_up_same _ _ _ | (refine mr_lk ?_ (by first | assumption | decide); first | assumption | exact mr_up_same _ _ _ | (refine mr_lk ?_ (by first | assumption | decide); first | assumption | exact mr_up_same _ _ _))))) (by omega) (by omega) (by decide) ?_
      refine mw_a20 hM4 (fun w5 hM5 hF5 => ?_)
      obtain ⟨h18, h19, h20, h21, h22, h23, h24, h25, h26, h27, hs1, hs2, hik⟩ := id hM5
      refine mr_aload_n dX7_drop_63 rfl ?_
      refine mr_get dX7_drop_64 fl_X7_86 (by first | assumption | exact mr_up_same _ _ _ | (refine mr_lk ?_ (by first | assumption | decide); first | assumption | exact mr_up_same _ _ _ | (refine mr_lk ?_ (by first | assumption | decide); first | assumption | exact mr_up_same _ _ _ | (refine mr_lk ?_ (by first | assumption | decide); first | assumption | exact mr_up_same _ _ _ | (refine mr_lk ?_ (by first | assumption | decide); first | assumption | exact mr_up_same _ _ _))))) rfl ?_
      refine mr_bipush dX7_drop_67 rfl ?_
      refine mr_iload_n dX7_drop_69 rfl ?_
      refine mr_iadd dX7_drop_70 ?_
      refine mr_iload_n dX7_drop_71 rfl ?_
      refine mr_iconst dX7_drop_72 ?_
      refine mr_iadd dX7_drop_73 ?_
      refine mr_iconst dX7_drop_74 ?_
      refine mr_icmp_ge (tgt := 92) dX7_drop_75 (by decide) (by omega) (by omega) (fun h => absurd h (by decide)) (fun _ => ?_)
      refine mr_aload_n dX7_drop_78 rfl ?_
      refine mr_get dX7_drop_79 fl_X7_86 (by first | assumption | exact mr_up_same _ _ _ | (refine mr_lk ?_ (by first | assumption | decide); first | assumption | exact mr_up_same _ _ _ | (refine mr_lk ?_ (by first | assumption | decide); first | assumption | exact mr_up_same _ _ _ | (refine mr_lk ?_ (by first | assumption | decide); first | assumption | exact mr_up_same _ _ _ | (refine mr_lk ?_ (by first | assumption | decide); first | assumption | exact mr_up_same _ _ _))))) rfl ?_
      refine mr_bipush dX7_drop_82 rfl ?_
      refine mr_iload_n dX7_drop_84 rfl ?_
      refine mr_iadd dX7_drop_85 ?_
      refine mr_iconst dX7_drop_86 ?_
      refine mr_iadd dX7_drop_87 ?_
      refine mr_ialdK 20 dX7_drop_88 (by first | assumption | exact mr_up_same _ _ _ | (refine mr_lk ?_ (by first | assumption | decide); first | assumption | exact mr_up_same _ _ _ | (refine mr_lk ?_ (by first | assumption | decide); first | assumption | exact mr_up_same _ _ _ | (refine mr_lk ?_ (by first | assumption | decide); first | assumption | exact mr_up_same _ _ _ | (refine mr_lk ?_ (by first | assumption | decide); first | assumption | exact mr_up_same _ _ _))))) (by decide) (by decide) ?_
      refine mr_goto (tgt := 93) dX7_drop_89 (by decide) ?_
      refine mr_iast dX7_drop_93 (by first | assumption | exact mr_up_same _ _ _ | (refine mr_lk ?_ (by first | assumption | decide); first | assumption | exact mr_up_same _ _ _ | (refine mr_lk ?_ (by first | assumption | decide); first | assumption | exact mr_up_same _ _ _ | (refine mr_lk ?_ (by first | assumption | decide); first | assumption | exact mr_up_same _ _ _ | (refine mr_lk ?_ (by first | assumption | decide); first | assumption | exact mr_up_same _ _ _))))) (by omega) (by omega) (by decide) ?_
      refine mw_a20 hM5 (fun w6 hM6 hF6 => ?_)
      obtain ⟨h18, h19, h20, h21, h22, h23, h24, h25, h26, h27, hs1, hs2, hik⟩ := id hM6
      refine mr_iinc dX7_drop_94 rfl (by decide) rfl ?_
      refine mr_goto (tgt := 27) dX7_drop_97 (by decide) ?_
      refine mr_iload_n dX7_drop_27 rfl ?_
      refine mr_iconst dX7_drop_28 ?_
      refine mr_icmp_ge (tgt := 100) dX7_drop_29 (by decide) (by omega) (by omega) (fun h => absurd h (by decide)) (fun _ => ?_)
      refine mr_aload_n dX7_drop_32 rfl ?_
      refine mr_get dX7_drop_33 fl_X7_86 (by first | assumption | exact mr_up_same _ _ _ | (refine mr_lk ?_ (by first | assumption | decide); first | assumption | exact mr_up_same _ _ _ | (refine mr_lk ?_ (by first | assumption | decide); first | assumption | exact mr_up_same _ _ _ | (refine mr_lk ?_ (by first | assumption | decide); first | assumption | exact mr_up_same _ _ _ | (refine mr_lk ?_ (by first | assumption | decide); first | assumption | exact mr_up_same _ _ _))))) rfl ?_
      refine mr_bipush dX7_drop_36 rfl ?_
      refine mr_iload_n dX7_drop_38 rfl ?_
      refine mr_iadd dX7_drop_39 ?_
      refine mr_iload_n dX7_drop_40 rfl ?_
      refine mr_iconst dX7_drop_41 ?_
      refine mr_iadd dX7_drop_42 ?_
      refine mr_iconst dX7_drop_43 ?_
      refine mr_icmp_ge (tgt := 61) dX7_drop_44 (by decide) (by omega) (by omega) (fun _ => ?_) (fun h => absurd h (by decide))
      refine mr_iconst dX7_drop_61 ?_
      refine mr_iast dX7_drop_62 (by first | assumption | exact mr_up_same _ _ _ | (refine mr_lk ?_ (by first | assumption | decide); first | assumption | exact mr_up_same _ _ _ | (refine mr_lk ?_ (by first | assumption | decide); first | assumption | exact mr_up_same _ _ _ | (refine mr_lk ?_ (by first | assumption | decide); first | assumption | exact mr_up_same _ _ _ | (refine mr_lk ?_ (by first | assumption | decide); first | assumption | exact mr_up_same _ _ _))))) (by omega) (by omega) (by decide) ?_
      refine mw_a20 hM6 (fun w7 hM7 hF7 => ?_)
      obtain ⟨h18, h19, h20, h21, h22, h23, h24, h25, h26, h27, hs1, hs2, hik⟩ := id hM7
      refine mr_aload_n dX7_drop_63 rfl ?_
      refine mr_get dX7_drop_64 fl_X7_86 (by first | assumption | exact mr_up_same _ _ _ | (refine mr_lk ?_ (by first | assumption | decide); first | assumption | exact mr_up_same _ _ _ | (refine mr_lk ?_ (by first | assumption | decide); first | assumption | exact mr_up_same _ _ _ | (refine mr_lk ?_ (by first | assumption | decide); first | assumption | exact mr_up_same _ _ _ | (refine mr_lk ?_ (by first | assumption | decide); first | assumption | exact mr_up_same _ _ _))))) rfl ?_
      refine mr_bipush dX7_drop_67 rfl ?_
      refine mr_iload_n dX7_drop_69 rfl ?_
      refine mr_iadd dX7_drop_70 ?_
      refine mr_iload_n dX7_drop_71 rfl ?_
      refine mr_iconst dX7_drop_72 ?_
      refine mr_iadd dX7_drop_73 ?_
      refine mr_iconst dX7_drop_74 ?_
      refine mr_icmp_ge (tgt := 92) dX7_drop_75 (by decide) (by omega) (by omega) (fun _ => ?_) (fun h => absurd h (by decide))
      refine mr_iconst dX7_drop_92 ?_
      refine mr_iast dX7_drop_93 (by first | assumption | exact mr_up_same _ _ _ | (refine mr_lk ?_ (by first | assumption | decide); first | assumption | exact mr_up_same _ _ _ | (refine mr_lk ?_ (by first | assumption | decide); first | assumption | exact mr_up_same _ _ _ | (refine mr_lk ?_ (by first | assumption | decide); first | assumption | exact mr_up_same _ _ _ | (refine mr_lk ?_ (by first | assumption | decide); first | assumption | exact mr_up_same _ _ _))))) (by omega) (by omega) (by decide) ?_
      refine mw_a20 hM7 (fun w8 hM8 hF8 => ?_)
      obtain ⟨h18, h19, h20, h21, h22, h23, h24, h25, h26, h27, hs1, hs2, hik⟩ := id hM8
      refine mr_iinc dX7_drop_94 rfl (by decide) rfl ?_
      refine mr_goto (tgt := 27) dX7_drop_97 (by decide) ?_
      refine mr_iload_n dX7_drop_27 rfl ?_
      refine mr_iconst dX7_drop_28 ?_
      refine mr_icmp_ge (tgt := 100) dX7_drop_29 (by decide) (by omega) (by omega) (fun _ => ?_) (fun h => absurd h (by decide))
      refine mr_aload_n dX7_drop_100 rfl ?_
      refine mr_get dX7_drop_101 fl_X7_86 (by first | assumption | exact mr_up_same _ _ _ | (refine mr_lk ?_ (by first | assumption | decide); first | assumption | exact mr_up_same _ _ _ | (refine mr_lk ?_ (by first | assumption | decide); first | assumption | exact mr_up_same _ _ _ | (refine mr_lk ?_ (by first | assumption | decide); first | assumption | exact mr_up_same _ _ _ | (refine mr_lk ?_ (by first | assumption | decide); first | assumption | exact mr_up_same _ _ _))))) rfl ?_
      refine mr_bipush dX7_drop_104 rfl ?_
      refine mr_dup2 dX7_drop_106 rfl rfl ?_
      refine mr_ialdK 14 dX7_drop_107 (by first | assumption | exact mr_up_same _ _ _ | (refine mr_lk ?_ (by first | assumption | decide); first | assumption | exact mr_up_same _ _ _ | (refine mr_lk ?_ (by first | assumption | decide); first | assumption | exact mr_up_same _ _ _ | (refine mr_lk ?_ (by first | assumption | decide); first | assumption | exact mr_up_same _ _ _ | (refine mr_lk ?_ (by first | assumption | decide); first | assumption | exact mr_up_same _ _ _))))) (by decide) (by decide) ?_
      refine mr_iconst dX7_drop_108 ?_
      refine mr_isub dX7_drop_109 ?_
      refine mr_iast dX7_drop_110 (by first | assumption | exact mr_up_same _ _ _ | (refine mr_lk ?_ (by first | assumption | decide); first | assumption | exact mr_up_same _ _ _ | (refine mr_lk ?_ (by first | assumption | decide); first | assumption | exact mr_up_same _ _ _ | (refine mr_lk ?_ (by first | assumption | decide); first | assumption | exact mr_up_same _ _ _ | (refine mr_lk ?_ (by first | assumption | decide); first | assumption | exact mr_up_same _ _ _))))) (by omega) (by omega) (by decide) ?_
      refine mw_a20 hM8 (fun w9 hM9 hF9 => ?_)
      obtain ⟨h18, h19, h20, h21, h22, h23, h24, h25, h26, h27, hs1, hs2, hik⟩ := id hM9
      refine mr_aload_n dX7_drop_111 rfl ?_
      refine mr_callV (as := []) dX7_drop_112 (ok_X7_equations l G) ml_X7_250 cl_X7_equations cv_X7_equations (by decide) rfl rfl (Nat.le_of_ble_eq_true rfl) (by first | assumption | exact mr_up_same _ _ _ | (refine mr_lk ?_ (by first | assumption | decide); first | assumption | exact mr_up_same _ _ _ | (refine mr_lk ?_ (by first | assumption | decide); first | assumption | exact mr_up_same _ _ _ | (refine mr_lk ?_ (by first | assumption | decide); first | assumption | exact mr_up_same _ _ _ | (refine mr_lk ?_ (by first | assumption | decide); first | assumption | exact mr_up_same _ _ _))))) ?_
      refine ⟨_, _, _, _, _, _, _, _, _, _, _, _, _, _, _, rfl, (by first | assumption | exact mr_up_same _ _ _ | (refine mr_lk ?_ (by first | assumption | decide); first | assumption | exact mr_up_same _ _ _ | (refine mr_lk ?_ (by first | assumption | decide); first | assumption | exact mr_up_same _ _ _ | (refine mr_lk ?_ (by first | assumption | decide); first | assumption | exact mr_up_same _ _ _ | (refine mr_lk ?_ (by first | assumption | decide); first | assumption | exact mr_up_same _ _ _))))), (by first | assumption | exact mr_up_same _ _ _ | (refine mr_lk ?_ (by first | assumption | decide); first | assumption | exact mr_up_same _ _ _ | (refine mr_lk ?_ (by first | assumption | decide); first | assumption | exact mr_up_same _ _ _ | (refine mr_lk ?_ (by first | assumption | decide); first | assumption | exact mr_up_same _ _ _ | (refine mr_lk ?_ (by first | assumption | decide); first | assumption | exact mr_up_same _ _ _))))), ?_⟩
      dsimp only [Option.toList_some, Option.toList_none, List.cons_append, List.nil_append]
      refine mr_iret rfl dX7_drop_115 ?_
      refine hP (by omega) w9 Sn2 _ sm2 hsn2 ⟨fun j hj => ?_, rfl, fun q hq => ?_, fun q hq => ?_⟩ hM9 (hF1.tr (hF2.tr (hF3.tr (hF4.tr (hF5.tr (hF6.tr (hF7.tr (hF8.tr hF9))))))))
      · repeat rw [mr_fs_ne _ _ (by first | omega | (intro zz; revert zz; show ¬ _; omega))]
      · rcases (show q = 0 ∨ q = 1 ∨ q = 2 by omega) with rfl | rfl | rfl <;> rfl
      · rcases (show q = 0 ∨ q = 1 ∨ q = 2 by omega) with rfl | rfl | rfl <;> rfl
    · refine mr_iload_n dX7_drop_25 rfl ?_
      refine mr_istore_n dX7_drop_26 rfl (by decide) ?_
      refine mr_iload_n dX7_drop_27 rfl ?_
      refine mr_iconst dX7_drop_28 ?_
      refine mr_icmp_ge (tgt := 100) dX7_drop_29 (by decide) (by omega) (by omega) (fun h => absurd h (by decide)) (fun _ => ?_)
      refine mr_aload_n dX7_drop_32 rfl ?_
      refine mr_get dX7_drop_33 fl_X7_86 (by first | assumption | exact mr_up_same _ _ _ | (refine mr_lk ?_ (by first | assumption | decide); first | assumption | exact mr_up_same _ _ _ | (refine mr_lk ?_ (by first | assumption | decide); first | assumption | exact mr_up_same _ _ _ | (refine mr_lk ?_ (by first | assumption | decide); first | assumption | exact mr_up_same _ _ _ | (refine mr_lk ?_ (by first | assumption | decide); first | assumption | exact mr_up_same _ _ _))))) rfl ?_
      refine mr_bipush dX7_drop_36 rfl ?_
      refine mr_iload_n dX7_drop_38 rfl ?_
      refine mr_iadd dX7_drop_39 ?_
      refine mr_iload_n dX7_drop_40 rfl ?_
      refine mr_iconst dX7_drop_41 ?_
      refine mr_iadd dX7_drop_42 ?_
      refine mr_iconst dX7_drop_43 ?_
      refine mr_icmp_ge (tgt := 61) dX7_drop_44 (by decide) (by omega) (by omega) (fun h => absurd h (by decide)) (fun _ => ?_)
      refine mr_aload_n dX7_drop_47 rfl ?_
      refine mr_get dX7_drop_48 fl_X7_86 (by first | assumption | exact mr_up_same _ _ _ | (refine mr_lk ?_ (by first | assumption | decide); first | assumption | exact mr_up_same _ _ _ | (refine mr_lk ?_ (by first | assumption | decide); first | assumption | exact mr_up_same _ _ _ | (refine mr_lk ?_ (by first | assumption | decide); first | assumption | exact mr_up_same _ _ _ | (refine mr_lk ?_ (by first | assumption | decide); first | assumption | exact mr_up_same _ _ _))))) rfl ?_
      refine mr_bipush dX7_drop_51 rfl ?_
      refine mr_iload_n dX7_drop_53 rfl ?_
      refine mr_iadd dX7_drop_54 ?_
      refine mr_iconst dX7_drop_55 ?_
      refine mr_iadd dX7_drop_56 ?_
      refine mr_ialdK 17 dX7_drop_57 (by first | assumption | exact mr_up_same _ _ _ | (refine mr_lk ?_ (by first | assumption | decide); first | assumption | exact mr_up_same _ _ _ | (refine mr_lk ?_ (by first | assumption | decide); first | assumption | exact mr_up_same _ _ _ | (refine mr_lk ?_ (by first | assumption | decide); first | assumption | exact mr_up_same _ _ _ | (refine mr_lk ?_ (by first | assumption | decide); first | assumption | exact mr_up_same _ _ _))))) (by decide) (by decide) ?_
      refine mr_goto (tgt := 62) dX7_drop_58 (by decide) ?_
      refine mr_iast dX7_drop_62 (by first | assumption | exact mr_up_same _ _ _ | (refine mr_lk ?_ (by first | assumption | decide); first | assumption | exact mr_up_same _ _ _ | (refine mr_lk ?_ (by first | assumption | decide); first | assumption | exact mr_up_same _ _ _ | (refine mr_lk ?_ (by first | assumption | decide); first | assumption | exact mr_up_same _ _ _ | (refine mr_lk ?_ (by first | assumption | decide); first | assumption | exact mr_up_same _ _ _))))) (by omega) (by omega) (by decide) ?_
      refine mw_a20 hM2 (fun w3 hM3 hF3 => ?_)
      obtain ⟨h18, h19, h20, h21, h22, h23, h24, h25, h26, h27, hs1, hs2, hik⟩ := id hM3
      refine mr_aload_n dX7_drop_63 rfl ?_
      refine mr_get dX7_drop_64 fl_X7_86 (by first | assumption | exact mr_up_same _ _ _ | (refine mr_lk ?_ (by first | assumption | decide); first | assumption | exact mr_up_same _ _ _ | (refine mr_lk ?_ (by first | assumption | decide); first | assumption | exact mr_up_same _ _ _ | (refine mr_lk ?_ (by first | assumption | decide); first | assumption | exact mr_up_same _ _ _ | (refine mr_lk ?_ (by first | assumption | decide); first | assumption | exact mr_up_same _ _ _))))) rfl ?_
      refine mr_bipush dX7_drop_67 rfl ?_
      refine mr_iload_n dX7_drop_69 rfl ?_
      refine mr_iadd dX7_drop_70 ?_
      refine mr_iload_n dX7_drop_71 rfl ?_
      refine mr_iconst dX7_drop_72 ?_
      refine mr_iadd dX7_drop_73 ?_
      refine mr_iconst dX7_drop_74 ?_
      refine mr_icmp_ge (tgt := 92) dX7_drop_75 (by decide) (by omega) (by omega) (fun h => absurd h (by decide)) (fun _ => ?_)
      refine mr_aload_n dX7_drop_78 rfl ?_
      refine mr_get dX7_drop_79 fl_X7_86 (by first | assumption | exact mr_up_same _ _ _ | (refine mr_lk ?_ (by first | assumption | decide); first | assumption | exact mr_up_same _ _ _ | (refine mr_lk ?_ (by first | assumption | decide); first | assumption | exact mr_up_same _ _ _ | (refine mr_lk ?_ (by first | assumption | decide); first | assumption | exact mr_up_same _ _ _ | (refine mr_lk ?_ (by first | assumption | decide); first | assumption | exact mr_up_same _ _ _))))) rfl ?_
      refine mr_bipush dX7_drop_82 rfl ?_
      refine mr_iload_n dX7_drop_84 rfl ?_
      refine mr_iadd dX7_drop_85 ?_
      refine mr_iconst dX7_drop_86 ?_
      refine mr_iadd dX7_drop_87 ?_
      refine mr_ialdK 20 dX7_drop_88 (by first | assumption | exact mr_up_same _ _ _ | (refine mr_lk ?_ (by first | assumption | decide); first | assumption | exact mr_up_same _ _ _ | (refine mr_lk ?_ (by first | assumption | decide); first | assumption | exact mr_up_same _ _ _ | (refine mr_lk ?_ (by first | assumption | decide); first | assumption | exact mr_up_same _ _ _ | (refine mr_lk ?_ (by first | assumption | decide); first | assumption | exact mr_up_same _ _ _))))) (by decide) (by decide) ?_
      refine mr_goto (tgt := 93) dX7_drop_89 (by decide) ?_
      refine mr_iast dX7_drop_93 (by first | assumption | exact mr_up_same _ _ _ | (refine mr_lk ?_ (by first | assumption | decide); first | assumption | exact mr_up_same _ _ _ | (refine mr_lk ?_ (by first | assumption | decide); first | assumption | exact mr_up_same _ _ _ | (refine mr_lk ?_ (by first | assumption | decide); first | assumption | exact mr_up_same _ _ _ | (refine mr_lk ?_ (by first | assumption | decide); first | assumption | exact mr_up_same _ _ _))))) (by omega) (by omega) (by decide) ?_
      refine mw_a20 hM3 (fun w4 hM4 hF4 => ?_)
      obtain ⟨h18, h19, h20, h21, h22, h23, h24, h25, h26, h27, hs1, hs2, hik⟩ := id hM4
      refine mr_iinc dX7_drop_94 rfl (by decide) rfl ?_
      refine mr_goto (tgt := 27) dX7_drop_97 (by decide) ?_
      refine mr_iload_n dX7_drop_27 rfl ?_
      refine mr_iconst dX7_drop_28 ?_
      refine mr_icmp_ge (tgt := 100) dX7_drop_29 (by decide) (by omega) (by omega) (fun h => absurd h (by decide)) (fun _ => ?_)
      refine mr_aload_n dX7_drop_32 rfl ?_
      refine mr_get dX7_drop_33 fl_X7_86 (by first | assumption | exact mr_up_same _ _ _ | (refine mr_lk ?_ (by first | assumption | decide); first | assumption | exact mr_up_same _ _ _ | (refine mr_lk ?_ (by first | assumption | decide); first | assumption | exact mr_up_same _ _ _ | (refine mr_lk ?_ (by first | assumption | decide); first | assumption | exact mr_up_same _ _ _ | (refine mr_lk ?_ (by first | assumption | decide); first | assumption | exact mr_up_same _ _ _))))) rfl ?_
      refine mr_bipush dX7_drop_36 rfl ?_
      refine mr_iload_n dX7_drop_38 rfl ?_
      refine mr_iadd dX7_drop_39 ?_
      refine mr_iload_n dX7_drop_40 rfl ?_
      refine mr_iconst dX7_drop_41 ?_
      refine mr_iadd dX7_drop_42 ?_
      refine mr_iconst dX7_drop_43 ?_
      refine mr_icmp_ge (tgt := 61) dX7_drop_44 (by decide) (by omega) (by omega) (fun _ => ?_) (fun h => absurd h (by decide))
      refine mr_iconst dX7_drop_61 ?_
      refine mr_iast dX7_drop_62 (by first | assumption | exact mr_up_same _ _ _ | (refine mr_lk ?_ (by first | assumption | decide); first | assumption | exact mr_up_same _ _ _ | (refine mr_lk ?_ (by first | assumption | decide); first | assumption | exact mr_up_same _ _ _ | (refine mr_lk ?_ (by first | assumption | decide); first | assumption | exact mr_up_same _ _ _ | (refine mr_lk ?_ (by first | assumption | decide); first | assumption | exact mr_up_same _ _ _))))) (by omega) (by omega) (by decide) ?_
      refine mw_a20 hM4 (fun w5 hM5 hF5 => ?_)
      obtain ⟨h18, h19, h20, h21, h22, h23, h24, h25, h26, h27, hs1, hs2, hik⟩ := id hM5
      refine mr_aload_n dX7_drop_63 rfl ?_
      refine mr_get dX7_drop_64 fl_X7_86 (by first | assumption | exact mr_up_same _ _ _ | (refine mr_lk ?_ (by first | assumption | decide); first | assumption | exact mr_up_same _ _ _ | (refine mr_lk ?_ (by first | assumption | decide); first | assumption | exact mr_up_same _ _ _ | (refine mr_lk ?_ (by first | assumption | decide); first | assumption | exact mr_up_same _ _ _ | (refine mr_lk ?_ (by first | assumption | decide); first | assumption | exact mr_up_same _ _ _))))) rfl ?_
      refine mr_bipush dX7_drop_67 rfl ?_
      refine mr_iload_n dX7_drop_69 rfl ?_
      refine mr_iadd dX7_drop_70 ?_
      refine mr_iload_n dX7_drop_71 rfl ?_
      refine mr_iconst dX7_drop_72 ?_
      refine mr_iadd dX7_drop_73 ?_
      refine mr_iconst dX7_drop_74 ?_
      refine mr_icmp_ge (tgt := 92) dX7_drop_75 (by decide) (by omega) (by omega) (fun _ => ?_) (fun h => absurd h (by decide))
      refine mr_iconst dX7_drop_92 ?_
      refine mr_iast dX7_drop_93 (by first | assumption | exact mr_up_same _ _ _ | (refine mr_lk ?_ (by first | assumption | decide); first | assumption | exact mr_up_same _ _ _ | (refine mr_lk ?_ (by first | assumption | decide); first | assumption | exact mr_up_same _ _ _ | (refine mr_lk ?_ (by first | assumption | decide); first | assumption | exact mr_up_same _ _ _ | (refine mr_lk ?_ (by first | assumption | decide); first | assumption | exact mr_up_same _ _ _))))) (by omega) (by omega) (by decide) ?_
      refine mw_a20 hM5 (fun w6 hM6 hF6 => ?_)
      obtain ⟨h18, h19, h20, h21, h22, h23, h24, h25, h26, h27, hs1, hs2, hik⟩ := id hM6
      refine mr_iinc dX7_drop_94 rfl (by decide) rfl ?_
      refine mr_goto (tgt := 27) dX7_drop_97 (by decide) ?_
      refine mr_iload_n dX7_drop_27 rfl ?_
      refine mr_iconst dX7_drop_28 ?_
      refine mr_icmp_ge (tgt := 100) dX7_drop_29 (by decide) (by omega) (by omega) (fun _ => ?_) (fun h => absurd h (by decide))
      refine mr_aload_n dX7_drop_100 rfl ?_
      refine mr_get dX7_drop_101 fl_X7_86 (by first | assumption | exact mr_up_same _ _ _ | (refine mr_lk ?_ (by first | assumption | decide); first | assumption | exact mr_up_same _ _ _ | (refine mr_lk ?_ (by first | assumption | decide); first | assumption | exact mr_up_same _ _ _ | (refine mr_lk ?_ (by first | assumption | decide); first | assumption | exact mr_up_same _ _ _ | (refine mr_lk ?_ (by first | assumption | decide); first | assumption | exact mr_up_same _ _ _))))) rfl ?_
      refine mr_bipush dX7_drop_104 rfl ?_
      refine mr_dup2 dX7_drop_106 rfl rfl ?_
      refine mr_ialdK 14 dX7_drop_107 (by first | assumption | exact mr_up_same _ _ _ | (refine mr_lk ?_ (by first | assumption | decide); first | assumption | exact mr_up_same _ _ _ | (refine mr_lk ?_ (by first | assumption | decide); first | assumption | exact mr_up_same _ _ _ | (refine mr_lk ?_ (by first | assumption | decide); first | assumption | exact mr_up_same _ _ _ | (refine mr_lk ?_ (by first | assumption | decide); first | assumption | exact mr_up_same _ _ _))))) (by decide) (by decide) ?_
      refine mr_iconst dX7_drop_108 ?_
      refine mr_isub dX7_drop_109 ?_
      refine mr_iast dX7_drop_110 (by first | assumption | exact mr_up_same _ _ _ | (refine mr_lk ?_ (by first | assumption | decide); first | assumption | exact mr_up_same _ _ _ | (refine mr_lk ?_ (by first | assumption | decide); first | assumption | exact mr_up_same _ _ _ | (refine mr_lk ?_ (by first | assumption | decide); first | assumption | exact mr_up_same _ _ _ | (refine mr_lk ?_ (by first | assumption | decide); first | assumption | exact mr_up_same _ _ _))))) (by omega) (by omega) (by decide) ?_
      refine mw_a20 hM6 (fun w7 hM7 hF7 => ?_)
      obtain ⟨h18, h19, h20, h21, h22, h23, h24, h25, h26, h27, hs1, hs2, hik⟩ := id hM7
      refine mr_aload_n dX7_drop_111 rfl ?_
      refine mr_callV (as := []) dX7_drop_112 (ok_X7_equations l G) ml_X7_250 cl_X7_equations cv_X7_equations (by decide) rfl rfl (Nat.le_of_ble_eq_true rfl) (by first | assumption | exact mr_up_same _ _ _ | (refine mr_lk ?_ (by first | assumption | decide); first | assumption | exact mr_up_same _ _ _ | (refine mr_lk ?_ (by first | assumption | decide); first | assumption | exact mr_up_same _ _ _ | (refine mr_lk ?_ (by first | assumption | decide); first | assumption | exact mr_up_same _ _ _ | (refine mr_lk ?_ (by first | assumption | decide); first | assumption | exact mr_up_same _ _ _))))) ?_
      refine ⟨_, _, _, _, _, _, _, _, _, _, _, _, _, _, _, rfl, (by first | assumption | exact mr_up_same _ _ _ | (refine mr_lk ?_ (by first | assumption | decide); first | assumption | exact mr_up_same _ _ _ | (refine mr_lk ?_ (by first | assumption | decide); first | assumption | exact mr_up_same _ _ _ | (refine mr_lk ?_ (by first | assumption | decide); first | assumption | exact mr_up_same _ _ _ | (refine mr_lk ?_ (by first | assumption | decide); first | assumption | exact mr_up_same _ _ _))))), (by first | assumption | exact mr_up_same _ _ _ | (refine mr_lk ?_ (by first | assumption | decide); first | assumption | exact mr_up_same _ _ _ | (refine mr_lk ?_ (by first | assumption | decide); first | assumption | exact mr_up_same _ _ _ | (refine mr_lk ?_ (by first | assumption | decide); first | assumption | exact mr_up_same _ _ _ | (refine mr_lk ?_ (by first | assumption | decide); first | assumption | exact mr_up_same _ _ _))))), ?_⟩
      dsimp only [Option.toList_some, Option.toList_none, List.cons_append, List.nil_append]
      refine mr_iret rfl dX7_drop_115 ?_
      refine hP (by omega) w7 Sn2 _ sm2 hsn2 ⟨fun j hj => ?_, rfl, fun q hq => ?_, fun q hq => ?_⟩ hM7 (hF1.tr (hF2.tr (hF3.tr (hF4.tr (hF5.tr (hF6.tr hF7))))))
      · repeat rw [mr_fs_ne _ _ (by first | omega | (intro zz; revert zz; show ¬ _; omega))]
      · rcases (show q = 0 ∨ q = 1 ∨ q = 2 by omega) with rfl | rfl | rfl <;> rfl
      · rcases (show q = 0 ∨ q = 1 ∨ q = 2 by omega) with rfl | rfl | rfl <;> rfl
    · refine mr_iload_n dX7_drop_25 rfl ?_
      refine mr_istore_n dX7_drop_26 rfl (by decide) ?_
      refine mr_iload_n dX7_drop_27 rfl ?_
      refine mr_iconst dX7_drop_28 ?_
      refine mr_icmp_ge (tgt := 100) dX7_drop_29 (by decide) (by omega) (by omega) (fun h => absurd h (by decide)) (fun _ => ?_)
      refine mr_aload_n dX7_drop_32 rfl ?_
      refine mr_get dX7_drop_33 fl_X7_86 (by first | assumption | exact mr_up_same _ _ _ | (refine mr_lk ?_ (by first | assumption | decide); first | assumption | exact mr_up_same _ _ _ | (refine mr_lk ?_ (by first | assumption | decide); first | assumption | exact mr_up_same _ _ _ | (refine mr_lk ?_ (by first | assumption | decide); first | assumption | exact mr_up_same _ _ _ | (refine mr_lk ?_ (by first | assumption | decide); first | assumption | exact mr_up_same _ _ _))))) rfl ?_
      refine mr_bipush dX7_drop_36 rfl ?_
      refine mr_iload_n dX7_drop_38 rfl ?_
      refine mr_iadd dX7_drop_39 ?_
      refine mr_iload_n dX7_drop_40 rfl ?_
      refine mr_iconst dX7_drop_41 ?_
      refine mr_iadd dX7_drop_42 ?_
      refine mr_iconst dX7_drop_43 ?_
      refine mr_icmp_ge (tgt := 61) dX7_drop_44 (by decide) (by omega) (by omega) (fun _ => ?_) (fun h => absurd h (by decide))
      refine mr_iconst dX7_drop_61 ?_
      refine mr_iast dX7_drop_62 (by first | assumption | exact mr_up_same _ _ _ | (refine mr_lk ?_ (by first | assumption | decide); first | assumption | exact mr_up_same _ _ _ | (refine mr_lk ?_ (by first | assumption | decide); first | assumption | exact mr_up_same _ _ _ | (refine mr_lk ?_ (by first | assumption | decide); first | assumption | exact mr_up_same _ _ _ | (refine mr_lk ?_ (by first | assumption | decide); first | assumption | exact mr_up_same _ _ _))))) (by omega) (by omega) (by decide) ?_
      refine mw_a20 hM2 (fun w3 hM3 hF3 => ?_)
      obtain ⟨h18, h19, h20, h21, h22, h23, h24, h25, h26, h27, hs1, hs2, hik⟩ := id hM3
      refine mr_aload_n dX7_drop_63 rfl ?_
      refine mr_get dX7_drop_64 fl_X7_86 (by first | assumption | exact mr_up_same _ _ _ | (refine mr_lk ?_ (by first | assumption | decide); first | assumption | exact mr_up_same _ _ _ | (refine mr_lk ?_ (by first | assumption | decide); first | assumption | exact mr_up_same _ _ _ | (refine mr_lk ?_ (by first | assumption | decide); first | assumption | exact mr_up_same _ _ _ | (refine mr_lk ?_ (by first | assumption | decide); first | assumption | exact mr_up_same _ _ _))))) rfl ?_
      refine mr_bipush dX7_drop_67 rfl ?_
      refine mr_iload_n dX7_drop_69 rfl ?_
      refine mr_iadd dX7_drop_70 ?_
      refine mr_iload_n dX7_drop_71 rfl ?_
      refine mr_iconst dX7_drop_72 ?_
      refine mr_iadd dX7_drop_73 ?_
      refine mr_iconst dX7_drop_74 ?_
      refine mr_icmp_ge (tgt := 92) dX7_drop_75 (by decide) (by omega) (by omega) (fun _ => ?_) (fun h => absurd h (by decide))
      refine mr_iconst dX7_drop_92 ?_
      refine mr_iast dX7_drop_93 (by first | assumption | exact mr_up_same _ _ _ | (refine mr_lk ?_ (by first | assumption | decide); first | assumption | exact mr_up_same _ _ _ | (refine mr_lk ?_ (by first | assumption | decide); first | assumption | exact mr_up_same _ _ _ | (refine mr_lk ?_ (by first | assumption | decide); first | assumption | exact mr_up_same _ _ _ | (refine mr_lk ?_ (by first | assumption | decide); first | assumption | exact mr_up_same _ _ _))))) (by omega) (by omega) (by decide) ?_
      refine mw_a20 hM3 (fun w4 hM4 hF4 => ?_)
      obtain ⟨h18, h19, h20, h21, h22, h23, h24, h25, h26, h27, hs1, hs2, hik⟩ := id hM4
      refine mr_iinc dX7_drop_94 rfl (by decide) rfl ?_
      refine mr_goto (tgt := 27) dX7_drop_97 (by decide) ?_
      refine mr_iload_n dX7_drop_27 rfl ?_
      refine mr_iconst dX7_drop_28 ?_
      refine mr_icmp_ge (tgt := 100) dX7_drop_29 (by decide) (by omega) (by omega) (fun _ => ?_) (fun h => absurd h (by decide))
      refine mr_aload_n dX7_drop_100 rfl ?_
      refine mr_get dX7_drop_101 fl_X7_86 (by first | assumption | exact mr_up_same _ _ _ | (refine mr_lk ?_ (by first | assumption | decide); first | assumption | exact mr_up_same _ _ _ | (refine mr_lk ?_ (by first | assumption | decide); first | assumption | exact mr_up_same _ _ _ | (refine mr_lk ?_ (by first | assumption | decide); first | assumption | exact mr_up_same _ _ _ | (refine mr_lk ?_ (by first | assumption | decide); first | assumption | exact mr_up_same _ _ _))))) rfl ?_
      refine mr_bipush dX7_drop_104 rfl ?_
      refine mr_dup2 dX7_drop_106 rfl rfl ?_
      refine mr_ialdK 14 dX7_drop_107 (by first | assumption | exact mr_up_same _ _ _ | (refine mr_lk ?_ (by first | assumption | decide); first | assumption | exact mr_up_same _ _ _ | (refine mr_lk ?_ (by first | assumption | decide); first | assumption | exact mr_up_same _ _ _ | (refine mr_lk ?_ (by first | assumption | decide); first | assumption | exact mr_up_same _ _ _ | (refine mr_lk ?_ (by first | assumption | decide); first | assumption | exact mr_up_same _ _ _))))) (by decide) (by decide) ?_
      refine mr_iconst dX7_drop_108 ?_
      refine mr_isub dX7_drop_109 ?_
      refine mr_iast dX7_drop_110 (by first | assumption | exact mr_up_same _ _ _ | (refine mr_lk ?_ (by first | assumption | decide); first | assumption | exact mr_up_same _ _ _ | (refine mr_lk ?_ (by first | assumption | decide); first | assumption | exact mr_up_same _ _ _ | (refine mr_lk ?_ (by first | assumption | decide); first | assumption | exact mr_up_same _ _ _ | (refine mr_lk ?_ (by first | assumption | decide); first | assumption | exact mr_up_same _ _ _))))) (by omega) (by omega) (by decide) ?_
      refine mw_a20 hM4 (fun w5 hM5 hF5 => ?_)
      obtain ⟨h18, h19, h20, h21, h22, h23, h24, h25, h26, h27, hs1, hs2, hik⟩ := id hM5
      refine mr_aload_n dX7_drop_111 rfl ?_
      refine mr_callV (as := []) dX7_drop_112 (ok_X7_equations l G) ml_X7_250 cl_X7_equations cv_X7_equations (by decide) rfl rfl (Nat.le_of_ble_eq_true rfl) (by first | assumption | exact mr_up_same _ _ _ | (refine mr_lk ?_ (by first | assumption | decide); first | assumption | exact mr_up_same _ _ _ | (refine mr_lk ?_ (by first | assumption | decide); first | assumption | exact mr_up_same _ _ _ | (refine mr_lk ?_ (by first | assumption | decide); first | assumption | exact mr_up_same _ _ _ | (refine mr_lk ?_ (by first | assumption | decide); first | assumption | exact mr_up_same _ _ _))))) ?_
      refine ⟨_, _, _, _, _, _, _, _, _, _, _, _, _, _, _, rfl, (by first | assumption | exact mr_up_same _ _ _ | (refine mr_lk ?_ (by first | assumption | decide); first | assumption | exact mr_up_same _ _ _ | (refine mr_lk ?_ (by first | assumption | decide); first | assumption | exact mr_up_same _ _ _ | (refine mr_lk ?_ (by first | assumption | decide); first | assumption | exact mr_up_same _ _ _ | (refine mr_lk ?_ (by first | assumption | decide); first | assumption | exact mr_up_same _ _ _))))), (by first | assumption | exact mr_up_same _ _ _ | (refine mr_lk ?_ (by first | assumption | decide); first | assumption | exact mr_up_same _ _ _ | (refine mr_lk ?_ (by first | assumption | decide); first | assumption | exact mr_up_same _ _ _ | (refine mr_lk ?_ (by first | assumption | decide); first | assumption | exact mr_up_same _ _ _ | (refine mr_lk ?_ (by first | assumption | decide); first | assumption | exact mr_up_same _ _ _))))), ?_⟩
      dsimp only [Option.toList_some, Option.toList_none, List.cons_append, List.nil_append]
      refine mr_iret rfl dX7_drop_115 ?_
      refine hP (by omega) w5 Sn2 _ sm2 hsn2 ⟨fun j hj => ?_, rfl, fun q hq => ?_, fun q hq => ?_⟩ hM5 (hF1.tr (hF2.tr (hF3.tr (hF4.tr hF5))))
      · repeat rw [mr_fs_ne _ _ (by first | omega | (intro zz; revert zz; show ¬ _; omega))]
      · rcases (show q = 0 ∨ q = 1 ∨ q = 2 by omega) with rfl | rfl | rfl <;> rfl
      · rcases (show q = 0 ∨ q = 1 ∨ q = 2 by omega) with rfl | rfl | rfl <;> rfl
  · intro k1
    dsimp only [Option.toList_some, Option.toList_none, List.cons_append, List.nil_append]
    refine mr_if_ne (tgt := 21) dX7_drop_16 (by decide) (by omega) (fun h => absurd h (by decide)) (fun _ => ?_)
    refine mr_iconst dX7_drop_19 ?_
    refine mr_iret rfl dX7_drop_20 ?_
    exact hQ (fun zz => k1 (by omega)) w1 hM1 hF1
noncomputable def mr_sdm (N : Nat → Int) (t : Int) : Nat → Int → Int → (Nat → Int) → (Nat → Int)
  | 0, _, _, B => B
  | n + 1, j, e, B => if mr_nf N t j = 0 then mr_sdm N t n (j + 1) e B else mr_sdm N t n (j + 1) (e + 1) (mr_fs (mr_fs B (15 + e).toNat (mr_nf N t j)) 14 (e + 1))
/-- no equations -/
def mr_eq0 (N : Nat → Int) : Nat → Int := mr_fs (mr_fs (mr_fs (mr_fs (mr_fs (mr_fs (mr_fs N 14 0) 15 0) 18 0) 16 0) 19 0) 17 0) 20 0
set_option maxHeartbeats 4000000 in
set_option maxRecDepth 20000 in
theorem lp_X7_sides (l : Launch) (G : mr_G) {Po : Option mr_AV → mr_Wd → Prop} {w0 : mr_Wd} {th tp sz zo fr kd nb ft pl wd sm md li sd : Int} {T N R K Sn ik s1 s2 ls : Nat → Int} {t : Int} (ht : 0 ≤ t ∧ t ≤ 3) (hb : ∀ j : Int, 0 ≤ j → j < 3 → 0 ≤ mr_nf N t j ∧ mr_nf N t j ≤ 27000) : ∀ (n : Nat) (j e : Int) (B : Nat → Int) (w : mr_Wd), 0 ≤ j → j + n = 3 → (0 ≤ e ∧ e ≤ j) → B 14 = e → (∀ q : Nat, 2 ≤ q → q < 14 → B q = N q) → mr_MW w th tp sz zo fr kd nb ft pl wd sm md li sd T (B) R K Sn ik s1 s2 ls → mr_FM w0 w → (∀ w' : mr_Wd, mr_MW w' th tp sz zo fr kd nb ft pl wd sm md li sd T (mr_sdm N t n j e B) R K Sn ik s1 s2 ls → mr_FM w0 w' → Po (some (vI (mr_sdm N t n j e B 14))) w') → mr_J l G RX7 cX7_sides 3 (some .int) 2 45 Po 62 [some (vR 18 0), some (vI t), some (vI j)] [] w := by
  intro n
  induction n with
  | zero =>
    intro j e B w h0 hn he h14 hk hM hFr hP
    have e3 : j = 3 := by omega
    subst e3
    obtain ⟨h18, h19, h20, h21, h22, h23, h24, h25, h26, h27, hs1, hs2, hik⟩ := id hM
    refine mr_iload_n dX7_sides_62 rfl ?_
    refine mr_iconst dX7_sides_63 ?_
    refine mr_icmp_ge (tgt := 129) dX7_sides_64 (by decide) (by decide) (by decide) (fun hc_64 => ?_) (fun hc_64 => absurd hc_64 (by decide))
    refine mr_aload_n dX7_sides_129 rfl ?_
    refine mr_callV (as := []) dX7_sides_130 (ok_X7_equations l G) ml_X7_250 cl_X7_equations cv_X7_equations (by decide) rfl rfl (Nat.le_of_ble_eq_true rfl) (by first | assumption | exact mr_up_same _ _ _ | (refine mr_lk ?_ (by first | assumption | decide); first | assumption | exact mr_up_same _ _ _ | (refine mr_lk ?_ (by first | assumption | decide); first | assumption | exact mr_up_same _ _ _ | (refine mr_lk ?_ (by first | assumption | decide); first | assumption | exact mr_up_same _ _ _ | (refine mr_lk ?_ (by first | assumption | decide); first | assumption | exact mr_up_same _ _ _))))) ?_
    refine ⟨_, _, _, _, _, _, _, _, _, _, _, _, _, _, _, rfl, (by first | assumption | exact mr_up_same _ _ _ | (refine mr_lk ?_ (by first | assumption | decide); first | assumption | exact mr_up_same _ _ _ | (refine mr_lk ?_ (by first | assumption | decide); first | assumption | exact mr_up_same _ _ _ | (refine mr_lk ?_ (by first | assumption | decide); first | assumption | exact mr_up_same _ _ _ | (refine mr_lk ?_ (by first | assumption | decide); first | assumption | exact mr_up_same _ _ _))))), (by first | assumption | exact mr_up_same _ _ _ | (refine mr_lk ?_ (by first | assumption | decide); first | assumption | exact mr_up_same _ _ _ | (refine mr_lk ?_ (by first | assumption | decide); first | assumption | exact mr_up_same _ _ _ | (refine mr_lk ?_ (by first | assumption | decide); first | assumption | exact mr_up_same _ _ _ | (refine mr_lk ?_ (by first | assumption | decide); first | assumption | exact mr_up_same _ _ _))))), ?_⟩
    dsimp only [Option.toList_some, Option.toList_none, List.cons_append, List.nil_append]
    refine mr_iret rfl dX7_sides_133 ?_
    exact hP w hM hFr
  | succ n ih =>
    intro j e B w h0 hn he h14 hk hM hFr hP
    have hbj := hb j h0 (by omega)
    have ebj : B (2 + 3 * t + j).toNat = mr_nf N t j := hk _ (by omega) (by omega)
    obtain ⟨h18, h19, h20, h21, h22, h23, h24, h25, h26, h27, hs1, hs2, hik⟩ := id hM
    refine mr_iload_n dX7_sides_62 rfl ?_
    refine mr_iconst dX7_sides_63 ?_
    refine mr_icmp_ge (tgt := 129) dX7_sides_64 (by decide) ⟨by omega, by omega⟩ (by decide) (fun hc_64 => absurd hc_64 (by omega)) (fun hc_64 => ?_)
    refine mr_aload_n dX7_sides_67 rfl ?_
    refine mr_get dX7_sides_68 fl_X7_86 (by first | assumption | exact mr_up_same _ _ _ | (refine mr_lk ?_ (by first | assumption | decide); first | assumption | exact mr_up_same _ _ _ | (refine mr_lk ?_ (by first | assumption | decide); first | assumption | exact mr_up_same _ _ _ | (refine mr_lk ?_ (by first | assumption | decide); first | assumption | exact mr_up_same _ _ _ | (refine mr_lk ?_ (by first | assumption | decide); first | assumption | exact mr_up_same _ _ _))))) rfl ?_
    refine mr_iconst dX7_sides_71 ?_
    refine mr_iconst dX7_sides_72 ?_
    refine mr_iload_n dX7_sides_73 rfl ?_
    refine mr_imul dX7_sides_74 ?_
    refine mr_iadd dX7_sides_75 ?_
    refine mr_iload_n dX7_sides_76 rfl ?_
    refine mr_iadd dX7_sides_77 ?_
    refine mr_iald dX7_sides_78 (by first | assumption | exact mr_up_same _ _ _ | (refine mr_lk ?_ (by first | assumption | decide); first | assumption | exact mr_up_same _ _ _ | (refine mr_lk ?_ (by first | assumption | decide); first | assumption | exact mr_up_same _ _ _ | (refine mr_lk ?_ (by first | assumption | decide); first | assumption | exact mr_up_same _ _ _ | (refine mr_lk ?_ (by first | assumption | decide); first | assumption | exact mr_up_same _ _ _))))) (by omega) (by omega) (by decide) ?_
    rw [ebj]
    refine mr_if_ne (tgt := 85) dX7_sides_79 (by decide) ⟨by omega, by omega⟩ (fun hc_79 => ?_) (fun hc_79 => ?_)
    · refine mr_aload_n dX7_sides_85 rfl ?_
      refine mr_get dX7_sides_86 fl_X7_86 (by first | assumption | exact mr_up_same _ _ _ | (refine mr_lk ?_ (by first | assumption | decide); first | assumption | exact mr_up_same _ _ _ | (refine mr_lk ?_ (by first | assumption | decide); first | assumption | exact mr_up_same _ _ _ | (refine mr_lk ?_ (by first | assumption | decide); first | assumption | exact mr_up_same _ _ _ | (refine mr_lk ?_ (by first | assumption | decide); first | assumption | exact mr_up_same _ _ _))))) rfl ?_
      refine mr_bipush dX7_sides_89 rfl ?_
      refine mr_aload_n dX7_sides_91 rfl ?_
      refine mr_get dX7_sides_92 fl_X7_86 (by first | assumption | exact mr_up_same _ _ _ | (refine mr_lk ?_ (by first | assumption | decide); first | assumption | exact mr_up_same _ _ _ | (refine mr_lk ?_ (by first | assumption | decide); first | assumption | exact mr_up_same _ _ _ | (refine mr_lk ?_ (by first | assumption | decide); first | assumption | exact mr_up_same _ _ _ | (refine mr_lk ?_ (by first | assumption | decide); first | assumption | exact mr_up_same _ _ _))))) rfl ?_
      refine mr_bipush dX7_sides_95 rfl ?_
      refine mr_ialdK 14 dX7_sides_97 (by first | assumption | exact mr_up_same _ _ _ | (refine mr_lk ?_ (by first | assumption | decide); first | assumption | exact mr_up_same _ _ _ | (refine mr_lk ?_ (by first | assumption | decide); first | assumption | exact mr_up_same _ _ _ | (refine mr_lk ?_ (by first | assumption | decide); first | assumption | exact mr_up_same _ _ _ | (refine mr_lk ?_ (by first | assumption | decide); first | assumption | exact mr_up_same _ _ _))))) (by decide) (by decide) ?_
      rw [h14]
      refine mr_iadd dX7_sides_98 ?_
      refine mr_aload_n dX7_sides_99 rfl ?_
      refine mr_get dX7_sides_100 fl_X7_86 (by first | assumption | exact mr_up_same _ _ _ | (refine mr_lk ?_ (by first | assumption | decide); first | assumption | exact mr_up_same _ _ _ | (refine mr_lk ?_ (by first | assumption | decide); first | assumption | exact mr_up_same _ _ _ | (refine mr_lk ?_ (by first | assumption | decide); first | assumption | exact mr_up_same _ _ _ | (refine mr_lk ?_ (by first | assumption | decide); first | assumption | exact mr_up_same _ _ _))))) rfl ?_
      refine mr_iconst dX7_sides_103 ?_
      refine mr_iconst dX7_sides_104 ?_
      refine mr_iload_n dX7_sides_105 rfl ?_
      refine mr_imul dX7_sides_106 ?_
      refine mr_iadd dX7_sides_107 ?_
      refine mr_iload_n dX7_sides_108 rfl ?_
      refine mr_iadd dX7_sides_109 ?_
      refine mr_iald dX7_sides_110 (by first | assumption | exact mr_up_same _ _ _ | (refine mr_lk ?_ (by first | assumption | decide); first | assumption | exact mr_up_same _ _ _ | (refine mr_lk ?_ (by first | assumption | decide); first | assumption | exact mr_up_same _ _ _ | (refine mr_lk ?_ (by first | assumption | decide); first | assumption | exact mr_up_same _ _ _ | (refine mr_lk ?_ (by first | assumption | decide); first | assumption | exact mr_up_same _ _ _))))) (by omega) (by omega) (by decide) ?_
      rw [ebj]
      refine mr_iast dX7_sides_111 (by first | assumption | exact mr_up_same _ _ _ | (refine mr_lk ?_ (by first | assumption | decide); first | assumption | exact mr_up_same _ _ _ | (refine mr_lk ?_ (by first | assumption | decide); first | assumption | exact mr_up_same _ _ _ | (refine mr_lk ?_ (by first | assumption | decide); first | assumption | exact mr_up_same _ _ _ | (refine mr_lk ?_ (by first | assumption | decide); first | assumption | exact mr_up_same _ _ _))))) (by omega) (by omega) (by decide) ?_
      refine mw_a20 hM (fun w1 hM1 hF1 => ?_)
      obtain ⟨h18, h19, h20, h21, h22, h23, h24, h25, h26, h27, hs1, hs2, hik⟩ := id hM1
      refine mr_aload_n dX7_sides_112 rfl ?_
      refine mr_get dX7_sides_113 fl_X7_86 (by first | assumption | exact mr_up_same _ _ _ | (refine mr_lk ?_ (by first | assumption | decide); first | assumption | exact mr_up_same _ _ _ | (refine mr_lk ?_ (by first | assumption | decide); first | assumption | exact mr_up_same _ _ _ | (refine mr_lk ?_ (by first | assumption | decide); first | assumption | exact mr_up_same _ _ _ | (refine mr_lk ?_ (by first | assumption | decide); first | assumption | exact mr_up_same _ _ _))))) rfl ?_
      refine mr_bipush dX7_sides_116 rfl ?_
      refine mr_dup2 dX7_sides_118 rfl rfl ?_
      refine mr_ialdK 14 dX7_sides_119 (by first | assumption | exact mr_up_same _ _ _ | (refine mr_lk ?_ (by first | assumption | decide); first | assumption | exact mr_up_same _ _ _ | (refine mr_lk ?_ (by first | assumption | decide); first | assumption | exact mr_up_same _ _ _ | (refine mr_lk ?_ (by first | assumption | decide); first | assumption | exact mr_up_same _ _ _ | (refine mr_lk ?_ (by first | assumption | decide); first | assumption | exact mr_up_same _ _ _))))) (by decide) (by decide) ?_
      rw [show mr_fs B (15 + e).toNat (mr_nf N t j) 14 = e by rw [mr_fs_ne _ _ (by omega)]; exact h14]
      refine mr_iconst dX7_sides_120 ?_
      refine mr_iadd dX7_sides_121 ?_
      refine mr_iast dX7_sides_122 (by first | assumption | exact mr_up_same _ _ _ | (refine mr_lk ?_ (by first | assumption | decide); first | assumption | exact mr_up_same _ _ _ | (refine mr_lk ?_ (by first | assumption | decide); first | assumption | exact mr_up_same _ _ _ | (refine mr_lk ?_ (by first | assumption | decide); first | assumption | exact mr_up_same _ _ _ | (refine mr_lk ?_ (by first | assumption | decide); first | assumption | exact mr_up_same _ _ _))))) (by decide) (by decide) (by decide) ?_
      refine mw_a20 hM1 (fun w2 hM2 hF2 => ?_)
      obtain ⟨h18, h19, h20, h21, h22, h23, h24, h25, h26, h27, hs1, hs2, hik⟩ := id hM2
      refine mr_iinc dX7_sides_123 rfl (by decide) rfl ?_
      refine mr_goto (tgt := 62) dX7_sides_126 (by decide) ?_
      have eU : mr_sdm N t (n + 1) j e B = mr_sdm N t n (j + 1) (e + 1) (mr_fs (mr_fs B (15 + e).toNat (mr_nf N t j)) 14 (e + 1)) := if_neg hc_79
      rw [eU] at hP
      exact ih (j + 1) (e + 1) _ w2 (by omega) (by omega) (by omega) (mr_fs_same _ _ _) (fun q g1 g2 => by rw [mr_fs_ne _ _ (by omega), mr_fs_ne _ _ (by omega)]; exact hk q g1 g2) hM2 (hFr.tr (hF1.tr hF2)) hP
    · refine mr_goto (tgt := 123) dX7_sides_82 (by decide) ?_
      refine mr_iinc dX7_sides_123 rfl (by decide) rfl ?_
      refine mr_goto (tgt := 62) dX7_sides_126 (by decide) ?_
      have eU : mr_sdm N t (n + 1) j e B = mr_sdm N t n (j + 1) e B := if_pos hc_79
      rw [eU] at hP
      exact ih (j + 1) e B w (by omega) (by omega) (by omega) h14 hk hM hFr hP
