/-- the Model's state in order -/
def mr_NW (N : Nat → Int) (M : Int) (W : Nat) (L : Int → mr_V → Prop) : Prop := N 0 = M ∧ N 1 = (W : Int) ∧ (2 ≤ M ∧ M ≤ 30) ∧ (1 ≤ W ∧ W ≤ 3) ∧ (∀ t : Int, 0 ≤ t → t ≤ 3 → mr_FN M W N t (L t)) ∧ (∀ i : Int, 0 ≤ i → i < 3 → (0 ≤ N (15 + i).toNat ∧ N (15 + i).toNat < M * M * M) ∧ (0 ≤ N (18 + i).toNat ∧ N (18 + i).toNat < M))
def mr_NG (N : Nat → Int) (W : Nat) (L : Int → mr_V → Prop) : Prop := (0 ≤ N 0 ∧ N 0 ≤ 30) ∧ (0 ≤ N 1 ∧ N 1 ≤ 3) ∧ (0 ≤ N 14 ∧ N 14 ≤ 3) ∧ (0 < N 0 → mr_NW N (N 0) W L)
def mr_t4 (T : Nat → Int) (n x : Int) : Nat → Int := mr_fs (mr_fs (mr_fs (mr_fs T n.toNat (((x % 4294967296) / 2 ^ 24) % 2 ^ 8)) (n + 1).toNat (((x % 4294967296) / 2 ^ 16) % 2 ^ 8)) (n + 1 + 1).toNat (((x % 4294967296) / 2 ^ 8) % 2 ^ 8)) (n + 1 + 1 + 1).toNat (((x % 4294967296) / 2 ^ 0) % 2 ^ 8)
def T_X7_lays (a : List mr_AV) (w : mr_Wd) (Po : Option mr_AV → mr_Wd → Prop) : Prop := ∃ (th tp sz zo fr kd nb ft pl wd sm md li sd : Int) (T N R K Sn ik s1 s2 ls : Nat → Int) (x : Int), a = [vR 18 0, vI x] ∧ mr_MW w th tp sz zo fr kd nb ft pl wd sm md li sd T N R K Sn ik s1 s2 ls ∧ (0 ≤ tp ∧ tp ≤ 536) ∧ (∀ w' : mr_Wd, mr_MW w' th (tp + 1 + 1 + 1 + 1) sz zo fr kd nb ft pl wd sm md li sd (mr_t4 T tp x) N R K Sn ik s1 s2 ls → mr_FM w w' → Po none w')
set_option maxHeartbeats 4000000 in
set_option maxRecDepth 20000 in
theorem ok_X7_lays (l : Launch) (G : mr_G) : mr_Ok l G yX7_lays cX7_lays 3 none 0 0 T_X7_lays := by
  refine mr_Ok.of (by decide +kernel) ?_
  rintro a w Po ⟨th, tp, sz, zo, fr, kd, nb, ft, pl, wd, sm, md, li, sd, T, N, R, K, Sn, ik, s1, s2, ls, x, rfl, hM, htp, hP⟩
  refine ⟨Nat.le_of_ble_eq_true rfl, ?_⟩
  show mr_J l G RX7 cX7_lays 3 none 0 0 Po 0 [some (vR 18 0), some (vI x), none] [] w
  obtain ⟨h18, h19, h20, h21, h22, h23, h24, h25, h26, h27, hs1, hs2, hik⟩ := id hM
  refine mr_bipush dX7_lays_0 rfl ?_
  refine mr_istore_n dX7_lays_2 rfl (by decide) ?_
  refine mr_iload_n dX7_lays_3 rfl ?_
  refine mr_if_lt (tgt := 39) dX7_lays_4 (by decide) (by omega) (fun h => absurd h (by decide)) (fun _ => ?_)
  refine mr_aload_n dX7_lays_7 rfl ?_
  refine mr_get dX7_lays_8 fl_X7_7 (by first | assumption | exact mr_up_same _ _ _ | (refine mr_lk ?_ (by first | assumption | decide); first | assumption | exact mr_up_same _ _ _ | (refine mr_lk ?_ (by first | assumption | decide); first | assumption | exact mr_up_same _ _ _ | (refine mr_lk ?_ (by first | assumption | decide); first | assumption | exact mr_up_same _ _ _ | (refine mr_lk ?_ (by first | assumption | decide); first | assumption | exact mr_up_same _ _ _))))) rfl ?_
  refine mr_aload_n dX7_lays_11 rfl ?_
  refine mr_get dX7_lays_12 fl_X7_11 (by first | assumption | exact mr_up_same _ _ _ | (refine mr_lk ?_ (by first | assumption | decide); first | assumption | exact mr_up_same _ _ _ | (refine mr_lk ?_ (by first | assumption | decide); first | assumption | exact mr_up_same _ _ _ | (refine mr_lk ?_ (by first | assumption | decide); first | assumption | exact mr_up_same _ _ _ | (refine mr_lk ?_ (by first | assumption | decide); first | assumption | exact mr_up_same _ _ _))))) rfl ?_
  refine mr_iload_n dX7_lays_15 rfl ?_
  refine mr_iload_n dX7_lays_16 rfl ?_
  refine mr_iushr 24 (by decide) dX7_lays_17 (by decide) ?_
  refine mr_sipush dX7_lays_18 rfl ?_
  refine mr_iand 8 (by decide) dX7_lays_21 (by decide) ?_
  refine mr_iast dX7_lays_22 (by first | assumption | exact mr_up_same _ _ _ | (refine mr_lk ?_ (by first | assumption | decide); first | assumption | exact mr_up_same _ _ _ | (refine mr_lk ?_ (by first | assumption | decide); first | assumption | exact mr_up_same _ _ _ | (refine mr_lk ?_ (by first | assumption | decide); first | assumption | exact mr_up_same _ _ _ | (refine mr_lk ?_ (by first | assumption | decide); first | assumption | exact mr_up_same _ _ _))))) (by omega) (by omega) (by decide) ?_
  refine mw_a19 hM (fun w1 hM1 hF1 => ?_)
  obtain ⟨h18, h19, h20, h21, h22, h23, h24, h25, h26, h27, hs1, hs2, hik⟩ := id hM1
  refine mr_aload_n dX7_lays_23 rfl ?_
  refine mr_dup dX7_lays_24 rfl ?_
  refine mr_get dX7_lays_25 fl_X7_11 (by first | assumption | exact mr_up_same _ _ _ | (refine mr_lk ?_ (by first | assumption | decide); first | assumption | exact mr_up_same _ _ _ | (refine mr_lk ?_ (by first | assumption | decide); first | assumption | exact mr_up_same _ _ _ | (refine mr_lk ?_ (by first | assumption | decide); first | assumption | exact mr_up_same _ _ _ | (refine mr_lk ?_ (by first | assumption | decide); first | assumption | exact mr_up_same _ _ _))))) rfl ?_
  refine mr_iconst dX7_lays_28 ?_
  refine mr_iadd dX7_lays_29 ?_
  refine mr_put dX7_lays_30 fl_X7_11 pf_X7_2 rfl rfl (by first | assumption | exact mr_up_same _ _ _ | (refine mr_lk ?_ (by first | assumption | decide); first | assumption | exact mr_up_same _ _ _ | (refine mr_lk ?_ (by first | assumption | decide); first | assumption | exact mr_up_same _ _ _ | (refine mr_lk ?_ (by first | assumption | decide); first | assumption | exact mr_up_same _ _ _ | (refine mr_lk ?_ (by first | assumption | decide); first | assumption | exact mr_up_same _ _ _))))) (Nat.le_of_ble_eq_true rfl) ?_
  refine mw_p2 hM1 (fun w2 hM2 hF2 => ?_)
  obtain ⟨h18, h19, h20, h21, h22, h23, h24, h25, h26, h27, hs1, hs2, hik⟩ := id hM2
  refine mr_iinc dX7_lays_33 rfl (by decide) rfl ?_
  refine mr_goto (tgt := 3) dX7_lays_36 (by decide) ?_
  refine mr_iload_n dX7_lays_3 rfl ?_
  refine mr_if_lt (tgt := 39) dX7_lays_4 (by decide) (by omega) (fun h => absurd h (by decide)) (fun _ => ?_)
  refine mr_aload_n dX7_lays_7 rfl ?_
  refine mr_get dX7_lays_8 fl_X7_7 (by first | assumption | exact mr_up_same _ _ _ | (refine mr_lk ?_ (by first | assumption | decide); first | assumption | exact mr_up_same _ _ _ | (refine mr_lk ?_ (by first | assumption | decide); first | assumption | exact mr_up_same _ _ _ | (refine mr_lk ?_ (by first | assumption | decide); first | assumption | exact mr_up_same _ _ _ | (refine mr_lk ?_ (by first | assumption | decide); first | assumption | exact mr_up_same _ _ _))))) rfl ?_
  refine mr_aload_n dX7_lays_11 rfl ?_
  refine mr_get dX7_lays_12 fl_X7_11 (by first | assumption | exact mr_up_same _ _ _ | (refine mr_lk ?_ (by first | assumption | decide); first | assumption | exact mr_up_same _ _ _ | (refine mr_lk ?_ (by first | assumption | decide); first | assumption | exact mr_up_same _ _ _ | (refine mr_lk ?_ (by first | assumption | decide); first | assumption | exact mr_up_same _ _ _ | (refine mr_lk ?_ (by first | assumption | decide); first | assumption | exact mr_up_same _ _ _))))) rfl ?_
  refine mr_iload_n dX7_lays_15 rfl ?_
  refine mr_iload_n dX7_lays_16 rfl ?_
  refine mr_iushr 16 (by decide) dX7_lays_17 (by decide) ?_
  refine mr_sipush dX7_lays_18 rfl ?_
  refine mr_iand 8 (by decide) dX7_lays_21 (by decide) ?_
  refine mr_iast dX7_lays_22 (by first | assumption | exact mr_up_same _ _ _ | (refine mr_lk ?_ (by first | assumption | decide); first | assumption | exact mr_up_same _ _ _ | (refine mr_lk ?_ (by first | assumption | decide); first | assumption | exact mr_up_same _ _ _ | (refine mr_lk ?_ (by first | assumption | decide); first | assumption | exact mr_up_same _ _ _ | (refine mr_lk ?_ (by first | assumption | decide); first | assumption | exact mr_up_same _ _ _))))) (by omega) (by omega) (by decide) ?_
  refine mw_a19 hM2 (fun w3 hM3 hF3 => ?_)
  obtain ⟨h18, h19, h20, h21, h22, h23, h24, h25, h26, h27, hs1, hs2, hik⟩ := id hM3
  refine mr_aload_n dX7_lays_23 rfl ?_
  refine mr_dup dX7_lays_24 rfl ?_
  refine mr_get dX7_lays_25 fl_X7_11 (by first | assumption | exact mr_up_same _ _ _ | (refine mr_lk ?_ (by first | assumption | decide); first | assumption | exact mr_up_same _ _ _ | (refine mr_lk ?_ (by first | assumption | decide); first | assumption | exact mr_up_same _ _ _ | (refine mr_lk ?_ (by first | assumption | decide); first | assumption | exact mr_up_same _ _ _ | (refine mr_lk ?_ (by first | assumption | decide); first | assumption | exact mr_up_same _ _ _))))) rfl ?_
  refine mr_iconst dX7_lays_28 ?_
  refine mr_iadd dX7_lays_29 ?_
  refine mr_put dX7_lays_30 fl_X7_11 pf_X7_2 rfl rfl (by first | assumption | exact mr_up_same _ _ _ | (refine mr_lk ?_ (by first | assumption | decide); first | assumption | exact mr_up_same _ _ _ | (refine mr_lk ?_ (by first | assumption | decide); first | assumption | exact mr_up_same _ _ _ | (refine mr_lk ?_ (by first | assumption | decide); first | assumption | exact mr_up_same _ _ _ | (refine mr_lk ?_ (by first | assumption | decide); first | assumption | exact mr_up_same _ _ _))))) (Nat.le_of_ble_eq_true rfl) ?_
  refine mw_p2 hM3 (fun w4 hM4 hF4 => ?_)
  obtain ⟨h18, h19, h20, h21, h22, h23, h24, h25, h26, h27, hs1, hs2, hik⟩ := id hM4
  refine mr_iinc dX7_lays_33 rfl (by decide) rfl ?_
  refine mr_goto (tgt := 3) dX7_lays_36 (by decide) ?_
  refine mr_iload_n dX7_lays_3 rfl ?_
  refine mr_if_lt (tgt := 39) dX7_lays_4 (by decide) (by omega) (fun h => absurd h (by decide)) (fun _ => ?_)
  refine mr_aload_n dX7_lays_7 rfl ?_
  refine mr_get dX7_lays_8 fl_X7_7 (by first | assumption | exact mr_up_same _ _ _ | (refine mr_lk ?_ (by first | assumption | decide); first | assumption | exact mr_up_same _ _ _ | (refine mr_lk ?_ (by first | assumption | decide); first | assumption | exact mr_up_same _ _ _ | (refine mr_lk ?_ (by first | assumption | decide); first | assumption | exact mr_up_same _ _ _ | (refine mr_lk ?_ (by first | assumption | decide); first | assumption | exact mr_up_same _ _ _))))) rfl ?_
  refine mr_aload_n dX7_lays_11 rfl ?_
  refine mr_get dX7_lays_12 fl_X7_11 (by first | assumption | exact mr_up_same _ _ _ | (refine mr_lk ?_ (by first | assumption | decide); first | assumption | exact mr_up_same _ _ _ | (refine mr_lk ?_ (by first | assumption | decide); first | assumption | exact mr_up_same _ _ _ | (refine mr_lk ?_ (by first | assumption | decide); first | assumption | exact mr_up_same _ _ _ | (refine mr_lk ?_ (by first | assumption | decide); first | assumption | exact mr_up_same _ _ _))))) rfl ?_
  refine mr_iload_n dX7_lays_15 rfl ?_
  refine mr_iload_n dX7_lays_16 rfl ?_
  refine mr_iushr 8 (by decide) dX7_lays_17 (by decide) ?_
  refine mr_sipush dX7_lays_18 rfl ?_
  refine mr_iand 8 (by decide) dX7_lays_21 (by decide) ?_
  refine mr_iast dX7_lays_22 (by first | assumption | exact mr_up_same _ _ _ | (refine mr_lk ?_ (by first | assumption | decide); first | assumption | exact mr_up_same _ _ _ | (refine mr_lk ?_ (by first | assumption | decide); first | assumption | exact mr_up_same _ _ _ | (refine mr_lk ?_ (by first | assumption | decide); first | assumption | exact mr_up_same _ _ _ | (refine mr_lk ?_ (by first | assumption | decide); first | assumption | exact mr_up_same _ _ _))))) (by omega) (by omega) (by decide) ?_
  refine mw_a19 hM4 (fun w5 hM5 hF5 => ?_)
  obtain ⟨h18, h19, h20, h21, h22, h23, h24, h25, h26, h27, hs1, hs2, hik⟩ := id hM5
  refine mr_aload_n dX7_lays_23 rfl ?_
  refine mr_dup dX7_lays_24 rfl ?_
  refine mr_get dX7_lays_25 fl_X7_11 (by first | assumption | exact mr_up_same _ _ _ | (refine mr_lk ?_ (by first | assumption | decide); first | assumption | exact mr_up_same _ _ _ | (refine mr_lk ?_ (by first | assumption | decide); first | assumption | exact mr_up_same _ _ _ | (refine mr_lk ?_ (by first | assumption | decide); first | assumption | exact mr_up_same _ _ _ | (refine mr_lk ?_ (by first | assumption | decide); first | assumption | exact mr_up_same _ _ _))))) rfl ?_
  refine mr_iconst dX7_lays_28 ?_
  refine mr_iadd dX7_lays_29 ?_
  refine mr_put dX7_lays_30 fl_X7_11 pf_X7_2 rfl rfl (by first | assumption | exact mr_up_same _ _ _ | (refine mr_lk ?_ (by first | assumption | decide); first | assumption | exact mr_up_same _ _ _ | (refine mr_lk ?_ (by first | assumption | decide); first | assumption | exact mr_up_same _ _ _ | (refine mr_lk ?_ (by first | assumption | decide); first | assumption | exact mr_up_same _ _ _ | (refine mr_lk ?_ (by first | assumption | decide); first | assumption | exact mr_up_same _ _ _))))) (Nat.le_of_ble_eq_true rfl) ?_
  refine mw_p2 hM5 (fun w6 hM6 hF6 => ?_)
  obtain ⟨h18, h19, h20, h21, h22, h23, h24, h25, h26, h27, hs1, hs2, hik⟩ := id hM6
  refine mr_iinc dX7_lays_33 rfl (by decide) rfl ?_
  refine mr_goto (tgt := 3) dX7_lays_36 (by decide) ?_
  refine mr_iload_n dX7_lays_3 rfl ?_
  refine mr_if_lt (tgt := 39) dX7_lays_4 (by decide) (by omega) (fun h => absurd h (by decide)) (fun _ => ?_)
  refine mr_aload_n dX7_lays_7 rfl ?_
  refine mr_get dX7_lays_8 fl_X7_7 (by first | assumption | exact mr_up_same _ _ _ | (refine mr_lk ?_ (by first | assumption | decide); first | assumption | exact mr_up_same _ _ _ | (refine mr_lk ?_ (by first | assumption | decide); first | assumption | exact mr_up_same _ _ _ | (refine mr_lk ?_ (by first | assumption | decide); first | assumption | exact mr_up_same _ _ _ | (refine mr_lk ?_ (by first | assumption | decide); first | assumption | exact mr_up_same _ _ _))))) rfl ?_
  refine mr_aload_n dX7_lays_11 rfl ?_
  refine mr_get dX7_lays_12 fl_X7_11 (by first | assumption | exact mr_up_same _ _ _ | (refine mr_lk ?_ (by first | assumption | decide); first | assumption | exact mr_up_same _ _ _ | (refine mr_lk ?_ (by first | assumption | decide); first | assumption | exact mr_up_same _ _ _ | (refine mr_lk ?_ (by first | assumption | decide); first | assumption | exact mr_up_same _ _ _ | (refine mr_lk ?_ (by first | assumption | decide); first | assumption | exact mr_up_same _ _ _))))) rfl ?_
  refine mr_iload_n dX7_lays_15 rfl ?_
  refine mr_iload_n dX7_lays_16 rfl ?_
  refine mr_iushr 0 (by decide) dX7_lays_17 (by decide) ?_
  refine mr_sipush dX7_lays_18 rfl ?_
  refine mr_iand 8 (by decide) dX7_lays_21 (by decide) ?_
  refine mr_iast dX7_lays_22 (by first | assumption | exact mr_up_same _ _ _ | (refine mr_lk ?_ (by first | assumption | decide); first | assumption | exact mr_up_same _ _ _ | (refine mr_lk ?_ (by first | assumption | decide); first | assumption | exact mr_up_same _ _ _ | (refine mr_lk ?_ (by first | assumption | decide); first | assumption | exact mr_up_same _ _ _ | (refine mr_lk ?_ (by first | assumption | decide); first | assumption | exact mr_up_same _ _ _))))) (by omega) (by omega) (by decide) ?_
  refine mw_a19 hM6 (fun w7 hM7 hF7 => ?_)
  obtain ⟨h18, h19, h20, h21, h22, h23, h24, h25, h26, h27, hs1, hs2, hik⟩ := id hM7
  refine mr_aload_n dX7_lays_23 rfl ?_
  refine mr_dup dX7_lays_24 rfl ?_
  refine mr_get dX7_lays_25 fl_X7_11 (by first | assumption | exact mr_up_same _ _ _ | (refine mr_lk ?_ (by first | assumption | decide); first | assumption | exact mr_up_same _ _ _ | (refine mr_lk ?_ (by first | assumption | decide); first | assumption | exact mr_up_same _ _ _ | (refine mr_lk ?_ (by first | assumption | decide); first | assumption | exact mr_up_same _ _ _ | (refine mr_lk ?_ (by first | assumption | decide); first | assumption | exact mr_up_same _ _ _))))) rfl ?_
  refine mr_iconst dX7_lays_28 ?_
  refine mr_iadd dX7_lays_29 ?_
  refine mr_put dX7_lays_30 fl_X7_11 pf_X7_2 rfl rfl (by first | assumption | exact mr_up_same _ _ _ | (refine mr_lk ?_ (by first | assumption | decide); first | assumption | exact mr_up_same _ _ _ | (refine mr_lk ?_ (by first | assumption | decide); first | assumption | exact mr_up_same _ _ _ | (refine mr_lk ?_ (by first | assumption | decide); first | assumption | exact mr_up_same _ _ _ | (refine mr_lk ?_ (by first | assumption | decide); first | assumption | exact mr_up_same _ _ _))))) (Nat.le_of_ble_eq_true rfl) ?_
  refine mw_p2 hM7 (fun w8 hM8 hF8 => ?_)
  obtain ⟨h18, h19, h20, h21, h22, h23, h24, h25, h26, h27, hs1, hs2, hik⟩ := id hM8
  refine mr_iinc dX7_lays_33 rfl (by decide) rfl ?_
  refine mr_goto (tgt := 3) dX7_lays_36 (by decide) ?_
  refine mr_iload_n dX7_lays_3 rfl ?_
  refine mr_if_lt (tgt := 39) dX7_lays_4 (by decide) (by omega) (fun _ => ?_) (fun h => absurd h (by decide))
  refine mr_vret rfl dX7_lays_39 ?_
  exact hP w8 hM8 (hF1.tr (hF2.tr (hF3.tr (hF4.tr (hF5.tr (hF6.tr (hF7.tr hF8)))))))
def T_X7_feed (a : List mr_AV) (w : mr_Wd) (Po : Option mr_AV → mr_Wd → Prop) : Prop := ∃ (th tp sz zo fr kd nb ft pl wd sm md li sd : Int) (T N R K Sn ik s1 s2 ls : Nat → Int) (a1 a2 a3 a4 a5 : Int), a = [vR 18 0, vI a1, vI a2, vI a3, vI a4, vI a5] ∧ mr_MW w th tp sz zo fr kd nb ft pl wd sm md li sd T N R K Sn ik s1 s2 ls ∧ (0 ≤ tp ∧ tp ≤ 540) ∧ (tp ≤ 520 → (∀ w' : mr_Wd, mr_MW w' (0) (tp + 1 + 1 + 1 + 1 + 1 + 1 + 1 + 1 + 1 + 1 + 1 + 1 + 1 + 1 + 1 + 1 + 1 + 1 + 1 + 1) sz zo fr kd nb ft pl wd sm md li sd (mr_t4 (mr_t4 (mr_t4 (mr_t4 (mr_t4 T tp a1) (tp + 1 + 1 + 1 + 1) a2) (tp + 1 + 1 + 1 + 1 + 1 + 1 + 1 + 1) a3) (tp + 1 + 1 + 1 + 1 + 1 + 1 + 1 + 1 + 1 + 1 + 1 + 1) a4) (tp + 1 + 1 + 1 + 1 + 1 + 1 + 1 + 1 + 1 + 1 + 1 + 1 + 1 + 1 + 1 + 1) a5) N R K Sn ik s1 s2 ls → mr_FM w w' → Po (some (vI (tp + 1 + 1 + 1 + 1 + 1 + 1 + 1 + 1 + 1 + 1 + 1 + 1 + 1 + 1 + 1 + 1 + 1 + 1 + 1 + 1))) w')) ∧ (520 < tp → (∀ w' : mr_Wd, mr_MW w' (0) tp sz zo fr kd nb ft pl wd sm md li sd T N R K Sn ik s1 s2 ls → mr_FM w w' → Po (some (vI (-1))) w'))
set_option maxHeartbeats 4000000 in
set_option maxRecDepth 20000 in
theorem ok_X7_feed (l : Launch) (G : mr_G) : mr_Ok l G yX7_feed cX7_feed 6 (some .int) 1 22 T_X7_feed := by
  refine mr_Ok.of (by decide +kernel) ?_
  rintro a w Po ⟨th, tp, sz, zo, fr, kd, nb, ft, pl, wd, sm, md, li, sd, T, N, R, K, Sn, ik, s1, s2, ls, a1, a2, a3, a4, a5, rfl, hM, htp, hP, hQ⟩
  refine ⟨Nat.le_of_ble_eq_true rfl, ?_⟩
  show mr_J l G RX7 cX7_feed 6 (some .int) 1 22 Po 0 [some (vR 18 0), some (vI a1), some (vI a2), some (vI a3), some (vI a4), some (vI a5)] [] w
  obtain ⟨h18, h19, h20, h21, h22, h23, h24, h25, h26, h27, hs1, hs2, hik⟩ := id hM
  refine mr_aload_n dX7_feed_0 rfl ?_
  refine mr_iconst dX7_feed_1 ?_
  refine mr_put dX7_feed_2 fl_X7_1 pf_X7_0 rfl rfl (by first | assumption | exact mr_up_same _ _ _ | (refine mr_lk ?_ (by first | assumption | decide); first | assumption | exact mr_up_same _ _ _ | (refine mr_lk ?_ (by first | assumption | decide); first | assumption | exact mr_up_same _ _ _ | (refine mr_lk ?_ (by first | assumption | decide); first | assumption | exact mr_up_same _ _ _ | (refine mr_lk ?_ (by first | assumption | decide); first | assumption | exact mr_up_same _ _ _))))) (Nat.le_of_ble_eq_true rfl) ?_
  refine mw_p0 hM (fun w1 hM1 hF1 => ?_)
  obtain ⟨h18, h19, h20, h21, h22, h23, h24, h25, h26, h27, hs1, hs2, hik⟩ := id hM1
  refine mr_aload_n dX7_feed_5 rfl ?_
  refine mr_get dX7_feed_6 fl_X7_11 (by first | assumption | exact mr_up_same _ _ _ | (refine mr_lk ?_ (by first | assumption | decide); first | assumption | exact mr_up_same _ _ _ | (refine mr_lk ?_ (by first | assumption | decide); first | assumption | exact mr_up_same _ _ _ | (refine mr_lk ?_ (by first | assumption | decide); first | assumption | exact mr_up_same _ _ _ | (refine mr_lk ?_ (by first | assumption | decide); first | assumption | exact mr_up_same _ _ _))))) rfl ?_
  refine mr_bipush dX7_feed_9 rfl ?_
  refine mr_iadd dX7_feed_11 ?_
  refine mr_sipush dX7_feed_12 rfl ?_
  refine mr_icmp_le (tgt := 20) dX7_feed_15 (by decide) ⟨by omega, by omega⟩ (by decide) (fun hc_15 => ?_) (fun hc_15 => ?_)
  · refine mr_aload_n dX7_feed_20 rfl ?_
    refine mr_iload_n dX7_feed_21 rfl ?_
    refine mr_callV (as := [_]) dX7_feed_22 (ok_X7_lays l G) ml_X7_14 cl_X7_lays cv_X7_lays (by decide) rfl rfl (Nat.le_of_ble_eq_true rfl) (by first | assumption | exact mr_up_same _ _ _ | (refine mr_lk ?_ (by first | assumption | decide); first | assumption | exact mr_up_same _ _ _ | (refine mr_lk ?_ (by first | assumption | decide); first | assumption | exact mr_up_same _ _ _ | (refine mr_lk ?_ (by first | assumption | decide); first | assumption | exact mr_up_same _ _ _ | (refine mr_lk ?_ (by first | assumption | decide); first | assumption | exact mr_up_same _ _ _))))) ?_
    refine ⟨_, _, _, _, _, _, _, _, _, _, _, _, _, _, _, _, _, _, _, _, _, _, _, _, rfl, hM1, (by omega), (fun w2 hM2 hF2 => ?_)⟩
    obtain ⟨h18, h19, h20, h21, h22, h23, h24, h25, h26, h27, hs1, hs2, hik⟩ := id hM2
    dsimp only [Option.toList_some, Option.toList_none, List.cons_append, List.nil_append]
    refine mr_aload_n dX7_feed_25 rfl ?_
    refine mr_iload_n dX7_feed_26 rfl ?_
    refine mr_callV (as := [_]) dX7_feed_27 (ok_X7_lays l G) ml_X7_14 cl_X7_lays cv_X7_lays (by decide) rfl rfl (Nat.le_of_ble_eq_true rfl) (by first | assumption | exact mr_up_same _ _ _ | (refine mr_lk ?_ (by first | assumption | decide); first | assumption | exact mr_up_same _ _ _ | (refine mr_lk ?_ (by first | assumption | decide); first | assumption | exact mr_up_same _ _ _ | (refine mr_lk ?_ (by first | assumption | decide); first | assumption | exact mr_up_same _ _ _ | (refine mr_lk ?_ (by first | assumption | decide); first | assumption | exact mr_up_same _ _ _))))) ?_
    refine ⟨_, _, _, _, _, _, _, _, _, _, _, _, _, _, _, _, _, _, _, _, _, _, _, _, rfl, hM2, (by omega), (fun w3 hM3 hF3 => ?_)⟩
    obtain ⟨h18, h19, h20, h21, h22, h23, h24, h25, h26, h27, hs1, hs2, hik⟩ := id hM3
    dsimp only [Option.toList_some, Option.toList_none, List.cons_append, List.nil_append]
    refine mr_aload_n dX7_feed_30 rfl ?_
    refine mr_iload_n dX7_feed_31 rfl ?_
    refine mr_callV (as := [_]) dX7_feed_32 (ok_X7_lays l G) ml_X7_14 cl_X7_lays cv_X7_lays (by decide) rfl rfl (Nat.le_of_ble_eq_true rfl) (by first | assumption | exact mr_up_same _ _ _ | (refine mr_lk ?_ (by first | assumption | decide); first | assumption | exact mr_up_same _ _ _ | (refine mr_lk ?_ (by first | assumption | decide); first | assumption | exact mr_up_same _ _ _ | (refine mr_lk ?_ (by first | assumption | decide); first | assumption | exact mr_up_same _ _ _ | (refine mr_lk ?_ (by first | assumption | decide); first | assumption | exact mr_up_same _ _ _))))) ?_
    refine ⟨_, _, _, _, _, _, _, _, _, _, _, _, _, _, _, _, _, _, _, _, _, _, _, _, rfl, hM3, (by omega), (fun w4 hM4 hF4 => ?_)⟩
    obtain ⟨h18, h19, h20, h21, h22, h23, h24, h25, h26, h27, hs1, hs2, hik⟩ := id hM4
    dsimp only [Option.toList_some, Option.toList_none, List.cons_append, List.nil_append]
    refine mr_aload_n dX7_feed_35 rfl ?_
    refine mr_iload dX7_feed_36 rfl ?_
    refine mr_callV (as := [_]) dX7_feed_38 (ok_X7_lays l G) ml_X7_14 cl_X7_lays cv_X7_lays (by decide) rfl rfl (Nat.le_of_ble_eq_true rfl) (by first | assumption | exact mr_up_same _ _ _ | (refine mr_lk ?_ (by first | assumption | decide); first | assumption | exact mr_up_same _ _ _ | (refine mr_lk ?_ (by first | assumption | decide); first | assumption | exact mr_up_same _ _ _ | (refine mr_lk ?_ (by first | assumption | decide); first | assumption | exact mr_up_same _ _ _ | (refine mr_lk ?_ (by first | assumption | decide); first | assumption | exact mr_up_same _ _ _))))) ?_
    refine ⟨_, _, _, _, _, _, _, _, _, _, _, _, _, _, _, _, _, _, _, _, _, _, _, _, rfl, hM4, (by omega), (fun w5 hM5 hF5 => ?_)⟩
    obtain ⟨h18, h19, h20, h21, h22, h23, h24, h25, h26, h27, hs1, hs2, hik⟩ := id hM5
    dsimp only [Option.toList_some, Option.toList_none, List.cons_append, List.nil_append]
    refine mr_aload_n dX7_feed_41 rfl ?_
    refine mr_iload dX7_feed_42 rfl ?_
    refine mr_callV (as := [_]) dX7_feed_44 (ok_X7_lays l G) ml_X7_14 cl_X7_lays cv_X7_lays (by decide) rfl rfl (Nat.le_of_ble_eq_true rfl) (by first | assumption | exact mr_up_same _ _ _ | (refine mr_lk ?_ (by first | assumption | decide); first | assumption | exact mr_up_same _ _ _ | (refine mr_lk ?_ (by first | assumption | decide); first | assumption | exact mr_up_same _ _ _ | (refine mr_lk ?_ (by first | assumption | decide); first | assumption | exact mr_up_same _ _ _ | (refine mr_lk ?_ (by first | assumption | decide); first | assumption | exact mr_up_same _ _ _))))) ?_
    refine ⟨_, _, _, _, _, _, _, _, _, _, _, _, _, _, _, _, _, _, _, _, _, _, _, _, rfl, hM5, (by omega), (fun w6 hM6 hF6 => ?_)⟩
    obtain ⟨h18, h19, h20, h21, h22, h23, h24, h25, h26, h27, hs1, hs2, hik⟩ := id hM6
    dsimp only [Option.toList_some, Option.toList_none, List.cons_append, List.nil_append]
    refine mr_aload_n dX7_feed_47 rfl ?_
    refine mr_get dX7_feed_48 fl_X7_11 (by first | assumption | exact mr_up_same _ _ _ | (refine mr_lk ?_ (by first | assumption | decide); first | assumption | exact mr_up_same _ _ _ | (refine mr_lk ?_ (by first | assumption | decide); first | assumption | exact mr_up_same _ _ _ | (refine mr_lk ?_ (by first | assumption | decide); first | assumption | exact mr_up_same _ _ _ | (refine mr_lk ?_ (by first | assumption | decide); first | assumption | exact mr_up_same _ _ _))))) rfl ?_
    refine mr_iret rfl dX7_feed_51 ?_
    exact hP (by omega) w6 hM6 (hF1.tr (hF2.tr (hF3.tr (hF4.tr (hF5.tr hF6)))))
  · refine mr_iconst dX7_feed_18 ?_
    refine mr_iret rfl dX7_feed_19 ?_
    exact hQ (by omega) w1 hM1 hF1
def T_X7_end (a : List mr_AV) (w : mr_Wd) (Po : Option mr_AV → mr_Wd → Prop) : Prop := ∃ (th tp sz zo fr kd nb ft pl wd sm md li sd : Int) (T N R K Sn ik s1 s2 ls : Nat → Int) (x : Int), a = [vR 18 0, vI x] ∧ mr_MW w th tp sz zo fr kd nb ft pl wd sm md li sd T N R K Sn ik s1 s2 ls ∧ (0 ≤ tp ∧ tp ≤ 540) ∧ InR x ∧ (0 ≤ x ∧ x ≤ tp → (∀ w' : mr_Wd, mr_MW w' (0) (x) sz zo fr kd nb ft pl wd sm md li sd T N R K Sn ik s1 s2 ls → mr_FM w w' → Po (some (vI 1)) w')) ∧ (¬ (0 ≤ x ∧ x ≤ tp) → (∀ w' : mr_Wd, mr_MW w' (0) tp sz zo fr kd nb ft pl wd sm md li sd T N R K Sn ik s1 s2 ls → mr_FM w w' → Po (some (vI 0)) w'))
set_option maxHeartbeats 4000000 in
set_option maxRecDepth 20000 in
theorem ok_X7_end (l : Launch) (G : mr_G) : mr_Ok l G yX7_end cX7_end 2 (some .boolean) 0 0 T_X7_end := by
  refine mr_Ok.of (by decide +kernel) ?_
  rintro a w Po ⟨th, tp, sz, zo, fr, kd, nb, ft, pl, wd, sm, md, li, sd, T, N, R, K, Sn, ik, s1, s2, ls, x, rfl, hM, htp, h_x, hP, hQ⟩
  refine ⟨Nat.le_of_ble_eq_true rfl, ?_⟩
  show mr_J l G RX7 cX7_end 2 (some .boolean) 0 0 Po 0 [some (vR 18 0), some (vI x)] [] w
  obtain ⟨h18, h19, h20, h21, h22, h23, h24, h25, h26, h27, hs1, hs2, hik⟩ := id hM
  refine mr_aload_n dX7_end_0 rfl ?_
  refine mr_iconst dX7_end_1 ?_
  refine mr_put dX7_end_2 fl_X7_1 pf_X7_0 rfl rfl (by first | assumption | exact mr_up_same _ _ _ | (refine mr_lk ?_ (by first | assumption | decide); first | assumption | exact mr_up_same _ _ _ | (refine mr_lk ?_ (by first | assumption | decide); first | assumption | exact mr_up_same _ _ _ | (refine mr_lk ?_ (by first | assumption | decide); first | assumption | exact mr_up_same _ _ _ | (refine mr_lk ?_ (by first | assumption | decide); first | assumption | exact mr_up_same _ _ _))))) (Nat.le_of_ble_eq_true rfl) ?_
  refine mw_p0 hM (fun w1 hM1 hF1 => ?_)
  obtain ⟨h18, h19, h20, h21, h22, h23, h24, h25, h26, h27, hs1, hs2, hik⟩ := id hM1
  refine mr_iload_n dX7_end_5 rfl ?_
  refine mr_if_lt (tgt := 17) dX7_end_6 (by decide) h_x (fun hc_6 => ?_) (fun hc_6 => ?_)
  · refine mr_iconst dX7_end_17 ?_
    refine mr_zret rfl (Or.inl rfl) dX7_end_18 ?_
    exact hQ (by omega) w1 hM1 hF1
  · refine mr_iload_n dX7_end_9 rfl ?_
    refine mr_aload_n dX7_end_10 rfl ?_
    refine mr_get dX7_end_11 fl_X7_11 (by first | assumption | exact mr_up_same _ _ _ | (refine mr_lk ?_ (by first | assumption | decide); first | assumption | exact mr_up_same _ _ _ | (refine mr_lk ?_ (by first | assumption | decide); first | assumption | exact mr_up_same _ _ _ | (refine mr_lk ?_ (by first | assumption | decide); first | assumption | exact mr_up_same _ _ _ | (refine mr_lk ?_ (by first | assumption | decide); first | assumption | exact mr_up_same _ _ _))))) rfl ?_
    refine mr_icmp_le (tgt := 19) dX7_end_14 (by decide) h_x ⟨by omega, by omega⟩ (fun hc_14 => ?_) (fun hc_14 => ?_)
    · refine mr_aload_n dX7_end_19 rfl ?_
      refine mr_iload_n dX7_end_20 rfl ?_
      refine mr_put dX7_end_21 fl_X7_11 pf_X7_2 rfl rfl (by first | assumption | exact mr_up_same _ _ _ | (refine mr_lk ?_ (by first | assumption | decide); first | assumption | exact mr_up_same _ _ _ | (refine mr_lk ?_ (by first | assumption | decide); first | assumption | exact mr_up_same _ _ _ | (refine mr_lk ?_ (by first | assumption | decide); first | assumption | exact mr_up_same _ _ _ | (refine mr_lk ?_ (by first | assumption | decide); first | assumption | exact mr_up_same _ _ _))))) (Nat.le_of_ble_eq_true rfl) ?_
      refine mw_p2 hM1 (fun w2 hM2 hF2 => ?_)
      obtain ⟨h18, h19, h20, h21, h22, h23, h24, h25, h26, h27, hs1, hs2, hik⟩ := id hM2
      refine mr_iconst dX7_end_24 ?_
      refine mr_zret rfl (Or.inr rfl) dX7_end_25 ?_
      exact hP (by omega) w2 hM2 (hF1.tr hF2)
    · refine mr_iconst dX7_end_17 ?_
      refine mr_zret rfl (Or.inl rfl) dX7_end_18 ?_
      exact hQ (by omega) w1 hM1 hF1
def T_X7_fault (a : List mr_AV) (w : mr_Wd) (Po : Option mr_AV → mr_Wd → Prop) : Prop := ∃ (th tp sz zo fr kd nb ft pl wd sm md li sd : Int) (T N R K Sn ik s1 s2 ls : Nat → Int), a = [vR 18 0] ∧ mr_MW w th tp sz zo fr kd nb ft pl wd sm md li sd T N R K Sn ik s1 s2 ls ∧ (∀ w' : mr_Wd, mr_MW w' (0) tp sz zo fr kd nb ft pl wd sm md li sd T N R K Sn ik s1 s2 ls → mr_FM w w' → Po (some (vI ft)) w')
set_option maxHeartbeats 4000000 in
set_option maxRecDepth 20000 in
theorem ok_X7_fault (l : Launch) (G : mr_G) : mr_Ok l G yX7_fault cX7_fault 1 (some .int) 0 0 T_X7_fault := by
  refine mr_Ok.of (by decide +kernel) ?_
  rintro a w Po ⟨th, tp, sz, zo, fr, kd, nb, ft, pl, wd, sm, md, li, sd, T, N, R, K, Sn, ik, s1, s2, ls, rfl, hM, hP⟩
  refine ⟨Nat.le_of_ble_eq_true rfl, ?_⟩
  show mr_J l G RX7 cX7_fault 1 (some .int) 0 0 Po 0 [some (vR 18 0)] [] w
  obtain ⟨h18, h19, h20, h21, h22, h23, h24, h25, h26, h27, hs1, hs2, hik⟩ := id hM
  refine mr_aload_n dX7_fault_0 rfl ?_
  refine mr_iconst dX7_fault_1 ?_
  refine mr_put dX7_fault_2 fl_X7_1 pf_X7_0 rfl rfl (by first | assumption | exact mr_up_same _ _ _ | (refine mr_lk ?_ (by first | assumption | decide); first | assumption | exact mr_up_same _ _ _ | (refine mr_lk ?_ (by first | assumption | decide); first | assumption | exact mr_up_same _ _ _ | (refine mr_lk ?_ (by first | assumption | decide); first | assumption | exact mr_up_same _ _ _ | (refine mr_lk ?_ (by first | assumption | decide); first | assumption | exact mr_up_same _ _ _))))) (Nat.le_of_ble_eq_true rfl) ?_
  refine mw_p0 hM (fun w1 hM1 hF1 => ?_)
  obtain ⟨h18, h19, h20, h21, h22, h23, h24, h25, h26, h27, hs1, hs2, hik⟩ := id hM1
  refine mr_aload_n dX7_fault_5 rfl ?_
  refine mr_get dX7_fault_6 fl_X7_74 (by first | assumption | exact mr_up_same _ _ _ | (refine mr_lk ?_ (by first | assumption | decide); first | assumption | exact mr_up_same _ _ _ | (refine mr_lk ?_ (by first | assumption | decide); first | assumption | exact mr_up_same _ _ _ | (refine mr_lk ?_ (by first | assumption | decide); first | assumption | exact mr_up_same _ _ _ | (refine mr_lk ?_ (by first | assumption | decide); first | assumption | exact mr_up_same _ _ _))))) rfl ?_
  refine mr_iret rfl dX7_fault_9 ?_
  exact hP w1 hM1 hF1
def T_X7_now (a : List mr_AV) (w : mr_Wd) (Po : Option mr_AV → mr_Wd → Prop) : Prop := ∃ (th tp sz zo fr kd nb ft pl wd sm md li sd : Int) (T N R K Sn ik s1 s2 ls : Nat → Int) (x : Int), a = [vR 18 0, vI x] ∧ mr_MW w th tp sz zo fr kd nb ft pl wd sm md li sd T N R K Sn ik s1 s2 ls ∧ InR x ∧ (∀ w' : mr_Wd, mr_MW w' (0) tp sz zo fr kd nb ft pl wd sm md li sd T N R K Sn ik s1 s2 ls → mr_FM w w' → Po (some (vI (if x = 0 then N 0 else if x = 1 then N 1 else if x = 2 then N 14 else if x = 3 then sm else if x = 4 then tp else -1))) w')
set_option maxHeartbeats 4000000 in
set_option maxRecDepth 20000 in
theorem ok_X7_now (l : Launch) (G : mr_G) : mr_Ok l G yX7_now cX7_now 2 (some .int) 1 20 T_X7_now := by
  refine mr_Ok.of (by decide +kernel) ?_
  rintro a w Po ⟨th, tp, sz, zo, fr, kd, nb, ft, pl, wd, sm, md, li, sd, T, N, R, K, Sn, ik, s1, s2, ls, x, rfl, hM, h_x, hP⟩
  refine ⟨Nat.le_of_ble_eq_true rfl, ?_⟩
  show mr_J l G RX7 cX7_now 2 (some .int) 1 20 Po 0 [some (vR 18 0), some (vI x)] [] w
  obtain ⟨h18, h19, h20, h21, h22, h23, h24, h25, h26, h27, hs1, hs2, hik⟩ := id hM
  refine mr_aload_n dX7_now_0 rfl ?_
  refine mr_iconst dX7_now_1 ?_
  refine mr_put dX7_now_2 fl_X7_1 pf_X7_0 rfl rfl (by first | assumption | exact mr_up_same _ _ _ | (refine mr_lk ?_ (by first | assumption | decide); first | assumption | exact mr_up_same _ _ _ | (refine mr_lk ?_ (by first | assumption | decide); first | assumption | exact mr_up_same _ _ _ | (refine mr_lk ?_ (by first | assumption | decide); first | assumption | exact mr_up_same _ _ _ | (refine mr_lk ?_ (by first | assumption | decide); first | assumption | exact mr_up_same _ _ _))))) (Nat.le_of_ble_eq_true rfl) ?_
  refine mw_p0 hM (fun w1 hM1 hF1 => ?_)
  obtain ⟨h18, h19, h20, h21, h22, h23, h24, h25, h26, h27, hs1, hs2, hik⟩ := id hM1
  refine mr_iload_n dX7_now_5 rfl ?_
  by_cases c0 : x = 0
  · subst c0
    refine mr_tableIn (tgt := 40) dX7_now_6 (by decide) (by decide) (by decide) rfl (by decide) ?_
    refine mr_aload_n dX7_now_40 rfl ?_
    refine mr_callV (as := []) dX7_now_41 (ok_X7_by l G) ml_X7_195 cl_X7_by cv_X7_by (by decide) rfl rfl (Nat.le_of_ble_eq_true rfl) (by first | assumption | exact mr_up_same _ _ _ | (refine mr_lk ?_ (by first | assumption | decide); first | assumption | exact mr_up_same _ _ _ | (refine mr_lk ?_ (by first | assumption | decide); first | assumption | exact mr_up_same _ _ _ | (refine mr_lk ?_ (by first | assumption | decide); first | assumption | exact mr_up_same _ _ _ | (refine mr_lk ?_ (by first | assumption | decide); first | assumption | exact mr_up_same _ _ _))))) ?_
    refine ⟨_, _, _, _, _, _, _, _, _, _, _, _, _, _, _, rfl, (by first | assumption | exact mr_up_same _ _ _ | (refine mr_lk ?_ (by first | assumption | decide); first | assumption | exact mr_up_same _ _ _ | (refine mr_lk ?_ (by first | assumption | decide); first | assumption | exact mr_up_same _ _ _ | (refine mr_lk ?_ (by first | assumption | decide); first | assumption | exact mr_up_same _ _ _ | (refine mr_lk ?_ (by first | assumption | decide); first | assumption | exact mr_up_same _ _ _))))), (by first | assumption | exact mr_up_same _ _ _ | (refine mr_lk ?_ (by first | assumption | decide); first | assumption | exact mr_up_same _ _ _ | (refine mr_lk ?_ (by first | assumption | decide); first | assumption | exact mr_up_same _ _ _ | (refine mr_lk ?_ (by first | assumption | decide); first | assumption | exact mr_up_same _ _ _ | (refine mr_lk ?_ (by first | assumption | decide); first | assumption | exact mr_up_same _ _ _))))), ?_⟩
    dsimp only [Option.toList_some, Option.toList_none, List.cons_append, List.nil_append]
    refine mr_iret rfl dX7_now_44 ?_
    exact hP w1 hM1 hF1
  by_cases c1 : x = 1
  · subst c1
    refine mr_tableIn (tgt := 45) dX7_now_6 (by decide) (by decide) (by decide) rfl (by decide) ?_
    refine mr_aload_n dX7_now_45 rfl ?_
    refine mr_get dX7_now_46 fl_X7_86 (by first | assumption | exact mr_up_same _ _ _ | (refine mr_lk ?_ (by first | assumption | decide); first | assumption | exact mr_up_same _ _ _ | (refine mr_lk ?_ (by first | assumption | decide); first | assumption | exact mr_up_same _ _ _ | (refine mr_lk ?_ (by first | assumption | decide); first | assumption | exact mr_up_same _ _ _ | (refine mr_lk ?_ (by first | assumption | decide); first | assumption | exact mr_up_same _ _ _))))) rfl ?_
    refine mr_iconst dX7_now_49 ?_
    refine mr_ialdK 1 dX7_now_50 (by first | assumption | exact mr_up_same _ _ _ | (refine mr_lk ?_ (by first | assumption | decide); first | assumption | exact mr_up_same _ _ _ | (refine mr_lk ?_ (by first | assumption | decide); first | assumption | exact mr_up_same _ _ _ | (refine mr_lk ?_ (by first | assumption | decide); first | assumption | exact mr_up_same _ _ _ | (refine mr_lk ?_ (by first | assumption | decide); first | assumption | exact mr_up_same _ _ _))))) (by decide) (by decide) ?_
    refine mr_iret rfl dX7_now_51 ?_
    exact hP w1 hM1 hF1
  by_cases c2 : x = 2
  · subst c2
    refine mr_tableIn (tgt := 52) dX7_now_6 (by decide) (by decide) (by decide) rfl (by decide) ?_
    refine mr_aload_n dX7_now_52 rfl ?_
    refine mr_get dX7_now_53 fl_X7_86 (by first | assumption | exact mr_up_same _ _ _ | (refine mr_lk ?_ (by first | assumption | decide); first | assumption | exact mr_up_same _ _ _ | (refine mr_lk ?_ (by first | assumption | decide); first | assumption | exact mr_up_same _ _ _ | (refine mr_lk ?_ (by first | assumption | decide); first | assumption | exact mr_up_same _ _ _ | (refine mr_lk ?_ (by first | assumption | decide); first | assumption | exact mr_up_same _ _ _))))) rfl ?_
    refine mr_bipush dX7_now_56 rfl ?_
    refine mr_ialdK 14 dX7_now_58 (by first | assumption | exact mr_up_same _ _ _ | (refine mr_lk ?_ (by first | assumption | decide); first | assumption | exact mr_up_same _ _ _ | (refine mr_lk ?_ (by first | assumption | decide); first | assumption | exact mr_up_same _ _ _ | (refine mr_lk ?_ (by first | assumption | decide); first | assumption | exact mr_up_same _ _ _ | (refine mr_lk ?_ (by first | assumption | decide); first | assumption | exact mr_up_same _ _ _))))) (by decide) (by decide) ?_
    refine mr_iret rfl dX7_now_59 ?_
    exact hP w1 hM1 hF1
  by_cases c3 : x = 3
  · subst c3
    refine mr_tableIn (tgt := 60) dX7_now_6 (by decide) (by decide) (by decide) rfl (by decide) ?_
    refine mr_aload_n dX7_now_60 rfl ?_
    refine mr_get dX7_now_61 fl_X7_177 (by first | assumption | exact mr_up_same _ _ _ | (refine mr_lk ?_ (by first | assumption | decide); first | assumption | exact mr_up_same _ _ _ | (refine mr_lk ?_ (by first | assumption | decide); first | assumption | exact mr_up_same _ _ _ | (refine mr_lk ?_ (by first | assumption | decide); first | assumption | exact mr_up_same _ _ _ | (refine mr_lk ?_ (by first | assumption | decide); first | assumption | exact mr_up_same _ _ _))))) rfl ?_
    refine mr_iret rfl dX7_now_64 ?_
    exact hP w1 hM1 hF1
  by_cases c4 : x = 4
  · subst c4
    refine mr_tableIn (tgt := 65) dX7_now_6 (by decide) (by decide) (by decide) rfl (by decide) ?_
    refine mr_aload_n dX7_now_65 rfl ?_
    refine mr_get dX7_now_66 fl_X7_11 (by first | assumption | exact mr_up_same _ _ _ | (refine mr_lk ?_ (by first | assumption | decide); first | assumption | exact mr_up_same _ _ _ | (refine mr_lk ?_ (by first | assumption | decide); first | assumption | exact mr_up_same _ _ _ | (refine mr_lk ?_ (by first | assumption | decide); first | assumption | exact mr_up_same _ _ _ | (refine mr_lk ?_ (by first | assumption | decide); first | assumption | exact mr_up_same _ _ _))))) rfl ?_
    refine mr_iret rfl dX7_now_69 ?_
    exact hP w1 hM1 hF1
  rw [if_neg c0, if_neg c1, if_neg c2, if_neg c3, if_neg c4] at hP
  refine mr_tableOut (tgt := 70) dX7_now_6 h_x (by omega) (by decide) ?_
  refine mr_iconst dX7_now_70 ?_
  refine mr_iret rfl dX7_now_71 ?_
  exact hP w1 hM1 hF1
def T_X7_lead (a : List mr_AV) (w : mr_Wd) (Po : Option mr_AV → mr_Wd → Prop) : Prop := ∃ (th tp sz zo fr kd nb ft pl wd sm md li sd : Int) (T N R K Sn ik s1 s2 ls : Nat → Int) (W : Nat) (L : Int → mr_V → Prop) (t c : Int), a = [vR 18 0, vI t, vI c] ∧ mr_MW w th tp sz zo fr kd nb ft pl wd sm md li sd T N R K Sn ik s1 s2 ls ∧ mr_NG N W L ∧ InR t ∧ InR c ∧ ((0 < N 0 ∧ 0 ≤ t ∧ t ≤ 3) ∧ (0 ≤ c ∧ c < N 1) → (∀ w' : mr_Wd, mr_MW w' (0) tp sz zo fr kd nb ft pl wd sm md li sd T N R K Sn ik s1 s2 ls → mr_FM w w' → Po (some (vI (if c = 0 then mr_nf N t c / (N 0 * N 0) else if c = 1 then mr_nf N t c / N 0 else mr_nf N t c))) w')) ∧ (¬ ((0 < N 0 ∧ 0 ≤ t ∧ t ≤ 3) ∧ (0 ≤ c ∧ c < N 1)) → (∀ w' : mr_Wd, mr_MW w' (0) tp sz zo fr kd nb ft pl wd sm md li sd T N R K Sn ik s1 s2 ls → mr_FM w w' → Po (some (vI (-1))) w'))
set_option maxHeartbeats 4000000 in
set_option maxRecDepth 20000 in
theorem ok_X7_lead (l : Launch) (G : mr_G) : mr_Ok l G yX7_lead cX7_lead 5 (some .int) 2 43 T_X7_lead := by
  refine mr_Ok.of (by decide +kernel) ?_
  rintro a w Po ⟨th, tp, sz, zo, fr, kd, nb, ft, pl, wd, sm, md, li, sd, T, N, R, K, Sn, ik, s1, s2, ls, W, L, t, c, rfl, hM, ⟨hG0, hG1, hG14, hGW⟩, h_t, h_c, hP, hQ⟩
  refine ⟨Nat.le_of_ble_eq_true rfl, ?_⟩
  show mr_J l G RX7 cX7_lead 5 (some .int) 2 43 Po 0 [some (vR 18 0), some (vI t), some (vI c), none, none] [] w
  obtain ⟨h18, h19, h20, h21, h22, h23, h24, h25, h26, h27, hs1, hs2, hik⟩ := id hM
  refine mr_aload_n dX7_lead_0 rfl ?_
  refine mr_iconst dX7_lead_1 ?_
  refine mr_put dX7_lead_2 fl_X7_1 pf_X7_0 rfl rfl (by first | assumption | exact mr_up_same _ _ _ | (refine mr_lk ?_ (by first | assumption | decide); first | assumption | exact mr_up_same _ _ _ | (refine mr_lk ?_ (by first | assumption | decide); first | assumption | exact mr_up_same _ _ _ | (refine mr_lk ?_ (by first | assumption | decide); first | assumption | exact mr_up_same _ _ _ | (refine mr_lk ?_ (by first | assumption | decide); first | assumption | exact mr_up_same _ _ _))))) (Nat.le_of_ble_eq_true rfl) ?_
  refine mw_p0 hM (fun w1 hM1 hF1 => ?_)
  obtain ⟨h18, h19, h20, h21, h22, h23, h24, h25, h26, h27, hs1, hs2, hik⟩ := id hM1
  refine mr_aload_n dX7_lead_5 rfl ?_
  refine mr_iload_n dX7_lead_6 rfl ?_
  refine mr_callV (as := [_]) dX7_lead_7 (ok_X7_isModuleAt l G) ml_X7_199 cl_X7_isModuleAt cv_X7_isModuleAt (by decide) rfl rfl (Nat.le_of_ble_eq_true rfl) (by first | assumption | exact mr_up_same _ _ _ | (refine mr_lk ?_ (by first | assumption | decide); first | assumption | exact mr_up_same _ _ _ | (refine mr_lk ?_ (by first | assumption | decide); first | assumption | exact mr_up_same _ _ _ | (refine mr_lk ?_ (by first | assumption | decide); first | assumption | exact mr_up_same _ _ _ | (refine mr_lk ?_ (by first | assumption | decide); first | assumption | exact mr_up_same _ _ _))))) ?_
  refine ⟨_, _, _, _, _, _, _, _, _, _, _, _, _, _, _, _, rfl, (by first | assumption | exact mr_up_same _ _ _ | (refine mr_lk ?_ (by first | assumption | decide); first | assumption | exact mr_up_same _ _ _ | (refine mr_lk ?_ (by first | assumption | decide); first | assumption | exact mr_up_same _ _ _ | (refine mr_lk ?_ (by first | assumption | decide); first | assumption | exact mr_up_same _ _ _ | (refine mr_lk ?_ (by first | assumption | decide); first | assumption | exact mr_up_same _ _ _))))), (by first | assumption | exact mr_up_same _ _ _ | (refine mr_lk ?_ (by first | assumption | decide); first | assumption | exact mr_up_same _ _ _ | (refine mr_lk ?_ (by first | assumption | decide); first | assumption | exact mr_up_same _ _ _ | (refine mr_lk ?_ (by first | assumption | decide); first | assumption | exact mr_up_same _ _ _ | (refine mr_lk ?_ (by first | assumption | decide); first | assumption | exact mr_up_same _ _ _))))), h_t, hG0, ?_, ?_⟩
  · intro k1
    dsimp only [Option.toList_some, Option.toList_none, List.cons_append, List.nil_append]
    refine mr_if_eq (tgt := 29) dX7_lead_10 (by decide) (by omega) (fun h => absurd h (by decide)) (fun _ => ?_)
    refine mr_iload_n dX7_lead_13 rfl ?_
    refine mr_iconst dX7_lead_14 ?_
    refine mr_aload_n dX7_lead_15 rfl ?_
    refine mr_get dX7_lead_16 fl_X7_86 (by first | assumption | exact mr_up_same _ _ _ | (refine mr_lk ?_ (by first | assumption | decide); first | assumption | exact mr_up_same _ _ _ | (refine mr_lk ?_ (by first | assumption | decide); first | assumption | exact mr_up_same _ _ _ | (refine mr_lk ?_ (by first | assumption | decide); first | assumption | exact mr_up_same _ _ _ | (refine mr_lk ?_ (by first | assumption | decide); first | assumption | exact mr_up_same _ _ _))))) rfl ?_
    refine mr_iconst dX7_lead_19 ?_
    refine mr_ialdK 1 dX7_lead_20 (by first | assumption | exact mr_up_same _ _ _ | (refine mr_lk ?_ (by first | assumption | decide); first | assumption | exact mr_up_same _ _ _ | (refine mr_lk ?_ (by first | assumption | decide); first | assumption | exact mr_up_same _ _ _ | (refine mr_lk ?_ (by first | assumption | decide); first | assumption | exact mr_up_same _ _ _ | (refine mr_lk ?_ (by first | assumption | decide); first | assumption | exact mr_up_same _ _ _))))) (by decide) (by decide) ?_
    refine mr_iconst dX7_lead_21 ?_
    refine mr_isub dX7_lead_22 ?_
    refine mr_callS (as := [_, _, _]) dX7_lead_23 (ok_X7_isIn l G) ml_X7_117 cl_X7_isIn cs_X7_isIn (by decide) rfl rfl (Nat.le_of_ble_eq_true rfl) ?_
    refine ⟨_, _, _, rfl, h_c, (by decide), ⟨by omega, by omega⟩, ?_, ?_⟩
    · intro k2
      dsimp only [Option.toList_some, Option.toList_none, List.cons_append, List.nil_append]
      refine mr_if_ne (tgt := 31) dX7_lead_26 (by decide) (by omega) (fun _ => ?_) (fun h => absurd h (by decide))
      refine mr_aload_n dX7_lead_31 rfl ?_
      refine mr_get dX7_lead_32 fl_X7_86 (by first | assumption | exact mr_up_same _ _ _ | (refine mr_lk ?_ (by first | assumption | decide); first | assumption | exact mr_up_same _ _ _ | (refine mr_lk ?_ (by first | assumption | decide); first | assumption | exact mr_up_same _ _ _ | (refine mr_lk ?_ (by first | assumption | decide); first | assumption | exact mr_up_same _ _ _ | (refine mr_lk ?_ (by first | assumption | decide); first | assumption | exact mr_up_same _ _ _))))) rfl ?_
      refine mr_iconst dX7_lead_35 ?_
      refine mr_iconst dX7_lead_36 ?_
      refine mr_iload_n dX7_lead_37 rfl ?_
      refine mr_imul dX7_lead_38 ?_
      refine mr_iadd dX7_lead_39 ?_
      refine mr_iload_n dX7_lead_40 rfl ?_
      refine mr_iadd dX7_lead_41 ?_
      refine mr_iald dX7_lead_42 (by first | assumption | exact mr_up_same _ _ _ | (refine mr_lk ?_ (by first | assumption | decide); first | assumption | exact mr_up_same _ _ _ | (refine mr_lk ?_ (by first | assumption | decide); first | assumption | exact mr_up_same _ _ _ | (refine mr_lk ?_ (by first | assumption | decide); first | assumption | exact mr_up_same _ _ _ | (refine mr_lk ?_ (by first | assumption | decide); first | assumption | exact mr_up_same _ _ _))))) (by omega) (by omega) (by decide) ?_
      obtain ⟨e0, e1, hM0, hW0, hFN, hEQ⟩ := hGW (by omega)
      have hnf := (hFN t (by omega) (by omega)).2 c (by omega) (by omega)
      have hm3 := mr_m3 (m := N 0) ⟨by omega, by omega⟩
      have hm2 := mr_m2 (m := N 0) ⟨by omega, by omega⟩
      rw [show N (2 + 3 * t + c).toNat = mr_nf N t c from rfl]
      refine mr_istore_n dX7_lead_43 rfl (by decide) ?_
      refine mr_aload_n dX7_lead_44 rfl ?_
      refine mr_callV (as := []) dX7_lead_45 (ok_X7_by l G) ml_X7_195 cl_X7_by cv_X7_by (by decide) rfl rfl (Nat.le_of_ble_eq_true rfl) (by first | assumption | exact mr_up_same _ _ _ | (refine mr_lk ?_ (by first | assumption | decide); first | assumption | exact mr_up_same _ _ _ | (refine mr_lk ?_ (by first | assumption | decide); first | assumption | exact mr_up_same _ _ _ | (refine mr_lk ?_ (by first | assumption | decide); first | assumption | exact mr_up_same _ _ _ | (refine mr_lk ?_ (by first | assumption | decide); first | assumption | exact mr_up_same _ _ _))))) ?_
      refine ⟨_, _, _, _, _, _, _, _, _, _, _, _, _, _, _, rfl, (by first | assumption | exact mr_up_same _ _ _ | (refine mr_lk ?_ (by first | assumption | decide); first | assumption | exact mr_up_same _ _ _ | (refine mr_lk ?_ (by first | assumption | decide); first | assumption | exact mr_up_same _ _ _ | (refine mr_lk ?_ (by first | assumption | decide); first | assumption | exact mr_up_same _ _ _ | (refine mr_lk ?_ (by first | assumption | decide); first | assumption | exact mr_up_same _ _ _))))), (by first | assumption | exact mr_up_same _ _ _ | (refine mr_lk ?_ (by first | assumption | decide); first | assumption | exact mr_up_same _ _ _ | (refine mr_lk ?_ (by first | assumption | decide); first | assumption | exact mr_up_same _ _ _ | (refine mr_lk ?_ (by first | assumption | decide); first | assumption | exact mr_up_same _ _ _ | (refine mr_lk ?_ (by first | assumption | decide); first | assumption | exact mr_up_same _ _ _))))), ?_⟩
      dsimp only [Option.toList_some, Option.toList_none, List.cons_append, List.nil_append]
      refine mr_istore dX7_lead_48 rfl (by decide) ?_
      refine mr_iload_n dX7_lead_50 rfl ?_
      refine mr_if_ne (tgt := 64) dX7_lead_51 (by decide) h_c (fun hc_51 => ?_) (fun hc_51 => ?_)
      · refine mr_iload_n dX7_lead_64 rfl ?_
        refine mr_iconst dX7_lead_65 ?_
        refine mr_icmp_ne (tgt := 76) dX7_lead_66 (by decide) h_c (by decide) (fun hc_66 => ?_) (fun hc_66 => ?_)
        · refine mr_iload_n dX7_lead_76 rfl ?_
          refine mr_iret rfl dX7_lead_77 ?_
          first | exact hQ (fun z => k1 z.1) w1 hM1 hF1 | exact hQ (fun z => k2 (by omega)) w1 hM1 hF1 | (have h9 := hP ⟨k1, by omega⟩ w1 hM1 hF1; first | (rw [if_pos (by omega)] at h9; exact h9) | (rw [if_neg (by omega), if_pos (by omega)] at h9; exact h9) | (rw [if_neg (by omega), if_neg (by omega)] at h9; exact h9))
        · refine mr_iload_n dX7_lead_69 rfl ?_
          refine mr_iload dX7_lead_70 rfl ?_
          refine mr_idivp dX7_lead_72 (by omega) (by omega) (by omega) (by omega) ?_
          refine mr_goto (tgt := 77) dX7_lead_73 (by decide) ?_
          refine mr_iret rfl dX7_lead_77 ?_
          first | exact hQ (fun z => k1 z.1) w1 hM1 hF1 | exact hQ (fun z => k2 (by omega)) w1 hM1 hF1 | (have h9 := hP ⟨k1, by omega⟩ w1 hM1 hF1; first | (rw [if_pos (by omega)] at h9; exact h9) | (rw [if_neg (by omega), if_pos (by omega)] at h9; exact h9) | (rw [if_neg (by omega), if_neg (by omega)] at h9; exact h9))
      · refine mr_iload_n dX7_lead_54 rfl ?_
        refine mr_iload dX7_lead_55 rfl ?_
        refine mr_iload dX7_lead_57 rfl ?_
        refine mr_imul dX7_lead_59 ?_
        refine mr_idivp dX7_lead_60 (by omega) (by omega) (by omega) (by omega) ?_
        refine mr_goto (tgt := 77) dX7_lead_61 (by decide) ?_
        refine mr_iret rfl dX7_lead_77 ?_
        first | exact hQ (fun z => k1 z.1) w1 hM1 hF1 | exact hQ (fun z => k2 (by omega)) w1 hM1 hF1 | (have h9 := hP ⟨k1, by omega⟩ w1 hM1 hF1; first | (rw [if_pos (by omega)] at h9; exact h9) | (rw [if_neg (by omega), if_pos (by omega)] at h9; exact h9) | (rw [if_neg (by omega), if_neg (by omega)] at h9; exact h9))
    · intro k2
      dsimp only [Option.toList_some, Option.toList_none, List.cons_append, List.nil_append]
      refine mr_if_ne (tgt := 31) dX7_lead_26 (by decide) (by omega) (fun h => absurd h (by decide)) (fun _ => ?_)
      refine mr_iconst dX7_lead_29 ?_
      refine mr_iret rfl dX7_lead_30 ?_
      first | exact hQ (fun z => k1 z.1) w1 hM1 hF1 | exact hQ (fun z => k2 (by omega)) w1 hM1 hF1 | (have h9 := hP ⟨k1, by omega⟩ w1 hM1 hF1; first | (rw [if_pos (by omega)] at h9; exact h9) | (rw [if_neg (by omega), if_pos (by omega)] at h9; exact h9) | (rw [if_neg (by omega), if_neg (by omega)] at h9; exact h9))
  · intro k1
    dsimp only [Option.toList_some, Option.toList_none, List.cons_append, List.nil_append]
    refine mr_if_eq (tgt := 29) dX7_lead_10 (by decide) (by omega) (fun _ => ?_) (fun h => absurd h (by decide))
    refine mr_iconst dX7_lead_29 ?_
    refine mr_iret rfl dX7_lead_30 ?_
    first | exact hQ (fun z => k1 z.1) w1 hM1 hF1 | exact hQ (fun z => k2 (by omega)) w1 hM1 hF1 | (have h9 := hP ⟨k1, by omega⟩ w1 hM1 hF1; first | (rw [if_pos (by omega)] at h9; exact h9) | (rw [if_neg (by omega), if_pos (by omega)] at h9; exact h9) | (rw [if_neg (by omega), if_neg (by omega)] at h9; exact h9))
def T_X7_form (a : List mr_AV) (w : mr_Wd) (Po : Option mr_AV → mr_Wd → Prop) : Prop := ∃ (th tp sz zo fr kd nb ft pl wd sm md li sd : Int) (T N R K Sn ik s1 s2 ls : Nat → Int) (W : Nat) (L : Int → mr_V → Prop) (t c : Int), a = [vR 18 0, vI t, vI c] ∧ mr_MW w th tp sz zo fr kd nb ft pl wd sm md li sd T N R K Sn ik s1 s2 ls ∧ mr_NG N W L ∧ InR t ∧ InR c ∧ (((0 < N 0 ∧ 0 ≤ t ∧ t ≤ 3) ∧ (0 ≤ c ∧ c < N 1)) ∧ mr_nf N t c ≠ 0 → (∀ w' : mr_Wd, mr_MW w' (0) tp sz zo fr kd nb ft pl wd sm md li sd T N R K Sn ik s1 s2 ls → mr_FM w w' → Po (some (vI (mr_tbk (N 0) (mr_nf N t c)))) w')) ∧ (¬ (((0 < N 0 ∧ 0 ≤ t ∧ t ≤ 3) ∧ (0 ≤ c ∧ c < N 1)) ∧ mr_nf N t c ≠ 0) → (∀ w' : mr_Wd, mr_MW w' (0) tp sz zo fr kd nb ft pl wd sm md li sd T N R K Sn ik s1 s2 ls → mr_FM w w' → Po (some (vI (-1))) w'))
set_option maxHeartbeats 4000000 in
set_option maxRecDepth 20000 in
theorem ok_X7_form (l : Launch) (G : mr_G) : mr_Ok l G yX7_form cX7_form 3 (some .int) 2 43 T_X7_form := by
  refine mr_Ok.of (by decide +kernel) ?_
  rintro a w Po ⟨th, tp, sz, zo, fr, kd, nb, ft, pl, wd, sm, md, li, sd, T, N, R, K, Sn, ik, s1, s2, ls, W, L, t, c, rfl, hM, ⟨hG0, hG1, hG14, hGW⟩, h_t, h_c, hP, hQ⟩
  refine ⟨Nat.le_of_ble_eq_true rfl, ?_⟩
  show mr_J l G RX7 cX7_form 3 (some .int) 2 43 Po 0 [some (vR 18 0), some (vI t), some (vI c)] [] w
  obtain ⟨h18, h19, h20, h21, h22, h23, h24, h25, h26, h27, hs1, hs2, hik⟩ := id hM
  refine mr_aload_n dX7_form_0 rfl ?_
  refine mr_iconst dX7_form_1 ?_
  refine mr_put dX7_form_2 fl_X7_1 pf_X7_0 rfl rfl (by first | assumption | exact mr_up_same _ _ _ | (refine mr_lk ?_ (by first | assumption | decide); first | assumption | exact mr_up_same _ _ _ | (refine mr_lk ?_ (by first | assumption | decide); first | assumption | exact mr_up_same _ _ _ | (refine mr_lk ?_ (by first | assumption | decide); first | assumption | exact mr_up_same _ _ _ | (refine mr_lk ?_ (by first | assumption | decide); first | assumption | exact mr_up_same _ _ _))))) (Nat.le_of_ble_eq_true rfl) ?_
  refine mw_p0 hM (fun w1 hM1 hF1 => ?_)
  obtain ⟨h18, h19, h20, h21, h22, h23, h24, h25, h26, h27, hs1, hs2, hik⟩ := id hM1
  refine mr_aload_n dX7_form_5 rfl ?_
  refine mr_iload_n dX7_form_6 rfl ?_
  refine mr_callV (as := [_]) dX7_form_7 (ok_X7_isModuleAt l G) ml_X7_199 cl_X7_isModuleAt cv_X7_isModuleAt (by decide) rfl rfl (Nat.le_of_ble_eq_true rfl) (by first | assumption | exact mr_up_same _ _ _ | (refine mr_lk ?_ (by first | assumption | decide); first | assumption | exact mr_up_same _ _ _ | (refine mr_lk ?_ (by first | assumption | decide); first | assumption | exact mr_up_same _ _ _ | (refine mr_lk ?_ (by first | assumption | decide); first | assumption | exact mr_up_same _ _ _ | (refine mr_lk ?_ (by first | assumption | decide); first | assumption | exact mr_up_same _ _ _))))) ?_
  refine ⟨_, _, _, _, _, _, _, _, _, _, _, _, _, _, _, _, rfl, (by first | assumption | exact mr_up_same _ _ _ | (refine mr_lk ?_ (by first | assumption | decide); first | assumption | exact mr_up_same _ _ _ | (refine mr_lk ?_ (by first | assumption | decide); first | assumption | exact mr_up_same _ _ _ | (refine mr_lk ?_ (by first | assumption | decide); first | assumption | exact mr_up_same _ _ _ | (refine mr_lk ?_ (by first | assumption | decide); first | assumption | exact mr_up_same _ _ _))))), (by first | assumption | exact mr_up_same _ _ _ | (refine mr_lk ?_ (by first | assumption | decide); first | assumption | exact mr_up_same _ _ _ | (refine mr_lk ?_ (by first | assumption | decide); first | assumption | exact mr_up_same _ _ _ | (refine mr_lk ?_ (by first | assumption | decide); first | assumption | exact mr_up_same _ _ _ | (refine mr_lk ?_ (by first | assumption | decide); first | assumption | exact mr_up_same _ _ _))))), h_t, hG0, ?_, ?_⟩
  · intro k1
    dsimp only [Option.toList_some, Option.toList_none, List.cons_append, List.nil_append]
    refine mr_if_eq (tgt := 44) dX7_form_10 (by decide) (by omega) (fun h => absurd h (by decide)) (fun _ => ?_)
    refine mr_iload_n dX7_form_13 rfl ?_
    refine mr_iconst dX7_form_14 ?_
    refine mr_aload_n dX7_form_15 rfl ?_
    refine mr_get dX7_form_16 fl_X7_86 (by first | assumption | exact mr_up_same _ _ _ | (refine mr_lk ?_ (by first | assumption | decide); first | assumption | exact mr_up_same _ _ _ | (refine mr_lk ?_ (by first | assumption | decide); first | assumption | exact mr_up_same _ _ _ | (refine mr_lk ?_ (by first | assumption | decide); first | assumption | exact mr_up_same _ _ _ | (refine mr_lk ?_ (by first | assumption | decide); first | assumption | exact mr_up_same _ _ _))))) rfl ?_
    refine mr_iconst dX7_form_19 ?_
    refine mr_ialdK 1 dX7_form_20 (by first | assumption | exact mr_up_same _ _ _ | (refine mr_lk ?_ (by first | assumption | decide); first | assumption | exact mr_up_same _ _ _ | (refine mr_lk ?_ (by first | assumption | decide); first | assumption | exact mr_up_same _ _ _ | (refine mr_lk ?_ (by first | assumption | decide); first | assumption | exact mr_up_same _ _ _ | (refine mr_lk ?_ (by first | assumption | decide); first | assumption | exact mr_up_same _ _ _))))) (by decide) (by decide) ?_
    refine mr_iconst dX7_form_21 ?_
    refine mr_isub dX7_form_22 ?_
    refine mr_callS (as := [_, _, _]) dX7_form_23 (ok_X7_isIn l G) ml_X7_117 cl_X7_isIn cs_X7_isIn (by decide) rfl rfl (Nat.le_of_ble_eq_true rfl) ?_
    refine ⟨_, _, _, rfl, h_c, (by decide), ⟨by omega, by omega⟩, ?_, ?_⟩
    · intro k2
      dsimp only [Option.toList_some, Option.toList_none, List.cons_append, List.nil_append]
      refine mr_if_eq (tgt := 44) dX7_form_26 (by decide) (by omega) (fun h => absurd h (by decide)) (fun _ => ?_)
      obtain ⟨e0, e1, hM0, hW0, hFN, hEQ⟩ := hGW (by omega)
      have hnf := (hFN t (by omega) (by omega)).2 c (by omega) (by omega)
      have hm3 := mr_m3 (m := N 0) ⟨by omega, by omega⟩
      refine mr_aload_n dX7_form_29 rfl ?_
      refine mr_get dX7_form_30 fl_X7_86 (by first | assumption | exact mr_up_same _ _ _ | (refine mr_lk ?_ (by first | assumption | decide); first | assumption | exact mr_up_same _ _ _ | (refine mr_lk ?_ (by first | assumption | decide); first | assumption | exact mr_up_same _ _ _ | (refine mr_lk ?_ (by first | assumption | decide); first | assumption | exact mr_up_same _ _ _ | (refine mr_lk ?_ (by first | assumption | decide); first | assumption | exact mr_up_same _ _ _))))) rfl ?_
      refine mr_iconst dX7_form_33 ?_
      refine mr_iconst dX7_form_34 ?_
      refine mr_iload_n dX7_form_35 rfl ?_
      refine mr_imul dX7_form_36 ?_
      refine mr_iadd dX7_form_37 ?_
      refine mr_iload_n dX7_form_38 rfl ?_
      refine mr_iadd dX7_form_39 ?_
      refine mr_iald dX7_form_40 (by first | assumption | exact mr_up_same _ _ _ | (refine mr_lk ?_ (by first | assumption | decide); first | assumption | exact mr_up_same _ _ _ | (refine mr_lk ?_ (by first | assumption | decide); first | assumption | exact mr_up_same _ _ _ | (refine mr_lk ?_ (by first | assumption | decide); first | assumption | exact mr_up_same _ _ _ | (refine mr_lk ?_ (by first | assumption | decide); first | assumption | exact mr_up_same _ _ _))))) (by omega) (by omega) (by decide) ?_
      refine mr_if_ne (tgt := 46) dX7_form_41 (by decide) ⟨by show -2147483648 ≤ mr_nf N t c; omega, by show mr_nf N t c < 2147483648; omega⟩ (fun hc_41 => ?_) (fun hc_41 => ?_)
      · refine mr_aload_n dX7_form_46 rfl ?_
        refine mr_aload_n dX7_form_47 rfl ?_
        refine mr_get dX7_form_48 fl_X7_86 (by first | assumption | exact mr_up_same _ _ _ | (refine mr_lk ?_ (by first | assumption | decide); first | assumption | exact mr_up_same _ _ _ | (refine mr_lk ?_ (by first | assumption | decide); first | assumption | exact mr_up_same _ _ _ | (refine mr_lk ?_ (by first | assumption | decide); first | assumption | exact mr_up_same _ _ _ | (refine mr_lk ?_ (by first | assumption | decide); first | assumption | exact mr_up_same _ _ _))))) rfl ?_
        refine mr_iconst dX7_form_51 ?_
        refine mr_iconst dX7_form_52 ?_
        refine mr_iload_n dX7_form_53 rfl ?_
        refine mr_imul dX7_form_54 ?_
        refine mr_iadd dX7_form_55 ?_
        refine mr_iload_n dX7_form_56 rfl ?_
        refine mr_iadd dX7_form_57 ?_
        refine mr_iald dX7_form_58 (by first | assumption | exact mr_up_same _ _ _ | (refine mr_lk ?_ (by first | assumption | decide); first | assumption | exact mr_up_same _ _ _ | (refine mr_lk ?_ (by first | assumption | decide); first | assumption | exact mr_up_same _ _ _ | (refine mr_lk ?_ (by first | assumption | decide); first | assumption | exact mr_up_same _ _ _ | (refine mr_lk ?_ (by first | assumption | decide); first | assumption | exact mr_up_same _ _ _))))) (by omega) (by omega) (by decide) ?_
        refine mr_callV (as := [_]) dX7_form_59 (ok_X7_toldBack l G) ml_X7_202 cl_X7_toldBack cv_X7_toldBack (by decide) rfl rfl (Nat.le_of_ble_eq_true rfl) (by first | assumption | exact mr_up_same _ _ _ | (refine mr_lk ?_ (by first | assumption | decide); first | assumption | exact mr_up_same _ _ _ | (refine mr_lk ?_ (by first | assumption | decide); first | assumption | exact mr_up_same _ _ _ | (refine mr_lk ?_ (by first | assumption | decide); first | assumption | exact mr_up_same _ _ _ | (refine mr_lk ?_ (by first | assumption | decide); first | assumption | exact mr_up_same _ _ _))))) ?_
        refine ⟨_, _, _, _, _, _, _, _, _, _, _, _, _, _, _, _, rfl, (by first | assumption | exact mr_up_same _ _ _ | (refine mr_lk ?_ (by first | assumption | decide); first | assumption | exact mr_up_same _ _ _ | (refine mr_lk ?_ (by first | assumption | decide); first | assumption | exact mr_up_same _ _ _ | (refine mr_lk ?_ (by first | assumption | decide); first | assumption | exact mr_up_same _ _ _ | (refine mr_lk ?_ (by first | assumption | decide); first | assumption | exact mr_up_same _ _ _))))), (by first | assumption | exact mr_up_same _ _ _ | (refine mr_lk ?_ (by first | assumption | decide); first | assumption | exact mr_up_same _ _ _ | (refine mr_lk ?_ (by first | assumption | decide); first | assumption | exact mr_up_same _ _ _ | (refine mr_lk ?_ (by first | assumption | decide); first | assumption | exact mr_up_same _ _ _ | (refine mr_lk ?_ (by first | assumption | decide); first | assumption | exact mr_up_same _ _ _))))), ⟨by show 0 ≤ mr_nf N t c; omega, by show mr_nf N t c ≤ 27000; omega⟩, ⟨by omega, by omega⟩, ?_⟩
        dsimp only [Option.toList_some, Option.toList_none, List.cons_append, List.nil_append]
        refine mr_iret rfl dX7_form_62 ?_
        first | exact hQ (fun z => k1 z.1.1) w1 hM1 hF1 | exact hQ (fun z => k2 (by omega)) w1 hM1 hF1 | exact hQ (fun z => z.2 hc_41) w1 hM1 hF1 | exact hP ⟨⟨k1, by omega⟩, hc_41⟩ w1 hM1 hF1
      · refine mr_iconst dX7_form_44 ?_
        refine mr_iret rfl dX7_form_45 ?_
        first | exact hQ (fun z => k1 z.1.1) w1 hM1 hF1 | exact hQ (fun z => k2 (by omega)) w1 hM1 hF1 | exact hQ (fun z => z.2 hc_41) w1 hM1 hF1 | exact hP ⟨⟨k1, by omega⟩, hc_41⟩ w1 hM1 hF1
    · intro k2
      dsimp only [Option.toList_some, Option.toList_none, List.cons_append, List.nil_append]
      refine mr_if_eq (tgt := 44) dX7_form_26 (by decide) (by omega) (fun _ => ?_) (fun h => absurd h (by decide))
      refine mr_iconst dX7_form_44 ?_
      refine mr_iret rfl dX7_form_45 ?_
      first | exact hQ (fun z => k1 z.1.1) w1 hM1 hF1 | exact hQ (fun z => k2 (by omega)) w1 hM1 hF1 | exact hQ (fun z => z.2 hc_41) w1 hM1 hF1 | exact hP ⟨⟨k1, by omega⟩, hc_41⟩ w1 hM1 hF1
  · intro k1
    dsimp only [Option.toList_some, Option.toList_none, List.cons_append, List.nil_append]
    refine mr_if_eq (tgt := 44) dX7_form_10 (by decide) (by omega) (fun _ => ?_) (fun h => absurd h (by decide))
    refine mr_iconst dX7_form_44 ?_
    refine mr_iret rfl dX7_form_45 ?_
    first | exact hQ (fun z => k1 z.1.1) w1 hM1 hF1 | exact hQ (fun z => k2 (by omega)) w1 hM1 hF1 | exact hQ (fun z => z.2 hc_41) w1 hM1 hF1 | exact hP ⟨⟨k1, by omega⟩, hc_41⟩ w1 hM1 hF1
def T_X7_sizeOf (a : List mr_AV) (w : mr_Wd) (Po : Option mr_AV → mr_Wd → Prop) : Prop := ∃ (th tp sz zo fr kd nb ft pl wd sm md li sd : Int) (T N R K Sn ik s1 s2 ls : Nat → Int) (t : Int) (W : Nat) (L : mr_V → Prop), a = [vR 18 0, vI t] ∧ mr_MW w th tp sz zo fr kd nb ft pl wd sm md li sd T N R K Sn ik s1 s2 ls ∧ (1 ≤ N 0 ∧ N 0 ≤ 30) ∧ (0 ≤ t ∧ t ≤ 3) ∧ mr_FN (N 0) W N t L ∧ (∀ (w' : mr_Wd) (st li' : Nat → Int) (n : Nat), mr_Lp (N 0) st li' n (mr_S (N 0) L) → mr_MW w' th tp sz zo fr kd nb ft pl wd sm md ((n : Int)) sd T N R K Sn ik (st) s2 (li') → mr_FM w w' → Po (some (vI n)) w')
set_option maxHeartbeats 4000000 in
set_option maxRecDepth 20000 in
theorem ok_X7_sizeOf (l : Launch) (G : mr_G) : mr_Ok l G yX7_sizeOf cX7_sizeOf 2 (some .int) 3 73 T_X7_sizeOf := by
  refine mr_Ok.of (by decide +kernel) ?_
  rintro a w Po ⟨th, tp, sz, zo, fr, kd, nb, ft, pl, wd, sm, md, li, sd, T, N, R, K, Sn, ik, s1, s2, ls, t, W, L, rfl, hM, hMM, ht, hFN, hP⟩
  refine ⟨Nat.le_of_ble_eq_true rfl, ?_⟩
  show mr_J l G RX7 cX7_sizeOf 2 (some .int) 3 73 Po 0 [some (vR 18 0), some (vI t)] [] w
  obtain ⟨h18, h19, h20, h21, h22, h23, h24, h25, h26, h27, hs1, hs2, hik⟩ := id hM
  refine mr_aload_n dX7_sizeOf_0 rfl ?_
  refine mr_aload_n dX7_sizeOf_1 rfl ?_
  refine mr_get dX7_sizeOf_2 fl_X7_86 (by first | assumption | exact mr_up_same _ _ _ | (refine mr_lk ?_ (by first | assumption | decide); first | assumption | exact mr_up_same _ _ _ | (refine mr_lk ?_ (by first | assumption | decide); first | assumption | exact mr_up_same _ _ _ | (refine mr_lk ?_ (by first | assumption | decide); first | assumption | exact mr_up_same _ _ _ | (refine mr_lk ?_ (by first | assumption | decide); first | assumption | exact mr_up_same _ _ _))))) rfl ?_
  refine mr_iload_n dX7_sizeOf_5 rfl ?_
  refine mr_aload_n dX7_sizeOf_6 rfl ?_
  refine mr_get dX7_sizeOf_7 fl_X7_102 (by first | assumption | exact mr_up_same _ _ _ | (refine mr_lk ?_ (by first | assumption | decide); first | assumption | exact mr_up_same _ _ _ | (refine mr_lk ?_ (by first | assumption | decide); first | assumption | exact mr_up_same _ _ _ | (refine mr_lk ?_ (by first | assumption | decide); first | assumption | exact mr_up_same _ _ _ | (refine mr_lk ?_ (by first | assumption | decide); first | assumption | exact mr_up_same _ _ _))))) rfl ?_
  refine mr_callV (as := [_, _, _]) dX7_sizeOf_10 (ok_X7_laysSet l G) ml_X7_128 cl_X7_laysSet cv_X7_laysSet (by decide) rfl rfl (Nat.le_of_ble_eq_true rfl) (by first | assumption | exact mr_up_same _ _ _ | (refine mr_lk ?_ (by first | assumption | decide); first | assumption | exact mr_up_same _ _ _ | (refine mr_lk ?_ (by first | assumption | decide); first | assumption | exact mr_up_same _ _ _ | (refine mr_lk ?_ (by first | assumption | decide); first | assumption | exact mr_up_same _ _ _ | (refine mr_lk ?_ (by first | assumption | decide); first | assumption | exact mr_up_same _ _ _))))) ?_
  refine mw_lays1 hM rfl hMM ht hFN (fun w1 st1 li1 n1 hp1 hM1 hF1 => ?_)
  obtain ⟨h18, h19, h20, h21, h22, h23, h24, h25, h26, h27, hs1, hs2, hik⟩ := id hM1
  dsimp only [Option.toList_some, Option.toList_none, List.cons_append, List.nil_append]
  refine mr_aload_n dX7_sizeOf_13 rfl ?_
  refine mr_get dX7_sizeOf_14 fl_X7_180 (by first | assumption | exact mr_up_same _ _ _ | (refine mr_lk ?_ (by first | assumption | decide); first | assumption | exact mr_up_same _ _ _ | (refine mr_lk ?_ (by first | assumption | decide); first | assumption | exact mr_up_same _ _ _ | (refine mr_lk ?_ (by first | assumption | decide); first | assumption | exact mr_up_same _ _ _ | (refine mr_lk ?_ (by first | assumption | decide); first | assumption | exact mr_up_same _ _ _))))) rfl ?_
  refine mr_iret rfl dX7_sizeOf_17 ?_
  exact hP w1 st1 li1 n1 hp1 hM1 hF1
def T_X7_many (a : List mr_AV) (w : mr_Wd) (Po : Option mr_AV → mr_Wd → Prop) : Prop := ∃ (th tp sz zo fr kd nb ft pl wd sm md li sd : Int) (T N R K Sn ik s1 s2 ls : Nat → Int) (W : Nat) (L : Int → mr_V → Prop) (t : Int), a = [vR 18 0, vI t] ∧ mr_MW w th tp sz zo fr kd nb ft pl wd sm md li sd T N R K Sn ik s1 s2 ls ∧ mr_NG N W L ∧ InR t ∧ ((0 < N 0 ∧ 0 ≤ t ∧ t ≤ 3) → (∀ (w' : mr_Wd) (st li' : Nat → Int) (n : Nat), mr_Lp (N 0) st li' n (mr_S (N 0) (L t)) → mr_MW w' (0) tp sz zo fr kd nb ft pl wd sm md ((n : Int)) sd T N R K Sn ik (st) s2 (li') → mr_FM w w' → Po (some (vI n)) w')) ∧ (¬ (0 < N 0 ∧ 0 ≤ t ∧ t ≤ 3) → (∀ w' : mr_Wd, mr_MW w' (0) tp sz zo fr kd nb ft pl wd sm md li sd T N R K Sn ik s1 s2 ls → mr_FM w w' → Po (some (vI (-1))) w'))
set_option maxHeartbeats 4000000 in
set_option maxRecDepth 20000 in
theorem ok_X7_many (l : Launch) (G : mr_G) : mr_Ok l G yX7_many cX7_many 2 (some .int) 4 94 T_X7_many := by
  refine mr_Ok.of (by decide +kernel) ?_
  rintro a w Po ⟨th, tp, sz, zo, fr, kd, nb, ft, pl, wd, sm, md, li, sd, T, N, R, K, Sn, ik, s1, s2, ls, W, L, t, rfl, hM, ⟨hG0, hG1, hG14, hGW⟩, h_t, hP, hQ⟩
  refine ⟨Nat.le_of_ble_eq_true rfl, ?_⟩
  show mr_J l G RX7 cX7_many 2 (some .int) 4 94 Po 0 [some (vR 18 0), some (vI t)] [] w
  obtain ⟨h18, h19, h20, h21, h22, h23, h24, h25, h26, h27, hs1, hs2, hik⟩ := id hM
  refine mr_aload_n dX7_many_0 rfl ?_
  refine mr_iconst dX7_many_1 ?_
  refine mr_put dX7_many_2 fl_X7_1 pf_X7_0 rfl rfl (by first | assumption | exact mr_up_same _ _ _ | (refine mr_lk ?_ (by first | assumption | decide); first | assumption | exact mr_up_same _ _ _ | (refine mr_lk ?_ (by first | assumption | decide); first | assumption | exact mr_up_same _ _ _ | (refine mr_lk ?_ (by first | assumption | decide); first | assumption | exact mr_up_same _ _ _ | (refine mr_lk ?_ (by first | assumption | decide); first | assumption | exact mr_up_same _ _ _))))) (Nat.le_of_ble_eq_true rfl) ?_
  refine mw_p0 hM (fun w1 hM1 hF1 => ?_)
  obtain ⟨h18, h19, h20, h21, h22, h23, h24, h25, h26, h27, hs1, hs2, hik⟩ := id hM1
  refine mr_aload_n dX7_many_5 rfl ?_
  refine mr_iload_n dX7_many_6 rfl ?_
  refine mr_callV (as := [_]) dX7_many_7 (ok_X7_isModuleAt l G) ml_X7_199 cl_X7_isModuleAt cv_X7_isModuleAt (by decide) rfl rfl (Nat.le_of_ble_eq_true rfl) (by first | assumption | exact mr_up_same _ _ _ | (refine mr_lk ?_ (by first | assumption | decide); first | assumption | exact mr_up_same _ _ _ | (refine mr_lk ?_ (by first | assumption | decide); first | assumption | exact mr_up_same _ _ _ | (refine mr_lk ?_ (by first | assumption | decide); first | assumption | exact mr_up_same _ _ _ | (refine mr_lk ?_ (by first | assumption | decide); first | assumption | exact mr_up_same _ _ _))))) ?_
  refine ⟨_, _, _, _, _, _, _, _, _, _, _, _, _, _, _, _, rfl, (by first | assumption | exact mr_up_same _ _ _ | (refine mr_lk ?_ (by first | assumption | decide); first | assumption | exact mr_up_same _ _ _ | (refine mr_lk ?_ (by first | assumption | decide); first | assumption | exact mr_up_same _ _ _ | (refine mr_lk ?_ (by first | assumption | decide); first | assumption | exact mr_up_same _ _ _ | (refine mr_lk ?_ (by first | assumption | decide); first | assumption | exact mr_up_same _ _ _))))), (by first | assumption | exact mr_up_same _ _ _ | (refine mr_lk ?_ (by first | assumption | decide); first | assumption | exact mr_up_same _ _ _ | (refine mr_lk ?_ (by first | assumption | decide); first | assumption | exact mr_up_same _ _ _ | (refine mr_lk ?_ (by first | assumption | decide); first | assumption | exact mr_up_same _ _ _ | (refine mr_lk ?_ (by first | assumption | decide); first | assumption | exact mr_up_same _ _ _))))), h_t, hG0, ?_, ?_⟩
  · intro k1
    dsimp only [Option.toList_some, Option.toList_none, List.cons_append, List.nil_append]
    refine mr_if_eq (tgt := 21) dX7_many_10 (by decide) (by omega) (fun h => absurd h (by decide)) (fun _ => ?_)
    obtain ⟨e0, e1, hM0, hW0, hFN, hEQ⟩ := hGW (by omega)
    have hMM : 1 ≤ N 0 ∧ N 0 ≤ 30 := ⟨by omega, by omega⟩
    have hm3 := mr_m3 hMM
    have hm2 := mr_m2 hMM
    refine mr_aload_n dX7_many_13 rfl ?_
    refine mr_iload_n dX7_many_14 rfl ?_
    refine mr_callV (as := [_]) dX7_many_15 (ok_X7_sizeOf l G) ml_X7_205 cl_X7_sizeOf cv_X7_sizeOf (by decide) rfl rfl (Nat.le_of_ble_eq_true rfl) (by first | assumption | exact mr_up_same _ _ _ | (refine mr_lk ?_ (by first | assumption | decide); first | assumption | exact mr_up_same _ _ _ | (refine mr_lk ?_ (by first | assumption | decide); first | assumption | exact mr_up_same _ _ _ | (refine mr_lk ?_ (by first | assumption | decide); first | assumption | exact mr_up_same _ _ _ | (refine mr_lk ?_ (by first | assumption | decide); first | assumption | exact mr_up_same _ _ _))))) ?_
    refine ⟨_, _, _, _, _, _, _, _, _, _, _, _, _, _, _, _, _, _, _, _, _, _, _, t, _, _, rfl, hM1, hMM, ⟨by omega, by omega⟩, (hFN t (by omega) (by omega)), (fun w2 st2 li2 n2 hp2 hM2 hF2 => ?_)⟩
    obtain ⟨h18, h19, h20, h21, h22, h23, h24, h25, h26, h27, hs1, hs2, hik⟩ := id hM2
    dsimp only [Option.toList_some, Option.toList_none, List.cons_append, List.nil_append]
    refine mr_goto (tgt := 22) dX7_many_18 (by decide) ?_
    refine mr_iret rfl dX7_many_22 ?_
    first | exact hQ k1 w2 hM2 (hF1.tr hF2) | exact hP k1 w2 st2 li2 n2 hp2 hM2 (hF1.tr hF2)
  · intro k1
    dsimp only [Option.toList_some, Option.toList_none, List.cons_append, List.nil_append]
    refine mr_if_eq (tgt := 21) dX7_many_10 (by decide) (by omega) (fun _ => ?_) (fun h => absurd h (by decide))
    refine mr_iconst dX7_many_21 ?_
    refine mr_iret rfl dX7_many_22 ?_
    first | exact hQ k1 w1 hM1 hF1 | exact hP k1 w2 st2 li2 n2 hp2 hM1 hF1
