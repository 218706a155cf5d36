/-- what is kept to be undone -/
def mr_snr (N Sn : Nat → Int) (sm : Int) (Sn' : Nat → Int) (sm' : Int) : Prop := sm' = min (sm + 1) 8 ∧ (∀ k : Nat, k < 21 → Sn' (21 * (sm' - 1).toNat + k) = N k) ∧ ∀ j k : Nat, (j : Int) < sm' - 1 → k < 21 → Sn' (21 * j + k) = Sn (21 * (j + (sm + 1 - sm').toNat) + k)
def mr_shf (Sn : Nat → Int) (c : Int) : Nat → Int := fun j => if (j : Int) < c then Sn (j + 21) else Sn j
theorem mr_shf_0 (Sn : Nat → Int) : mr_shf Sn 0 = Sn := by
  funext j
  exact if_neg (by omega)
theorem mr_shf_s {Sn : Nat → Int} {c : Int} (hc : 0 ≤ c) : mr_fs (mr_shf Sn c) c.toNat (mr_shf Sn c (c + 21).toNat) = mr_shf Sn (c + 1) := by
  funext j
  unfold mr_fs
  by_cases e : j = c.toNat
  · rw [if_pos e]
    unfold mr_shf
    rw [if_neg (by omega), if_pos (by omega), show (c + 21).toNat = j + 21 by omega]
  · rw [if_neg e]
    unfold mr_shf
    by_cases e2 : (j : Int) < c
    · rw [if_pos e2, if_pos (by omega)]
    · rw [if_neg e2, if_neg (by omega)]
theorem mr_cp_at {fa : Nat → Int} {s : Int} {fb : Nat → Int} {t : Int} (j : Nat) : mr_cp fa s fb t j = if t ≤ (j : Int) ∧ (j : Int) < t + 21 then fa (s + ((j : Int) - t)).toNat else fb j := rfl
theorem mr_snr_8 {N Sn : Nat → Int} : mr_snr N Sn 8 (mr_cp N 0 (mr_shf Sn 147) (21 * (8 - 1))) (8 - 1 + 1) := by
  refine ⟨rfl, fun k hk => ?_, fun j k hj hk => ?_⟩
  · rw [mr_cp_at, if_pos ⟨by omega, by omega⟩]
    congr 1
    omega
  · rw [mr_cp_at, if_neg (by omega)]
    unfold mr_shf
    rw [if_pos (by omega)]
    congr 1
    omega
theorem mr_snr_n {N Sn : Nat → Int} {sm : Int} (h : 0 ≤ sm ∧ sm < 8) : mr_snr N Sn sm (mr_cp N 0 Sn (21 * sm)) (sm + 1) := by
  refine ⟨by omega, fun k hk => ?_, fun j k hj hk => ?_⟩
  · rw [mr_cp_at, if_pos ⟨by omega, by omega⟩]
    congr 1
    omega
  · rw [mr_cp_at, if_neg (by omega)]
    congr 1
    omega
set_option maxHeartbeats 4000000 in
set_option maxRecDepth 20000 in
theorem lp_X7_snap (l : Launch) (G : mr_G) {Po : Option mr_AV → mr_Wd → Prop} {w0 : mr_Wd} {th tp sz zo fr kd nb ft pl wd sm md li sd : Int} {T N R K Sn ik s1 s2 ls : Nat → Int} (hsm : sm = 8) (hP : ∀ (w' : mr_Wd) (Sn' : Nat → Int) (sm' : Int), mr_snr N Sn sm Sn' sm' → mr_MW w' th tp sz zo fr kd nb ft pl wd (sm') md li sd T N R K (Sn') ik s1 s2 ls → mr_FM w0 w' → Po none w') : ∀ (n : Nat) (c : Int) (w : mr_Wd), 0 ≤ c → c + n = 147 → mr_MW w th tp sz zo fr kd nb ft pl wd sm md li sd T N R K (mr_shf Sn c) ik s1 s2 ls → mr_FM w0 w → mr_J l G RX7 cX7_snap 2 none 1 24 Po 11 [some (vR 18 0), some (vI c)] [] w := by
  intro n
  induction n with
  | zero =>
    intro c w h0 hn hM hFr
    have e : c = 147 := by omega
    subst e
    subst hsm
    obtain ⟨h18, h19, h20, h21, h22, h23, h24, h25, h26, h27, hs1, hs2, hik⟩ := id hM
    refine mr_iload_n dX7_snap_11 rfl ?_
    refine mr_sipush dX7_snap_12 rfl ?_
    refine mr_icmp_ge (tgt := 39) dX7_snap_15 (by decide) (by decide) (by decide) (fun hc_15 => ?_) (fun hc_15 => absurd hc_15 (by omega))
    refine mr_aload_n dX7_snap_39 rfl ?_
    refine mr_dup dX7_snap_40 rfl ?_
    refine mr_get dX7_snap_41 fl_X7_177 (by first | assumption | exact mr_up_same _ _ _ | (refine mr_lk ?_ (by first | assumption | decide); first | assumption | exact mr_up_same _ _ _ | (refine mr_lk ?_ (by first | assumption | decide); first | assumption | exact mr_up_same _ _ _ | (refine mr_lk ?_ (by first | assumption | decide); first | assumption | exact mr_up_same _ _ _ | (refine mr_lk ?_ (by first | assumption | decide); first | assumption | exact mr_up_same _ _ _))))) rfl ?_
    refine mr_iconst dX7_snap_44 ?_
    refine mr_isub dX7_snap_45 ?_
    refine mr_put dX7_snap_46 fl_X7_177 pf_X7_16 rfl rfl (by first | assumption | exact mr_up_same _ _ _ | (refine mr_lk ?_ (by first | assumption | decide); first | assumption | exact mr_up_same _ _ _ | (refine mr_lk ?_ (by first | assumption | decide); first | assumption | exact mr_up_same _ _ _ | (refine mr_lk ?_ (by first | assumption | decide); first | assumption | exact mr_up_same _ _ _ | (refine mr_lk ?_ (by first | assumption | decide); first | assumption | exact mr_up_same _ _ _))))) (Nat.le_of_ble_eq_true rfl) ?_
    refine mw_p16 hM (fun w1 hM1 hF1 => ?_)
    obtain ⟨h18, h19, h20, h21, h22, h23, h24, h25, h26, h27, hs1, hs2, hik⟩ := id hM1
    refine mr_aload_n dX7_snap_49 rfl ?_
    refine mr_get dX7_snap_50 fl_X7_86 (by first | assumption | exact mr_up_same _ _ _ | (refine mr_lk ?_ (by first | assumption | decide); first | assumption | exact mr_up_same _ _ _ | (refine mr_lk ?_ (by first | assumption | decide); first | assumption | exact mr_up_same _ _ _ | (refine mr_lk ?_ (by first | assumption | decide); first | assumption | exact mr_up_same _ _ _ | (refine mr_lk ?_ (by first | assumption | decide); first | assumption | exact mr_up_same _ _ _))))) rfl ?_
    refine mr_iconst dX7_snap_53 ?_
    refine mr_aload_n dX7_snap_54 rfl ?_
    refine mr_get dX7_snap_55 fl_X7_95 (by first | assumption | exact mr_up_same _ _ _ | (refine mr_lk ?_ (by first | assumption | decide); first | assumption | exact mr_up_same _ _ _ | (refine mr_lk ?_ (by first | assumption | decide); first | assumption | exact mr_up_same _ _ _ | (refine mr_lk ?_ (by first | assumption | decide); first | assumption | exact mr_up_same _ _ _ | (refine mr_lk ?_ (by first | assumption | decide); first | assumption | exact mr_up_same _ _ _))))) rfl ?_
    refine mr_bipush dX7_snap_58 rfl ?_
    refine mr_aload_n dX7_snap_60 rfl ?_
    refine mr_get dX7_snap_61 fl_X7_177 (by first | assumption | exact mr_up_same _ _ _ | (refine mr_lk ?_ (by first | assumption | decide); first | assumption | exact mr_up_same _ _ _ | (refine mr_lk ?_ (by first | assumption | decide); first | assumption | exact mr_up_same _ _ _ | (refine mr_lk ?_ (by first | assumption | decide); first | assumption | exact mr_up_same _ _ _ | (refine mr_lk ?_ (by first | assumption | decide); first | assumption | exact mr_up_same _ _ _))))) rfl ?_
    refine mr_imul dX7_snap_64 ?_
    refine mr_callS (as := [_, _, _, _]) dX7_snap_65 (ok_X7_copy l G) ml_X7_173 cl_X7_copy cs_X7_copy (by decide) rfl rfl (Nat.le_of_ble_eq_true rfl) ?_
    refine ⟨20, 23, 21, 168, N, _, 0, _, rfl, (by decide), (by first | assumption | exact mr_up_same _ _ _ | (refine mr_lk ?_ (by first | assumption | decide); first | assumption | exact mr_up_same _ _ _ | (refine mr_lk ?_ (by first | assumption | decide); first | assumption | exact mr_up_same _ _ _ | (refine mr_lk ?_ (by first | assumption | decide); first | assumption | exact mr_up_same _ _ _ | (refine mr_lk ?_ (by first | assumption | decide); first | assumption | exact mr_up_same _ _ _))))), (by first | assumption | exact mr_up_same _ _ _ | (refine mr_lk ?_ (by first | assumption | decide); first | assumption | exact mr_up_same _ _ _ | (refine mr_lk ?_ (by first | assumption | decide); first | assumption | exact mr_up_same _ _ _ | (refine mr_lk ?_ (by first | assumption | decide); first | assumption | exact mr_up_same _ _ _ | (refine mr_lk ?_ (by first | assumption | decide); first | assumption | exact mr_up_same _ _ _))))), ⟨by omega, by omega⟩, ⟨by omega, by omega⟩, (by decide), (by decide), ?_⟩
    refine mw_a23 hM1 (fun w2 hM2 hF2 => ?_)
    obtain ⟨h18, h19, h20, h21, h22, h23, h24, h25, h26, h27, hs1, hs2, hik⟩ := id hM2
    dsimp only [Option.toList_some, Option.toList_none, List.cons_append, List.nil_append]
    refine mr_aload_n dX7_snap_68 rfl ?_
    refine mr_dup dX7_snap_69 rfl ?_
    refine mr_get dX7_snap_70 fl_X7_177 (by first | assumption | exact mr_up_same _ _ _ | (refine mr_lk ?_ (by first | assumption | decide); first | assumption | exact mr_up_same _ _ _ | (refine mr_lk ?_ (by first | assumption | decide); first | assumption | exact mr_up_same _ _ _ | (refine mr_lk ?_ (by first | assumption | decide); first | assumption | exact mr_up_same _ _ _ | (refine mr_lk ?_ (by first | assumption | decide); first | assumption | exact mr_up_same _ _ _))))) rfl ?_
    refine mr_iconst dX7_snap_73 ?_
    refine mr_iadd dX7_snap_74 ?_
    refine mr_put dX7_snap_75 fl_X7_177 pf_X7_16 rfl rfl (by first | assumption | exact mr_up_same _ _ _ | (refine mr_lk ?_ (by first | assumption | decide); first | assumption | exact mr_up_same _ _ _ | (refine mr_lk ?_ (by first | assumption | decide); first | assumption | exact mr_up_same _ _ _ | (refine mr_lk ?_ (by first | assumption | decide); first | assumption | exact mr_up_same _ _ _ | (refine mr_lk ?_ (by first | assumption | decide); first | assumption | exact mr_up_same _ _ _))))) (Nat.le_of_ble_eq_true rfl) ?_
    refine mw_p16 hM2 (fun w3 hM3 hF3 => ?_)
    obtain ⟨h18, h19, h20, h21, h22, h23, h24, h25, h26, h27, hs1, hs2, hik⟩ := id hM3
    refine mr_vret rfl dX7_snap_78 ?_
    exact hP _ _ _ mr_snr_8 hM3 (hFr.tr (hF1.tr (hF2.tr hF3)))
  | succ n ih =>
    intro c w h0 hn hM hFr
    obtain ⟨h18, h19, h20, h21, h22, h23, h24, h25, h26, h27, hs1, hs2, hik⟩ := id hM
    refine mr_iload_n dX7_snap_11 rfl ?_
    refine mr_sipush dX7_snap_12 rfl ?_
    refine mr_icmp_ge (tgt := 39) dX7_snap_15 (by decide) ⟨by omega, by omega⟩ (by decide) (fun hc_15 => absurd hc_15 (by omega)) (fun hc_15 => ?_)
    refine mr_aload_n dX7_snap_18 rfl ?_
    refine mr_get dX7_snap_19 fl_X7_95 (by first | assumption | exact mr_up_same _ _ _ | (refine mr_lk ?_ (by first | assumption | decide); first | assumption | exact mr_up_same _ _ _ | (refine mr_lk ?_ (by first | assumption | decide); first | assumption | exact mr_up_same _ _ _ | (refine mr_lk ?_ (by first | assumption | decide); first | assumption | exact mr_up_same _ _ _ | (refine mr_lk ?_ (by first | assumption | decide); first | assumption | exact mr_up_same _ _ _))))) rfl ?_
    refine mr_iload_n dX7_snap_22 rfl ?_
    refine mr_aload_n dX7_snap_23 rfl ?_
    refine mr_get dX7_snap_24 fl_X7_95 (by first | assumption | exact mr_up_same _ _ _ | (refine mr_lk ?_ (by first | assumption | decide); first | assumption | exact mr_up_same _ _ _ | (refine mr_lk ?_ (by first | assumption | decide); first | assumption | exact mr_up_same _ _ _ | (refine mr_lk ?_ (by first | assumption | decide); first | assumption | exact mr_up_same _ _ _ | (refine mr_lk ?_ (by first | assumption | decide); first | assumption | exact mr_up_same _ _ _))))) rfl ?_
    refine mr_iload_n dX7_snap_27 rfl ?_
    refine mr_bipush dX7_snap_28 rfl ?_
    refine mr_iadd dX7_snap_30 ?_
    refine mr_iald dX7_snap_31 (by first | assumption | exact mr_up_same _ _ _ | (refine mr_lk ?_ (by first | assumption | decide); first | assumption | exact mr_up_same _ _ _ | (refine mr_lk ?_ (by first | assumption | decide); first | assumption | exact mr_up_same _ _ _ | (refine mr_lk ?_ (by first | assumption | decide); first | assumption | exact mr_up_same _ _ _ | (refine mr_lk ?_ (by first | assumption | decide); first | assumption | exact mr_up_same _ _ _))))) (by omega) (by omega) (by decide) ?_
    refine mr_iast dX7_snap_32 (by first | assumption | exact mr_up_same _ _ _ | (refine mr_lk ?_ (by first | assumption | decide); first | assumption | exact mr_up_same _ _ _ | (refine mr_lk ?_ (by first | assumption | decide); first | assumption | exact mr_up_same _ _ _ | (refine mr_lk ?_ (by first | assumption | decide); first | assumption | exact mr_up_same _ _ _ | (refine mr_lk ?_ (by first | assumption | decide); first | assumption | exact mr_up_same _ _ _))))) (by omega) (by omega) (by decide) ?_
    refine mw_a23 hM (fun w1 hM1 hF1 => ?_)
    obtain ⟨h18, h19, h20, h21, h22, h23, h24, h25, h26, h27, hs1, hs2, hik⟩ := id hM1
    refine mr_iinc dX7_snap_33 rfl (by decide) rfl ?_
    refine mr_goto (tgt := 11) dX7_snap_36 (by decide) ?_
    rw [mr_shf_s h0] at hM1
    exact ih (c + 1) w1 (by omega) (by omega) hM1 (hFr.tr hF1)
def T_X7_snap (a : List mr_AV) (w : mr_Wd) (Po : Option mr_AV → mr_Wd → Prop) : Prop := ∃ (th tp sz zo fr kd nb ft pl wd sm md li sd : Int) (T N R K Sn ik s1 s2 ls : Nat → Int), a = [vR 18 0] ∧ mr_MW w th tp sz zo fr kd nb ft pl wd sm md li sd T N R K Sn ik s1 s2 ls ∧ (0 ≤ sm ∧ sm ≤ 8) ∧ (∀ (w' : mr_Wd) (Sn' : Nat → Int) (sm' : Int), mr_snr N Sn sm Sn' sm' → mr_MW w' th tp sz zo fr kd nb ft pl wd (sm') md li sd T N R K (Sn') ik s1 s2 ls → mr_FM w w' → Po none w')
set_option maxHeartbeats 4000000 in
set_option maxRecDepth 20000 in
theorem ok_X7_snap (l : Launch) (G : mr_G) : mr_Ok l G yX7_snap cX7_snap 2 none 1 24 T_X7_snap := by
  refine mr_Ok.of (by decide +kernel) ?_
  rintro a w Po ⟨th, tp, sz, zo, fr, kd, nb, ft, pl, wd, sm, md, li, sd, T, N, R, K, Sn, ik, s1, s2, ls, rfl, hM, hsm, hP⟩
  refine ⟨Nat.le_of_ble_eq_true rfl, ?_⟩
  show mr_J l G RX7 cX7_snap 2 none 1 24 Po 0 [some (vR 18 0), none] [] w
  obtain ⟨h18, h19, h20, h21, h22, h23, h24, h25, h26, h27, hs1, hs2, hik⟩ := id hM
  refine mr_aload_n dX7_snap_0 rfl ?_
  refine mr_get dX7_snap_1 fl_X7_177 (by first | assumption | exact mr_up_same _ _ _ | (refine mr_lk ?_ (by first | assumption | decide); first | assumption | exact mr_up_same _ _ _ | (refine mr_lk ?_ (by first | assumption | decide); first | assumption | exact mr_up_same _ _ _ | (refine mr_lk ?_ (by first | assumption | decide); first | assumption | exact mr_up_same _ _ _ | (refine mr_lk ?_ (by first | assumption | decide); first | assumption | exact mr_up_same _ _ _))))) rfl ?_
  refine mr_bipush dX7_snap_4 rfl ?_
  refine mr_icmp_ne (tgt := 49) dX7_snap_6 (by decide) ⟨by omega, by omega⟩ (by decide) (fun hc_6 => ?_) (fun hc_6 => ?_)
  · refine mr_aload_n dX7_snap_49 rfl ?_
    refine mr_get dX7_snap_50 fl_X7_86 (by first | assumption | exact mr_up_same _ _ _ | (refine mr_lk ?_ (by first | assumption | decide); first | assumption | exact mr_up_same _ _ _ | (refine mr_lk ?_ (by first | assumption | decide); first | assumption | exact mr_up_same _ _ _ | (refine mr_lk ?_ (by first | assumption | decide); first | assumption | exact mr_up_same _ _ _ | (refine mr_lk ?_ (by first | assumption | decide); first | assumption | exact mr_up_same _ _ _))))) rfl ?_
    refine mr_iconst dX7_snap_53 ?_
    refine mr_aload_n dX7_snap_54 rfl ?_
    refine mr_get dX7_snap_55 fl_X7_95 (by first | assumption | exact mr_up_same _ _ _ | (refine mr_lk ?_ (by first | assumption | decide); first | assumption | exact mr_up_same _ _ _ | (refine mr_lk ?_ (by first | assumption | decide); first | assumption | exact mr_up_same _ _ _ | (refine mr_lk ?_ (by first | assumption | decide); first | assumption | exact mr_up_same _ _ _ | (refine mr_lk ?_ (by first | assumption | decide); first | assumption | exact mr_up_same _ _ _))))) rfl ?_
    refine mr_bipush dX7_snap_58 rfl ?_
    refine mr_aload_n dX7_snap_60 rfl ?_
    refine mr_get dX7_snap_61 fl_X7_177 (by first | assumption | exact mr_up_same _ _ _ | (refine mr_lk ?_ (by first | assumption | decide); first | assumption | exact mr_up_same _ _ _ | (refine mr_lk ?_ (by first | assumption | decide); first | assumption | exact mr_up_same _ _ _ | (refine mr_lk ?_ (by first | assumption | decide); first | assumption | exact mr_up_same _ _ _ | (refine mr_lk ?_ (by first | assumption | decide); first | assumption | exact mr_up_same _ _ _))))) rfl ?_
    refine mr_imul dX7_snap_64 ?_
    refine mr_callS (as := [_, _, _, _]) dX7_snap_65 (ok_X7_copy l G) ml_X7_173 cl_X7_copy cs_X7_copy (by decide) rfl rfl (Nat.le_of_ble_eq_true rfl) ?_
    refine ⟨20, 23, 21, 168, N, _, 0, _, rfl, (by decide), (by first | assumption | exact mr_up_same _ _ _ | (refine mr_lk ?_ (by first | assumption | decide); first | assumption | exact mr_up_same _ _ _ | (refine mr_lk ?_ (by first | assumption | decide); first | assumption | exact mr_up_same _ _ _ | (refine mr_lk ?_ (by first | assumption | decide); first | assumption | exact mr_up_same _ _ _ | (refine mr_lk ?_ (by first | assumption | decide); first | assumption | exact mr_up_same _ _ _))))), (by first | assumption | exact mr_up_same _ _ _ | (refine mr_lk ?_ (by first | assumption | decide); first | assumption | exact mr_up_same _ _ _ | (refine mr_lk ?_ (by first | assumption | decide); first | assumption | exact mr_up_same _ _ _ | (refine mr_lk ?_ (by first | assumption | decide); first | assumption | exact mr_up_same _ _ _ | (refine mr_lk ?_ (by first | assumption | decide); first | assumption | exact mr_up_same _ _ _))))), ⟨by omega, by omega⟩, ⟨by omega, by omega⟩, (by decide), (by decide), ?_⟩
    refine mw_a23 hM (fun w1 hM1 hF1 => ?_)
    obtain ⟨h18, h19, h20, h21, h22, h23, h24, h25, h26, h27, hs1, hs2, hik⟩ := id hM1
    dsimp only [Option.toList_some, Option.toList_none, List.cons_append, List.nil_append]
    refine mr_aload_n dX7_snap_68 rfl ?_
    refine mr_dup dX7_snap_69 rfl ?_
    refine mr_get dX7_snap_70 fl_X7_177 (by first | assumption | exact mr_up_same _ _ _ | (refine mr_lk ?_ (by first | assumption | decide); first | assumption | exact mr_up_same _ _ _ | (refine mr_lk ?_ (by first | assumption | decide); first | assumption | exact mr_up_same _ _ _ | (refine mr_lk ?_ (by first | assumption | decide); first | assumption | exact mr_up_same _ _ _ | (refine mr_lk ?_ (by first | assumption | decide); first | assumption | exact mr_up_same _ _ _))))) rfl ?_
    refine mr_iconst dX7_snap_73 ?_
    refine mr_iadd dX7_snap_74 ?_
    refine mr_put dX7_snap_75 fl_X7_177 pf_X7_16 rfl rfl (by first | assumption | exact mr_up_same _ _ _ | (refine mr_lk ?_ (by first | assumption | decide); first | assumption | exact mr_up_same _ _ _ | (refine mr_lk ?_ (by first | assumption | decide); first | assumption | exact mr_up_same _ _ _ | (refine mr_lk ?_ (by first | assumption | decide); first | assumption | exact mr_up_same _ _ _ | (refine mr_lk ?_ (by first | assumption | decide); first | assumption | exact mr_up_same _ _ _))))) (Nat.le_of_ble_eq_true rfl) ?_
    refine mw_p16 hM1 (fun w2 hM2 hF2 => ?_)
    obtain ⟨h18, h19, h20, h21, h22, h23, h24, h25, h26, h27, hs1, hs2, hik⟩ := id hM2
    refine mr_vret rfl dX7_snap_78 ?_
    exact hP _ _ _ (mr_snr_n (by omega)) hM2 (hF1.tr hF2)
  · refine mr_iconst dX7_snap_9 ?_
    refine mr_istore_n dX7_snap_10 rfl (by decide) ?_
    rw [← mr_shf_0 Sn] at hM
    exact lp_X7_snap l G hc_6 hP 147 0 w (by decide) (by decide) hM (mr_FM.rf w)
def T_X7_undo (a : List mr_AV) (w : mr_Wd) (Po : Option mr_AV → mr_Wd → Prop) : Prop := ∃ (th tp sz zo fr kd nb ft pl wd sm md li sd : Int) (T N R K Sn ik s1 s2 ls : Nat → Int), a = [vR 18 0] ∧ mr_MW w th tp sz zo fr kd nb ft pl wd sm md li sd T N R K Sn ik s1 s2 ls ∧ (0 ≤ sm ∧ sm ≤ 8) ∧ (0 < sm → (∀ w' : mr_Wd, mr_MW w' (0) tp sz zo fr kd nb ft pl wd (sm - 1) md li sd T (mr_cp Sn (21 * (sm - 1)) N 0) R K Sn ik s1 s2 ls → mr_FM w w' → Po (some (vI (sm - 1))) w')) ∧ (sm = 0 → (∀ w' : mr_Wd, mr_MW w' (0) tp sz zo fr kd nb ft pl wd sm md li sd T N R K Sn ik s1 s2 ls → mr_FM w w' → Po (some (vI (-1))) w'))
set_option maxHeartbeats 4000000 in
set_option maxRecDepth 20000 in
theorem ok_X7_undo (l : Launch) (G : mr_G) : mr_Ok l G yX7_undo cX7_undo 1 (some .int) 1 24 T_X7_undo := by
  refine mr_Ok.of (by decide +kernel) ?_
  rintro a w Po ⟨th, tp, sz, zo, fr, kd, nb, ft, pl, wd, sm, md, li, sd, T, N, R, K, Sn, ik, s1, s2, ls, rfl, hM, hsm, hP, hQ⟩
  refine ⟨Nat.le_of_ble_eq_true rfl, ?_⟩
  show mr_J l G RX7 cX7_undo 1 (some .int) 1 24 Po 0 [some (vR 18 0)] [] w
  obtain ⟨h18, h19, h20, h21, h22, h23, h24, h25, h26, h27, hs1, hs2, hik⟩ := id hM
  refine mr_aload_n dX7_undo_0 rfl ?_
  refine mr_iconst dX7_undo_1 ?_
  refine mr_put dX7_undo_2 fl_X7_1 pf_X7_0 rfl rfl (by first | assumption | exact mr_up_same _ _ _ | (refine mr_lk ?_ (by first | assumption | decide); first | assumption | exact mr_up_same _ _ _ | (refine mr_lk ?_ (by first | assumption | decide); first | assumption | exact mr_up_same _ _ _ | (refine mr_lk ?_ (by first | assumption | decide); first | assumption | exact mr_up_same _ _ _ | (refine mr_lk ?_ (by first | assumption | decide); first | assumption | exact mr_up_same _ _ _))))) (Nat.le_of_ble_eq_true rfl) ?_
  refine mw_p0 hM (fun w1 hM1 hF1 => ?_)
  obtain ⟨h18, h19, h20, h21, h22, h23, h24, h25, h26, h27, hs1, hs2, hik⟩ := id hM1
  refine mr_aload_n dX7_undo_5 rfl ?_
  refine mr_get dX7_undo_6 fl_X7_177 (by first | assumption | exact mr_up_same _ _ _ | (refine mr_lk ?_ (by first | assumption | decide); first | assumption | exact mr_up_same _ _ _ | (refine mr_lk ?_ (by first | assumption | decide); first | assumption | exact mr_up_same _ _ _ | (refine mr_lk ?_ (by first | assumption | decide); first | assumption | exact mr_up_same _ _ _ | (refine mr_lk ?_ (by first | assumption | decide); first | assumption | exact mr_up_same _ _ _))))) rfl ?_
  refine mr_if_ne (tgt := 14) dX7_undo_9 (by decide) ⟨by omega, by omega⟩ (fun hc_9 => ?_) (fun hc_9 => ?_)
  · refine mr_aload_n dX7_undo_14 rfl ?_
    refine mr_dup dX7_undo_15 rfl ?_
    refine mr_get dX7_undo_16 fl_X7_177 (by first | assumption | exact mr_up_same _ _ _ | (refine mr_lk ?_ (by first | assumption | decide); first | assumption | exact mr_up_same _ _ _ | (refine mr_lk ?_ (by first | assumption | decide); first | assumption | exact mr_up_same _ _ _ | (refine mr_lk ?_ (by first | assumption | decide); first | assumption | exact mr_up_same _ _ _ | (refine mr_lk ?_ (by first | assumption | decide); first | assumption | exact mr_up_same _ _ _))))) rfl ?_
    refine mr_iconst dX7_undo_19 ?_
    refine mr_isub dX7_undo_20 ?_
    refine mr_put dX7_undo_21 fl_X7_177 pf_X7_16 rfl rfl (by first | assumption | exact mr_up_same _ _ _ | (refine mr_lk ?_ (by first | assumption | decide); first | assumption | exact mr_up_same _ _ _ | (refine mr_lk ?_ (by first | assumption | decide); first | assumption | exact mr_up_same _ _ _ | (refine mr_lk ?_ (by first | assumption | decide); first | assumption | exact mr_up_same _ _ _ | (refine mr_lk ?_ (by first | assumption | decide); first | assumption | exact mr_up_same _ _ _))))) (Nat.le_of_ble_eq_true rfl) ?_
    refine mw_p16 hM1 (fun w2 hM2 hF2 => ?_)
    obtain ⟨h18, h19, h20, h21, h22, h23, h24, h25, h26, h27, hs1, hs2, hik⟩ := id hM2
    refine mr_aload_n dX7_undo_24 rfl ?_
    refine mr_get dX7_undo_25 fl_X7_95 (by first | assumption | exact mr_up_same _ _ _ | (refine mr_lk ?_ (by first | assumption | decide); first | assumption | exact mr_up_same _ _ _ | (refine mr_lk ?_ (by first | assumption | decide); first | assumption | exact mr_up_same _ _ _ | (refine mr_lk ?_ (by first | assumption | decide); first | assumption | exact mr_up_same _ _ _ | (refine mr_lk ?_ (by first | assumption | decide); first | assumption | exact mr_up_same _ _ _))))) rfl ?_
    refine mr_bipush dX7_undo_28 rfl ?_
    refine mr_aload_n dX7_undo_30 rfl ?_
    refine mr_get dX7_undo_31 fl_X7_177 (by first | assumption | exact mr_up_same _ _ _ | (refine mr_lk ?_ (by first | assumption | decide); first | assumption | exact mr_up_same _ _ _ | (refine mr_lk ?_ (by first | assumption | decide); first | assumption | exact mr_up_same _ _ _ | (refine mr_lk ?_ (by first | assumption | decide); first | assumption | exact mr_up_same _ _ _ | (refine mr_lk ?_ (by first | assumption | decide); first | assumption | exact mr_up_same _ _ _))))) rfl ?_
    refine mr_imul dX7_undo_34 ?_
    refine mr_aload_n dX7_undo_35 rfl ?_
    refine mr_get dX7_undo_36 fl_X7_86 (by first | assumption | exact mr_up_same _ _ _ | (refine mr_lk ?_ (by first | assumption | decide); first | assumption | exact mr_up_same _ _ _ | (refine mr_lk ?_ (by first | assumption | decide); first | assumption | exact mr_up_same _ _ _ | (refine mr_lk ?_ (by first | assumption | decide); first | assumption | exact mr_up_same _ _ _ | (refine mr_lk ?_ (by first | assumption | decide); first | assumption | exact mr_up_same _ _ _))))) rfl ?_
    refine mr_iconst dX7_undo_39 ?_
    refine mr_callS (as := [_, _, _, _]) dX7_undo_40 (ok_X7_copy l G) ml_X7_173 cl_X7_copy cs_X7_copy (by decide) rfl rfl (Nat.le_of_ble_eq_true rfl) ?_
    refine ⟨23, 20, 168, 21, _, _, _, 0, rfl, (by decide), (by first | assumption | exact mr_up_same _ _ _ | (refine mr_lk ?_ (by first | assumption | decide); first | assumption | exact mr_up_same _ _ _ | (refine mr_lk ?_ (by first | assumption | decide); first | assumption | exact mr_up_same _ _ _ | (refine mr_lk ?_ (by first | assumption | decide); first | assumption | exact mr_up_same _ _ _ | (refine mr_lk ?_ (by first | assumption | decide); first | assumption | exact mr_up_same _ _ _))))), (by first | assumption | exact mr_up_same _ _ _ | (refine mr_lk ?_ (by first | assumption | decide); first | assumption | exact mr_up_same _ _ _ | (refine mr_lk ?_ (by first | assumption | decide); first | assumption | exact mr_up_same _ _ _ | (refine mr_lk ?_ (by first | assumption | decide); first | assumption | exact mr_up_same _ _ _ | (refine mr_lk ?_ (by first | assumption | decide); first | assumption | exact mr_up_same _ _ _))))), ⟨by omega, by omega⟩, ⟨by omega, by omega⟩, (by decide), (by decide), ?_⟩
    refine mw_a20 hM2 (fun w3 hM3 hF3 => ?_)
    obtain ⟨h18, h19, h20, h21, h22, h23, h24, h25, h26, h27, hs1, hs2, hik⟩ := id hM3
    dsimp only [Option.toList_some, Option.toList_none, List.cons_append, List.nil_append]
    refine mr_aload_n dX7_undo_43 rfl ?_
    refine mr_get dX7_undo_44 fl_X7_177 (by first | assumption | exact mr_up_same _ _ _ | (refine mr_lk ?_ (by first | assumption | decide); first | assumption | exact mr_up_same _ _ _ | (refine mr_lk ?_ (by first | assumption | decide); first | assumption | exact mr_up_same _ _ _ | (refine mr_lk ?_ (by first | assumption | decide); first | assumption | exact mr_up_same _ _ _ | (refine mr_lk ?_ (by first | assumption | decide); first | assumption | exact mr_up_same _ _ _))))) rfl ?_
    refine mr_iret rfl dX7_undo_47 ?_
    first | exact hQ (by omega) w3 hM3 (hF1.tr (hF2.tr hF3)) | exact hP (by omega) w3 hM3 (hF1.tr (hF2.tr hF3))
  · refine mr_iconst dX7_undo_12 ?_
    refine mr_iret rfl dX7_undo_13 ?_
    first | exact hQ (by omega) w1 hM1 hF1 | exact hP (by omega) w1 hM1 hF1
def T_X7_image (a : List mr_AV) (w : mr_Wd) (Po : Option mr_AV → mr_Wd → Prop) : Prop := ∃ (th tp sz zo fr kd nb ft pl wd sm md li sd : Int) (T N R K Sn ik s1 s2 ls : Nat → Int) (x : Int), a = [vR 18 0, vI x] ∧ mr_MW w th tp sz zo fr kd nb ft pl wd sm md li sd T N R K Sn ik s1 s2 ls ∧ InR x ∧ ((0 ≤ x ∧ x ≤ 1) → (∀ w' : mr_Wd, mr_MW w' (0) tp sz zo fr kd nb ft pl wd sm md li sd T N R (mr_cp N 0 K (21 * x)) Sn (mr_fs ik x.toNat 1) s1 s2 ls → mr_FM w w' → Po (some (vI 1)) w')) ∧ (¬ (0 ≤ x ∧ x ≤ 1) → (∀ w' : mr_Wd, mr_MW w' (0) tp sz zo fr kd nb ft pl wd sm md li sd T N R K Sn ik s1 s2 ls → mr_FM w w' → Po (some (vI 0)) w'))
set_option maxHeartbeats 4000000 in
set_option maxRecDepth 20000 in
theorem ok_X7_image (l : Launch) (G : mr_G) : mr_Ok l G yX7_image cX7_image 2 (some .boolean) 1 24 T_X7_image := by
  refine mr_Ok.of (by decide +kernel) ?_
  rintro a w Po ⟨th, tp, sz, zo, fr, kd, nb, ft, pl, wd, sm, md, li, sd, T, N, R, K, Sn, ik, s1, s2, ls, x, rfl, hM, h_x, hP, hQ⟩
  refine ⟨Nat.le_of_ble_eq_true rfl, ?_⟩
  show mr_J l G RX7 cX7_image 2 (some .boolean) 1 24 Po 0 [some (vR 18 0), some (vI x)] [] w
  obtain ⟨h18, h19, h20, h21, h22, h23, h24, h25, h26, h27, hs1, hs2, hik⟩ := id hM
  refine mr_aload_n dX7_image_0 rfl ?_
  refine mr_iconst dX7_image_1 ?_
  refine mr_put dX7_image_2 fl_X7_1 pf_X7_0 rfl rfl (by first | assumption | exact mr_up_same _ _ _ | (refine mr_lk ?_ (by first | assumption | decide); first | assumption | exact mr_up_same _ _ _ | (refine mr_lk ?_ (by first | assumption | decide); first | assumption | exact mr_up_same _ _ _ | (refine mr_lk ?_ (by first | assumption | decide); first | assumption | exact mr_up_same _ _ _ | (refine mr_lk ?_ (by first | assumption | decide); first | assumption | exact mr_up_same _ _ _))))) (Nat.le_of_ble_eq_true rfl) ?_
  refine mw_p0 hM (fun w1 hM1 hF1 => ?_)
  obtain ⟨h18, h19, h20, h21, h22, h23, h24, h25, h26, h27, hs1, hs2, hik⟩ := id hM1
  refine mr_iload_n dX7_image_5 rfl ?_
  refine mr_iconst dX7_image_6 ?_
  refine mr_iconst dX7_image_7 ?_
  refine mr_callS (as := [_, _, _]) dX7_image_8 (ok_X7_isIn l G) ml_X7_117 cl_X7_isIn cs_X7_isIn (by decide) rfl rfl (Nat.le_of_ble_eq_true rfl) ?_
  refine ⟨_, _, _, rfl, h_x, (by decide), (by decide), ?_, ?_⟩
  · intro k1
    dsimp only [Option.toList_some, Option.toList_none, List.cons_append, List.nil_append]
    refine mr_if_ne (tgt := 16) dX7_image_11 (by decide) (by omega) (fun _ => ?_) (fun h => absurd h (by decide))
    refine mr_aload_n dX7_image_16 rfl ?_
    refine mr_get dX7_image_17 fl_X7_86 (by first | assumption | exact mr_up_same _ _ _ | (refine mr_lk ?_ (by first | assumption | decide); first | assumption | exact mr_up_same _ _ _ | (refine mr_lk ?_ (by first | assumption | decide); first | assumption | exact mr_up_same _ _ _ | (refine mr_lk ?_ (by first | assumption | decide); first | assumption | exact mr_up_same _ _ _ | (refine mr_lk ?_ (by first | assumption | decide); first | assumption | exact mr_up_same _ _ _))))) rfl ?_
    refine mr_iconst dX7_image_20 ?_
    refine mr_aload_n dX7_image_21 rfl ?_
    refine mr_get dX7_image_22 fl_X7_92 (by first | assumption | exact mr_up_same _ _ _ | (refine mr_lk ?_ (by first | assumption | decide); first | assumption | exact mr_up_same _ _ _ | (refine mr_lk ?_ (by first | assumption | decide); first | assumption | exact mr_up_same _ _ _ | (refine mr_lk ?_ (by first | assumption | decide); first | assumption | exact mr_up_same _ _ _ | (refine mr_lk ?_ (by first | assumption | decide); first | assumption | exact mr_up_same _ _ _))))) rfl ?_
    refine mr_bipush dX7_image_25 rfl ?_
    refine mr_iload_n dX7_image_27 rfl ?_
    refine mr_imul dX7_image_28 ?_
    refine mr_callS (as := [_, _, _, _]) dX7_image_29 (ok_X7_copy l G) ml_X7_173 cl_X7_copy cs_X7_copy (by decide) rfl rfl (Nat.le_of_ble_eq_true rfl) ?_
    refine ⟨20, 22, 21, 42, _, _, 0, _, rfl, (by decide), (by first | assumption | exact mr_up_same _ _ _ | (refine mr_lk ?_ (by first | assumption | decide); first | assumption | exact mr_up_same _ _ _ | (refine mr_lk ?_ (by first | assumption | decide); first | assumption | exact mr_up_same _ _ _ | (refine mr_lk ?_ (by first | assumption | decide); first | assumption | exact mr_up_same _ _ _ | (refine mr_lk ?_ (by first | assumption | decide); first | assumption | exact mr_up_same _ _ _))))), (by first | assumption | exact mr_up_same _ _ _ | (refine mr_lk ?_ (by first | assumption | decide); first | assumption | exact mr_up_same _ _ _ | (refine mr_lk ?_ (by first | assumption | decide); first | assumption | exact mr_up_same _ _ _ | (refine mr_lk ?_ (by first | assumption | decide); first | assumption | exact mr_up_same _ _ _ | (refine mr_lk ?_ (by first | assumption | decide); first | assumption | exact mr_up_same _ _ _))))), ⟨by omega, by omega⟩, ⟨by omega, by omega⟩, (by decide), (by decide), ?_⟩
    refine mw_a22 hM1 (fun w2 hM2 hF2 => ?_)
    obtain ⟨h18, h19, h20, h21, h22, h23, h24, h25, h26, h27, hs1, hs2, hik⟩ := id hM2
    dsimp only [Option.toList_some, Option.toList_none, List.cons_append, List.nil_append]
    refine mr_aload_n dX7_image_32 rfl ?_
    refine mr_get dX7_image_33 fl_X7_98 (by first | assumption | exact mr_up_same _ _ _ | (refine mr_lk ?_ (by first | assumption | decide); first | assumption | exact mr_up_same _ _ _ | (refine mr_lk ?_ (by first | assumption | decide); first | assumption | exact mr_up_same _ _ _ | (refine mr_lk ?_ (by first | assumption | decide); first | assumption | exact mr_up_same _ _ _ | (refine mr_lk ?_ (by first | assumption | decide); first | assumption | exact mr_up_same _ _ _))))) rfl ?_
    refine mr_iload_n dX7_image_36 rfl ?_
    refine mr_iconst dX7_image_37 ?_
    refine mr_zast dX7_image_38 (by first | assumption | exact mr_up_same _ _ _ | (refine mr_lk ?_ (by first | assumption | decide); first | assumption | exact mr_up_same _ _ _ | (refine mr_lk ?_ (by first | assumption | decide); first | assumption | exact mr_up_same _ _ _ | (refine mr_lk ?_ (by first | assumption | decide); first | assumption | exact mr_up_same _ _ _ | (refine mr_lk ?_ (by first | assumption | decide); first | assumption | exact mr_up_same _ _ _))))) (by omega) (by omega) (by decide) (Or.inr rfl) ?_
    refine mw_a24 hM2 (mr_b01 (by assumption) _ (by first | exact Or.inl rfl | exact Or.inr rfl | assumption)) (fun w3 hM3 hF3 => ?_)
    obtain ⟨h18, h19, h20, h21, h22, h23, h24, h25, h26, h27, hs1, hs2, hik⟩ := id hM3
    refine mr_iconst dX7_image_39 ?_
    refine mr_zret rfl (Or.inr rfl) dX7_image_40 ?_
    first | exact hQ k1 w3 hM3 (hF1.tr (hF2.tr hF3)) | exact hP k1 w3 hM3 (hF1.tr (hF2.tr hF3))
  · intro k1
    dsimp only [Option.toList_some, Option.toList_none, List.cons_append, List.nil_append]
    refine mr_if_ne (tgt := 16) dX7_image_11 (by decide) (by omega) (fun h => absurd h (by decide)) (fun _ => ?_)
    refine mr_iconst dX7_image_14 ?_
    refine mr_zret rfl (Or.inl rfl) dX7_image_15 ?_
    first | exact hQ k1 w1 hM1 hF1 | exact hP k1 w1 hM1 hF1
def T_X7_restore (a : List mr_AV) (w : mr_Wd) (Po : Option mr_AV → mr_Wd → Prop) : Prop := ∃ (th tp sz zo fr kd nb ft pl wd sm md li sd : Int) (T N R K Sn ik s1 s2 ls : Nat → Int) (x : Int), a = [vR 18 0, vI x] ∧ mr_MW w th tp sz zo fr kd nb ft pl wd sm md li sd T N R K Sn ik s1 s2 ls ∧ InR x ∧ ((0 ≤ x ∧ x ≤ 1) → ik x.toNat ≠ 0 → (∀ w' : mr_Wd, mr_MW w' (0) tp sz zo fr kd nb ft pl wd (0) md li sd T (mr_cp K (21 * x) N 0) R K Sn ik s1 s2 ls → mr_FM w w' → Po (some (vI 1)) w')) ∧ (¬ (0 ≤ x ∧ x ≤ 1) → (∀ w' : mr_Wd, mr_MW w' (0) tp sz zo fr kd nb ft pl wd sm md li sd T N R K Sn ik s1 s2 ls → mr_FM w w' → Po (some (vI 0)) w')) ∧ ((0 ≤ x ∧ x ≤ 1) → ik x.toNat = 0 → (∀ w' : mr_Wd, mr_MW w' (0) tp sz zo fr kd nb ft pl wd sm md li sd T N R K Sn ik s1 s2 ls → mr_FM w w' → Po (some (vI 0)) w'))
set_option maxHeartbeats 4000000 in
set_option maxRecDepth 20000 in
theorem ok_X7_restore (l : Launch) (G : mr_G) : mr_Ok l G yX7_restore cX7_restore 2 (some .boolean) 1 24 T_X7_restore := by
  refine mr_Ok.of (by decide +kernel) ?_
  rintro a w Po ⟨th, tp, sz, zo, fr, kd, nb, ft, pl, wd, sm, md, li, sd, T, N, R, K, Sn, ik, s1, s2, ls, x, rfl, hM, h_x, hP, hQ, hR⟩
  refine ⟨Nat.le_of_ble_eq_true rfl, ?_⟩
  show mr_J l G RX7 cX7_restore 2 (some .boolean) 1 24 Po 0 [some (vR 18 0), some (vI x)] [] w
  obtain ⟨h18, h19, h20, h21, h22, h23, h24, h25, h26, h27, hs1, hs2, hik⟩ := id hM
  have hik0 := hM.2.2.2.2.2.2.2.2.2.2.2.2 x.toNat
  refine mr_aload_n dX7_restore_0 rfl ?_
  refine mr_iconst dX7_restore_1 ?_
  refine mr_put dX7_restore_2 fl_X7_1 pf_X7_0 rfl rfl (by first | assumption | exact mr_up_same _ _ _ | (refine mr_lk ?_ (by first | assumption | decide); first | assumption | exact mr_up_same _ _ _ | (refine mr_lk ?_ (by first | assumption | decide); first | assumption | exact mr_up_same _ _ _ | (refine mr_lk ?_ (by first | assumption | decide); first | assumption | exact mr_up_same _ _ _ | (refine mr_lk ?_ (by first | assumption | decide); first | assumption | exact mr_up_same _ _ _))))) (Nat.le_of_ble_eq_true rfl) ?_
  refine mw_p0 hM (fun w1 hM1 hF1 => ?_)
  obtain ⟨h18, h19, h20, h21, h22, h23, h24, h25, h26, h27, hs1, hs2, hik⟩ := id hM1
  refine mr_iload_n dX7_restore_5 rfl ?_
  refine mr_iconst dX7_restore_6 ?_
  refine mr_iconst dX7_restore_7 ?_
  refine mr_callS (as := [_, _, _]) dX7_restore_8 (ok_X7_isIn l G) ml_X7_117 cl_X7_isIn cs_X7_isIn (by decide) rfl rfl (Nat.le_of_ble_eq_true rfl) ?_
  refine ⟨_, _, _, rfl, h_x, (by decide), (by decide), ?_, ?_⟩
  · intro k1
    dsimp only [Option.toList_some, Option.toList_none, List.cons_append, List.nil_append]
    refine mr_if_eq (tgt := 23) dX7_restore_11 (by decide) (by omega) (fun h => absurd h (by decide)) (fun _ => ?_)
    refine mr_aload_n dX7_restore_14 rfl ?_
    refine mr_get dX7_restore_15 fl_X7_98 (by first | assumption | exact mr_up_same _ _ _ | (refine mr_lk ?_ (by first | assumption | decide); first | assumption | exact mr_up_same _ _ _ | (refine mr_lk ?_ (by first | assumption | decide); first | assumption | exact mr_up_same _ _ _ | (refine mr_lk ?_ (by first | assumption | decide); first | assumption | exact mr_up_same _ _ _ | (refine mr_lk ?_ (by first | assumption | decide); first | assumption | exact mr_up_same _ _ _))))) rfl ?_
    refine mr_iload_n dX7_restore_18 rfl ?_
    refine mr_zald dX7_restore_19 (by first | assumption | exact mr_up_same _ _ _ | (refine mr_lk ?_ (by first | assumption | decide); first | assumption | exact mr_up_same _ _ _ | (refine mr_lk ?_ (by first | assumption | decide); first | assumption | exact mr_up_same _ _ _ | (refine mr_lk ?_ (by first | assumption | decide); first | assumption | exact mr_up_same _ _ _ | (refine mr_lk ?_ (by first | assumption | decide); first | assumption | exact mr_up_same _ _ _))))) (by omega) (by omega) (by decide) ?_
    refine mr_if_ne (tgt := 25) dX7_restore_20 (by decide) ⟨by omega, by omega⟩ (fun hc_20 => ?_) (fun hc_20 => ?_)
    · refine mr_aload_n dX7_restore_25 rfl ?_
      refine mr_get dX7_restore_26 fl_X7_92 (by first | assumption | exact mr_up_same _ _ _ | (refine mr_lk ?_ (by first | assumption | decide); first | assumption | exact mr_up_same _ _ _ | (refine mr_lk ?_ (by first | assumption | decide); first | assumption | exact mr_up_same _ _ _ | (refine mr_lk ?_ (by first | assumption | decide); first | assumption | exact mr_up_same _ _ _ | (refine mr_lk ?_ (by first | assumption | decide); first | assumption | exact mr_up_same _ _ _))))) rfl ?_
      refine mr_bipush dX7_restore_29 rfl ?_
      refine mr_iload_n dX7_restore_31 rfl ?_
      refine mr_imul dX7_restore_32 ?_
      refine mr_aload_n dX7_restore_33 rfl ?_
      refine mr_get dX7_restore_34 fl_X7_86 (by first | assumption | exact mr_up_same _ _ _ | (refine mr_lk ?_ (by first | assumption | decide); first | assumption | exact mr_up_same _ _ _ | (refine mr_lk ?_ (by first | assumption | decide); first | assumption | exact mr_up_same _ _ _ | (refine mr_lk ?_ (by first | assumption | decide); first | assumption | exact mr_up_same _ _ _ | (refine mr_lk ?_ (by first | assumption | decide); first | assumption | exact mr_up_same _ _ _))))) rfl ?_
      refine mr_iconst dX7_restore_37 ?_
      refine mr_callS (as := [_, _, _, _]) dX7_restore_38 (ok_X7_copy l G) ml_X7_173 cl_X7_copy cs_X7_copy (by decide) rfl rfl (Nat.le_of_ble_eq_true rfl) ?_
      refine ⟨22, 20, 42, 21, _, _, _, 0, rfl, (by decide), (by first | assumption | exact mr_up_same _ _ _ | (refine mr_lk ?_ (by first | assumption | decide); first | assumption | exact mr_up_same _ _ _ | (refine mr_lk ?_ (by first | assumption | decide); first | assumption | exact mr_up_same _ _ _ | (refine mr_lk ?_ (by first | assumption | decide); first | assumption | exact mr_up_same _ _ _ | (refine mr_lk ?_ (by first | assumption | decide); first | assumption | exact mr_up_same _ _ _))))), (by first | assumption | exact mr_up_same _ _ _ | (refine mr_lk ?_ (by first | assumption | decide); first | assumption | exact mr_up_same _ _ _ | (refine mr_lk ?_ (by first | assumption | decide); first | assumption | exact mr_up_same _ _ _ | (refine mr_lk ?_ (by first | assumption | decide); first | assumption | exact mr_up_same _ _ _ | (refine mr_lk ?_ (by first | assumption | decide); first | assumption | exact mr_up_same _ _ _))))), ⟨by omega, by omega⟩, ⟨by omega, by omega⟩, (by decide), (by decide), ?_⟩
      refine mw_a20 hM1 (fun w2 hM2 hF2 => ?_)
      obtain ⟨h18, h19, h20, h21, h22, h23, h24, h25, h26, h27, hs1, hs2, hik⟩ := id hM2
      dsimp only [Option.toList_some, Option.toList_none, List.cons_append, List.nil_append]
      refine mr_aload_n dX7_restore_41 rfl ?_
      refine mr_iconst dX7_restore_42 ?_
      refine mr_put dX7_restore_43 fl_X7_177 pf_X7_16 rfl rfl (by first | assumption | exact mr_up_same _ _ _ | (refine mr_lk ?_ (by first | assumption | decide); first | assumption | exact mr_up_same _ _ _ | (refine mr_lk ?_ (by first | assumption | decide); first | assumption | exact mr_up_same _ _ _ | (refine mr_lk ?_ (by first | assumption | decide); first | assumption | exact mr_up_same _ _ _ | (refine mr_lk ?_ (by first | assumption | decide); first | assumption | exact mr_up_same _ _ _))))) (Nat.le_of_ble_eq_true rfl) ?_
      refine mw_p16 hM2 (fun w3 hM3 hF3 => ?_)
      obtain ⟨h18, h19, h20, h21, h22, h23, h24, h25, h26, h27, hs1, hs2, hik⟩ := id hM3
      refine mr_iconst dX7_restore_46 ?_
      refine mr_zret rfl (Or.inr rfl) dX7_restore_47 ?_
      first | exact hQ k1 w3 hM3 (hF1.tr (hF2.tr hF3)) | exact hP k1 hc_20 w3 hM3 (hF1.tr (hF2.tr hF3)) | exact hR k1 hc_20 w3 hM3 (hF1.tr (hF2.tr hF3))
    · refine mr_iconst dX7_restore_23 ?_
      refine mr_zret rfl (Or.inl rfl) dX7_restore_24 ?_
      first | exact hQ k1 w1 hM1 hF1 | exact hP k1 hc_20 w1 hM1 hF1 | exact hR k1 hc_20 w1 hM1 hF1
  · intro k1
    dsimp only [Option.toList_some, Option.toList_none, List.cons_append, List.nil_append]
    refine mr_if_eq (tgt := 23) dX7_restore_11 (by decide) (by omega) (fun _ => ?_) (fun h => absurd h (by decide))
    refine mr_iconst dX7_restore_23 ?_
    refine mr_zret rfl (Or.inl rfl) dX7_restore_24 ?_
    first | exact hQ k1 w1 hM1 hF1 | exact hP k1 hc_20 w1 hM1 hF1 | exact hR k1 hc_20 w1 hM1 hF1
def T_X7_equation (a : List mr_AV) (w : mr_Wd) (Po : Option mr_AV → mr_Wd → Prop) : Prop := ∃ (th tp sz zo fr kd nb ft pl wd sm md li sd : Int) (T N R K Sn ik s1 s2 ls : Nat → Int) (W : Nat) (L : Int → mr_V → Prop) (i h : Int), a = [vR 18 0, vI i, vI h] ∧ mr_MW w th tp sz zo fr kd nb ft pl wd sm md li sd T N R K Sn ik s1 s2 ls ∧ mr_NG N W L ∧ InR i ∧ InR h ∧ (0 < N 14 → 0 < N 0) ∧ ((0 ≤ i ∧ i < N 14) → (∀ w' : mr_Wd, mr_MW w' (0) tp sz zo fr kd nb ft pl wd sm md li sd T N R K Sn ik s1 s2 ls → mr_FM w w' → Po (some (vI (if h = 0 then N (15 + i).toNat / (N 0 * N 0) else if h = 1 then N (15 + i).toNat / N 0 % N 0 else if h = 2 then N (15 + i).toNat % N 0 else if h = 3 then N (18 + i).toNat else -1))) w')) ∧ (¬ (0 ≤ i ∧ i < N 14) → (∀ w' : mr_Wd, mr_MW w' (0) tp sz zo fr kd nb ft pl wd sm md li sd T N R K Sn ik s1 s2 ls → mr_FM w w' → Po (some (vI (-1))) w'))
set_option maxHeartbeats 4000000 in
set_option maxRecDepth 20000 in
theorem ok_X7_equation (l : Launch) (G : mr_G) : mr_Ok l G yX7_equation cX7_equation 4 (some .int) 1 22 T_X7_equation := by
  refine mr_Ok.of (by decide +kernel) ?_
  rintro a w Po ⟨th, tp, sz, zo, fr, kd, nb, ft, pl, wd, sm, md, li, sd, T, N, R, K, Sn, ik, s1, s2, ls, W, L, i, h, rfl, hM, ⟨hG0, hG1, hG14, hGW⟩, h_i, h_h, hq14, hP, hQ⟩
  refine ⟨Nat.le_of_ble_eq_true rfl, ?_⟩
  show mr_J l G RX7 cX7_equation 4 (some .int) 1 22 Po 0 [some (vR 18 0), some (vI i), some (vI h), none] [] w
  obtain ⟨h18, h19, h20, h21, h22, h23, h24, h25, h26, h27, hs1, hs2, hik⟩ := id hM
  refine mr_aload_n dX7_equation_0 rfl ?_
  refine mr_iconst dX7_equation_1 ?_
  refine mr_put dX7_equation_2 fl_X7_1 pf_X7_0 rfl rfl (by first | assumption | exact mr_up_same _ _ _ | (refine mr_lk ?_ (by first | assumption | decide); first | assumption | exact mr_up_same _ _ _ | (refine mr_lk ?_ (by first | assumption | decide); first | assumption | exact mr_up_same _ _ _ | (refine mr_lk ?_ (by first | assumption | decide); first | assumption | exact mr_up_same _ _ _ | (refine mr_lk ?_ (by first | assumption | decide); first | assumption | exact mr_up_same _ _ _))))) (Nat.le_of_ble_eq_true rfl) ?_
  refine mw_p0 hM (fun w1 hM1 hF1 => ?_)
  obtain ⟨h18, h19, h20, h21, h22, h23, h24, h25, h26, h27, hs1, hs2, hik⟩ := id hM1
  refine mr_iload_n dX7_equation_5 rfl ?_
  refine mr_iconst dX7_equation_6 ?_
  refine mr_aload_n dX7_equation_7 rfl ?_
  refine mr_callV (as := []) dX7_equation_8 (ok_X7_equations l G) ml_X7_250 cl_X7_equations cv_X7_equations (by decide) rfl rfl (Nat.le_of_ble_eq_true rfl) (by first | assumption | exact mr_up_same _ _ _ | (refine mr_lk ?_ (by first | assumption | decide); first | assumption | exact mr_up_same _ _ _ | (refine mr_lk ?_ (by first | assumption | decide); first | assumption | exact mr_up_same _ _ _ | (refine mr_lk ?_ (by first | assumption | decide); first | assumption | exact mr_up_same _ _ _ | (refine mr_lk ?_ (by first | assumption | decide); first | assumption | exact mr_up_same _ _ _))))) ?_
  refine ⟨_, _, _, _, _, _, _, _, _, _, _, _, _, _, _, rfl, (by first | assumption | exact mr_up_same _ _ _ | (refine mr_lk ?_ (by first | assumption | decide); first | assumption | exact mr_up_same _ _ _ | (refine mr_lk ?_ (by first | assumption | decide); first | assumption | exact mr_up_same _ _ _ | (refine mr_lk ?_ (by first | assumption | decide); first | assumption | exact mr_up_same _ _ _ | (refine mr_lk ?_ (by first | assumption | decide); first | assumption | exact mr_up_same _ _ _))))), (by first | assumption | exact mr_up_same _ _ _ | (refine mr_lk ?_ (by first | assumption | decide); first | assumption | exact mr_up_same _ _ _ | (refine mr_lk ?_ (by first | assumption | decide); first | assumption | exact mr_up_same _ _ _ | (refine mr_lk ?_ (by first | assumption | decide); first | assumption | exact mr_up_same _ _ _ | (refine mr_lk ?_ (by first | assumption | decide); first | assumption | exact mr_up_same _ _ _))))), ?_⟩
  dsimp only [Option.toList_some, Option.toList_none, List.cons_append, List.nil_append]
  refine mr_iconst dX7_equation_11 ?_
  refine mr_isub dX7_equation_12 ?_
  refine mr_callS (as := [_, _, _]) dX7_equation_13 (ok_X7_isIn l G) ml_X7_117 cl_X7_isIn cs_X7_isIn (by decide) rfl rfl (Nat.le_of_ble_eq_true rfl) ?_
  refine ⟨_, _, _, rfl, h_i, (by decide), ⟨by omega, by omega⟩, ?_, ?_⟩
  · intro k1
    obtain ⟨e0, e1, hM0, hW0, hFN, hEQ⟩ := hGW (hq14 (by omega))
    have hMM : 1 ≤ N 0 ∧ N 0 ≤ 30 := ⟨by omega, by omega⟩
    have hm3 := mr_m3 hMM
    have hm2 := mr_m2 hMM
    have hEi := hEQ i (by omega) (by omega)
    have a1 := mr_dvb hEi.1.1 (show 0 < N 0 by omega)
    dsimp only [Option.toList_some, Option.toList_none, List.cons_append, List.nil_append]
    refine mr_if_ne (tgt := 21) dX7_equation_16 (by decide) (by omega) (fun _ => ?_) (fun h => absurd h (by decide))
    refine mr_aload_n dX7_equation_21 rfl ?_
    refine mr_callV (as := []) dX7_equation_22 (ok_X7_by l G) ml_X7_195 cl_X7_by cv_X7_by (by decide) rfl rfl (Nat.le_of_ble_eq_true rfl) (by first | assumption | exact mr_up_same _ _ _ | (refine mr_lk ?_ (by first | assumption | decide); first | assumption | exact mr_up_same _ _ _ | (refine mr_lk ?_ (by first | assumption | decide); first | assumption | exact mr_up_same _ _ _ | (refine mr_lk ?_ (by first | assumption | decide); first | assumption | exact mr_up_same _ _ _ | (refine mr_lk ?_ (by first | assumption | decide); first | assumption | exact mr_up_same _ _ _))))) ?_
    refine ⟨_, _, _, _, _, _, _, _, _, _, _, _, _, _, _, rfl, (by first | assumption | exact mr_up_same _ _ _ | (refine mr_lk ?_ (by first | assumption | decide); first | assumption | exact mr_up_same _ _ _ | (refine mr_lk ?_ (by first | assumption | decide); first | assumption | exact mr_up_same _ _ _ | (refine mr_lk ?_ (by first | assumption | decide); first | assumption | exact mr_up_same _ _ _ | (refine mr_lk ?_ (by first | assumption | decide); first | assumption | exact mr_up_same _ _ _))))), (by first | assumption | exact mr_up_same _ _ _ | (refine mr_lk ?_ (by first | assumption | decide); first | assumption | exact mr_up_same _ _ _ | (refine mr_lk ?_ (by first | assumption | decide); first | assumption | exact mr_up_same _ _ _ | (refine mr_lk ?_ (by first | assumption | decide); first | assumption | exact mr_up_same _ _ _ | (refine mr_lk ?_ (by first | assumption | decide); first | assumption | exact mr_up_same _ _ _))))), ?_⟩
    dsimp only [Option.toList_some, Option.toList_none, List.cons_append, List.nil_append]
    refine mr_istore_n dX7_equation_25 rfl (by decide) ?_
    refine mr_iload_n dX7_equation_26 rfl ?_
    by_cases c0 : h = 0
    · subst c0
      refine mr_tableIn (tgt := 56) dX7_equation_27 (by decide) (by decide) (by decide) rfl (by decide) ?_
      refine mr_aload_n dX7_equation_56 rfl ?_
      refine mr_get dX7_equation_57 fl_X7_86 (by first | assumption | exact mr_up_same _ _ _ | (refine mr_lk ?_ (by first | assumption | decide); first | assumption | exact mr_up_same _ _ _ | (refine mr_lk ?_ (by first | assumption | decide); first | assumption | exact mr_up_same _ _ _ | (refine mr_lk ?_ (by first | assumption | decide); first | assumption | exact mr_up_same _ _ _ | (refine mr_lk ?_ (by first | assumption | decide); first | assumption | exact mr_up_same _ _ _))))) rfl ?_
      refine mr_bipush dX7_equation_60 rfl ?_
      refine mr_iload_n dX7_equation_62 rfl ?_
      refine mr_iadd dX7_equation_63 ?_
      refine mr_iald dX7_equation_64 (by first | assumption | exact mr_up_same _ _ _ | (refine mr_lk ?_ (by first | assumption | decide); first | assumption | exact mr_up_same _ _ _ | (refine mr_lk ?_ (by first | assumption | decide); first | assumption | exact mr_up_same _ _ _ | (refine mr_lk ?_ (by first | assumption | decide); first | assumption | exact mr_up_same _ _ _ | (refine mr_lk ?_ (by first | assumption | decide); first | assumption | exact mr_up_same _ _ _))))) (by omega) (by omega) (by decide) ?_
      refine mr_iload_n dX7_equation_65 rfl ?_
      refine mr_iload_n dX7_equation_66 rfl ?_
      refine mr_imul dX7_equation_67 ?_
      refine mr_idivp dX7_equation_68 (by omega) (by omega) (by omega) (by omega) ?_
      refine mr_iret rfl dX7_equation_69 ?_
      exact hP (by omega) w1 hM1 hF1
    by_cases c1 : h = 1
    · subst c1
      refine mr_tableIn (tgt := 70) dX7_equation_27 (by decide) (by decide) (by decide) rfl (by decide) ?_
      refine mr_aload_n dX7_equation_70 rfl ?_
      refine mr_get dX7_equation_71 fl_X7_86 (by first | assumption | exact mr_up_same _ _ _ | (refine mr_lk ?_ (by first | assumption | decide); first | assumption | exact mr_up_same _ _ _ | (refine mr_lk ?_ (by first | assumption | decide); first | assumption | exact mr_up_same _ _ _ | (refine mr_lk ?_ (by first | assumption | decide); first | assumption | exact mr_up_same _ _ _ | (refine mr_lk ?_ (by first | assumption | decide); first | assumption | exact mr_up_same _ _ _))))) rfl ?_
      refine mr_bipush dX7_equation_74 rfl ?_
      refine mr_iload_n dX7_equation_76 rfl ?_
      refine mr_iadd dX7_equation_77 ?_
      refine mr_iald dX7_equation_78 (by first | assumption | exact mr_up_same _ _ _ | (refine mr_lk ?_ (by first | assumption | decide); first | assumption | exact mr_up_same _ _ _ | (refine mr_lk ?_ (by first | assumption | decide); first | assumption | exact mr_up_same _ _ _ | (refine mr_lk ?_ (by first | assumption | decide); first | assumption | exact mr_up_same _ _ _ | (refine mr_lk ?_ (by first | assumption | decide); first | assumption | exact mr_up_same _ _ _))))) (by omega) (by omega) (by decide) ?_
      refine mr_iload_n dX7_equation_79 rfl ?_
      refine mr_idivp dX7_equation_80 (by omega) (by omega) (by omega) (by omega) ?_
      refine mr_iload_n dX7_equation_81 rfl ?_
      refine mr_iremp dX7_equation_82 (by omega) (by omega) (by omega) (by omega) ?_
      refine mr_iret rfl dX7_equation_83 ?_
      exact hP (by omega) w1 hM1 hF1
    by_cases c2 : h = 2
    · subst c2
      refine mr_tableIn (tgt := 84) dX7_equation_27 (by decide) (by decide) (by decide) rfl (by decide) ?_
      refine mr_aload_n dX7_equation_84 rfl ?_
      refine mr_get dX7_equation_85 fl_X7_86 (by first | assumption | exact mr_up_same _ _ _ | (refine mr_lk ?_ (by first | assumption | decide); first | assumption | exact mr_up_same _ _ _ | (refine mr_lk ?_ (by first | assumption | decide); first | assumption | exact mr_up_same _ _ _ | (refine mr_lk ?_ (by first | assumption | decide); first | assumption | exact mr_up_same _ _ _ | (refine mr_lk ?_ (by first | assumption | decide); first | assumption | exact mr_up_same _ _ _))))) rfl ?_
      refine mr_bipush dX7_equation_88 rfl ?_
      refine mr_iload_n dX7_equation_90 rfl ?_
      refine mr_iadd dX7_equation_91 ?_
      refine mr_iald dX7_equation_92 (by first | assumption | exact mr_up_same _ _ _ | (refine mr_lk ?_ (by first | assumption | decide); first | assumption | exact mr_up_same _ _ _ | (refine mr_lk ?_ (by first | assumption | decide); first | assumption | exact mr_up_same _ _ _ | (refine mr_lk ?_ (by first | assumption | decide); first | assumption | exact mr_up_same _ _ _ | (refine mr_lk ?_ (by first | assumption | decide); first | assumption | exact mr_up_same _ _ _))))) (by omega) (by omega) (by decide) ?_
      refine mr_iload_n dX7_equation_93 rfl ?_
      refine mr_iremp dX7_equation_94 (by omega) (by omega) (by omega) (by omega) ?_
      refine mr_iret rfl dX7_equation_95 ?_
      exact hP (by omega) w1 hM1 hF1
    by_cases c3 : h = 3
    · subst c3
      refine mr_tableIn (tgt := 96) dX7_equation_27 (by decide) (by decide) (by decide) rfl (by decide) ?_
      refine mr_aload_n dX7_equation_96 rfl ?_
      refine mr_get dX7_equation_97 fl_X7_86 (by first | assumption | exact mr_up_same _ _ _ | (refine mr_lk ?_ (by first | assumption | decide); first | assumption | exact mr_up_same _ _ _ | (refine mr_lk ?_ (by first | assumption | decide); first | assumption | exact mr_up_same _ _ _ | (refine mr_lk ?_ (by first | assumption | decide); first | assumption | exact mr_up_same _ _ _ | (refine mr_lk ?_ (by first | assumption | decide); first | assumption | exact mr_up_same _ _ _))))) rfl ?_
      refine mr_bipush dX7_equation_100 rfl ?_
      refine mr_iload_n dX7_equation_102 rfl ?_
      refine mr_iadd dX7_equation_103 ?_
      refine mr_iald dX7_equation_104 (by first | assumption | exact mr_up_same _ _ _ | (refine mr_lk ?_ (by first | assumption | decide); first | assumption | exact mr_up_same _ _ _ | (refine mr_lk ?_ (by first | assumption | decide); first | assumption | exact mr_up_same _ _ _ | (refine mr_lk ?_ (by first | assumption | decide); first | assumption | exact mr_up_same _ _ _ | (refine mr_lk ?_ (by first | assumption | decide); first | assumption | exact mr_up_same _ _ _))))) (by omega) (by omega) (by decide) ?_
      refine mr_iret rfl dX7_equation_105 ?_
      exact hP (by omega) w1 hM1 hF1
    rw [if_neg c0, if_neg c1, if_neg c2, if_neg c3] at hP
    refine mr_tableOut (tgt := 106) dX7_equation_27 h_h (by omega) (by decide) ?_
    refine mr_iconst dX7_equation_106 ?_
    refine mr_iret rfl dX7_equation_107 ?_
    exact hP (by omega) w1 hM1 hF1
  · intro k1
    dsimp only [Option.toList_some, Option.toList_none, List.cons_append, List.nil_append]
    refine mr_if_ne (tgt := 21) dX7_equation_16 (by decide) (by omega) (fun h => absurd h (by decide)) (fun _ => ?_)
    refine mr_iconst dX7_equation_19 ?_
    refine mr_iret rfl dX7_equation_20 ?_
    exact hQ (fun z => k1 (by omega)) w1 hM1 hF1
theorem mr_rw_bd {m x y z : Int} (hm : 1 ≤ m) (hx : 0 ≤ x ∧ x < m) (hy : 0 ≤ y ∧ y < m) (hz : 0 ≤ z ∧ z < m) : 0 ≤ (x * m + y) * m + z ∧ (x * m + y) * m + z < m * m * m := by
  have h := mr_ec_bd (M := m) (by omega) (mr_l3 x y z)
  rw [mr_ec_box (x := mr_l3 x y z) (fun j hj => by
    rcases (show j = 0 ∨ j = 1 ∨ j = 2 by omega) with rfl | rfl | rfl
    · exact hx
    · exact hy
    · exact hz)] at h
  exact h
def T_X7_equate (a : List mr_AV) (w : mr_Wd) (Po : Option mr_AV → mr_Wd → Prop) : Prop := ∃ (th tp sz zo fr kd nb ft pl wd sm md li sd : Int) (T N R K Sn ik s1 s2 ls : Nat → Int) (W : Nat) (L : Int → mr_V → Prop) (i x y z v : Int), a = [vR 18 0, vI i, vI x, vI y, vI z, vI v] ∧ mr_MW w th tp sz zo fr kd nb ft pl wd sm md li sd T N R K Sn ik s1 s2 ls ∧ mr_NG N W L ∧ InR i ∧ InR x ∧ InR y ∧ InR z ∧ InR v ∧ (0 ≤ sm ∧ sm ≤ 8) ∧ (((0 < N 0 ∧ 0 ≤ i ∧ i ≤ N 14 ∧ i ≠ 3) ∧ ((0 ≤ x ∧ x < N 0) ∧ (0 ≤ y ∧ y < N 0) ∧ (0 ≤ z ∧ z < N 0) ∧ (N 1 < 2 → y = 0) ∧ (N 1 < 3 → z = 0)) ∧ (0 ≤ v ∧ v < N 0)) → i = N 14 → (∀ (w' : mr_Wd) (Sn' : Nat → Int) (sm' : Int), mr_snr N Sn sm Sn' sm' → mr_MW w' (0) tp sz zo fr kd nb ft pl wd (sm') md li sd T (mr_fs (mr_fs (mr_fs N (15 + i).toNat ((x * N 0 + y) * N 0 + z)) (18 + i).toNat v) 14 (N 14 + 1)) R K (Sn') ik s1 s2 ls → mr_FM w w' → Po (some (vI (N 14 + 1))) w')) ∧ (((0 < N 0 ∧ 0 ≤ i ∧ i ≤ N 14 ∧ i ≠ 3) ∧ ((0 ≤ x ∧ x < N 0) ∧ (0 ≤ y ∧ y < N 0) ∧ (0 ≤ z ∧ z < N 0) ∧ (N 1 < 2 → y = 0) ∧ (N 1 < 3 → z = 0)) ∧ (0 ≤ v ∧ v < N 0)) → i ≠ N 14 → (∀ (w' : mr_Wd) (Sn' : Nat → Int) (sm' : Int), mr_snr N Sn sm Sn' sm' → mr_MW w' (0) tp sz zo fr kd nb ft pl wd (sm') md li sd T (mr_fs (mr_fs N (15 + i).toNat ((x * N 0 + y) * N 0 + z)) (18 + i).toNat v) R K (Sn') ik s1 s2 ls → mr_FM w w' → Po (some (vI (N 14))) w')) ∧ (¬ ((0 < N 0 ∧ 0 ≤ i ∧ i ≤ N 14 ∧ i ≠ 3) ∧ ((0 ≤ x ∧ x < N 0) ∧ (0 ≤ y ∧ y < N 0) ∧ (0 ≤ z ∧ z < N 0) ∧ (N 1 < 2 → y = 0) ∧ (N 1 < 3 → z = 0)) ∧ (0 ≤ v ∧ v < N 0)) → (∀ w' : mr_Wd, mr_MW w' (0) tp sz zo fr kd nb ft pl wd sm md li sd T N R K Sn ik s1 s2 ls → mr_FM w w' → Po (some (vI (-1))) w'))
set_option maxHeartbeats 4000000 in
set_option maxRecDepth 20000 in
theorem ok_X7_equate (l : Launch) (G : mr_G) : mr_Ok l G yX7_equate cX7_equate 6 (some .int) 2 46 T_X7_equate := by
  refine mr_Ok.of (by decide +kernel) ?_
  rintro a w Po ⟨th, tp, sz, zo, fr, kd, nb, ft, pl, wd, sm, md, li, sd, T, N, R, K, Sn, ik, s1, s2, ls, W, L, i, x, y, z, v, rfl, hM, ⟨hG0, hG1, hG14, hGW⟩, h_i, h_x, h_y, h_z, h_v, hsm, hP, hQ, hR⟩
  refine ⟨Nat.le_of_ble_eq_true rfl, ?_⟩
  show mr_J l G RX7 cX7_equate 6 (some .int) 2 46 Po 0 [some (vR 18 0), some (vI i), some (vI x), some (vI y), some (vI z), some (vI v)] [] w
  obtain ⟨h18, h19, h20, h21, h22, h23, h24, h25, h26, h27, hs1, hs2, hik⟩ := id hM
  refine mr_aload_n dX7_equate_0 rfl ?_
  refine mr_iconst dX7_equate_1 ?_
  refine mr_put dX7_equate_2 fl_X7_1 pf_X7_0 rfl rfl (by first | assumption | exact mr_up_same _ _ _ | (refine mr_lk ?_ (by first | assumption | decide); first | assumption | exact mr_up_same _ _ _ | (refine mr_lk ?_ (by first | assumption | decide); first | assumption | exact mr_up_same _ _ _ | (refine mr_lk ?_ (by first | assumption | decide); first | assumption | exact mr_up_same _ _ _ | (refine mr_lk ?_ (by first | assumption | decide); first | assumption | exact mr_up_same _ _ _))))) (Nat.le_of_ble_eq_true rfl) ?_
  refine mw_p0 hM (fun w1 hM1 hF1 => ?_)
  obtain ⟨h18, h19, h20, h21, h22, h23, h24, h25, h26, h27, hs1, hs2, hik⟩ := id hM1
  refine mr_aload_n dX7_equate_5 rfl ?_
  refine mr_callV (as := []) dX7_equate_6 (ok_X7_by l G) ml_X7_195 cl_X7_by cv_X7_by (by decide) rfl rfl (Nat.le_of_ble_eq_true rfl) (by first | assumption | exact mr_up_same _ _ _ | (refine mr_lk ?_ (by first | assumption | decide); first | assumption | exact mr_up_same _ _ _ | (refine mr_lk ?_ (by first | assumption | decide); first | assumption | exact mr_up_same _ _ _ | (refine mr_lk ?_ (by first | assumption | decide); first | assumption | exact mr_up_same _ _ _ | (refine mr_lk ?_ (by first | assumption | decide); first | assumption | exact mr_up_same _ _ _))))) ?_
  refine ⟨_, _, _, _, _, _, _, _, _, _, _, _, _, _, _, rfl, (by first | assumption | exact mr_up_same _ _ _ | (refine mr_lk ?_ (by first | assumption | decide); first | assumption | exact mr_up_same _ _ _ | (refine mr_lk ?_ (by first | assumption | decide); first | assumption | exact mr_up_same _ _ _ | (refine mr_lk ?_ (by first | assumption | decide); first | assumption | exact mr_up_same _ _ _ | (refine mr_lk ?_ (by first | assumption | decide); first | assumption | exact mr_up_same _ _ _))))), (by first | assumption | exact mr_up_same _ _ _ | (refine mr_lk ?_ (by first | assumption | decide); first | assumption | exact mr_up_same _ _ _ | (refine mr_lk ?_ (by first | assumption | decide); first | assumption | exact mr_up_same _ _ _ | (refine mr_lk ?_ (by first | assumption | decide); first | assumption | exact mr_up_same _ _ _ | (refine mr_lk ?_ (by first | assumption | decide); first | assumption | exact mr_up_same _ _ _))))), ?_⟩
  dsimp only [Option.toList_some, Option.toList_none, List.cons_append, List.nil_append]
  refine mr_if_eq (tgt := 56) dX7_equate_9 (by decide) ⟨by show -2147483648 ≤ N 0; omega, by show N 0 < 2147483648; omega⟩ (fun hc_9 => ?_) (fun hc_9 => ?_)
  · refine mr_iconst dX7_equate_56 ?_
    refine mr_iret rfl dX7_equate_57 ?_
    exact hR (fun zz => by first | omega | exact kr zz.2.1) w1 hM1 hF1
  · refine mr_iload_n dX7_equate_12 rfl ?_
    refine mr_iconst dX7_equate_13 ?_
    refine mr_aload_n dX7_equate_14 rfl ?_
    refine mr_callV (as := []) dX7_equate_15 (ok_X7_equations l G) ml_X7_250 cl_X7_equations cv_X7_equations (by decide) rfl rfl (Nat.le_of_ble_eq_true rfl) (by first | assumption | exact mr_up_same _ _ _ | (refine mr_lk ?_ (by first | assumption | decide); first | assumption | exact mr_up_same _ _ _ | (refine mr_lk ?_ (by first | assumption | decide); first | assumption | exact mr_up_same _ _ _ | (refine mr_lk ?_ (by first | assumption | decide); first | assumption | exact mr_up_same _ _ _ | (refine mr_lk ?_ (by first | assumption | decide); first | assumption | exact mr_up_same _ _ _))))) ?_
    refine ⟨_, _, _, _, _, _, _, _, _, _, _, _, _, _, _, rfl, (by first | assumption | exact mr_up_same _ _ _ | (refine mr_lk ?_ (by first | assumption | decide); first | assumption | exact mr_up_same _ _ _ | (refine mr_lk ?_ (by first | assumption | decide); first | assumption | exact mr_up_same _ _ _ | (refine mr_lk ?_ (by first | assumption | decide); first | assumption | exact mr_up_same _ _ _ | (refine mr_lk ?_ (by first | assumption | decide); first | assumption | exact mr_up_same _ _ _))))), (by first | assumption | exact mr_up_same _ _ _ | (refine mr_lk ?_ (by first | assumption | decide); first | assumption | exact mr_up_same _ _ _ | (refine mr_lk ?_ (by first | assumption | decide); first | assumption | exact mr_up_same _ _ _ | (refine mr_lk ?_ (by first | assumption | decide); first | assumption | exact mr_up_same _ _ _ | (refine mr_lk ?_ (by first | assumption | decide); first | assumption | exact mr_up_same _ _ _))))), ?_⟩
    dsimp only [Option.toList_some, Option.toList_none, List.cons_append, List.nil_append]
    refine mr_callS (as := [_, _, _]) dX7_equate_18 (ok_X7_isIn l G) ml_X7_117 cl_X7_isIn cs_X7_isIn (by decide) rfl rfl (Nat.le_of_ble_eq_true rfl) ?_
    refine ⟨_, _, _, rfl, h_i, (by decide), ⟨by omega, by omega⟩, ?_, ?_⟩
    · intro k1
      dsimp only [Option.toList_some, Option.toList_none, List.cons_append, List.nil_append]
      refine mr_if_eq (tgt := 56) dX7_equate_21 (by decide) (by omega) (fun h => absurd h (by decide)) (fun _ => ?_)
      refine mr_iload_n dX7_equate_24 rfl ?_
      refine mr_iconst dX7_equate_25 ?_
      refine mr_icmp_eq (tgt := 56) dX7_equate_26 (by decide) h_i (by decide) (fun hc_26 => ?_) (fun hc_26 => ?_)
      · refine mr_iconst dX7_equate_56 ?_
        refine mr_iret rfl dX7_equate_57 ?_
        exact hR (fun zz => by first | omega | exact kr zz.2.1) w1 hM1 hF1
      · refine mr_aload_n dX7_equate_29 rfl ?_
        refine mr_iload_n dX7_equate_30 rfl ?_
        refine mr_iload_n dX7_equate_31 rfl ?_
        refine mr_iload dX7_equate_32 rfl ?_
        refine mr_callV (as := [_, _, _]) dX7_equate_34 (ok_X7_rowOf l G) ml_X7_211 cl_X7_rowOf cv_X7_rowOf (by decide) rfl rfl (Nat.le_of_ble_eq_true rfl) (by first | assumption | exact mr_up_same _ _ _ | (refine mr_lk ?_ (by first | assumption | decide); first | assumption | exact mr_up_same _ _ _ | (refine mr_lk ?_ (by first | assumption | decide); first | assumption | exact mr_up_same _ _ _ | (refine mr_lk ?_ (by first | assumption | decide); first | assumption | exact mr_up_same _ _ _ | (refine mr_lk ?_ (by first | assumption | decide); first | assumption | exact mr_up_same _ _ _))))) ?_
        refine ⟨_, _, _, _, _, _, _, _, _, _, _, _, _, _, _, _, _, _, rfl, (by first | assumption | exact mr_up_same _ _ _ | (refine mr_lk ?_ (by first | assumption | decide); first | assumption | exact mr_up_same _ _ _ | (refine mr_lk ?_ (by first | assumption | decide); first | assumption | exact mr_up_same _ _ _ | (refine mr_lk ?_ (by first | assumption | decide); first | assumption | exact mr_up_same _ _ _ | (refine mr_lk ?_ (by first | assumption | decide); first | assumption | exact mr_up_same _ _ _))))), (by first | assumption | exact mr_up_same _ _ _ | (refine mr_lk ?_ (by first | assumption | decide); first | assumption | exact mr_up_same _ _ _ | (refine mr_lk ?_ (by first | assumption | decide); first | assumption | exact mr_up_same _ _ _ | (refine mr_lk ?_ (by first | assumption | decide); first | assumption | exact mr_up_same _ _ _ | (refine mr_lk ?_ (by first | assumption | decide); first | assumption | exact mr_up_same _ _ _))))), h_x, h_y, h_z, hG0, hG1, ?_, ?_⟩
        · intro kr
          have hrw := mr_rw_bd (m := N 0) (by omega) kr.1 kr.2.1 kr.2.2.1
          have hm3 := mr_m3 (m := N 0) ⟨by omega, by omega⟩
          dsimp only [Option.toList_some, Option.toList_none, List.cons_append, List.nil_append]
          refine mr_iconst dX7_equate_37 ?_
          refine mr_icmp_eq (tgt := 56) dX7_equate_38 (by decide) ⟨by omega, by omega⟩ (by decide) (fun hc_38 => absurd hc_38 (by omega)) (fun hc_38 => ?_)
          refine mr_iload dX7_equate_41 rfl ?_
          refine mr_iconst dX7_equate_43 ?_
          refine mr_aload_n dX7_equate_44 rfl ?_
          refine mr_callV (as := []) dX7_equate_45 (ok_X7_by l G) ml_X7_195 cl_X7_by cv_X7_by (by decide) rfl rfl (Nat.le_of_ble_eq_true rfl) (by first | assumption | exact mr_up_same _ _ _ | (refine mr_lk ?_ (by first | assumption | decide); first | assumption | exact mr_up_same _ _ _ | (refine mr_lk ?_ (by first | assumption | decide); first | assumption | exact mr_up_same _ _ _ | (refine mr_lk ?_ (by first | assumption | decide); first | assumption | exact mr_up_same _ _ _ | (refine mr_lk ?_ (by first | assumption | decide); first | assumption | exact mr_up_same _ _ _))))) ?_
          refine ⟨_, _, _, _, _, _, _, _, _, _, _, _, _, _, _, rfl, (by first | assumption | exact mr_up_same _ _ _ | (refine mr_lk ?_ (by first | assumption | decide); first | assumption | exact mr_up_same _ _ _ | (refine mr_lk ?_ (by first | assumption | decide); first | assumption | exact mr_up_same _ _ _ | (refine mr_lk ?_ (by first | assumption | decide); first | assumption | exact mr_up_same _ _ _ | (refine mr_lk ?_ (by first | assumption | decide); first | assumption | exact mr_up_same _ _ _))))), (by first | assumption | exact mr_up_same _ _ _ | (refine mr_lk ?_ (by first | assumption | decide); first | assumption | exact mr_up_same _ _ _ | (refine mr_lk ?_ (by first | assumption | decide); first | assumption | exact mr_up_same _ _ _ | (refine mr_lk ?_ (by first | assumption | decide); first | assumption | exact mr_up_same _ _ _ | (refine mr_lk ?_ (by first | assumption | decide); first | assumption | exact mr_up_same _ _ _))))), ?_⟩
          dsimp only [Option.toList_some, Option.toList_none, List.cons_append, List.nil_append]
          refine mr_iconst dX7_equate_48 ?_
          refine mr_isub dX7_equate_49 ?_
          refine mr_callS (as := [_, _, _]) dX7_equate_50 (ok_X7_isIn l G) ml_X7_117 cl_X7_isIn cs_X7_isIn (by decide) rfl rfl (Nat.le_of_ble_eq_true rfl) ?_
          refine ⟨_, _, _, rfl, h_v, (by decide), ⟨by omega, by omega⟩, ?_, ?_⟩
          · intro k2
            dsimp only [Option.toList_some, Option.toList_none, List.cons_append, List.nil_append]
            refine mr_if_ne (tgt := 58) dX7_equate_53 (by decide) (by omega) (fun _ => ?_) (fun h => absurd h (by decide))
            refine mr_aload_n dX7_equate_58 rfl ?_
            refine mr_callV (as := []) dX7_equate_59 (ok_X7_snap l G) ml_X7_223 cl_X7_snap cv_X7_snap (by decide) rfl rfl (Nat.le_of_ble_eq_true rfl) (by first | assumption | exact mr_up_same _ _ _ | (refine mr_lk ?_ (by first | assumption | decide); first | assumption | exact mr_up_same _ _ _ | (refine mr_lk ?_ (by first | assumption | decide); first | assumption | exact mr_up_same _ _ _ | (refine mr_lk ?_ (by first | assumption | decide); first | assumption | exact mr_up_same _ _ _ | (refine mr_lk ?_ (by first | assumption | decide); first | assumption | exact mr_up_same _ _ _))))) ?_
            refine ⟨_, _, _, _, _, _, _, _, _, _, _, _, _, _, _, _, _, _, _, _, _, _, _, rfl, hM1, (by omega), (fun w2 Sn2 sm2 hsn2 hM2 hF2 => ?_)⟩
            obtain ⟨h18, h19, h20, h21, h22, h23, h24, h25, h26, h27, hs1, hs2, hik⟩ := id hM2
            dsimp only [Option.toList_some, Option.toList_none, List.cons_append, List.nil_append]
            refine mr_aload_n dX7_equate_62 rfl ?_
            refine mr_get dX7_equate_63 fl_X7_86 (by first | assumption | exact mr_up_same _ _ _ | (refine mr_lk ?_ (by first | assumption | decide); first | assumption | exact mr_up_same _ _ _ | (refine mr_lk ?_ (by first | assumption | decide); first | assumption | exact mr_up_same _ _ _ | (refine mr_lk ?_ (by first | assumption | decide); first | assumption | exact mr_up_same _ _ _ | (refine mr_lk ?_ (by first | assumption | decide); first | assumption | exact mr_up_same _ _ _))))) rfl ?_
            refine mr_bipush dX7_equate_66 rfl ?_
            refine mr_iload_n dX7_equate_68 rfl ?_
            refine mr_iadd dX7_equate_69 ?_
            refine mr_aload_n dX7_equate_70 rfl ?_
            refine mr_iload_n dX7_equate_71 rfl ?_
            refine mr_iload_n dX7_equate_72 rfl ?_
            refine mr_iload dX7_equate_73 rfl ?_
            refine mr_callV (as := [_, _, _]) dX7_equate_75 (ok_X7_rowOf l G) ml_X7_211 cl_X7_rowOf cv_X7_rowOf (by decide) rfl rfl (Nat.le_of_ble_eq_true rfl) (by first | assumption | exact mr_up_same _ _ _ | (refine mr_lk ?_ (by first | assumption | decide); first | assumption | exact mr_up_same _ _ _ | (refine mr_lk ?_ (by first | assumption | decide); first | assumption | exact mr_up_same _ _ _ | (refine mr_lk ?_ (by first | assumption | decide); first | assumption | exact mr_up_same _ _ _ | (refine mr_lk ?_ (by first | assumption | decide); first | assumption | exact mr_up_same _ _ _))))) ?_
            refine ⟨_, _, _, _, _, _, _, _, _, _, _, _, _, _, _, _, _, _, rfl, (by first | assumption | exact mr_up_same _ _ _ | (refine mr_lk ?_ (by first | assumption | decide); first | assumption | exact mr_up_same _ _ _ | (refine mr_lk ?_ (by first | assumption | decide); first | assumption | exact mr_up_same _ _ _ | (refine mr_lk ?_ (by first | assumption | decide); first | assumption | exact mr_up_same _ _ _ | (refine mr_lk ?_ (by first | assumption | decide); first | assumption | exact mr_up_same _ _ _))))), (by first | assumption | exact mr_up_same _ _ _ | (refine mr_lk ?_ (by first | assumption | decide); first | assumption | exact mr_up_same _ _ _ | (refine mr_lk ?_ (by first | assumption | decide); first | assumption | exact mr_up_same _ _ _ | (refine mr_lk ?_ (by first | assumption | decide); first | assumption | exact mr_up_same _ _ _ | (refine mr_lk ?_ (by first | assumption | decide); first | assumption | exact mr_up_same _ _ _))))), h_x, h_y, h_z, hG0, hG1, ?_, ?_⟩
            · intro _
              dsimp only [Option.toList_some, Option.toList_none, List.cons_append, List.nil_append]
              refine mr_iast dX7_equate_78 (by first | assumption | exact mr_up_same _ _ _ | (refine mr_lk ?_ (by first | assumption | decide); first | assumption | exact mr_up_same _ _ _ | (refine mr_lk ?_ (by first | assumption | decide); first | assumption | exact mr_up_same _ _ _ | (refine mr_lk ?_ (by first | assumption | decide); first | assumption | exact mr_up_same _ _ _ | (refine mr_lk ?_ (by first | assumption | decide); first | assumption | exact mr_up_same _ _ _))))) (by omega) (by omega) (by decide) ?_
              refine mw_a20 hM2 (fun w3 hM3 hF3 => ?_)
              obtain ⟨h18, h19, h20, h21, h22, h23, h24, h25, h26, h27, hs1, hs2, hik⟩ := id hM3
              refine mr_aload_n dX7_equate_79 rfl ?_
              refine mr_get dX7_equate_80 fl_X7_86 (by first | assumption | exact mr_up_same _ _ _ | (refine mr_lk ?_ (by first | assumption | decide); first | assumption | exact mr_up_same _ _ _ | (refine mr_lk ?_ (by first | assumption | decide); first | assumption | exact mr_up_same _ _ _ | (refine mr_lk ?_ (by first | assumption | decide); first | assumption | exact mr_up_same _ _ _ | (refine mr_lk ?_ (by first | assumption | decide); first | assumption | exact mr_up_same _ _ _))))) rfl ?_
              refine mr_bipush dX7_equate_83 rfl ?_
              refine mr_iload_n dX7_equate_85 rfl ?_
              refine mr_iadd dX7_equate_86 ?_
              refine mr_iload dX7_equate_87 rfl ?_
              refine mr_iast dX7_equate_89 (by first | assumption | exact mr_up_same _ _ _ | (refine mr_lk ?_ (by first | assumption | decide); first | assumption | exact mr_up_same _ _ _ | (refine mr_lk ?_ (by first | assumption | decide); first | assumption | exact mr_up_same _ _ _ | (refine mr_lk ?_ (by first | assumption | decide); first | assumption | exact mr_up_same _ _ _ | (refine mr_lk ?_ (by first | assumption | decide); first | assumption | exact mr_up_same _ _ _))))) (by omega) (by omega) (by decide) ?_
              refine mw_a20 hM3 (fun w4 hM4 hF4 => ?_)
              obtain ⟨h18, h19, h20, h21, h22, h23, h24, h25, h26, h27, hs1, hs2, hik⟩ := id hM4
              refine mr_iload_n dX7_equate_90 rfl ?_
              refine mr_aload_n dX7_equate_91 rfl ?_
              refine mr_callV (as := []) dX7_equate_92 (ok_X7_equations l G) ml_X7_250 cl_X7_equations cv_X7_equations (by decide) rfl rfl (Nat.le_of_ble_eq_true rfl) (by first | assumption | exact mr_up_same _ _ _ | (refine mr_lk ?_ (by first | assumption | decide); first | assumption | exact mr_up_same _ _ _ | (refine mr_lk ?_ (by first | assumption | decide); first | assumption | exact mr_up_same _ _ _ | (refine mr_lk ?_ (by first | assumption | decide); first | assumption | exact mr_up_same _ _ _ | (refine mr_lk ?_ (by first | assumption | decide); first | assumption | exact mr_up_same _ _ _))))) ?_
              refine ⟨_, _, _, _, _, _, _, _, _, _, _, _, _, _, _, rfl, (by first | assumption | exact mr_up_same _ _ _ | (refine mr_lk ?_ (by first | assumption | decide); first | assumption | exact mr_up_same _ _ _ | (refine mr_lk ?_ (by first | assumption | decide); first | assumption | exact mr_up_same _ _ _ | (refine mr_lk ?_ (by first | assumption | decide); first | assumption | exact mr_up_same _ _ _ | (refine mr_lk ?_ (by first | assumption | decide); first | assumption | exact mr_up_same _ _ _))))), (by first | assumption | exact mr_up_same _ _ _ | (refine mr_lk ?_ (by first | assumption | decide); first | assumption | exact mr_up_same _ _ _ | (refine mr_lk ?_ (by first | assumption | decide); first | assumption | exact mr_up_same _ _ _ | (refine mr_lk ?_ (by first | assumption | decide); first | assumption | exact mr_up_same _ _ _ | (refine mr_lk ?_ (by first | assumption | decide); first | assumption | exact mr_up_same _ _ _))))), ?_⟩
              rw [show mr_fs (mr_fs N (15 + i).toNat ((x * N 0 + y) * N 0 + z)) (18 + i).toNat v 14 = N 14 by rw [mr_fs_ne _ _ (by omega), mr_fs_ne _ _ (by omega)]]
              dsimp only [Option.toList_some, Option.toList_none, List.cons_append, List.nil_append]
              refine mr_icmp_ne (tgt := 109) dX7_equate_95 (by decide) h_i ⟨by omega, by omega⟩ (fun hc_95 => ?_) (fun hc_95 => ?_)
              · refine mr_aload_n dX7_equate_109 rfl ?_
                refine mr_callV (as := []) dX7_equate_110 (ok_X7_equations l G) ml_X7_250 cl_X7_equations cv_X7_equations (by decide) rfl rfl (Nat.le_of_ble_eq_true rfl) (by first | assumption | exact mr_up_same _ _ _ | (refine mr_lk ?_ (by first | assumption | decide); first | assumption | exact mr_up_same _ _ _ | (refine mr_lk ?_ (by first | assumption | decide); first | assumption | exact mr_up_same _ _ _ | (refine mr_lk ?_ (by first | assumption | decide); first | assumption | exact mr_up_same _ _ _ | (refine mr_lk ?_ (by first | assumption | decide); first | assumption | exact mr_up_same _ _ _))))) ?_
                refine ⟨_, _, _, _, _, _, _, _, _, _, _, _, _, _, _, rfl, (by first | assumption | exact mr_up_same _ _ _ | (refine mr_lk ?_ (by first | assumption | decide); first | assumption | exact mr_up_same _ _ _ | (refine mr_lk ?_ (by first | assumption | decide); first | assumption | exact mr_up_same _ _ _ | (refine mr_lk ?_ (by first | assumption | decide); first | assumption | exact mr_up_same _ _ _ | (refine mr_lk ?_ (by first | assumption | decide); first | assumption | exact mr_up_same _ _ _))))), (by first | assumption | exact mr_up_same _ _ _ | (refine mr_lk ?_ (by first | assumption | decide); first | assumption | exact mr_up_same _ _ _ | (refine mr_lk ?_ (by first | assumption | decide); first | assumption | exact mr_up_same _ _ _ | (refine mr_lk ?_ (by first | assumption | decide); first | assumption | exact mr_up_same _ _ _ | (refine mr_lk ?_ (by first | assumption | decide); first | assumption | exact mr_up_same _ _ _))))), ?_⟩
                dsimp only [Option.toList_some, Option.toList_none, List.cons_append, List.nil_append]
                refine mr_iret rfl dX7_equate_113 ?_
                have h9 := hQ ⟨⟨by omega, by omega, by omega, by omega⟩, kr, by omega⟩ hc_95 w4 Sn2 sm2 hsn2 hM4 (hF1.tr (hF2.tr (hF3.tr hF4)))
                rw [show mr_fs (mr_fs N (15 + i).toNat ((x * N 0 + y) * N 0 + z)) (18 + i).toNat v 14 = N 14 by rw [mr_fs_ne _ _ (by omega), mr_fs_ne _ _ (by omega)]]
                exact h9
              · refine mr_aload_n dX7_equate_98 rfl ?_
                refine mr_get dX7_equate_99 fl_X7_86 (by first | assumption | exact mr_up_same _ _ _ | (refine mr_lk ?_ (by first | assumption | decide); first | assumption | exact mr_up_same _ _ _ | (refine mr_lk ?_ (by first | assumption | decide); first | assumption | exact mr_up_same _ _ _ | (refine mr_lk ?_ (by first | assumption | decide); first | assumption | exact mr_up_same _ _ _ | (refine mr_lk ?_ (by first | assumption | decide); first | assumption | exact mr_up_same _ _ _))))) rfl ?_
                refine mr_bipush dX7_equate_102 rfl ?_
                refine mr_dup2 dX7_equate_104 rfl rfl ?_
                refine mr_ialdK 14 dX7_equate_105 (by first | assumption | exact mr_up_same _ _ _ | (refine mr_lk ?_ (by first | assumption | decide); first | assumption | exact mr_up_same _ _ _ | (refine mr_lk ?_ (by first | assumption | decide); first | assumption | exact mr_up_same _ _ _ | (refine mr_lk ?_ (by first | assumption | decide); first | assumption | exact mr_up_same _ _ _ | (refine mr_lk ?_ (by first | assumption | decide); first | assumption | exact mr_up_same _ _ _))))) (by decide) (by decide) ?_
                refine mr_iconst dX7_equate_106 ?_
                refine mr_iadd dX7_equate_107 ?_
                refine mr_iast dX7_equate_108 (by first | assumption | exact mr_up_same _ _ _ | (refine mr_lk ?_ (by first | assumption | decide); first | assumption | exact mr_up_same _ _ _ | (refine mr_lk ?_ (by first | assumption | decide); first | assumption | exact mr_up_same _ _ _ | (refine mr_lk ?_ (by first | assumption | decide); first | assumption | exact mr_up_same _ _ _ | (refine mr_lk ?_ (by first | assumption | decide); first | assumption | exact mr_up_same _ _ _))))) (by omega) (by omega) (by decide) ?_
                refine mw_a20 hM4 (fun w5 hM5 hF5 => ?_)
                obtain ⟨h18, h19, h20, h21, h22, h23, h24, h25, h26, h27, hs1, hs2, hik⟩ := id hM5
                refine mr_aload_n dX7_equate_109 rfl ?_
                refine mr_callV (as := []) dX7_equate_110 (ok_X7_equations l G) ml_X7_250 cl_X7_equations cv_X7_equations (by decide) rfl rfl (Nat.le_of_ble_eq_true rfl) (by first | assumption | exact mr_up_same _ _ _ | (refine mr_lk ?_ (by first | assumption | decide); first | assumption | exact mr_up_same _ _ _ | (refine mr_lk ?_ (by first | assumption | decide); first | assumption | exact mr_up_same _ _ _ | (refine mr_lk ?_ (by first | assumption | decide); first | assumption | exact mr_up_same _ _ _ | (refine mr_lk ?_ (by first | assumption | decide); first | assumption | exact mr_up_same _ _ _))))) ?_
                refine ⟨_, _, _, _, _, _, _, _, _, _, _, _, _, _, _, rfl, (by first | assumption | exact mr_up_same _ _ _ | (refine mr_lk ?_ (by first | assumption | decide); first | assumption | exact mr_up_same _ _ _ | (refine mr_lk ?_ (by first | assumption | decide); first | assumption | exact mr_up_same _ _ _ | (refine mr_lk ?_ (by first | assumption | decide); first | assumption | exact mr_up_same _ _ _ | (refine mr_lk ?_ (by first | assumption | decide); first | assumption | exact mr_up_same _ _ _))))), (by first | assumption | exact mr_up_same _ _ _ | (refine mr_lk ?_ (by first | assumption | decide); first | assumption | exact mr_up_same _ _ _ | (refine mr_lk ?_ (by first | assumption | decide); first | assumption | exact mr_up_same _ _ _ | (refine mr_lk ?_ (by first | assumption | decide); first | assumption | exact mr_up_same _ _ _ | (refine mr_lk ?_ (by first | assumption | decide); first | assumption | exact mr_up_same _ _ _))))), ?_⟩
                dsimp only [Option.toList_some, Option.toList_none, List.cons_append, List.nil_append]
                refine mr_iret rfl dX7_equate_113 ?_
                have h9 := hP ⟨⟨by omega, by omega, by omega, by omega⟩, kr, by omega⟩ hc_95 w5 Sn2 sm2 hsn2
                rw [show mr_fs (mr_fs N (15 + i).toNat ((x * N 0 + y) * N 0 + z)) (18 + i).toNat v 14 = N 14 by rw [mr_fs_ne _ _ (by omega), mr_fs_ne _ _ (by omega)]] at hM5 ⊢
                exact h9 hM5 (hF1.tr (hF2.tr (hF3.tr (hF4.tr hF5))))
            · intro hno
              exact absurd kr hno
          · intro k2
            dsimp only [Option.toList_some, Option.toList_none, List.cons_append, List.nil_append]
            refine mr_if_ne (tgt := 58) dX7_equate_53 (by decide) (by omega) (fun h => absurd h (by decide)) (fun _ => ?_)
            refine mr_iconst dX7_equate_56 ?_
            refine mr_iret rfl dX7_equate_57 ?_
            exact hR (fun zz => by first | omega | exact kr zz.2.1) w1 hM1 hF1
        · intro kr
          dsimp only [Option.toList_some, Option.toList_none, List.cons_append, List.nil_append]
          refine mr_iconst dX7_equate_37 ?_
          refine mr_icmp_eq (tgt := 56) dX7_equate_38 (by decide) ⟨by omega, by omega⟩ (by decide) (fun _ => ?_) (fun h => absurd h (by decide))
          refine mr_iconst dX7_equate_56 ?_
          refine mr_iret rfl dX7_equate_57 ?_
          exact hR (fun zz => by first | omega | exact kr zz.2.1) w1 hM1 hF1
    · intro k1
      dsimp only [Option.toList_some, Option.toList_none, List.cons_append, List.nil_append]
      refine mr_if_eq (tgt := 56) dX7_equate_21 (by decide) (by omega) (fun _ => ?_) (fun h => absurd h (by decide))
      refine mr_iconst dX7_equate_56 ?_
      refine mr_iret rfl dX7_equate_57 ?_
      exact hR (fun zz => by first | omega | exact kr zz.2.1) w1 hM1 hF1
