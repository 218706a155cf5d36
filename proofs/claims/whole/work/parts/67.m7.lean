def mr_drp (N : Nat → Int) (i : Int) (N' : Nat → Int) : Prop := (∀ j : Nat, j < 14 → N' j = N j) ∧ N' 14 = N 14 - 1 ∧ (∀ q : Nat, q < 3 → N' (15 + q) = if (q : Int) < i then N (15 + q) else if q + 1 < 3 then N (15 + q + 1) else 0) ∧ ∀ q : Nat, q < 3 → N' (18 + q) = if (q : Int) < i then N (18 + q) else if q + 1 < 3 then N (18 + q + 1) else 0
def mr_dri (N : Nat → Int) (i c : Int) (B : Nat → Int) : Prop := (∀ j : Nat, j < 15 → B j = N j) ∧ (∀ q : Nat, q < 3 → B (15 + q) = if i ≤ (q : Int) ∧ (q : Int) < c then (if q + 1 < 3 then N (15 + q + 1) else 0) else N (15 + q)) ∧ ∀ q : Nat, q < 3 → B (18 + q) = if i ≤ (q : Int) ∧ (q : Int) < c then (if q + 1 < 3 then N (18 + q + 1) else 0) else N (18 + q)
theorem mr_dri_0 (N : Nat → Int) (i : Int) : mr_dri N i i N := ⟨fun _ _ => rfl, fun q _ => (if_neg (by omega)).symm, fun q _ => (if_neg (by omega)).symm⟩
theorem mr_dri_s {N : Nat → Int} {i c : Int} {B : Nat → Int} (h : mr_dri N i c B) (hi : 0 ≤ i ∧ i ≤ c) (hc : c < 3) : mr_dri N i (c + 1) (mr_fs (mr_fs B (15 + c).toNat (if c + 1 < 3 then N (15 + c + 1).toNat else 0)) (18 + c).toNat (if c + 1 < 3 then N (18 + c + 1).toNat else 0)) := by
  obtain ⟨h1, h2, h3⟩ := h
  refine ⟨fun j hj => by rw [mr_fs_ne _ _ (by omega), mr_fs_ne _ _ (by omega)]; exact h1 j hj, fun q hq => ?_, fun q hq => ?_⟩
  · rw [mr_fs_ne _ _ (by omega)]
    by_cases e : (q : Int) = c
    · have hA : i ≤ (q : Int) ∧ (q : Int) < c + 1 := ⟨by omega, by omega⟩
      rw [show (15 + c).toNat = 15 + q by omega, mr_fs_same, if_pos hA, show (15 + c + 1).toNat = 15 + q + 1 by omega]
      by_cases e2 : q + 1 < 3
      · have e5 : c + 1 < 3 := by omega
        rw [if_pos e2, if_pos e5]
      · have e5 : ¬ c + 1 < 3 := by omega
        rw [if_neg e2, if_neg e5]
    · rw [mr_fs_ne _ _ (by omega), h2 q hq]
      by_cases e3 : i ≤ (q : Int) ∧ (q : Int) < c
      · have e5 : i ≤ (q : Int) ∧ (q : Int) < c + 1 := ⟨by omega, by omega⟩
        rw [if_pos e3, if_pos e5]
      · have e5 : ¬ (i ≤ (q : Int) ∧ (q : Int) < c + 1) := by omega
        rw [if_neg e3, if_neg e5]
  · by_cases e : (q : Int) = c
    · have hA : i ≤ (q : Int) ∧ (q : Int) < c + 1 := ⟨by omega, by omega⟩
      rw [show (18 + c).toNat = 18 + q by omega, mr_fs_same, if_pos hA, show (18 + c + 1).toNat = 18 + q + 1 by omega]
      by_cases e2 : q + 1 < 3
      · have e5 : c + 1 < 3 := by omega
        rw [if_pos e2, if_pos e5]
      · have e5 : ¬ c + 1 < 3 := by omega
        rw [if_neg e2, if_neg e5]
    · rw [mr_fs_ne _ _ (by omega), mr_fs_ne _ _ (by omega), h3 q hq]
      by_cases e3 : i ≤ (q : Int) ∧ (q : Int) < c
      · have e5 : i ≤ (q : Int) ∧ (q : Int) < c + 1 := ⟨by omega, by omega⟩
        rw [if_pos e3, if_pos e5]
      · have e5 : ¬ (i ≤ (q : Int) ∧ (q : Int) < c + 1) := by omega
        rw [if_neg e3, if_neg e5]
theorem mr_dri_e {N : Nat → Int} {i : Int} {B : Nat → Int} (hi : 0 ≤ i) (h : mr_dri N i 3 B) : mr_drp N i (mr_fs B 14 (N 14 - 1)) := by
  obtain ⟨h1, h2, h3⟩ := h
  refine ⟨fun j hj => by rw [mr_fs_ne _ _ (by omega)]; exact h1 j (by omega), mr_fs_same _ _ _, fun q hq => ?_, fun q hq => ?_⟩
  · rw [mr_fs_ne _ _ (by omega), h2 q hq]
    by_cases e : (q : Int) < i
    · have e5 : ¬ (i ≤ (q : Int) ∧ (q : Int) < 3) := by omega
      rw [if_neg e5, if_pos e]
    · have e5 : i ≤ (q : Int) ∧ (q : Int) < 3 := ⟨by omega, by omega⟩
      rw [if_pos e5, if_neg e]
  · rw [mr_fs_ne _ _ (by omega), h3 q hq]
    by_cases e : (q : Int) < i
    · have e5 : ¬ (i ≤ (q : Int) ∧ (q : Int) < 3) := by omega
      rw [if_neg e5, if_pos e]
    · have e5 : i ≤ (q : Int) ∧ (q : Int) < 3 := ⟨by omega, by omega⟩
      rw [if_pos e5, if_neg e]
set_option maxHeartbeats 4000000 in
set_option maxRecDepth 20000 in
theorem lp_X7_drop (l : Launch) (G : mr_G) {Po : Option mr_AV → mr_Wd → Prop} {w0 : mr_Wd} {th tp sz zo fr kd nb ft pl wd sm md li sd : Int} {T N R K Sn ik s1 s2 ls : Nat → Int} {i : Int} (hi : 0 ≤ i) (hP : ∀ (w' : mr_Wd) (N' : Nat → Int), mr_drp N i N' → mr_MW w' th tp sz zo fr kd nb ft pl wd sm md li sd T (N') R K Sn ik s1 s2 ls → mr_FM w0 w' → Po (some (vI (N 14 - 1))) w') : ∀ (n : Nat) (c : Int) (B : Nat → Int) (w : mr_Wd), i ≤ c → c + n = 3 → mr_dri N i c B → mr_MW w th tp sz zo fr kd nb ft pl wd sm md li sd T (B) R K Sn ik s1 s2 ls → mr_FM w0 w → mr_J l G RX7 cX7_drop 3 (some .int) 2 45 Po 27 [some (vR 18 0), some (vI i), some (vI c)] [] w := by
  intro n
  induction n with
  | zero =>
    intro c B w h0 hn hD hM hFr
    have e : c = 3 := by omega
    subst e
    have e14 := hD.1 14 (by decide)
    obtain ⟨h18, h19, h20, h21, h22, h23, h24, h25, h26, h27, hs1, hs2, hik⟩ := id hM
    refine mr_iload_n dX7_drop_27 rfl ?_
    refine mr_iconst dX7_drop_28 ?_
    refine mr_icmp_ge (tgt := 100) dX7_drop_29 (by decide) (by decide) (by decide) (fun hc_29 => ?_) (fun hc_29 => absurd hc_29 (by decide))
    refine mr_aload_n dX7_drop_100 rfl ?_
    refine mr_get dX7_drop_101 fl_X7_86 (by first | assumption | exact mr_up_same _ _ _ | (refine mr_lk ?_ (by first | assumption | decide); first | assumption | exact mr_up_same _ _ _ | (refine mr_lk ?_ (by first | assumption | decide); first | assumption | exact mr_up_same _ _ _ | (refine mr_lk ?_ (by first | assumption | decide); first | assumption | exact mr_up_same _ _ _ | (refine mr_lk ?_ (by first | assumption | decide); first | assumption | exact mr_up_same _ _ _))))) rfl ?_
    refine mr_bipush dX7_drop_104 rfl ?_
    refine mr_dup2 dX7_drop_106 rfl rfl ?_
    refine mr_ialdK 14 dX7_drop_107 (by first | assumption | exact mr_up_same _ _ _ | (refine mr_lk ?_ (by first | assumption | decide); first | assumption | exact mr_up_same _ _ _ | (refine mr_lk ?_ (by first | assumption | decide); first | assumption | exact mr_up_same _ _ _ | (refine mr_lk ?_ (by first | assumption | decide); first | assumption | exact mr_up_same _ _ _ | (refine mr_lk ?_ (by first | assumption | decide); first | assumption | exact mr_up_same _ _ _))))) (by decide) (by decide) ?_
    rw [e14]
    refine mr_iconst dX7_drop_108 ?_
    refine mr_isub dX7_drop_109 ?_
    refine mr_iast dX7_drop_110 (by first | assumption | exact mr_up_same _ _ _ | (refine mr_lk ?_ (by first | assumption | decide); first | assumption | exact mr_up_same _ _ _ | (refine mr_lk ?_ (by first | assumption | decide); first | assumption | exact mr_up_same _ _ _ | (refine mr_lk ?_ (by first | assumption | decide); first | assumption | exact mr_up_same _ _ _ | (refine mr_lk ?_ (by first | assumption | decide); first | assumption | exact mr_up_same _ _ _))))) (by decide) (by decide) (by decide) ?_
    refine mw_a20 hM (fun w1 hM1 hF1 => ?_)
    obtain ⟨h18, h19, h20, h21, h22, h23, h24, h25, h26, h27, hs1, hs2, hik⟩ := id hM1
    refine mr_aload_n dX7_drop_111 rfl ?_
    refine mr_callV (as := []) dX7_drop_112 (ok_X7_equations l G) ml_X7_250 cl_X7_equations cv_X7_equations (by decide) rfl rfl (Nat.le_of_ble_eq_true rfl) (by first | assumption | exact mr_up_same _ _ _ | (refine mr_lk ?_ (by first | assumption | decide); first | assumption | exact mr_up_same _ _ _ | (refine mr_lk ?_ (by first | assumption | decide); first | assumption | exact mr_up_same _ _ _ | (refine mr_lk ?_ (by first | assumption | decide); first | assumption | exact mr_up_same _ _ _ | (refine mr_lk ?_ (by first | assumption | decide); first | assumption | exact mr_up_same _ _ _))))) ?_
    refine ⟨_, _, _, _, _, _, _, _, _, _, _, _, _, _, _, rfl, (by first | assumption | exact mr_up_same _ _ _ | (refine mr_lk ?_ (by first | assumption | decide); first | assumption | exact mr_up_same _ _ _ | (refine mr_lk ?_ (by first | assumption | decide); first | assumption | exact mr_up_same _ _ _ | (refine mr_lk ?_ (by first | assumption | decide); first | assumption | exact mr_up_same _ _ _ | (refine mr_lk ?_ (by first | assumption | decide); first | assumption | exact mr_up_same _ _ _))))), (by first | assumption | exact mr_up_same _ _ _ | (refine mr_lk ?_ (by first | assumption | decide); first | assumption | exact mr_up_same _ _ _ | (refine mr_lk ?_ (by first | assumption | decide); first | assumption | exact mr_up_same _ _ _ | (refine mr_lk ?_ (by first | assumption | decide); first | assumption | exact mr_up_same _ _ _ | (refine mr_lk ?_ (by first | assumption | decide); first | assumption | exact mr_up_same _ _ _))))), ?_⟩
    dsimp only [Option.toList_some, Option.toList_none, List.cons_append, List.nil_append]
    refine mr_iret rfl dX7_drop_115 ?_
    exact hP w1 _ (mr_dri_e hi hD) hM1 (hFr.tr hF1)
  | succ n ih =>
    intro c B w h0 hn hD hM hFr
    have hs := mr_dri_s hD ⟨hi, h0⟩ (by omega)
    have v1 : c + 1 < 3 → B (15 + c + 1).toNat = N (15 + c + 1).toNat := fun hc => by
      have := hD.2.1 (c + 1).toNat (by omega)
      rw [if_neg (by omega), show 15 + (c + 1).toNat = (15 + c + 1).toNat by omega] at this
      exact this
    have v2 : c + 1 < 3 → B (18 + c + 1).toNat = N (18 + c + 1).toNat := fun hc => by
      have := hD.2.2 (c + 1).toNat (by omega)
      rw [if_neg (by omega), show 18 + (c + 1).toNat = (18 + c + 1).toNat by omega] at this
      exact this
    obtain ⟨h18, h19, h20, h21, h22, h23, h24, h25, h26, h27, hs1, hs2, hik⟩ := id hM
    refine mr_iload_n dX7_drop_27 rfl ?_
    refine mr_iconst dX7_drop_28 ?_
    refine mr_icmp_ge (tgt := 100) dX7_drop_29 (by decide) ⟨by omega, by omega⟩ (by decide) (fun hc_29 => absurd hc_29 (by omega)) (fun hc_29 => ?_)
    refine mr_aload_n dX7_drop_32 rfl ?_
    refine mr_get dX7_drop_33 fl_X7_86 (by first | assumption | exact mr_up_same _ _ _ | (refine mr_lk ?_ (by first | assumption | decide); first | assumption | exact mr_up_same _ _ _ | (refine mr_lk ?_ (by first | assumption | decide); first | assumption | exact mr_up_same _ _ _ | (refine mr_lk ?_ (by first | assumption | decide); first | assumption | exact mr_up_same _ _ _ | (refine mr_lk ?_ (by first | assumption | decide); first | assumption | exact mr_up_same _ _ _))))) rfl ?_
    refine mr_bipush dX7_drop_36 rfl ?_
    refine mr_iload_n dX7_drop_38 rfl ?_
    refine mr_iadd dX7_drop_39 ?_
    refine mr_iload_n dX7_drop_40 rfl ?_
    refine mr_iconst dX7_drop_41 ?_
    refine mr_iadd dX7_drop_42 ?_
    refine mr_iconst dX7_drop_43 ?_
    refine mr_icmp_ge (tgt := 61) dX7_drop_44 (by decide) ⟨by omega, by omega⟩ (by decide) (fun hc_44 => ?_) (fun hc_44 => ?_)
    · refine mr_iconst dX7_drop_61 ?_
      refine mr_iast dX7_drop_62 (by first | assumption | exact mr_up_same _ _ _ | (refine mr_lk ?_ (by first | assumption | decide); first | assumption | exact mr_up_same _ _ _ | (refine mr_lk ?_ (by first | assumption | decide); first | assumption | exact mr_up_same _ _ _ | (refine mr_lk ?_ (by first | assumption | decide); first | assumption | exact mr_up_same _ _ _ | (refine mr_lk ?_ (by first | assumption | decide); first | assumption | exact mr_up_same _ _ _))))) (by omega) (by omega) (by decide) ?_
      refine mw_a20 hM (fun w1 hM1 hF1 => ?_)
      obtain ⟨h18, h19, h20, h21, h22, h23, h24, h25, h26, h27, hs1, hs2, hik⟩ := id hM1
      refine mr_aload_n dX7_drop_63 rfl ?_
      refine mr_get dX7_drop_64 fl_X7_86 (by first | assumption | exact mr_up_same _ _ _ | (refine mr_lk ?_ (by first | assumption | decide); first | assumption | exact mr_up_same _ _ _ | (refine mr_lk ?_ (by first | assumption | decide); first | assumption | exact mr_up_same _ _ _ | (refine mr_lk ?_ (by first | assumption | decide); first | assumption | exact mr_up_same _ _ _ | (refine mr_lk ?_ (by first | assumption | decide); first | assumption | exact mr_up_same _ _ _))))) rfl ?_
      refine mr_bipush dX7_drop_67 rfl ?_
      refine mr_iload_n dX7_drop_69 rfl ?_
      refine mr_iadd dX7_drop_70 ?_
      refine mr_iload_n dX7_drop_71 rfl ?_
      refine mr_iconst dX7_drop_72 ?_
      refine mr_iadd dX7_drop_73 ?_
      refine mr_iconst dX7_drop_74 ?_
      refine mr_icmp_ge (tgt := 92) dX7_drop_75 (by decide) ⟨by omega, by omega⟩ (by decide) (fun hc_75 => ?_) (fun hc_75 => ?_)
      · refine mr_iconst dX7_drop_92 ?_
        refine mr_iast dX7_drop_93 (by first | assumption | exact mr_up_same _ _ _ | (refine mr_lk ?_ (by first | assumption | decide); first | assumption | exact mr_up_same _ _ _ | (refine mr_lk ?_ (by first | assumption | decide); first | assumption | exact mr_up_same _ _ _ | (refine mr_lk ?_ (by first | assumption | decide); first | assumption | exact mr_up_same _ _ _ | (refine mr_lk ?_ (by first | assumption | decide); first | assumption | exact mr_up_same _ _ _))))) (by omega) (by omega) (by decide) ?_
        refine mw_a20 hM1 (fun w2 hM2 hF2 => ?_)
        obtain ⟨h18, h19, h20, h21, h22, h23, h24, h25, h26, h27, hs1, hs2, hik⟩ := id hM2
        refine mr_iinc dX7_drop_94 rfl (by decide) rfl ?_
        refine mr_goto (tgt := 27) dX7_drop_97 (by decide) ?_
        first | (rw [if_pos (by omega), if_pos (by omega)] at hs; exact ih (c + 1) _ w2 (by omega) (by omega) hs hM2 (hFr.tr (hF1.tr hF2))) | (rw [if_neg (by omega), if_neg (by omega)] at hs; exact ih (c + 1) _ w2 (by omega) (by omega) hs hM2 (hFr.tr (hF1.tr hF2))) | (exfalso; omega)
      · refine mr_aload_n dX7_drop_78 rfl ?_
        refine mr_get dX7_drop_79 fl_X7_86 (by first | assumption | exact mr_up_same _ _ _ | (refine mr_lk ?_ (by first | assumption | decide); first | assumption | exact mr_up_same _ _ _ | (refine mr_lk ?_ (by first | assumption | decide); first | assumption | exact mr_up_same _ _ _ | (refine mr_lk ?_ (by first | assumption | decide); first | assumption | exact mr_up_same _ _ _ | (refine mr_lk ?_ (by first | assumption | decide); first | assumption | exact mr_up_same _ _ _))))) rfl ?_
        refine mr_bipush dX7_drop_82 rfl ?_
        refine mr_iload_n dX7_drop_84 rfl ?_
        refine mr_iadd dX7_drop_85 ?_
        refine mr_iconst dX7_drop_86 ?_
        refine mr_iadd dX7_drop_87 ?_
        refine mr_iald dX7_drop_88 (by first | assumption | exact mr_up_same _ _ _ | (refine mr_lk ?_ (by first | assumption | decide); first | assumption | exact mr_up_same _ _ _ | (refine mr_lk ?_ (by first | assumption | decide); first | assumption | exact mr_up_same _ _ _ | (refine mr_lk ?_ (by first | assumption | decide); first | assumption | exact mr_up_same _ _ _ | (refine mr_lk ?_ (by first | assumption | decide); first | assumption | exact mr_up_same _ _ _))))) (by omega) (by omega) (by decide) ?_
        rw [mr_fs_ne _ _ (by omega), v2 hc_75]
        refine mr_goto (tgt := 93) dX7_drop_89 (by decide) ?_
        refine mr_iast dX7_drop_93 (by first | assumption | exact mr_up_same _ _ _ | (refine mr_lk ?_ (by first | assumption | decide); first | assumption | exact mr_up_same _ _ _ | (refine mr_lk ?_ (by first | assumption | decide); first | assumption | exact mr_up_same _ _ _ | (refine mr_lk ?_ (by first | assumption | decide); first | assumption | exact mr_up_same _ _ _ | (refine mr_lk ?_ (by first | assumption | decide); first | assumption | exact mr_up_same _ _ _))))) (by omega) (by omega) (by decide) ?_
        refine mw_a20 hM1 (fun w3 hM3 hF3 => ?_)
        obtain ⟨h18, h19, h20, h21, h22, h23, h24, h25, h26, h27, hs1, hs2, hik⟩ := id hM3
        refine mr_iinc dX7_drop_94 rfl (by decide) rfl ?_
        refine mr_goto (tgt := 27) dX7_drop_97 (by decide) ?_
        first | (rw [if_pos (by omega), if_pos (by omega)] at hs; exact ih (c + 1) _ w3 (by omega) (by omega) hs hM3 (hFr.tr (hF1.tr hF3))) | (rw [if_neg (by omega), if_neg (by omega)] at hs; exact ih (c + 1) _ w3 (by omega) (by omega) hs hM3 (hFr.tr (hF1.tr hF3))) | (exfalso; omega)
    · refine mr_aload_n dX7_drop_47 rfl ?_
      refine mr_get dX7_drop_48 fl_X7_86 (by first | assumption | exact mr_up_same _ _ _ | (refine mr_lk ?_ (by first | assumption | decide); first | assumption | exact mr_up_same _ _ _ | (refine mr_lk ?_ (by first | assumption | decide); first | assumption | exact mr_up_same _ _ _ | (refine mr_lk ?_ (by first | assumption | decide); first | assumption | exact mr_up_same _ _ _ | (refine mr_lk ?_ (by first | assumption | decide); first | assumption | exact mr_up_same _ _ _))))) rfl ?_
      refine mr_bipush dX7_drop_51 rfl ?_
      refine mr_iload_n dX7_drop_53 rfl ?_
      refine mr_iadd dX7_drop_54 ?_
      refine mr_iconst dX7_drop_55 ?_
      refine mr_iadd dX7_drop_56 ?_
      refine mr_iald dX7_drop_57 (by first | assumption | exact mr_up_same _ _ _ | (refine mr_lk ?_ (by first | assumption | decide); first | assumption | exact mr_up_same _ _ _ | (refine mr_lk ?_ (by first | assumption | decide); first | assumption | exact mr_up_same _ _ _ | (refine mr_lk ?_ (by first | assumption | decide); first | assumption | exact mr_up_same _ _ _ | (refine mr_lk ?_ (by first | assumption | decide); first | assumption | exact mr_up_same _ _ _))))) (by omega) (by omega) (by decide) ?_
      rw [v1 hc_44]
      refine mr_goto (tgt := 62) dX7_drop_58 (by decide) ?_
      refine mr_iast dX7_drop_62 (by first | assumption | exact mr_up_same _ _ _ | (refine mr_lk ?_ (by first | assumption | decide); first | assumption | exact mr_up_same _ _ _ | (refine mr_lk ?_ (by first | assumption | decide); first | assumption | exact mr_up_same _ _ _ | (refine mr_lk ?_ (by first | assumption | decide); first | assumption | exact mr_up_same _ _ _ | (refine mr_lk ?_ (by first | assumption | decide); first | assumption | exact mr_up_same _ _ _))))) (by omega) (by omega) (by decide) ?_
      refine mw_a20 hM (fun w4 hM4 hF4 => ?_)
      obtain ⟨h18, h19, h20, h21, h22, h23, h24, h25, h26, h27, hs1, hs2, hik⟩ := id hM4
      refine mr_aload_n dX7_drop_63 rfl ?_
      refine mr_get dX7_drop_64 fl_X7_86 (by first | assumption | exact mr_up_same _ _ _ | (refine mr_lk ?_ (by first | assumption | decide); first | assumption | exact mr_up_same _ _ _ | (refine mr_lk ?_ (by first | assumption | decide); first | assumption | exact mr_up_same _ _ _ | (refine mr_lk ?_ (by first | assumption | decide); first | assumption | exact mr_up_same _ _ _ | (refine mr_lk ?_ (by first | assumption | decide); first | assumption | exact mr_up_same _ _ _))))) rfl ?_
      refine mr_bipush dX7_drop_67 rfl ?_
      refine mr_iload_n dX7_drop_69 rfl ?_
      refine mr_iadd dX7_drop_70 ?_
      refine mr_iload_n dX7_drop_71 rfl ?_
      refine mr_iconst dX7_drop_72 ?_
      refine mr_iadd dX7_drop_73 ?_
      refine mr_iconst dX7_drop_74 ?_
      refine mr_icmp_ge (tgt := 92) dX7_drop_75 (by decide) ⟨by omega, by omega⟩ (by decide) (fun hc_75 => ?_) (fun hc_75 => ?_)
      · refine mr_iconst dX7_drop_92 ?_
        refine mr_iast dX7_drop_93 (by first | assumption | exact mr_up_same _ _ _ | (refine mr_lk ?_ (by first | assumption | decide); first | assumption | exact mr_up_same _ _ _ | (refine mr_lk ?_ (by first | assumption | decide); first | assumption | exact mr_up_same _ _ _ | (refine mr_lk ?_ (by first | assumption | decide); first | assumption | exact mr_up_same _ _ _ | (refine mr_lk ?_ (by first | assumption | decide); first | assumption | exact mr_up_same _ _ _))))) (by omega) (by omega) (by decide) ?_
        refine mw_a20 hM4 (fun w5 hM5 hF5 => ?_)
        obtain ⟨h18, h19, h20, h21, h22, h23, h24, h25, h26, h27, hs1, hs2, hik⟩ := id hM5
        refine mr_iinc dX7_drop_94 rfl (by decide) rfl ?_
        refine mr_goto (tgt := 27) dX7_drop_97 (by decide) ?_
        first | (rw [if_pos (by omega), if_pos (by omega)] at hs; exact ih (c + 1) _ w5 (by omega) (by omega) hs hM5 (hFr.tr (hF4.tr hF5))) | (rw [if_neg (by omega), if_neg (by omega)] at hs; exact ih (c + 1) _ w5 (by omega) (by omega) hs hM5 (hFr.tr (hF4.tr hF5))) | (exfalso; omega)
      · refine mr_aload_n dX7_drop_78 rfl ?_
        refine mr_get dX7_drop_79 fl_X7_86 (by first | assumption | exact mr_up_same _ _ _ | (refine mr_lk ?_ (by first | assumption | decide); first | assumption | exact mr_up_same _ _ _ | (refine mr_lk ?_ (by first | assumption | decide); first | assumption | exact mr_up_same _ _ _ | (refine mr_lk ?_ (by first | assumption | decide); first | assumption | exact mr_up_same _ _ _ | (refine mr_lk ?_ (by first | assumption | decide); first | assumption | exact mr_up_same _ _ _))))) rfl ?_
        refine mr_bipush dX7_drop_82 rfl ?_
        refine mr_iload_n dX7_drop_84 rfl ?_
        refine mr_iadd dX7_drop_85 ?_
        refine mr_iconst dX7_drop_86 ?_
        refine mr_iadd dX7_drop_87 ?_
        refine mr_iald dX7_drop_88 (by first | assumption | exact mr_up_same _ _ _ | (refine mr_lk ?_ (by first | assumption | decide); first | assumption | exact mr_up_same _ _ _ | (refine mr_lk ?_ (by first | assumption | decide); first | assumption | exact mr_up_same _ _ _ | (refine mr_lk ?_ (by first | assumption | decide); first | assumption | exact mr_up_same _ _ _ | (refine mr_lk ?_ (by first | assumption | decide); first | assumption | exact mr_up_same _ _ _))))) (by omega) (by omega) (by decide) ?_
        rw [mr_fs_ne _ _ (by omega), v2 hc_75]
        refine mr_goto (tgt := 93) dX7_drop_89 (by decide) ?_
        refine mr_iast dX7_drop_93 (by first | assumption | exact mr_up_same _ _ _ | (refine mr_lk ?_ (by first | assumption | decide); first | assumption | exact mr_up_same _ _ _ | (refine mr_lk ?_ (by first | assumption | decide); first | assumption | exact mr_up_same _ _ _ | (refine mr_lk ?_ (by first | assumption | decide); first | assumption | exact mr_up_same _ _ _ | (refine mr_lk ?_ (by first | assumption | decide); first | assumption | exact mr_up_same _ _ _))))) (by omega) (by omega) (by decide) ?_
        refine mw_a20 hM4 (fun w6 hM6 hF6 => ?_)
        obtain ⟨h18, h19, h20, h21, h22, h23, h24, h25, h26, h27, hs1, hs2, hik⟩ := id hM6
        refine mr_iinc dX7_drop_94 rfl (by decide) rfl ?_
        refine mr_goto (tgt := 27) dX7_drop_97 (by decide) ?_
        first | (rw [if_pos (by omega), if_pos (by omega)] at hs; exact ih (c + 1) _ w6 (by omega) (by omega) hs hM6 (hFr.tr (hF4.tr hF6))) | (rw [if_neg (by omega), if_neg (by omega)] at hs; exact ih (c + 1) _ w6 (by omega) (by omega) hs hM6 (hFr.tr (hF4.tr hF6))) | (exfalso; omega)
def T_X7_drop (a : List mr_AV) (w : mr_Wd) (Po : Option mr_AV → mr_Wd → Prop) : Prop := ∃ (th tp sz zo fr kd nb ft pl wd sm md li sd : Int) (T N R K Sn ik s1 s2 ls : Nat → Int) (W : Nat) (L : Int → mr_V → Prop) (i : Int), a = [vR 18 0, vI i] ∧ mr_MW w th tp sz zo fr kd nb ft pl wd sm md li sd T N R K Sn ik s1 s2 ls ∧ mr_NG N W L ∧ InR i ∧ (0 ≤ sm ∧ sm ≤ 8) ∧ ((0 ≤ i ∧ i < N 14) → (∀ (w' : mr_Wd) (Sn' N' : Nat → Int) (sm' : Int), mr_snr N Sn sm Sn' sm' → mr_drp N i N' → mr_MW w' (0) tp sz zo fr kd nb ft pl wd (sm') md li sd T (N') R K (Sn') ik s1 s2 ls → mr_FM w w' → Po (some (vI (N 14 - 1))) w')) ∧ (¬ (0 ≤ i ∧ i < N 14) → (∀ w' : mr_Wd, mr_MW w' (0) tp sz zo fr kd nb ft pl wd sm md li sd T N R K Sn ik s1 s2 ls → mr_FM w w' → Po (some (vI (-1))) w'))
set_option maxHeartbeats 4000000 in
set_option maxRecDepth 20000 in
theorem ok_X7_drop (l : Launch) (G : mr_G) : mr_Ok l G yX7_drop cX7_drop 3 (some .int) 2 45 T_X7_drop := by
  refine mr_Ok.of (by decide +kernel) ?_
  rintro a w Po ⟨th, tp, sz, zo, fr, kd, nb, ft, pl, wd, sm, md, li, sd, T, N, R, K, Sn, ik, s1, s2, ls, W, L, i, rfl, hM, ⟨hG0, hG1, hG14, hGW⟩, h_i, hsm, hP, hQ⟩
  refine ⟨Nat.le_of_ble_eq_true rfl, ?_⟩
  show mr_J l G RX7 cX7_drop 3 (some .int) 2 45 Po 0 [some (vR 18 0), some (vI i), none] [] w
  obtain ⟨h18, h19, h20, h21, h22, h23, h24, h25, h26, h27, hs1, hs2, hik⟩ := id hM
  refine mr_aload_n dX7_drop_0 rfl ?_
  refine mr_iconst dX7_drop_1 ?_
  refine mr_put dX7_drop_2 fl_X7_1 pf_X7_0 rfl rfl (by first | assumption | exact mr_up_same _ _ _ | (refine mr_lk ?_ (by first | assumption | decide); first | assumption | exact mr_up_same _ _ _ | (refine mr_lk ?_ (by first | assumption | decide); first | assumption | exact mr_up_same _ _ _ | (refine mr_lk ?_ (by first | assumption | decide); first | assumption | exact mr_up_same _ _ _ | (refine mr_lk ?_ (by first | assumption | decide); first | assumption | exact mr_up_same _ _ _))))) (Nat.le_of_ble_eq_true rfl) ?_
  refine mw_p0 hM (fun w1 hM1 hF1 => ?_)
  obtain ⟨h18, h19, h20, h21, h22, h23, h24, h25, h26, h27, hs1, hs2, hik⟩ := id hM1
  refine mr_iload_n dX7_drop_5 rfl ?_
  refine mr_iconst dX7_drop_6 ?_
  refine mr_aload_n dX7_drop_7 rfl ?_
  refine mr_callV (as := []) dX7_drop_8 (ok_X7_equations l G) ml_X7_250 cl_X7_equations cv_X7_equations (by decide) rfl rfl (Nat.le_of_ble_eq_true rfl) (by first | assumption | exact mr_up_same _ _ _ | (refine mr_lk ?_ (by first | assumption | decide); first | assumption | exact mr_up_same _ _ _ | (refine mr_lk ?_ (by first | assumption | decide); first | assumption | exact mr_up_same _ _ _ | (refine mr_lk ?_ (by first | assumption | decide); first | assumption | exact mr_up_same _ _ _ | (refine mr_lk ?_ (by first | assumption | decide); first | assumption | exact mr_up_same _ _ _))))) ?_
  refine ⟨_, _, _, _, _, _, _, _, _, _, _, _, _, _, _, rfl, (by first | assumption | exact mr_up_same _ _ _ | (refine mr_lk ?_ (by first | assumption | decide); first | assumption | exact mr_up_same _ _ _ | (refine mr_lk ?_ (by first | assumption | decide); first | assumption | exact mr_up_same _ _ _ | (refine mr_lk ?_ (by first | assumption | decide); first | assumption | exact mr_up_same _ _ _ | (refine mr_lk ?_ (by first | assumption | decide); first | assumption | exact mr_up_same _ _ _))))), (by first | assumption | exact mr_up_same _ _ _ | (refine mr_lk ?_ (by first | assumption | decide); first | assumption | exact mr_up_same _ _ _ | (refine mr_lk ?_ (by first | assumption | decide); first | assumption | exact mr_up_same _ _ _ | (refine mr_lk ?_ (by first | assumption | decide); first | assumption | exact mr_up_same _ _ _ | (refine mr_lk ?_ (by first | assumption | decide); first | assumption | exact mr_up_same _ _ _))))), ?_⟩
  dsimp only [Option.toList_some, Option.toList_none, List.cons_append, List.nil_append]
  refine mr_iconst dX7_drop_11 ?_
  refine mr_isub dX7_drop_12 ?_
  refine mr_callS (as := [_, _, _]) dX7_drop_13 (ok_X7_isIn l G) ml_X7_117 cl_X7_isIn cs_X7_isIn (by decide) rfl rfl (Nat.le_of_ble_eq_true rfl) ?_
  refine ⟨_, _, _, rfl, h_i, (by decide), ⟨by omega, by omega⟩, ?_, ?_⟩
  · intro k1
    dsimp only [Option.toList_some, Option.toList_none, List.cons_append, List.nil_append]
    refine mr_if_ne (tgt := 21) dX7_drop_16 (by decide) (by omega) (fun _ => ?_) (fun h => absurd h (by decide))
    refine mr_aload_n dX7_drop_21 rfl ?_
    refine mr_callV (as := []) dX7_drop_22 (ok_X7_snap l G) ml_X7_223 cl_X7_snap cv_X7_snap (by decide) rfl rfl (Nat.le_of_ble_eq_true rfl) (by first | assumption | exact mr_up_same _ _ _ | (refine mr_lk ?_ (by first | assumption | decide); first | assumption | exact mr_up_same _ _ _ | (refine mr_lk ?_ (by first | assumption | decide); first | assumption | exact mr_up_same _ _ _ | (refine mr_lk ?_ (by first | assumption | decide); first | assumption | exact mr_up_same _ _ _ | (refine mr_lk ?_ (by first | assumption | decide); first | assumption | exact mr_up_same _ _ _))))) ?_
    refine ⟨_, _, _, _, _, _, _, _, _, _, _, _, _, _, _, _, _, _, _, _, _, _, _, rfl, hM1, (by omega), (fun w2 Sn2 sm2 hsn2 hM2 hF2 => ?_)⟩
    obtain ⟨h18, h19, h20, h21, h22, h23, h24, h25, h26, h27, hs1, hs2, hik⟩ := id hM2
    dsimp only [Option.toList_some, Option.toList_none, List.cons_append, List.nil_append]
    refine mr_iload_n dX7_drop_25 rfl ?_
    refine mr_istore_n dX7_drop_26 rfl (by decide) ?_
    exact lp_X7_drop l G (N := N) (w0 := w) k1.1 (fun w' N' g1 g2 g3 => hP ⟨by omega, by omega⟩ w' Sn2 N' sm2 hsn2 g1 g2 g3) (3 - i).toNat i N w2 (Int.le_refl i) (by omega) (mr_dri_0 N i) hM2 (hF1.tr hF2)
  · intro k1
    dsimp only [Option.toList_some, Option.toList_none, List.cons_append, List.nil_append]
    refine mr_if_ne (tgt := 21) dX7_drop_16 (by decide) (by omega) (fun h => absurd h (by decide)) (fun _ => ?_)
    refine mr_iconst dX7_drop_19 ?_
    refine mr_iret rfl dX7_drop_20 ?_
    exact hQ (fun zz => k1 (by omega)) w1 hM1 hF1
