noncomputable def mr_sdm (N : Nat → Int) (t : Int) : Nat → Int → Int → (Nat → Int) → (Nat → Int)
  | 0, _, _, B => B
  | n + 1, j, e, B => if mr_nf N t j = 0 then mr_sdm N t n (j + 1) e B else mr_sdm N t n (j + 1) (e + 1) (mr_fs (mr_fs B (15 + e).toNat (mr_nf N t j)) 14 (e + 1))
/-- no equations -/
def mr_eq0 (N : Nat → Int) : Nat → Int := mr_fs (mr_fs (mr_fs (mr_fs (mr_fs (mr_fs (mr_fs N 14 0) 15 0) 18 0) 16 0) 19 0) 17 0) 20 0
set_option maxHeartbeats 4000000 in
set_option maxRecDepth 20000 in
theorem lp_X7_sides (l : Launch) (G : mr_G) {Po : Option mr_AV → mr_Wd → Prop} {w0 : mr_Wd} {th tp sz zo fr kd nb ft pl wd sm md li sd : Int} {T N R K Sn ik s1 s2 ls : Nat → Int} {t : Int} (ht : 0 ≤ t ∧ t ≤ 3) (hb : ∀ j : Int, 0 ≤ j → j < 3 → 0 ≤ mr_nf N t j ∧ mr_nf N t j ≤ 27000) : ∀ (n : Nat) (j e : Int) (B : Nat → Int) (w : mr_Wd), 0 ≤ j → j + n = 3 → (0 ≤ e ∧ e ≤ j) → B 14 = e → (∀ q : Nat, 2 ≤ q → q < 14 → B q = N q) → mr_MW w th tp sz zo fr kd nb ft pl wd sm md li sd T (B) R K Sn ik s1 s2 ls → mr_FM w0 w → (∀ w' : mr_Wd, mr_MW w' th tp sz zo fr kd nb ft pl wd sm md li sd T (mr_sdm N t n j e B) R K Sn ik s1 s2 ls → mr_FM w0 w' → Po (some (vI (mr_sdm N t n j e B 14))) w') → mr_J l G RX7 cX7_sides 3 (some .int) 2 45 Po 62 [some (vR 18 0), some (vI t), some (vI j)] [] w := by
  intro n
  induction n with
  | zero =>
    intro j e B w h0 hn he h14 hk hM hFr hP
    have e3 : j = 3 := by omega
    subst e3
    obtain ⟨h18, h19, h20, h21, h22, h23, h24, h25, h26, h27, hs1, hs2, hik⟩ := id hM
    refine mr_iload_n dX7_sides_62 rfl ?_
    refine mr_iconst dX7_sides_63 ?_
    refine mr_icmp_ge (tgt := 129) dX7_sides_64 (by decide) (by decide) (by decide) (fun hc_64 => ?_) (fun hc_64 => absurd hc_64 (by decide))
    refine mr_aload_n dX7_sides_129 rfl ?_
    refine mr_callV (as := []) dX7_sides_130 (ok_X7_equations l G) ml_X7_250 cl_X7_equations cv_X7_equations (by decide) rfl rfl (Nat.le_of_ble_eq_true rfl) (by first | assumption | exact mr_up_same _ _ _ | (refine mr_lk ?_ (by first | assumption | decide); first | assumption | exact mr_up_same _ _ _ | (refine mr_lk ?_ (by first | assumption | decide); first | assumption | exact mr_up_same _ _ _ | (refine mr_lk ?_ (by first | assumption | decide); first | assumption | exact mr_up_same _ _ _ | (refine mr_lk ?_ (by first | assumption | decide); first | assumption | exact mr_up_same _ _ _))))) ?_
    refine ⟨_, _, _, _, _, _, _, _, _, _, _, _, _, _, _, rfl, (by first | assumption | exact mr_up_same _ _ _ | (refine mr_lk ?_ (by first | assumption | decide); first | assumption | exact mr_up_same _ _ _ | (refine mr_lk ?_ (by first | assumption | decide); first | assumption | exact mr_up_same _ _ _ | (refine mr_lk ?_ (by first | assumption | decide); first | assumption | exact mr_up_same _ _ _ | (refine mr_lk ?_ (by first | assumption | decide); first | assumption | exact mr_up_same _ _ _))))), (by first | assumption | exact mr_up_same _ _ _ | (refine mr_lk ?_ (by first | assumption | decide); first | assumption | exact mr_up_same _ _ _ | (refine mr_lk ?_ (by first | assumption | decide); first | assumption | exact mr_up_same _ _ _ | (refine mr_lk ?_ (by first | assumption | decide); first | assumption | exact mr_up_same _ _ _ | (refine mr_lk ?_ (by first | assumption | decide); first | assumption | exact mr_up_same _ _ _))))), ?_⟩
    dsimp only [Option.toList_some, Option.toList_none, List.cons_append, List.nil_append]
    refine mr_iret rfl dX7_sides_133 ?_
    exact hP w hM hFr
  | succ n ih =>
    intro j e B w h0 hn he h14 hk hM hFr hP
    have hbj := hb j h0 (by omega)
    have ebj : B (2 + 3 * t + j).toNat = mr_nf N t j := hk _ (by omega) (by omega)
    obtain ⟨h18, h19, h20, h21, h22, h23, h24, h25, h26, h27, hs1, hs2, hik⟩ := id hM
    refine mr_iload_n dX7_sides_62 rfl ?_
    refine mr_iconst dX7_sides_63 ?_
    refine mr_icmp_ge (tgt := 129) dX7_sides_64 (by decide) ⟨by omega, by omega⟩ (by decide) (fun hc_64 => absurd hc_64 (by omega)) (fun hc_64 => ?_)
    refine mr_aload_n dX7_sides_67 rfl ?_
    refine mr_get dX7_sides_68 fl_X7_86 (by first | assumption | exact mr_up_same _ _ _ | (refine mr_lk ?_ (by first | assumption | decide); first | assumption | exact mr_up_same _ _ _ | (refine mr_lk ?_ (by first | assumption | decide); first | assumption | exact mr_up_same _ _ _ | (refine mr_lk ?_ (by first | assumption | decide); first | assumption | exact mr_up_same _ _ _ | (refine mr_lk ?_ (by first | assumption | decide); first | assumption | exact mr_up_same _ _ _))))) rfl ?_
    refine mr_iconst dX7_sides_71 ?_
    refine mr_iconst dX7_sides_72 ?_
    refine mr_iload_n dX7_sides_73 rfl ?_
    refine mr_imul dX7_sides_74 ?_
    refine mr_iadd dX7_sides_75 ?_
    refine mr_iload_n dX7_sides_76 rfl ?_
    refine mr_iadd dX7_sides_77 ?_
    refine mr_iald dX7_sides_78 (by first | assumption | exact mr_up_same _ _ _ | (refine mr_lk ?_ (by first | assumption | decide); first | assumption | exact mr_up_same _ _ _ | (refine mr_lk ?_ (by first | assumption | decide); first | assumption | exact mr_up_same _ _ _ | (refine mr_lk ?_ (by first | assumption | decide); first | assumption | exact mr_up_same _ _ _ | (refine mr_lk ?_ (by first | assumption | decide); first | assumption | exact mr_up_same _ _ _))))) (by omega) (by omega) (by decide) ?_
    rw [ebj]
    refine mr_if_ne (tgt := 85) dX7_sides_79 (by decide) ⟨by omega, by omega⟩ (fun hc_79 => ?_) (fun hc_79 => ?_)
    · refine mr_aload_n dX7_sides_85 rfl ?_
      refine mr_get dX7_sides_86 fl_X7_86 (by first | assumption | exact mr_up_same _ _ _ | (refine mr_lk ?_ (by first | assumption | decide); first | assumption | exact mr_up_same _ _ _ | (refine mr_lk ?_ (by first | assumption | decide); first | assumption | exact mr_up_same _ _ _ | (refine mr_lk ?_ (by first | assumption | decide); first | assumption | exact mr_up_same _ _ _ | (refine mr_lk ?_ (by first | assumption | decide); first | assumption | exact mr_up_same _ _ _))))) rfl ?_
      refine mr_bipush dX7_sides_89 rfl ?_
      refine mr_aload_n dX7_sides_91 rfl ?_
      refine mr_get dX7_sides_92 fl_X7_86 (by first | assumption | exact mr_up_same _ _ _ | (refine mr_lk ?_ (by first | assumption | decide); first | assumption | exact mr_up_same _ _ _ | (refine mr_lk ?_ (by first | assumption | decide); first | assumption | exact mr_up_same _ _ _ | (refine mr_lk ?_ (by first | assumption | decide); first | assumption | exact mr_up_same _ _ _ | (refine mr_lk ?_ (by first | assumption | decide); first | assumption | exact mr_up_same _ _ _))))) rfl ?_
      refine mr_bipush dX7_sides_95 rfl ?_
      refine mr_ialdK 14 dX7_sides_97 (by first | assumption | exact mr_up_same _ _ _ | (refine mr_lk ?_ (by first | assumption | decide); first | assumption | exact mr_up_same _ _ _ | (refine mr_lk ?_ (by first | assumption | decide); first | assumption | exact mr_up_same _ _ _ | (refine mr_lk ?_ (by first | assumption | decide); first | assumption | exact mr_up_same _ _ _ | (refine mr_lk ?_ (by first | assumption | decide); first | assumption | exact mr_up_same _ _ _))))) (by decide) (by decide) ?_
      rw [h14]
      refine mr_iadd dX7_sides_98 ?_
      refine mr_aload_n dX7_sides_99 rfl ?_
      refine mr_get dX7_sides_100 fl_X7_86 (by first | assumption | exact mr_up_same _ _ _ | (refine mr_lk ?_ (by first | assumption | decide); first | assumption | exact mr_up_same _ _ _ | (refine mr_lk ?_ (by first | assumption | decide); first | assumption | exact mr_up_same _ _ _ | (refine mr_lk ?_ (by first | assumption | decide); first | assumption | exact mr_up_same _ _ _ | (refine mr_lk ?_ (by first | assumption | decide); first | assumption | exact mr_up_same _ _ _))))) rfl ?_
      refine mr_iconst dX7_sides_103 ?_
      refine mr_iconst dX7_sides_104 ?_
      refine mr_iload_n dX7_sides_105 rfl ?_
      refine mr_imul dX7_sides_106 ?_
      refine mr_iadd dX7_sides_107 ?_
      refine mr_iload_n dX7_sides_108 rfl ?_
      refine mr_iadd dX7_sides_109 ?_
      refine mr_iald dX7_sides_110 (by first | assumption | exact mr_up_same _ _ _ | (refine mr_lk ?_ (by first | assumption | decide); first | assumption | exact mr_up_same _ _ _ | (refine mr_lk ?_ (by first | assumption | decide); first | assumption | exact mr_up_same _ _ _ | (refine mr_lk ?_ (by first | assumption | decide); first | assumption | exact mr_up_same _ _ _ | (refine mr_lk ?_ (by first | assumption | decide); first | assumption | exact mr_up_same _ _ _))))) (by omega) (by omega) (by decide) ?_
      rw [ebj]
      refine mr_iast dX7_sides_111 (by first | assumption | exact mr_up_same _ _ _ | (refine mr_lk ?_ (by first | assumption | decide); first | assumption | exact mr_up_same _ _ _ | (refine mr_lk ?_ (by first | assumption | decide); first | assumption | exact mr_up_same _ _ _ | (refine mr_lk ?_ (by first | assumption | decide); first | assumption | exact mr_up_same _ _ _ | (refine mr_lk ?_ (by first | assumption | decide); first | assumption | exact mr_up_same _ _ _))))) (by omega) (by omega) (by decide) ?_
      refine mw_a20 hM (fun w1 hM1 hF1 => ?_)
      obtain ⟨h18, h19, h20, h21, h22, h23, h24, h25, h26, h27, hs1, hs2, hik⟩ := id hM1
      refine mr_aload_n dX7_sides_112 rfl ?_
      refine mr_get dX7_sides_113 fl_X7_86 (by first | assumption | exact mr_up_same _ _ _ | (refine mr_lk ?_ (by first | assumption | decide); first | assumption | exact mr_up_same _ _ _ | (refine mr_lk ?_ (by first | assumption | decide); first | assumption | exact mr_up_same _ _ _ | (refine mr_lk ?_ (by first | assumption | decide); first | assumption | exact mr_up_same _ _ _ | (refine mr_lk ?_ (by first | assumption | decide); first | assumption | exact mr_up_same _ _ _))))) rfl ?_
      refine mr_bipush dX7_sides_116 rfl ?_
      refine mr_dup2 dX7_sides_118 rfl rfl ?_
      refine mr_ialdK 14 dX7_sides_119 (by first | assumption | exact mr_up_same _ _ _ | (refine mr_lk ?_ (by first | assumption | decide); first | assumption | exact mr_up_same _ _ _ | (refine mr_lk ?_ (by first | assumption | decide); first | assumption | exact mr_up_same _ _ _ | (refine mr_lk ?_ (by first | assumption | decide); first | assumption | exact mr_up_same _ _ _ | (refine mr_lk ?_ (by first | assumption | decide); first | assumption | exact mr_up_same _ _ _))))) (by decide) (by decide) ?_
      rw [show mr_fs B (15 + e).toNat (mr_nf N t j) 14 = e by rw [mr_fs_ne _ _ (by omega)]; exact h14]
      refine mr_iconst dX7_sides_120 ?_
      refine mr_iadd dX7_sides_121 ?_
      refine mr_iast dX7_sides_122 (by first | assumption | exact mr_up_same _ _ _ | (refine mr_lk ?_ (by first | assumption | decide); first | assumption | exact mr_up_same _ _ _ | (refine mr_lk ?_ (by first | assumption | decide); first | assumption | exact mr_up_same _ _ _ | (refine mr_lk ?_ (by first | assumption | decide); first | assumption | exact mr_up_same _ _ _ | (refine mr_lk ?_ (by first | assumption | decide); first | assumption | exact mr_up_same _ _ _))))) (by decide) (by decide) (by decide) ?_
      refine mw_a20 hM1 (fun w2 hM2 hF2 => ?_)
      obtain ⟨h18, h19, h20, h21, h22, h23, h24, h25, h26, h27, hs1, hs2, hik⟩ := id hM2
      refine mr_iinc dX7_sides_123 rfl (by decide) rfl ?_
      refine mr_goto (tgt := 62) dX7_sides_126 (by decide) ?_
      have eU : mr_sdm N t (n + 1) j e B = mr_sdm N t n (j + 1) (e + 1) (mr_fs (mr_fs B (15 + e).toNat (mr_nf N t j)) 14 (e + 1)) := if_neg hc_79
      rw [eU] at hP
      exact ih (j + 1) (e + 1) _ w2 (by omega) (by omega) (by omega) (mr_fs_same _ _ _) (fun q g1 g2 => by rw [mr_fs_ne _ _ (by omega), mr_fs_ne _ _ (by omega)]; exact hk q g1 g2) hM2 (hFr.tr (hF1.tr hF2)) hP
    · refine mr_goto (tgt := 123) dX7_sides_82 (by decide) ?_
      refine mr_iinc dX7_sides_123 rfl (by decide) rfl ?_
      refine mr_goto (tgt := 62) dX7_sides_126 (by decide) ?_
      have eU : mr_sdm N t (n + 1) j e B = mr_sdm N t n (j + 1) e B := if_pos hc_79
      rw [eU] at hP
      exact ih (j + 1) e B w (by omega) (by omega) (by omega) h14 hk hM hFr hP
def T_X7_sides (a : List mr_AV) (w : mr_Wd) (Po : Option mr_AV → mr_Wd → Prop) : Prop := ∃ (th tp sz zo fr kd nb ft pl wd sm md li sd : Int) (T N R K Sn ik s1 s2 ls : Nat → Int) (W : Nat) (L : Int → mr_V → Prop) (t : Int), a = [vR 18 0, vI t] ∧ mr_MW w th tp sz zo fr kd nb ft pl wd sm md li sd T N R K Sn ik s1 s2 ls ∧ mr_NG N W L ∧ InR t ∧ (0 ≤ sm ∧ sm ≤ 8) ∧ ((0 < N 0 ∧ 0 ≤ t ∧ t ≤ 3) → (∀ (w' : mr_Wd) (Sn' : Nat → Int) (sm' : Int), mr_snr N Sn sm Sn' sm' → mr_MW w' (0) tp sz zo fr kd nb ft pl wd (sm') md li sd T (mr_sdm N t 3 0 0 (mr_eq0 N)) R K (Sn') ik s1 s2 ls → mr_FM w w' → Po (some (vI (mr_sdm N t 3 0 0 (mr_eq0 N) 14))) w')) ∧ (¬ (0 < N 0 ∧ 0 ≤ t ∧ t ≤ 3) → (∀ w' : mr_Wd, mr_MW w' (0) tp sz zo fr kd nb ft pl wd sm md li sd T N R K Sn ik s1 s2 ls → mr_FM w w' → Po (some (vI (-1))) w'))
set_option maxHeartbeats 4000000 in
set_option maxRecDepth 20000 in
theorem ok_X7_sides (l : Launch) (G : mr_G) : mr_Ok l G yX7_sides cX7_sides 3 (some .int) 2 45 T_X7_sides := by
  refine mr_Ok.of (by decide +kernel) ?_
  rintro a w Po ⟨th, tp, sz, zo, fr, kd, nb, ft, pl, wd, sm, md, li, sd, T, N, R, K, Sn, ik, s1, s2, ls, W, L, t, rfl, hM, ⟨hG0, hG1, hG14, hGW⟩, h_t, hsm, hP, hQ⟩
  refine ⟨Nat.le_of_ble_eq_true rfl, ?_⟩
  show mr_J l G RX7 cX7_sides 3 (some .int) 2 45 Po 0 [some (vR 18 0), some (vI t), none] [] w
  obtain ⟨h18, h19, h20, h21, h22, h23, h24, h25, h26, h27, hs1, hs2, hik⟩ := id hM
  refine mr_aload_n dX7_sides_0 rfl ?_
  refine mr_iconst dX7_sides_1 ?_
  refine mr_put dX7_sides_2 fl_X7_1 pf_X7_0 rfl rfl (by first | assumption | exact mr_up_same _ _ _ | (refine mr_lk ?_ (by first | assumption | decide); first | assumption | exact mr_up_same _ _ _ | (refine mr_lk ?_ (by first | assumption | decide); first | assumption | exact mr_up_same _ _ _ | (refine mr_lk ?_ (by first | assumption | decide); first | assumption | exact mr_up_same _ _ _ | (refine mr_lk ?_ (by first | assumption | decide); first | assumption | exact mr_up_same _ _ _))))) (Nat.le_of_ble_eq_true rfl) ?_
  refine mw_p0 hM (fun w1 hM1 hF1 => ?_)
  obtain ⟨h18, h19, h20, h21, h22, h23, h24, h25, h26, h27, hs1, hs2, hik⟩ := id hM1
  refine mr_aload_n dX7_sides_5 rfl ?_
  refine mr_iload_n dX7_sides_6 rfl ?_
  refine mr_callV (as := [_]) dX7_sides_7 (ok_X7_isModuleAt l G) ml_X7_199 cl_X7_isModuleAt cv_X7_isModuleAt (by decide) rfl rfl (Nat.le_of_ble_eq_true rfl) (by first | assumption | exact mr_up_same _ _ _ | (refine mr_lk ?_ (by first | assumption | decide); first | assumption | exact mr_up_same _ _ _ | (refine mr_lk ?_ (by first | assumption | decide); first | assumption | exact mr_up_same _ _ _ | (refine mr_lk ?_ (by first | assumption | decide); first | assumption | exact mr_up_same _ _ _ | (refine mr_lk ?_ (by first | assumption | decide); first | assumption | exact mr_up_same _ _ _))))) ?_
  refine ⟨_, _, _, _, _, _, _, _, _, _, _, _, _, _, _, _, rfl, (by first | assumption | exact mr_up_same _ _ _ | (refine mr_lk ?_ (by first | assumption | decide); first | assumption | exact mr_up_same _ _ _ | (refine mr_lk ?_ (by first | assumption | decide); first | assumption | exact mr_up_same _ _ _ | (refine mr_lk ?_ (by first | assumption | decide); first | assumption | exact mr_up_same _ _ _ | (refine mr_lk ?_ (by first | assumption | decide); first | assumption | exact mr_up_same _ _ _))))), (by first | assumption | exact mr_up_same _ _ _ | (refine mr_lk ?_ (by first | assumption | decide); first | assumption | exact mr_up_same _ _ _ | (refine mr_lk ?_ (by first | assumption | decide); first | assumption | exact mr_up_same _ _ _ | (refine mr_lk ?_ (by first | assumption | decide); first | assumption | exact mr_up_same _ _ _ | (refine mr_lk ?_ (by first | assumption | decide); first | assumption | exact mr_up_same _ _ _))))), h_t, hG0, ?_, ?_⟩
  · intro k1
    dsimp only [Option.toList_some, Option.toList_none, List.cons_append, List.nil_append]
    refine mr_if_ne (tgt := 15) dX7_sides_10 (by decide) (by omega) (fun _ => ?_) (fun h => absurd h (by decide))
    obtain ⟨e0, e1, hM0, hW0, hFN, hEQ⟩ := hGW (by omega)
    have hMM : 1 ≤ N 0 ∧ N 0 ≤ 30 := ⟨by omega, by omega⟩
    have hm3 := mr_m3 hMM
    have hm2 := mr_m2 hMM
    refine mr_aload_n dX7_sides_15 rfl ?_
    refine mr_callV (as := []) dX7_sides_16 (ok_X7_snap l G) ml_X7_223 cl_X7_snap cv_X7_snap (by decide) rfl rfl (Nat.le_of_ble_eq_true rfl) (by first | assumption | exact mr_up_same _ _ _ | (refine mr_lk ?_ (by first | assumption | decide); first | assumption | exact mr_up_same _ _ _ | (refine mr_lk ?_ (by first | assumption | decide); first | assumption | exact mr_up_same _ _ _ | (refine mr_lk ?_ (by first | assumption | decide); first | assumption | exact mr_up_same _ _ _ | (refine mr_lk ?_ (by first | assumption | decide); first | assumption | exact mr_up_same _ _ _))))) ?_
    refine ⟨_, _, _, _, _, _, _, _, _, _, _, _, _, _, _, _, _, _, _, _, _, _, _, rfl, hM1, (by omega), (fun w2 Sn2 sm2 hsn2 hM2 hF2 => ?_)⟩
    obtain ⟨h18, h19, h20, h21, h22, h23, h24, h25, h26, h27, hs1, hs2, hik⟩ := id hM2
    dsimp only [Option.toList_some, Option.toList_none, List.cons_append, List.nil_append]
    refine mr_aload_n dX7_sides_19 rfl ?_
    refine mr_get dX7_sides_20 fl_X7_86 (by first | assumption | exact mr_up_same _ _ _ | (refine mr_lk ?_ (by first | assumption | decide); first | assumption | exact mr_up_same _ _ _ | (refine mr_lk ?_ (by first | assumption | decide); first | assumption | exact mr_up_same _ _ _ | (refine mr_lk ?_ (by first | assumption | decide); first | assumption | exact mr_up_same _ _ _ | (refine mr_lk ?_ (by first | assumption | decide); first | assumption | exact mr_up_same _ _ _))))) rfl ?_
    refine mr_bipush dX7_sides_23 rfl ?_
    refine mr_iconst dX7_sides_25 ?_
    refine mr_iast dX7_sides_26 (by first | assumption | exact mr_up_same _ _ _ | (refine mr_lk ?_ (by first | assumption | decide); first | assumption | exact mr_up_same _ _ _ | (refine mr_lk ?_ (by first | assumption | decide); first | assumption | exact mr_up_same _ _ _ | (refine mr_lk ?_ (by first | assumption | decide); first | assumption | exact mr_up_same _ _ _ | (refine mr_lk ?_ (by first | assumption | decide); first | assumption | exact mr_up_same _ _ _))))) (by omega) (by omega) (by decide) ?_
    refine mw_a20 hM2 (fun w3 hM3 hF3 => ?_)
    obtain ⟨h18, h19, h20, h21, h22, h23, h24, h25, h26, h27, hs1, hs2, hik⟩ := id hM3
    refine mr_iconst dX7_sides_27 ?_
    refine mr_istore_n dX7_sides_28 rfl (by decide) ?_
    refine mr_iload_n dX7_sides_29 rfl ?_
    refine mr_iconst dX7_sides_30 ?_
    refine mr_icmp_ge (tgt := 60) dX7_sides_31 (by decide) (by omega) (by omega) (fun h => absurd h (by decide)) (fun _ => ?_)
    refine mr_aload_n dX7_sides_34 rfl ?_
    refine mr_get dX7_sides_35 fl_X7_86 (by first | assumption | exact mr_up_same _ _ _ | (refine mr_lk ?_ (by first | assumption | decide); first | assumption | exact mr_up_same _ _ _ | (refine mr_lk ?_ (by first | assumption | decide); first | assumption | exact mr_up_same _ _ _ | (refine mr_lk ?_ (by first | assumption | decide); first | assumption | exact mr_up_same _ _ _ | (refine mr_lk ?_ (by first | assumption | decide); first | assumption | exact mr_up_same _ _ _))))) rfl ?_
    refine mr_bipush dX7_sides_38 rfl ?_
    refine mr_iload_n dX7_sides_40 rfl ?_
    refine mr_iadd dX7_sides_41 ?_
    refine mr_iconst dX7_sides_42 ?_
    refine mr_iast dX7_sides_43 (by first | assumption | exact mr_up_same _ _ _ | (refine mr_lk ?_ (by first | assumption | decide); first | assumption | exact mr_up_same _ _ _ | (refine mr_lk ?_ (by first | assumption | decide); first | assumption | exact mr_up_same _ _ _ | (refine mr_lk ?_ (by first | assumption | decide); first | assumption | exact mr_up_same _ _ _ | (refine mr_lk ?_ (by first | assumption | decide); first | assumption | exact mr_up_same _ _ _))))) (by omega) (by omega) (by decide) ?_
    refine mw_a20 hM3 (fun w4 hM4 hF4 => ?_)
    obtain ⟨h18, h19, h20, h21, h22, h23, h24, h25, h26, h27, hs1, hs2, hik⟩ := id hM4
    refine mr_aload_n dX7_sides_44 rfl ?_
    refine mr_get dX7_sides_45 fl_X7_86 (by first | assumption | exact mr_up_same _ _ _ | (refine mr_lk ?_ (by first | assumption | decide); first | assumption | exact mr_up_same _ _ _ | (refine mr_lk ?_ (by first | assumption | decide); first | assumption | exact mr_up_same _ _ _ | (refine mr_lk ?_ (by first | assumption | decide); first | assumption | exact mr_up_same _ _ _ | (refine mr_lk ?_ (by first | assumption | decide); first | assumption | exact mr_up_same _ _ _))))) rfl ?_
    refine mr_bipush dX7_sides_48 rfl ?_
    refine mr_iload_n dX7_sides_50 rfl ?_
    refine mr_iadd dX7_sides_51 ?_
    refine mr_iconst dX7_sides_52 ?_
    refine mr_iast dX7_sides_53 (by first | assumption | exact mr_up_same _ _ _ | (refine mr_lk ?_ (by first | assumption | decide); first | assumption | exact mr_up_same _ _ _ | (refine mr_lk ?_ (by first | assumption | decide); first | assumption | exact mr_up_same _ _ _ | (refine mr_lk ?_ (by first | assumption | decide); first | assumption | exact mr_up_same _ _ _ | (refine mr_lk ?_ (by first | assumption | decide); first | assumption | exact mr_up_same _ _ _))))) (by omega) (by omega) (by decide) ?_
    refine mw_a20 hM4 (fun w5 hM5 hF5 => ?_)
    obtain ⟨h18, h19, h20, h21, h22, h23, h24, h25, h26, h27, hs1, hs2, hik⟩ := id hM5
    refine mr_iinc dX7_sides_54 rfl (by decide) rfl ?_
    refine mr_goto (tgt := 29) dX7_sides_57 (by decide) ?_
    refine mr_iload_n dX7_sides_29 rfl ?_
    refine mr_iconst dX7_sides_30 ?_
    refine mr_icmp_ge (tgt := 60) dX7_sides_31 (by decide) (by omega) (by omega) (fun h => absurd h (by decide)) (fun _ => ?_)
    refine mr_aload_n dX7_sides_34 rfl ?_
    refine mr_get dX7_sides_35 fl_X7_86 (by first | assumption | exact mr_up_same _ _ _ | (refine mr_lk ?_ (by first | assumption | decide); first | assumption | exact mr_up_same _ _ _ | (refine mr_lk ?_ (by first | assumption | decide); first | assumption | exact mr_up_same _ _ _ | (refine mr_lk ?_ (by first | assumption | decide); first | assumption | exact mr_up_same _ _ _ | (refine mr_lk ?_ (by first | assumption | decide); first | assumption | exact mr_up_same _ _ _))))) rfl ?_
    refine mr_bipush dX7_sides_38 rfl ?_
    refine mr_iload_n dX7_sides_40 rfl ?_
    refine mr_iadd dX7_sides_41 ?_
    refine mr_iconst dX7_sides_42 ?_
    refine mr_iast dX7_sides_43 (by first | assumption | exact mr_up_same _ _ _ | (refine mr_lk ?_ (by first | assumption | decide); first | assumption | exact mr_up_same _ _ _ | (refine mr_lk ?_ (by first | assumption | decide); first | assumption | exact mr_up_same _ _ _ | (refine mr_lk ?_ (by first | assumption | decide); first | assumption | exact mr_up_same _ _ _ | (refine mr_lk ?_ (by first | assumption | decide); first | assumption | exact mr_up_same _ _ _))))) (by omega) (by omega) (by decide) ?_
    refine mw_a20 hM5 (fun w6 hM6 hF6 => ?_)
    obtain ⟨h18, h19, h20, h21, h22, h23, h24, h25, h26, h27, hs1, hs2, hik⟩ := id hM6
    refine mr_aload_n dX7_sides_44 rfl ?_
    refine mr_get dX7_sides_45 fl_X7_86 (by first | assumption | exact mr_up_same _ _ _ | (refine mr_lk ?_ (by first | assumption | decide); first | assumption | exact mr_up_same _ _ _ | (refine mr_lk ?_ (by first | assumption | decide); first | assumption | exact mr_up_same _ _ _ | (refine mr_lk ?_ (by first | assumption | decide); first | assumption | exact mr_up_same _ _ _ | (refine mr_lk ?_ (by first | assumption | decide); first | assumption | exact mr_up_same _ _ _))))) rfl ?_
    refine mr_bipush dX7_sides_48 rfl ?_
    refine mr_iload_n dX7_sides_50 rfl ?_
    refine mr_iadd dX7_sides_51 ?_
    refine mr_iconst dX7_sides_52 ?_
    refine mr_iast dX7_sides_53 (by first | assumption | exact mr_up_same _ _ _ | (refine mr_lk ?_ (by first | assumption | decide); first | assumption | exact mr_up_same _ _ _ | (refine mr_lk ?_ (by first | assumption | decide); first | assumption | exact mr_up_same _ _ _ | (refine mr_lk ?_ (by first | assumption | decide); first | assumption | exact mr_up_same _ _ _ | (refine mr_lk ?_ (by first | assumption | decide); first | assumption | exact mr_up_same _ _ _))))) (by omega) (by omega) (by decide) ?_
    refine mw_a20 hM6 (fun w7 hM7 hF7 => ?_)
    obtain ⟨h18, h19, h20, h21, h22, h23, h24, h25, h26, h27, hs1, hs2, hik⟩ := id hM7
    refine mr_iinc dX7_sides_54 rfl (by decide) rfl ?_
    refine mr_goto (tgt := 29) dX7_sides_57 (by decide) ?_
    refine mr_iload_n dX7_sides_29 rfl ?_
    refine mr_iconst dX7_sides_30 ?_
    refine mr_icmp_ge (tgt := 60) dX7_sides_31 (by decide) (by omega) (by omega) (fun h => absurd h (by decide)) (fun _ => ?_)
    refine mr_aload_n dX7_sides_34 rfl ?_
    refine mr_get dX7_sides_35 fl_X7_86 (by first | assumption | exact mr_up_same _ _ _ | (refine mr_lk ?_ (by first | assumption | decide); first | assumption | exact mr_up_same _ _ _ | (refine mr_lk ?_ (by first | assumption | decide); first | assumption | exact mr_up_same _ _ _ | (refine mr_lk ?_ (by first | assumption | decide); first | assumption | exact mr_up_same _ _ _ | (refine mr_lk ?_ (by first | assumption | decide); first | assumption | exact mr_up_same _ _ _))))) rfl ?_
    refine mr_bipush dX7_sides_38 rfl ?_
    refine mr_iload_n dX7_sides_40 rfl ?_
    refine mr_iadd dX7_sides_41 ?_
    refine mr_iconst dX7_sides_42 ?_
    refine mr_iast dX7_sides_43 (by first | assumption | exact mr_up_same _ _ _ | (refine mr_lk ?_ (by first | assumption | decide); first | assumption | exact mr_up_same _ _ _ | (refine mr_lk ?_ (by first | assumption | decide); first | assumption | exact mr_up_same _ _ _ | (refine mr_lk ?_ (by first | assumption | decide); first | assumption | exact mr_up_same _ _ _ | (refine mr_lk ?_ (by first | assumption | decide); first | assumption | exact mr_up_same _ _ _))))) (by omega) (by omega) (by decide) ?_
    refine mw_a20 hM7 (fun w8 hM8 hF8 => ?_)
    obtain ⟨h18, h19, h20, h21, h22, h23, h24, h25, h26, h27, hs1, hs2, hik⟩ := id hM8
    refine mr_aload_n dX7_sides_44 rfl ?_
    refine mr_get dX7_sides_45 fl_X7_86 (by first | assumption | exact mr_up_same _ _ _ | (refine mr_lk ?_ (by first | assumption | decide); first | assumption | exact mr_up_same _ _ _ | (refine mr_lk ?_ (by first | assumption | decide); first | assumption | exact mr_up_same _ _ _ | (refine mr_lk ?_ (by first | assumption | decide); first | assumption | exact mr_up_same _ _ _ | (refine mr_lk ?_ (by first | assumption | decide); first | assumption | exact mr_up_same _ _ _))))) rfl ?_
    refine mr_bipush dX7_sides_48 rfl ?_
    refine mr_iload_n dX7_sides_50 rfl ?_
    refine mr_iadd dX7_sides_51 ?_
    refine mr_iconst dX7_sides_52 ?_
    refine mr_iast dX7_sides_53 (by first | assumption | exact mr_up_same _ _ _ | (refine mr_lk ?_ (by first | assumption | decide); first | assumption | exact mr_up_same _ _ _ | (refine mr_lk ?_ (by first | assumption | decide); first | assumption | exact mr_up_same _ _ _ | (refine mr_lk ?_ (by first | assumption | decide); first | assumption | exact mr_up_same _ _ _ | (refine mr_lk ?_ (by first | assumption | decide); first | assumption | exact mr_up_same _ _ _))))) (by omega) (by omega) (by decide) ?_
    refine mw_a20 hM8 (fun w9 hM9 hF9 => ?_)
    obtain ⟨h18, h19, h20, h21, h22, h23, h24, h25, h26, h27, hs1, hs2, hik⟩ := id hM9
    refine mr_iinc dX7_sides_54 rfl (by decide) rfl ?_
    refine mr_goto (tgt := 29) dX7_sides_57 (by decide) ?_
    refine mr_iload_n dX7_sides_29 rfl ?_
    refine mr_iconst dX7_sides_30 ?_
    refine mr_icmp_ge (tgt := 60) dX7_sides_31 (by decide) (by omega) (by omega) (fun _ => ?_) (fun h => absurd h (by decide))
    refine mr_iconst dX7_sides_60 ?_
    refine mr_istore_n dX7_sides_61 rfl (by decide) ?_
    refine lp_X7_sides l G (N := N) (w0 := w) ⟨by omega, by omega⟩ (fun j g1 g2 => by have := (hFN t (by omega) (by omega)).2 j g1 g2; omega) 3 0 0 (mr_eq0 N) w9 (by decide) (by decide) (by decide) rfl (fun q g1 g2 => ?_) hM9 (hF1.tr (hF2.tr (hF3.tr (hF4.tr (hF5.tr (hF6.tr (hF7.tr (hF8.tr hF9)))))))) (fun w' hM' hF' => hP k1 w' Sn2 sm2 hsn2 hM' hF')
    unfold mr_eq0
    rw [mr_fs_ne _ _ (by omega), mr_fs_ne _ _ (by omega), mr_fs_ne _ _ (by omega), mr_fs_ne _ _ (by omega), mr_fs_ne _ _ (by omega), mr_fs_ne _ _ (by omega), mr_fs_ne _ _ (by omega)]
  · intro k1
    dsimp only [Option.toList_some, Option.toList_none, List.cons_append, List.nil_append]
    refine mr_if_ne (tgt := 15) dX7_sides_10 (by decide) (by omega) (fun h => absurd h (by decide)) (fun _ => ?_)
    refine mr_iconst dX7_sides_13 ?_
    refine mr_iret rfl dX7_sides_14 ?_
    exact hQ k1 w1 hM1 hF1
def T_X7_comes (a : List mr_AV) (w : mr_Wd) (Po : Option mr_AV → mr_Wd → Prop) : Prop := ∃ (th tp sz zo fr kd nb ft pl wd sm md li sd : Int) (T N R K Sn ik s1 s2 ls : Nat → Int) (q : Nat) (t : Int) (W : Nat) (F : Nat → mr_V) (Lt : mr_V → Prop), a = [vR 18 0, vR q 0, vI t] ∧ mr_MW w th tp sz zo fr kd nb ft pl wd sm md li sd T N R K Sn ik s1 s2 ls ∧ (0 ≤ sm ∧ sm ≤ 8) ∧ (1 ≤ N 0 ∧ N 0 ≤ 30) ∧ (0 ≤ t ∧ t ≤ 3) ∧ mr_Fo (N 0) W F Lt ∧ ((q = 25 ∧ mr_St (N 0) s1 (mr_S (N 0) Lt)) ∨ (q = 26 ∧ mr_St (N 0) s2 (mr_S (N 0) Lt))) ∧ (∀ (w' : mr_Wd) (Sn' st' li' : Nat → Int) (sm' : Int) (n : Nat), mr_snr N Sn sm Sn' sm' → mr_Lp (N 0) st' li' n (mr_S (N 0) Lt) → mr_MW w' th tp sz zo fr kd nb ft pl wd (sm') md ((n : Int)) sd T (mr_kf (N 0) N t F) R K (Sn') ik (st') s2 (li') → mr_FM w w' → Po (some (vI n)) w')
set_option maxHeartbeats 4000000 in
set_option maxRecDepth 20000 in
theorem ok_X7_comes (l : Launch) (G : mr_G) : mr_Ok l G yX7_comes cX7_comes 3 (some .int) 4 94 T_X7_comes := by
  refine mr_Ok.of (by decide +kernel) ?_
  rintro a w Po ⟨th, tp, sz, zo, fr, kd, nb, ft, pl, wd, sm, md, li, sd, T, N, R, K, Sn, ik, s1, s2, ls, q, t, W, F, Lt, rfl, hM, hsm, hMM, ht, hFo, hq, hP⟩
  have ek0 : mr_kf (N 0) N t F 0 = N 0 := (mr_kf_at ht).2 0 (by decide)
  have hFNk : mr_FN (mr_kf (N 0) N t F 0) W (mr_kf (N 0) N t F) t Lt := by
    rw [ek0]
    exact mr_FN_of (by omega) hFo (fun c g1 g2 => by rw [(mr_kf_at ht).1 t c ht.1 ht.2 g1 g2, if_pos rfl])
  rcases hq with ⟨rfl, hst⟩ | ⟨rfl, hst⟩
  · refine ⟨Nat.le_of_ble_eq_true rfl, ?_⟩
    show mr_J l G RX7 cX7_comes 3 (some .int) 4 94 Po 0 [some (vR 18 0), some (vR 25 0), some (vI t)] [] w
    obtain ⟨h18, h19, h20, h21, h22, h23, h24, h25, h26, h27, hs1, hs2, hik⟩ := id hM
    refine mr_aload_n dX7_comes_0 rfl ?_
    refine mr_callV (as := []) dX7_comes_1 (ok_X7_snap l G) ml_X7_223 cl_X7_snap cv_X7_snap (by decide) rfl rfl (Nat.le_of_ble_eq_true rfl) (by first | assumption | exact mr_up_same _ _ _ | (refine mr_lk ?_ (by first | assumption | decide); first | assumption | exact mr_up_same _ _ _ | (refine mr_lk ?_ (by first | assumption | decide); first | assumption | exact mr_up_same _ _ _ | (refine mr_lk ?_ (by first | assumption | decide); first | assumption | exact mr_up_same _ _ _ | (refine mr_lk ?_ (by first | assumption | decide); first | assumption | exact mr_up_same _ _ _))))) ?_
    refine ⟨_, _, _, _, _, _, _, _, _, _, _, _, _, _, _, _, _, _, _, _, _, _, _, rfl, hM, (by omega), (fun w1 Sn1 sm1 hsn1 hM1 hF1 => ?_)⟩
    obtain ⟨h18, h19, h20, h21, h22, h23, h24, h25, h26, h27, hs1, hs2, hik⟩ := id hM1
    dsimp only [Option.toList_some, Option.toList_none, List.cons_append, List.nil_append]
    refine mr_aload_n dX7_comes_4 rfl ?_
    refine mr_get dX7_comes_5 fl_X7_86 (by first | assumption | exact mr_up_same _ _ _ | (refine mr_lk ?_ (by first | assumption | decide); first | assumption | exact mr_up_same _ _ _ | (refine mr_lk ?_ (by first | assumption | decide); first | assumption | exact mr_up_same _ _ _ | (refine mr_lk ?_ (by first | assumption | decide); first | assumption | exact mr_up_same _ _ _ | (refine mr_lk ?_ (by first | assumption | decide); first | assumption | exact mr_up_same _ _ _))))) rfl ?_
    refine mr_aload_n dX7_comes_8 rfl ?_
    refine mr_iload_n dX7_comes_9 rfl ?_
    refine mr_callS (as := [_, _, _]) dX7_comes_10 (ok_X7_keeps l G) ml_X7_136 cl_X7_keeps cs_X7_keeps (by decide) rfl rfl (Nat.le_of_ble_eq_true rfl) ?_
    refine mw_keeps1 hM1 rfl hMM ht hFo hst (fun w2 hM2 hF2 => ?_)
    obtain ⟨h18, h19, h20, h21, h22, h23, h24, h25, h26, h27, hs1, hs2, hik⟩ := id hM2
    dsimp only [Option.toList_some, Option.toList_none, List.cons_append, List.nil_append]
    refine mr_aload_n dX7_comes_13 rfl ?_
    refine mr_iload_n dX7_comes_14 rfl ?_
    refine mr_callV (as := [_]) dX7_comes_15 (ok_X7_sizeOf l G) ml_X7_205 cl_X7_sizeOf cv_X7_sizeOf (by decide) rfl rfl (Nat.le_of_ble_eq_true rfl) (by first | assumption | exact mr_up_same _ _ _ | (refine mr_lk ?_ (by first | assumption | decide); first | assumption | exact mr_up_same _ _ _ | (refine mr_lk ?_ (by first | assumption | decide); first | assumption | exact mr_up_same _ _ _ | (refine mr_lk ?_ (by first | assumption | decide); first | assumption | exact mr_up_same _ _ _ | (refine mr_lk ?_ (by first | assumption | decide); first | assumption | exact mr_up_same _ _ _))))) ?_
    refine ⟨_, _, _, _, _, _, _, _, _, _, _, _, _, _, _, _, _, _, _, _, _, _, _, t, W, Lt, rfl, hM2, (by rw [ek0]; exact hMM), ht, hFNk, (fun w3 st3 li3 n3 hp3 hM3 hF3 => ?_)⟩
    rw [ek0] at hp3
    obtain ⟨h18, h19, h20, h21, h22, h23, h24, h25, h26, h27, hs1, hs2, hik⟩ := id hM3
    dsimp only [Option.toList_some, Option.toList_none, List.cons_append, List.nil_append]
    refine mr_iret rfl dX7_comes_18 ?_
    exact hP w3 Sn1 _ _ sm1 n3 hsn1 hp3 hM3 (hF1.tr (hF2.tr hF3))
  · refine ⟨Nat.le_of_ble_eq_true rfl, ?_⟩
    show mr_J l G RX7 cX7_comes 3 (some .int) 4 94 Po 0 [some (vR 18 0), some (vR 26 0), some (vI t)] [] w
    obtain ⟨h18, h19, h20, h21, h22, h23, h24, h25, h26, h27, hs1, hs2, hik⟩ := id hM
    refine mr_aload_n dX7_comes_0 rfl ?_
    refine mr_callV (as := []) dX7_comes_1 (ok_X7_snap l G) ml_X7_223 cl_X7_snap cv_X7_snap (by decide) rfl rfl (Nat.le_of_ble_eq_true rfl) (by first | assumption | exact mr_up_same _ _ _ | (refine mr_lk ?_ (by first | assumption | decide); first | assumption | exact mr_up_same _ _ _ | (refine mr_lk ?_ (by first | assumption | decide); first | assumption | exact mr_up_same _ _ _ | (refine mr_lk ?_ (by first | assumption | decide); first | assumption | exact mr_up_same _ _ _ | (refine mr_lk ?_ (by first | assumption | decide); first | assumption | exact mr_up_same _ _ _))))) ?_
    refine ⟨_, _, _, _, _, _, _, _, _, _, _, _, _, _, _, _, _, _, _, _, _, _, _, rfl, hM, (by omega), (fun w1 Sn1 sm1 hsn1 hM1 hF1 => ?_)⟩
    obtain ⟨h18, h19, h20, h21, h22, h23, h24, h25, h26, h27, hs1, hs2, hik⟩ := id hM1
    dsimp only [Option.toList_some, Option.toList_none, List.cons_append, List.nil_append]
    refine mr_aload_n dX7_comes_4 rfl ?_
    refine mr_get dX7_comes_5 fl_X7_86 (by first | assumption | exact mr_up_same _ _ _ | (refine mr_lk ?_ (by first | assumption | decide); first | assumption | exact mr_up_same _ _ _ | (refine mr_lk ?_ (by first | assumption | decide); first | assumption | exact mr_up_same _ _ _ | (refine mr_lk ?_ (by first | assumption | decide); first | assumption | exact mr_up_same _ _ _ | (refine mr_lk ?_ (by first | assumption | decide); first | assumption | exact mr_up_same _ _ _))))) rfl ?_
    refine mr_aload_n dX7_comes_8 rfl ?_
    refine mr_iload_n dX7_comes_9 rfl ?_
    refine mr_callS (as := [_, _, _]) dX7_comes_10 (ok_X7_keeps l G) ml_X7_136 cl_X7_keeps cs_X7_keeps (by decide) rfl rfl (Nat.le_of_ble_eq_true rfl) ?_
    refine mw_keeps2 hM1 rfl hMM ht hFo hst (fun w2 hM2 hF2 => ?_)
    obtain ⟨h18, h19, h20, h21, h22, h23, h24, h25, h26, h27, hs1, hs2, hik⟩ := id hM2
    dsimp only [Option.toList_some, Option.toList_none, List.cons_append, List.nil_append]
    refine mr_aload_n dX7_comes_13 rfl ?_
    refine mr_iload_n dX7_comes_14 rfl ?_
    refine mr_callV (as := [_]) dX7_comes_15 (ok_X7_sizeOf l G) ml_X7_205 cl_X7_sizeOf cv_X7_sizeOf (by decide) rfl rfl (Nat.le_of_ble_eq_true rfl) (by first | assumption | exact mr_up_same _ _ _ | (refine mr_lk ?_ (by first | assumption | decide); first | assumption | exact mr_up_same _ _ _ | (refine mr_lk ?_ (by first | assumption | decide); first | assumption | exact mr_up_same _ _ _ | (refine mr_lk ?_ (by first | assumption | decide); first | assumption | exact mr_up_same _ _ _ | (refine mr_lk ?_ (by first | assumption | decide); first | assumption | exact mr_up_same _ _ _))))) ?_
    refine ⟨_, _, _, _, _, _, _, _, _, _, _, _, _, _, _, _, _, _, _, _, _, _, _, t, W, Lt, rfl, hM2, (by rw [ek0]; exact hMM), ht, hFNk, (fun w3 st3 li3 n3 hp3 hM3 hF3 => ?_)⟩
    rw [ek0] at hp3
    obtain ⟨h18, h19, h20, h21, h22, h23, h24, h25, h26, h27, hs1, hs2, hik⟩ := id hM3
    dsimp only [Option.toList_some, Option.toList_none, List.cons_append, List.nil_append]
    refine mr_iret rfl dX7_comes_18 ?_
    exact hP w3 Sn1 _ _ sm1 n3 hsn1 hp3 hM3 (hF1.tr (hF2.tr hF3))
def T_X7_come (a : List mr_AV) (w : mr_Wd) (Po : Option mr_AV → mr_Wd → Prop) : Prop := ∃ (th tp sz zo fr kd nb ft pl wd sm md li sd : Int) (T N R K Sn ik s1 s2 ls : Nat → Int) (W : Nat) (L : Int → mr_V → Prop) (F : Nat → mr_V) (t x y z : Int), a = [vR 18 0, vI t, vI x, vI y, vI z] ∧ mr_MW w th tp sz zo fr kd nb ft pl wd sm md li sd T N R K Sn ik s1 s2 ls ∧ mr_NG N W L ∧ (0 ≤ sm ∧ sm ≤ 8) ∧ InR t ∧ InR x ∧ InR y ∧ InR z ∧ (((0 < N 0 ∧ 0 ≤ t ∧ t ≤ 3) ∧ ((0 ≤ x ∧ x < N 0) ∧ (0 ≤ y ∧ y < N 0) ∧ (0 ≤ z ∧ z < N 0) ∧ (N 1 < 2 → y = 0) ∧ (N 1 < 3 → z = 0))) → mr_Fo (N 0) W F (mr_LA (L t) (mr_dec (N 0) ((x * N 0 + y) * N 0 + z)))) ∧ (((0 < N 0 ∧ 0 ≤ t ∧ t ≤ 3) ∧ ((0 ≤ x ∧ x < N 0) ∧ (0 ≤ y ∧ y < N 0) ∧ (0 ≤ z ∧ z < N 0) ∧ (N 1 < 2 → y = 0) ∧ (N 1 < 3 → z = 0))) → (∀ (w' : mr_Wd) (Sn' st' li' s2' : Nat → Int) (sm' : Int) (n : Nat), mr_snr N Sn sm Sn' sm' → mr_Lp (N 0) st' li' n (mr_S (N 0) (mr_LA (L t) (mr_dec (N 0) ((x * N 0 + y) * N 0 + z)))) → mr_MW w' (0) tp sz zo fr kd nb ft pl wd (sm') md ((n : Int)) sd T (mr_kf (N 0) N t F) R K (Sn') ik (st') (s2') (li') → mr_FM w w' → Po (some (vI n)) w')) ∧ (¬ ((0 < N 0 ∧ 0 ≤ t ∧ t ≤ 3) ∧ ((0 ≤ x ∧ x < N 0) ∧ (0 ≤ y ∧ y < N 0) ∧ (0 ≤ z ∧ z < N 0) ∧ (N 1 < 2 → y = 0) ∧ (N 1 < 3 → z = 0))) → (∀ w' : mr_Wd, mr_MW w' (0) tp sz zo fr kd nb ft pl wd sm md li sd T N R K Sn ik s1 s2 ls → mr_FM w w' → Po (some (vI (-1))) w'))
set_option maxHeartbeats 4000000 in
set_option maxRecDepth 20000 in
theorem ok_X7_come (l : Launch) (G : mr_G) : mr_Ok l G yX7_come cX7_come 5 (some .int) 5 116 T_X7_come := by
  refine mr_Ok.of (by decide +kernel) ?_
  rintro a w Po ⟨th, tp, sz, zo, fr, kd, nb, ft, pl, wd, sm, md, li, sd, T, N, R, K, Sn, ik, s1, s2, ls, W, L, F, t, x, y, z, rfl, hM, ⟨hG0, hG1, hG14, hGW⟩, hsm, h_t, h_x, h_y, h_z, hFo, hP, hQ⟩
  refine ⟨Nat.le_of_ble_eq_true rfl, ?_⟩
  show mr_J l G RX7 cX7_come 5 (some .int) 5 116 Po 0 [some (vR 18 0), some (vI t), some (vI x), some (vI y), some (vI z)] [] w
  obtain ⟨h18, h19, h20, h21, h22, h23, h24, h25, h26, h27, hs1, hs2, hik⟩ := id hM
  refine mr_aload_n dX7_come_0 rfl ?_
  refine mr_iconst dX7_come_1 ?_
  refine mr_put dX7_come_2 fl_X7_1 pf_X7_0 rfl rfl (by first | assumption | exact mr_up_same _ _ _ | (refine mr_lk ?_ (by first | assumption | decide); first | assumption | exact mr_up_same _ _ _ | (refine mr_lk ?_ (by first | assumption | decide); first | assumption | exact mr_up_same _ _ _ | (refine mr_lk ?_ (by first | assumption | decide); first | assumption | exact mr_up_same _ _ _ | (refine mr_lk ?_ (by first | assumption | decide); first | assumption | exact mr_up_same _ _ _))))) (Nat.le_of_ble_eq_true rfl) ?_
  refine mw_p0 hM (fun w1 hM1 hF1 => ?_)
  obtain ⟨h18, h19, h20, h21, h22, h23, h24, h25, h26, h27, hs1, hs2, hik⟩ := id hM1
  refine mr_aload_n dX7_come_5 rfl ?_
  refine mr_iload_n dX7_come_6 rfl ?_
  refine mr_callV (as := [_]) dX7_come_7 (ok_X7_isModuleAt l G) ml_X7_199 cl_X7_isModuleAt cv_X7_isModuleAt (by decide) rfl rfl (Nat.le_of_ble_eq_true rfl) (by first | assumption | exact mr_up_same _ _ _ | (refine mr_lk ?_ (by first | assumption | decide); first | assumption | exact mr_up_same _ _ _ | (refine mr_lk ?_ (by first | assumption | decide); first | assumption | exact mr_up_same _ _ _ | (refine mr_lk ?_ (by first | assumption | decide); first | assumption | exact mr_up_same _ _ _ | (refine mr_lk ?_ (by first | assumption | decide); first | assumption | exact mr_up_same _ _ _))))) ?_
  refine ⟨_, _, _, _, _, _, _, _, _, _, _, _, _, _, _, _, rfl, (by first | assumption | exact mr_up_same _ _ _ | (refine mr_lk ?_ (by first | assumption | decide); first | assumption | exact mr_up_same _ _ _ | (refine mr_lk ?_ (by first | assumption | decide); first | assumption | exact mr_up_same _ _ _ | (refine mr_lk ?_ (by first | assumption | decide); first | assumption | exact mr_up_same _ _ _ | (refine mr_lk ?_ (by first | assumption | decide); first | assumption | exact mr_up_same _ _ _))))), (by first | assumption | exact mr_up_same _ _ _ | (refine mr_lk ?_ (by first | assumption | decide); first | assumption | exact mr_up_same _ _ _ | (refine mr_lk ?_ (by first | assumption | decide); first | assumption | exact mr_up_same _ _ _ | (refine mr_lk ?_ (by first | assumption | decide); first | assumption | exact mr_up_same _ _ _ | (refine mr_lk ?_ (by first | assumption | decide); first | assumption | exact mr_up_same _ _ _))))), h_t, hG0, ?_, ?_⟩
  · intro k1
    dsimp only [Option.toList_some, Option.toList_none, List.cons_append, List.nil_append]
    refine mr_if_eq (tgt := 25) dX7_come_10 (by decide) (by omega) (fun h => absurd h (by decide)) (fun _ => ?_)
    refine mr_aload_n dX7_come_13 rfl ?_
    refine mr_iload_n dX7_come_14 rfl ?_
    refine mr_iload_n dX7_come_15 rfl ?_
    refine mr_iload dX7_come_16 rfl ?_
    refine mr_callV (as := [_, _, _]) dX7_come_18 (ok_X7_rowOf l G) ml_X7_211 cl_X7_rowOf cv_X7_rowOf (by decide) rfl rfl (Nat.le_of_ble_eq_true rfl) (by first | assumption | exact mr_up_same _ _ _ | (refine mr_lk ?_ (by first | assumption | decide); first | assumption | exact mr_up_same _ _ _ | (refine mr_lk ?_ (by first | assumption | decide); first | assumption | exact mr_up_same _ _ _ | (refine mr_lk ?_ (by first | assumption | decide); first | assumption | exact mr_up_same _ _ _ | (refine mr_lk ?_ (by first | assumption | decide); first | assumption | exact mr_up_same _ _ _))))) ?_
    refine ⟨_, _, _, _, _, _, _, _, _, _, _, _, _, _, _, _, _, _, rfl, (by first | assumption | exact mr_up_same _ _ _ | (refine mr_lk ?_ (by first | assumption | decide); first | assumption | exact mr_up_same _ _ _ | (refine mr_lk ?_ (by first | assumption | decide); first | assumption | exact mr_up_same _ _ _ | (refine mr_lk ?_ (by first | assumption | decide); first | assumption | exact mr_up_same _ _ _ | (refine mr_lk ?_ (by first | assumption | decide); first | assumption | exact mr_up_same _ _ _))))), (by first | assumption | exact mr_up_same _ _ _ | (refine mr_lk ?_ (by first | assumption | decide); first | assumption | exact mr_up_same _ _ _ | (refine mr_lk ?_ (by first | assumption | decide); first | assumption | exact mr_up_same _ _ _ | (refine mr_lk ?_ (by first | assumption | decide); first | assumption | exact mr_up_same _ _ _ | (refine mr_lk ?_ (by first | assumption | decide); first | assumption | exact mr_up_same _ _ _))))), h_x, h_y, h_z, hG0, hG1, ?_, ?_⟩
    · intro kr
      have hrw := mr_rw_bd (m := N 0) (by omega) kr.1 kr.2.1 kr.2.2.1
      have hm3 := mr_m3 (m := N 0) ⟨by omega, by omega⟩
      dsimp only [Option.toList_some, Option.toList_none, List.cons_append, List.nil_append]
      refine mr_iconst dX7_come_21 ?_
      refine mr_icmp_ne (tgt := 27) dX7_come_22 (by decide) ⟨by omega, by omega⟩ (by decide) (fun hc_22 => ?_) (fun hc_22 => absurd hc_22 (by omega))
      obtain ⟨e0, e1, hM0, hW0, hFN, hEQ⟩ := hGW (by omega)
      have hMM : 1 ≤ N 0 ∧ N 0 ≤ 30 := ⟨by omega, by omega⟩
      have hm3 := mr_m3 hMM
      have hm2 := mr_m2 hMM
      refine mr_aload_n dX7_come_27 rfl ?_
      refine mr_aload_n dX7_come_28 rfl ?_
      refine mr_get dX7_come_29 fl_X7_86 (by first | assumption | exact mr_up_same _ _ _ | (refine mr_lk ?_ (by first | assumption | decide); first | assumption | exact mr_up_same _ _ _ | (refine mr_lk ?_ (by first | assumption | decide); first | assumption | exact mr_up_same _ _ _ | (refine mr_lk ?_ (by first | assumption | decide); first | assumption | exact mr_up_same _ _ _ | (refine mr_lk ?_ (by first | assumption | decide); first | assumption | exact mr_up_same _ _ _))))) rfl ?_
      refine mr_iload_n dX7_come_32 rfl ?_
      refine mr_aload_n dX7_come_33 rfl ?_
      refine mr_get dX7_come_34 fl_X7_102 (by first | assumption | exact mr_up_same _ _ _ | (refine mr_lk ?_ (by first | assumption | decide); first | assumption | exact mr_up_same _ _ _ | (refine mr_lk ?_ (by first | assumption | decide); first | assumption | exact mr_up_same _ _ _ | (refine mr_lk ?_ (by first | assumption | decide); first | assumption | exact mr_up_same _ _ _ | (refine mr_lk ?_ (by first | assumption | decide); first | assumption | exact mr_up_same _ _ _))))) rfl ?_
      refine mr_callV (as := [_, _, _]) dX7_come_37 (ok_X7_laysSet l G) ml_X7_128 cl_X7_laysSet cv_X7_laysSet (by decide) rfl rfl (Nat.le_of_ble_eq_true rfl) (by first | assumption | exact mr_up_same _ _ _ | (refine mr_lk ?_ (by first | assumption | decide); first | assumption | exact mr_up_same _ _ _ | (refine mr_lk ?_ (by first | assumption | decide); first | assumption | exact mr_up_same _ _ _ | (refine mr_lk ?_ (by first | assumption | decide); first | assumption | exact mr_up_same _ _ _ | (refine mr_lk ?_ (by first | assumption | decide); first | assumption | exact mr_up_same _ _ _))))) ?_
      refine mw_lays1 hM1 rfl hMM ⟨by omega, by omega⟩ (hFN t (by omega) (by omega)) (fun w2 st2 li2 n2 hp2 hM2 hF2 => ?_)
      obtain ⟨h18, h19, h20, h21, h22, h23, h24, h25, h26, h27, hs1, hs2, hik⟩ := id hM2
      dsimp only [Option.toList_some, Option.toList_none, List.cons_append, List.nil_append]
      refine mr_aload_n dX7_come_40 rfl ?_
      refine mr_aload_n dX7_come_41 rfl ?_
      refine mr_get dX7_come_42 fl_X7_86 (by first | assumption | exact mr_up_same _ _ _ | (refine mr_lk ?_ (by first | assumption | decide); first | assumption | exact mr_up_same _ _ _ | (refine mr_lk ?_ (by first | assumption | decide); first | assumption | exact mr_up_same _ _ _ | (refine mr_lk ?_ (by first | assumption | decide); first | assumption | exact mr_up_same _ _ _ | (refine mr_lk ?_ (by first | assumption | decide); first | assumption | exact mr_up_same _ _ _))))) rfl ?_
      refine mr_aload_n dX7_come_45 rfl ?_
      refine mr_get dX7_come_46 fl_X7_102 (by first | assumption | exact mr_up_same _ _ _ | (refine mr_lk ?_ (by first | assumption | decide); first | assumption | exact mr_up_same _ _ _ | (refine mr_lk ?_ (by first | assumption | decide); first | assumption | exact mr_up_same _ _ _ | (refine mr_lk ?_ (by first | assumption | decide); first | assumption | exact mr_up_same _ _ _ | (refine mr_lk ?_ (by first | assumption | decide); first | assumption | exact mr_up_same _ _ _))))) rfl ?_
      refine mr_aload_n dX7_come_49 rfl ?_
      refine mr_iload_n dX7_come_50 rfl ?_
      refine mr_iload_n dX7_come_51 rfl ?_
      refine mr_iload dX7_come_52 rfl ?_
      refine mr_callV (as := [_, _, _]) dX7_come_54 (ok_X7_rowOf l G) ml_X7_211 cl_X7_rowOf cv_X7_rowOf (by decide) rfl rfl (Nat.le_of_ble_eq_true rfl) (by first | assumption | exact mr_up_same _ _ _ | (refine mr_lk ?_ (by first | assumption | decide); first | assumption | exact mr_up_same _ _ _ | (refine mr_lk ?_ (by first | assumption | decide); first | assumption | exact mr_up_same _ _ _ | (refine mr_lk ?_ (by first | assumption | decide); first | assumption | exact mr_up_same _ _ _ | (refine mr_lk ?_ (by first | assumption | decide); first | assumption | exact mr_up_same _ _ _))))) ?_
      refine ⟨_, _, _, _, _, _, _, _, _, _, _, _, _, _, _, _, _, _, rfl, (by first | assumption | exact mr_up_same _ _ _ | (refine mr_lk ?_ (by first | assumption | decide); first | assumption | exact mr_up_same _ _ _ | (refine mr_lk ?_ (by first | assumption | decide); first | assumption | exact mr_up_same _ _ _ | (refine mr_lk ?_ (by first | assumption | decide); first | assumption | exact mr_up_same _ _ _ | (refine mr_lk ?_ (by first | assumption | decide); first | assumption | exact mr_up_same _ _ _))))), (by first | assumption | exact mr_up_same _ _ _ | (refine mr_lk ?_ (by first | assumption | decide); first | assumption | exact mr_up_same _ _ _ | (refine mr_lk ?_ (by first | assumption | decide); first | assumption | exact mr_up_same _ _ _ | (refine mr_lk ?_ (by first | assumption | decide); first | assumption | exact mr_up_same _ _ _ | (refine mr_lk ?_ (by first | assumption | decide); first | assumption | exact mr_up_same _ _ _))))), h_x, h_y, h_z, hG0, hG1, ?_, ?_⟩
      · intro _
        dsimp only [Option.toList_some, Option.toList_none, List.cons_append, List.nil_append]
        refine mr_callV (as := [_, _, _]) dX7_come_57 (ok_X7_adds l G) ml_X7_132 cl_X7_adds cv_X7_adds (by decide) rfl rfl (Nat.le_of_ble_eq_true rfl) (by first | assumption | exact mr_up_same _ _ _ | (refine mr_lk ?_ (by first | assumption | decide); first | assumption | exact mr_up_same _ _ _ | (refine mr_lk ?_ (by first | assumption | decide); first | assumption | exact mr_up_same _ _ _ | (refine mr_lk ?_ (by first | assumption | decide); first | assumption | exact mr_up_same _ _ _ | (refine mr_lk ?_ (by first | assumption | decide); first | assumption | exact mr_up_same _ _ _))))) ?_
        refine mw_adds (li := 0) hM2 rfl hMM hrw (mr_Fo_Li (hFN t (by omega) (by omega)).1) hp2 (fun w3 st3 li3 n3 hp3 hM3 hF3 => ?_)
        obtain ⟨h18, h19, h20, h21, h22, h23, h24, h25, h26, h27, hs1, hs2, hik⟩ := id hM3
        dsimp only [Option.toList_some, Option.toList_none, List.cons_append, List.nil_append]
        refine mr_aload_n dX7_come_60 rfl ?_
        refine mr_aload_n dX7_come_61 rfl ?_
        refine mr_get dX7_come_62 fl_X7_102 (by first | assumption | exact mr_up_same _ _ _ | (refine mr_lk ?_ (by first | assumption | decide); first | assumption | exact mr_up_same _ _ _ | (refine mr_lk ?_ (by first | assumption | decide); first | assumption | exact mr_up_same _ _ _ | (refine mr_lk ?_ (by first | assumption | decide); first | assumption | exact mr_up_same _ _ _ | (refine mr_lk ?_ (by first | assumption | decide); first | assumption | exact mr_up_same _ _ _))))) rfl ?_
        refine mr_iload_n dX7_come_65 rfl ?_
        refine mr_callV (as := [_, _]) dX7_come_66 (ok_X7_comes l G) ml_X7_226 cl_X7_comes cv_X7_comes (by decide) rfl rfl (Nat.le_of_ble_eq_true rfl) (by first | assumption | exact mr_up_same _ _ _ | (refine mr_lk ?_ (by first | assumption | decide); first | assumption | exact mr_up_same _ _ _ | (refine mr_lk ?_ (by first | assumption | decide); first | assumption | exact mr_up_same _ _ _ | (refine mr_lk ?_ (by first | assumption | decide); first | assumption | exact mr_up_same _ _ _ | (refine mr_lk ?_ (by first | assumption | decide); first | assumption | exact mr_up_same _ _ _))))) ?_
        refine ⟨_, _, _, _, _, _, _, _, _, _, _, _, _, _, _, _, _, _, _, _, _, _, _, 25, t, W, F, _, rfl, hM3, hsm, hMM, ⟨by omega, by omega⟩, (hFo ⟨k1, kr⟩), Or.inl ⟨rfl, (mr_Lp_St hp3)⟩, (fun w4 Sn4 st4 li4 sm4 n4 hsn4 hp4 hM4 hF4 => ?_)⟩
        obtain ⟨h18, h19, h20, h21, h22, h23, h24, h25, h26, h27, hs1, hs2, hik⟩ := id hM4
        dsimp only [Option.toList_some, Option.toList_none, List.cons_append, List.nil_append]
        refine mr_iret rfl dX7_come_69 ?_
        first | exact hQ (fun zz => k1 zz.1) w4 hM4 (hF1.tr (hF2.tr (hF3.tr hF4))) | exact hQ (fun zz => kr zz.2) w4 hM4 (hF1.tr (hF2.tr (hF3.tr hF4))) | exact hP ⟨k1, kr⟩ w4 Sn4 st4 li4 _ sm4 n4 hsn4 hp4 hM4 (hF1.tr (hF2.tr (hF3.tr hF4)))
      · intro hno
        exact absurd kr hno
    · intro kr
      dsimp only [Option.toList_some, Option.toList_none, List.cons_append, List.nil_append]
      refine mr_iconst dX7_come_21 ?_
      refine mr_icmp_ne (tgt := 27) dX7_come_22 (by decide) ⟨by omega, by omega⟩ (by decide) (fun h => absurd h (by decide)) (fun _ => ?_)
      refine mr_iconst dX7_come_25 ?_
      refine mr_iret rfl dX7_come_26 ?_
      first | exact hQ (fun zz => k1 zz.1) w1 hM1 hF1 | exact hQ (fun zz => kr zz.2) w1 hM1 hF1 | exact hP ⟨k1, kr⟩ w4 Sn4 st4 li4 _ sm4 n4 hsn4 hp4 hM1 hF1
  · intro k1
    dsimp only [Option.toList_some, Option.toList_none, List.cons_append, List.nil_append]
    refine mr_if_eq (tgt := 25) dX7_come_10 (by decide) (by omega) (fun _ => ?_) (fun h => absurd h (by decide))
    refine mr_iconst dX7_come_25 ?_
    refine mr_iret rfl dX7_come_26 ?_
    first | exact hQ (fun zz => k1 zz.1) w1 hM1 hF1 | exact hQ (fun zz => kr zz.2) w1 hM1 hF1 | exact hP ⟨k1, kr⟩ w4 Sn4 st4 li4 _ sm4 n4 hsn4 hp4 hM1 hF1
def T_X7_isWithin (a : List mr_AV) (w : mr_Wd) (Po : Option mr_AV → mr_Wd → Prop) : Prop := ∃ (th tp sz zo fr kd nb ft pl wd sm md li sd : Int) (T N R K Sn ik s1 s2 ls : Nat → Int) (t : Int), a = [vR 18 0, vI t] ∧ mr_MW w th tp sz zo fr kd nb ft pl wd sm md li sd T N R K Sn ik s1 s2 ls ∧ (0 ≤ t ∧ t ≤ 3) ∧ (∀ j : Int, 0 ≤ j → j < 3 → 0 ≤ mr_nf N t j ∧ mr_nf N t j < 27000) ∧ ((∀ j : Int, 0 ≤ j → j < 3 → s1 (mr_nf N t j).toNat = 1) → Po (some (vI 1)) w) ∧ (¬ (∀ j : Int, 0 ≤ j → j < 3 → s1 (mr_nf N t j).toNat = 1) → Po (some (vI 0)) w)
set_option maxHeartbeats 4000000 in
set_option maxRecDepth 20000 in
theorem ok_X7_isWithin (l : Launch) (G : mr_G) : mr_Ok l G yX7_isWithin cX7_isWithin 3 (some .boolean) 0 0 T_X7_isWithin := by
  refine mr_Ok.of (by decide +kernel) ?_
  rintro a w Po ⟨th, tp, sz, zo, fr, kd, nb, ft, pl, wd, sm, md, li, sd, T, N, R, K, Sn, ik, s1, s2, ls, t, rfl, hM, ht, hb, hP, hQ⟩
  refine ⟨Nat.le_of_ble_eq_true rfl, ?_⟩
  show mr_J l G RX7 cX7_isWithin 3 (some .boolean) 0 0 Po 0 [some (vR 18 0), some (vI t), none] [] w
  obtain ⟨h18, h19, h20, h21, h22, h23, h24, h25, h26, h27, hs1, hs2, hik⟩ := id hM
  have b0 : 0 ≤ N (2 + 3 * t + 0).toNat ∧ N (2 + 3 * t + 0).toNat < 27000 := hb 0 (by decide) (by decide)
  have b1 : 0 ≤ N (2 + 3 * t + (0 + 1)).toNat ∧ N (2 + 3 * t + (0 + 1)).toNat < 27000 := hb 1 (by decide) (by decide)
  have b2 : 0 ≤ N (2 + 3 * t + (0 + 1 + 1)).toNat ∧ N (2 + 3 * t + (0 + 1 + 1)).toNat < 27000 := hb 2 (by decide) (by decide)
  have z0 := hs1 (N (2 + 3 * t + 0).toNat).toNat
  have z1 := hs1 (N (2 + 3 * t + (0 + 1)).toNat).toNat
  have z2 := hs1 (N (2 + 3 * t + (0 + 1 + 1)).toNat).toNat
  refine mr_iconst dX7_isWithin_0 ?_
  refine mr_istore_n dX7_isWithin_1 rfl (by decide) ?_
  refine mr_iload_n dX7_isWithin_2 rfl ?_
  refine mr_iconst dX7_isWithin_3 ?_
  refine mr_icmp_ge (tgt := 35) dX7_isWithin_4 (by decide) (by omega) (by omega) (fun h => absurd h (by decide)) (fun _ => ?_)
  refine mr_aload_n dX7_isWithin_7 rfl ?_
  refine mr_get dX7_isWithin_8 fl_X7_102 (by first | assumption | exact mr_up_same _ _ _ | (refine mr_lk ?_ (by first | assumption | decide); first | assumption | exact mr_up_same _ _ _ | (refine mr_lk ?_ (by first | assumption | decide); first | assumption | exact mr_up_same _ _ _ | (refine mr_lk ?_ (by first | assumption | decide); first | assumption | exact mr_up_same _ _ _ | (refine mr_lk ?_ (by first | assumption | decide); first | assumption | exact mr_up_same _ _ _))))) rfl ?_
  refine mr_aload_n dX7_isWithin_11 rfl ?_
  refine mr_get dX7_isWithin_12 fl_X7_86 (by first | assumption | exact mr_up_same _ _ _ | (refine mr_lk ?_ (by first | assumption | decide); first | assumption | exact mr_up_same _ _ _ | (refine mr_lk ?_ (by first | assumption | decide); first | assumption | exact mr_up_same _ _ _ | (refine mr_lk ?_ (by first | assumption | decide); first | assumption | exact mr_up_same _ _ _ | (refine mr_lk ?_ (by first | assumption | decide); first | assumption | exact mr_up_same _ _ _))))) rfl ?_
  refine mr_iconst dX7_isWithin_15 ?_
  refine mr_iconst dX7_isWithin_16 ?_
  refine mr_iload_n dX7_isWithin_17 rfl ?_
  refine mr_imul dX7_isWithin_18 ?_
  refine mr_iadd dX7_isWithin_19 ?_
  refine mr_iload_n dX7_isWithin_20 rfl ?_
  refine mr_iadd dX7_isWithin_21 ?_
  refine mr_iald dX7_isWithin_22 (by first | assumption | exact mr_up_same _ _ _ | (refine mr_lk ?_ (by first | assumption | decide); first | assumption | exact mr_up_same _ _ _ | (refine mr_lk ?_ (by first | assumption | decide); first | assumption | exact mr_up_same _ _ _ | (refine mr_lk ?_ (by first | assumption | decide); first | assumption | exact mr_up_same _ _ _ | (refine mr_lk ?_ (by first | assumption | decide); first | assumption | exact mr_up_same _ _ _))))) (by omega) (by omega) (by decide) ?_
  refine mr_zald dX7_isWithin_23 (by first | assumption | exact mr_up_same _ _ _ | (refine mr_lk ?_ (by first | assumption | decide); first | assumption | exact mr_up_same _ _ _ | (refine mr_lk ?_ (by first | assumption | decide); first | assumption | exact mr_up_same _ _ _ | (refine mr_lk ?_ (by first | assumption | decide); first | assumption | exact mr_up_same _ _ _ | (refine mr_lk ?_ (by first | assumption | decide); first | assumption | exact mr_up_same _ _ _))))) (by omega) (by omega) (by decide) ?_
  refine mr_if_ne (tgt := 29) dX7_isWithin_24 (by decide) ⟨by omega, by omega⟩ (fun hz1 => ?_) (fun hz1 => ?_)
  · refine mr_iinc dX7_isWithin_29 rfl (by decide) rfl ?_
    refine mr_goto (tgt := 2) dX7_isWithin_32 (by decide) ?_
    refine mr_iload_n dX7_isWithin_2 rfl ?_
    refine mr_iconst dX7_isWithin_3 ?_
    refine mr_icmp_ge (tgt := 35) dX7_isWithin_4 (by decide) (by omega) (by omega) (fun h => absurd h (by decide)) (fun _ => ?_)
    refine mr_aload_n dX7_isWithin_7 rfl ?_
    refine mr_get dX7_isWithin_8 fl_X7_102 (by first | assumption | exact mr_up_same _ _ _ | (refine mr_lk ?_ (by first | assumption | decide); first | assumption | exact mr_up_same _ _ _ | (refine mr_lk ?_ (by first | assumption | decide); first | assumption | exact mr_up_same _ _ _ | (refine mr_lk ?_ (by first | assumption | decide); first | assumption | exact mr_up_same _ _ _ | (refine mr_lk ?_ (by first | assumption | decide); first | assumption | exact mr_up_same _ _ _))))) rfl ?_
    refine mr_aload_n dX7_isWithin_11 rfl ?_
    refine mr_get dX7_isWithin_12 fl_X7_86 (by first | assumption | exact mr_up_same _ _ _ | (refine mr_lk ?_ (by first | assumption | decide); first | assumption | exact mr_up_same _ _ _ | (refine mr_lk ?_ (by first | assumption | decide); first | assumption | exact mr_up_same _ _ _ | (refine mr_lk ?_ (by first | assumption | decide); first | assumption | exact mr_up_same _ _ _ | (refine mr_lk ?_ (by first | assumption | decide); first | assumption | exact mr_up_same _ _ _))))) rfl ?_
    refine mr_iconst dX7_isWithin_15 ?_
    refine mr_iconst dX7_isWithin_16 ?_
    refine mr_iload_n dX7_isWithin_17 rfl ?_
    refine mr_imul dX7_isWithin_18 ?_
    refine mr_iadd dX7_isWithin_19 ?_
    refine mr_iload_n dX7_isWithin_20 rfl ?_
    refine mr_iadd dX7_isWithin_21 ?_
    refine mr_iald dX7_isWithin_22 (by first | assumption | exact mr_up_same _ _ _ | (refine mr_lk ?_ (by first | assumption | decide); first | assumption | exact mr_up_same _ _ _ | (refine mr_lk ?_ (by first | assumption | decide); first | assumption | exact mr_up_same _ _ _ | (refine mr_lk ?_ (by first | assumption | decide); first | assumption | exact mr_up_same _ _ _ | (refine mr_lk ?_ (by first | assumption | decide); first | assumption | exact mr_up_same _ _ _))))) (by omega) (by omega) (by decide) ?_
    refine mr_zald dX7_isWithin_23 (by first | assumption | exact mr_up_same _ _ _ | (refine mr_lk ?_ (by first | assumption | decide); first | assumption | exact mr_up_same _ _ _ | (refine mr_lk ?_ (by first | assumption | decide); first | assumption | exact mr_up_same _ _ _ | (refine mr_lk ?_ (by first | assumption | decide); first | assumption | exact mr_up_same _ _ _ | (refine mr_lk ?_ (by first | assumption | decide); first | assumption | exact mr_up_same _ _ _))))) (by omega) (by omega) (by decide) ?_
    refine mr_if_ne (tgt := 29) dX7_isWithin_24 (by decide) ⟨by omega, by omega⟩ (fun hz2 => ?_) (fun hz2 => ?_)
    · refine mr_iinc dX7_isWithin_29 rfl (by decide) rfl ?_
      refine mr_goto (tgt := 2) dX7_isWithin_32 (by decide) ?_
      refine mr_iload_n dX7_isWithin_2 rfl ?_
      refine mr_iconst dX7_isWithin_3 ?_
      refine mr_icmp_ge (tgt := 35) dX7_isWithin_4 (by decide) (by omega) (by omega) (fun h => absurd h (by decide)) (fun _ => ?_)
      refine mr_aload_n dX7_isWithin_7 rfl ?_
      refine mr_get dX7_isWithin_8 fl_X7_102 (by first | assumption | exact mr_up_same _ _ _ | (refine mr_lk ?_ (by first | assumption | decide); first | assumption | exact mr_up_same _ _ _ | (refine mr_lk ?_ (by first | assumption | decide); first | assumption | exact mr_up_same _ _ _ | (refine mr_lk ?_ (by first | assumption | decide); first | assumption | exact mr_up_same _ _ _ | (refine mr_lk ?_ (by first | assumption | decide); first | assumption | exact mr_up_same _ _ _))))) rfl ?_
      refine mr_aload_n dX7_isWithin_11 rfl ?_
      refine mr_get dX7_isWithin_12 fl_X7_86 (by first | assumption | exact mr_up_same _ _ _ | (refine mr_lk ?_ (by first | assumption | decide); first | assumption | exact mr_up_same _ _ _ | (refine mr_lk ?_ (by first | assumption | decide); first | assumption | exact mr_up_same _ _ _ | (refine mr_lk ?_ (by first | assumption | decide); first | assumption | exact mr_up_same _ _ _ | (refine mr_lk ?_ (by first | assumption | decide); first | assumption | exact mr_up_same _ _ _))))) rfl ?_
      refine mr_iconst dX7_isWithin_15 ?_
      refine mr_iconst dX7_isWithin_16 ?_
      refine mr_iload_n dX7_isWithin_17 rfl ?_
      refine mr_imul dX7_isWithin_18 ?_
      refine mr_iadd dX7_isWithin_19 ?_
      refine mr_iload_n dX7_isWithin_20 rfl ?_
      refine mr_iadd dX7_isWithin_21 ?_
      refine mr_iald dX7_isWithin_22 (by first | assumption | exact mr_up_same _ _ _ | (refine mr_lk ?_ (by first | assumption | decide); first | assumption | exact mr_up_same _ _ _ | (refine mr_lk ?_ (by first | assumption | decide); first | assumption | exact mr_up_same _ _ _ | (refine mr_lk ?_ (by first | assumption | decide); first | assumption | exact mr_up_same _ _ _ | (refine mr_lk ?_ (by first | assumption | decide); first | assumption | exact mr_up_same _ _ _))))) (by omega) (by omega) (by decide) ?_
      refine mr_zald dX7_isWithin_23 (by first | assumption | exact mr_up_same _ _ _ | (refine mr_lk ?_ (by first | assumption | decide); first | assumption | exact mr_up_same _ _ _ | (refine mr_lk ?_ (by first | assumption | decide); first | assumption | exact mr_up_same _ _ _ | (refine mr_lk ?_ (by first | assumption | decide); first | assumption | exact mr_up_same _ _ _ | (refine mr_lk ?_ (by first | assumption | decide); first | assumption | exact mr_up_same _ _ _))))) (by omega) (by omega) (by decide) ?_
      refine mr_if_ne (tgt := 29) dX7_isWithin_24 (by decide) ⟨by omega, by omega⟩ (fun hz3 => ?_) (fun hz3 => ?_)
      · refine mr_iinc dX7_isWithin_29 rfl (by decide) rfl ?_
        refine mr_goto (tgt := 2) dX7_isWithin_32 (by decide) ?_
        refine mr_iload_n dX7_isWithin_2 rfl ?_
        refine mr_iconst dX7_isWithin_3 ?_
        refine mr_icmp_ge (tgt := 35) dX7_isWithin_4 (by decide) (by omega) (by omega) (fun _ => ?_) (fun h => absurd h (by decide))
        refine mr_iconst dX7_isWithin_35 ?_
        refine mr_zret rfl (Or.inr rfl) dX7_isWithin_36 ?_
        refine hP (fun j g1 g2 => ?_)
        rcases (show j = 0 ∨ j = 1 ∨ j = 2 by omega) with rfl | rfl | rfl
        · show s1 (N (2 + 3 * t + 0).toNat).toNat = 1; omega
        · show s1 (N (2 + 3 * t + (0 + 1)).toNat).toNat = 1; omega
        · show s1 (N (2 + 3 * t + (0 + 1 + 1)).toNat).toNat = 1; omega
      · refine mr_iconst dX7_isWithin_27 ?_
        refine mr_zret rfl (Or.inl rfl) dX7_isWithin_28 ?_
        first | exact hQ (fun zz => by have := zz 0 (by decide) (by decide); have e : s1 (N (2 + 3 * t + 0).toNat).toNat = 1 := this; omega) | exact hQ (fun zz => by have := zz 1 (by decide) (by decide); have e : s1 (N (2 + 3 * t + (0 + 1)).toNat).toNat = 1 := this; omega) | exact hQ (fun zz => by have := zz 2 (by decide) (by decide); have e : s1 (N (2 + 3 * t + (0 + 1 + 1)).toNat).toNat = 1 := this; omega)
    · refine mr_iconst dX7_isWithin_27 ?_
      refine mr_zret rfl (Or.inl rfl) dX7_isWithin_28 ?_
      first | exact hQ (fun zz => by have := zz 0 (by decide) (by decide); have e : s1 (N (2 + 3 * t + 0).toNat).toNat = 1 := this; omega) | exact hQ (fun zz => by have := zz 1 (by decide) (by decide); have e : s1 (N (2 + 3 * t + (0 + 1)).toNat).toNat = 1 := this; omega) | exact hQ (fun zz => by have := zz 2 (by decide) (by decide); have e : s1 (N (2 + 3 * t + (0 + 1 + 1)).toNat).toNat = 1 := this; omega)
  · refine mr_iconst dX7_isWithin_27 ?_
    refine mr_zret rfl (Or.inl rfl) dX7_isWithin_28 ?_
    first | exact hQ (fun zz => by have := zz 0 (by decide) (by decide); have e : s1 (N (2 + 3 * t + 0).toNat).toNat = 1 := this; omega) | exact hQ (fun zz => by have := zz 1 (by decide) (by decide); have e : s1 (N (2 + 3 * t + (0 + 1)).toNat).toNat = 1 := this; omega) | exact hQ (fun zz => by have := zz 2 (by decide) (by decide); have e : s1 (N (2 + 3 * t + (0 + 1 + 1)).toNat).toNat = 1 := this; omega)
def T_X7_lies (a : List mr_AV) (w : mr_Wd) (Po : Option mr_AV → mr_Wd → Prop) : Prop := ∃ (th tp sz zo fr kd nb ft pl wd sm md li sd : Int) (T N R K Sn ik s1 s2 ls : Nat → Int) (W : Nat) (L : Int → mr_V → Prop) (s t : Int), a = [vR 18 0, vI s, vI t] ∧ mr_MW w th tp sz zo fr kd nb ft pl wd sm md li sd T N R K Sn ik s1 s2 ls ∧ mr_NG N W L ∧ InR s ∧ InR t ∧ (((0 < N 0 ∧ 0 ≤ s ∧ s ≤ 3) ∧ (0 < N 0 ∧ 0 ≤ t ∧ t ≤ 3)) → (∀ j : Int, 0 ≤ j → j < 3 → mr_S (N 0) (L t) (mr_nf N s j)) → (∀ j : Int, 0 ≤ j → j < 3 → mr_S (N 0) (L s) (mr_nf N t j)) → (∀ (w' : mr_Wd) (s1' ls' : Nat → Int) (li' : Int), mr_MW w' (0) tp sz zo fr kd nb ft pl wd sm md (li') sd T N R K Sn ik (s1') s2 (ls') → mr_FM w w' → Po (some (vI 0)) w')) ∧ (((0 < N 0 ∧ 0 ≤ s ∧ s ≤ 3) ∧ (0 < N 0 ∧ 0 ≤ t ∧ t ≤ 3)) → (∀ j : Int, 0 ≤ j → j < 3 → mr_S (N 0) (L t) (mr_nf N s j)) → ¬ (∀ j : Int, 0 ≤ j → j < 3 → mr_S (N 0) (L s) (mr_nf N t j)) → (∀ (w' : mr_Wd) (s1' ls' : Nat → Int) (li' : Int), mr_MW w' (0) tp sz zo fr kd nb ft pl wd sm md (li') sd T N R K Sn ik (s1') s2 (ls') → mr_FM w w' → Po (some (vI 1)) w')) ∧ (((0 < N 0 ∧ 0 ≤ s ∧ s ≤ 3) ∧ (0 < N 0 ∧ 0 ≤ t ∧ t ≤ 3)) → ¬ (∀ j : Int, 0 ≤ j → j < 3 → mr_S (N 0) (L t) (mr_nf N s j)) → (∀ j : Int, 0 ≤ j → j < 3 → mr_S (N 0) (L s) (mr_nf N t j)) → (∀ (w' : mr_Wd) (s1' ls' : Nat → Int) (li' : Int), mr_MW w' (0) tp sz zo fr kd nb ft pl wd sm md (li') sd T N R K Sn ik (s1') s2 (ls') → mr_FM w w' → Po (some (vI 2)) w')) ∧ (((0 < N 0 ∧ 0 ≤ s ∧ s ≤ 3) ∧ (0 < N 0 ∧ 0 ≤ t ∧ t ≤ 3)) → ¬ (∀ j : Int, 0 ≤ j → j < 3 → mr_S (N 0) (L t) (mr_nf N s j)) → ¬ (∀ j : Int, 0 ≤ j → j < 3 → mr_S (N 0) (L s) (mr_nf N t j)) → (∀ (w' : mr_Wd) (s1' ls' : Nat → Int) (li' : Int), mr_MW w' (0) tp sz zo fr kd nb ft pl wd sm md (li') sd T N R K Sn ik (s1') s2 (ls') → mr_FM w w' → Po (some (vI 3)) w')) ∧ (¬ ((0 < N 0 ∧ 0 ≤ s ∧ s ≤ 3) ∧ (0 < N 0 ∧ 0 ≤ t ∧ t ≤ 3)) → (∀ w' : mr_Wd, mr_MW w' (0) tp sz zo fr kd nb ft pl wd sm md li sd T N R K Sn ik s1 s2 ls → mr_FM w w' → Po (some (vI (-1))) w'))
set_option maxHeartbeats 4000000 in
set_option maxRecDepth 20000 in
theorem ok_X7_lies (l : Launch) (G : mr_G) : mr_Ok l G yX7_lies cX7_lies 5 (some .int) 3 73 T_X7_lies := by
  refine mr_Ok.of (by decide +kernel) ?_
  rintro a w Po ⟨th, tp, sz, zo, fr, kd, nb, ft, pl, wd, sm, md, li, sd, T, N, R, K, Sn, ik, s1, s2, ls, W, L, s, t, rfl, hM, ⟨hG0, hG1, hG14, hGW⟩, h_s, h_t, hP0, hP1, hP2, hP3, hR⟩
  refine ⟨Nat.le_of_ble_eq_true rfl, ?_⟩
  show mr_J l G RX7 cX7_lies 5 (some .int) 3 73 Po 0 [some (vR 18 0), some (vI s), some (vI t), none, none] [] w
  obtain ⟨h18, h19, h20, h21, h22, h23, h24, h25, h26, h27, hs1, hs2, hik⟩ := id hM
  refine mr_aload_n dX7_lies_0 rfl ?_
  refine mr_iconst dX7_lies_1 ?_
  refine mr_put dX7_lies_2 fl_X7_1 pf_X7_0 rfl rfl (by first | assumption | exact mr_up_same _ _ _ | (refine mr_lk ?_ (by first | assumption | decide); first | assumption | exact mr_up_same _ _ _ | (refine mr_lk ?_ (by first | assumption | decide); first | assumption | exact mr_up_same _ _ _ | (refine mr_lk ?_ (by first | assumption | decide); first | assumption | exact mr_up_same _ _ _ | (refine mr_lk ?_ (by first | assumption | decide); first | assumption | exact mr_up_same _ _ _))))) (Nat.le_of_ble_eq_true rfl) ?_
  refine mw_p0 hM (fun w1 hM1 hF1 => ?_)
  obtain ⟨h18, h19, h20, h21, h22, h23, h24, h25, h26, h27, hs1, hs2, hik⟩ := id hM1
  refine mr_aload_n dX7_lies_5 rfl ?_
  refine mr_iload_n dX7_lies_6 rfl ?_
  refine mr_callV (as := [_]) dX7_lies_7 (ok_X7_isModuleAt l G) ml_X7_199 cl_X7_isModuleAt cv_X7_isModuleAt (by decide) rfl rfl (Nat.le_of_ble_eq_true rfl) (by first | assumption | exact mr_up_same _ _ _ | (refine mr_lk ?_ (by first | assumption | decide); first | assumption | exact mr_up_same _ _ _ | (refine mr_lk ?_ (by first | assumption | decide); first | assumption | exact mr_up_same _ _ _ | (refine mr_lk ?_ (by first | assumption | decide); first | assumption | exact mr_up_same _ _ _ | (refine mr_lk ?_ (by first | assumption | decide); first | assumption | exact mr_up_same _ _ _))))) ?_
  refine ⟨_, _, _, _, _, _, _, _, _, _, _, _, _, _, _, _, rfl, (by first | assumption | exact mr_up_same _ _ _ | (refine mr_lk ?_ (by first | assumption | decide); first | assumption | exact mr_up_same _ _ _ | (refine mr_lk ?_ (by first | assumption | decide); first | assumption | exact mr_up_same _ _ _ | (refine mr_lk ?_ (by first | assumption | decide); first | assumption | exact mr_up_same _ _ _ | (refine mr_lk ?_ (by first | assumption | decide); first | assumption | exact mr_up_same _ _ _))))), (by first | assumption | exact mr_up_same _ _ _ | (refine mr_lk ?_ (by first | assumption | decide); first | assumption | exact mr_up_same _ _ _ | (refine mr_lk ?_ (by first | assumption | decide); first | assumption | exact mr_up_same _ _ _ | (refine mr_lk ?_ (by first | assumption | decide); first | assumption | exact mr_up_same _ _ _ | (refine mr_lk ?_ (by first | assumption | decide); first | assumption | exact mr_up_same _ _ _))))), h_s, hG0, ?_, ?_⟩
  · intro k1
    dsimp only [Option.toList_some, Option.toList_none, List.cons_append, List.nil_append]
    refine mr_if_eq (tgt := 21) dX7_lies_10 (by decide) (by omega) (fun h => absurd h (by decide)) (fun _ => ?_)
    refine mr_aload_n dX7_lies_13 rfl ?_
    refine mr_iload_n dX7_lies_14 rfl ?_
    refine mr_callV (as := [_]) dX7_lies_15 (ok_X7_isModuleAt l G) ml_X7_199 cl_X7_isModuleAt cv_X7_isModuleAt (by decide) rfl rfl (Nat.le_of_ble_eq_true rfl) (by first | assumption | exact mr_up_same _ _ _ | (refine mr_lk ?_ (by first | assumption | decide); first | assumption | exact mr_up_same _ _ _ | (refine mr_lk ?_ (by first | assumption | decide); first | assumption | exact mr_up_same _ _ _ | (refine mr_lk ?_ (by first | assumption | decide); first | assumption | exact mr_up_same _ _ _ | (refine mr_lk ?_ (by first | assumption | decide); first | assumption | exact mr_up_same _ _ _))))) ?_
    refine ⟨_, _, _, _, _, _, _, _, _, _, _, _, _, _, _, _, rfl, (by first | assumption | exact mr_up_same _ _ _ | (refine mr_lk ?_ (by first | assumption | decide); first | assumption | exact mr_up_same _ _ _ | (refine mr_lk ?_ (by first | assumption | decide); first | assumption | exact mr_up_same _ _ _ | (refine mr_lk ?_ (by first | assumption | decide); first | assumption | exact mr_up_same _ _ _ | (refine mr_lk ?_ (by first | assumption | decide); first | assumption | exact mr_up_same _ _ _))))), (by first | assumption | exact mr_up_same _ _ _ | (refine mr_lk ?_ (by first | assumption | decide); first | assumption | exact mr_up_same _ _ _ | (refine mr_lk ?_ (by first | assumption | decide); first | assumption | exact mr_up_same _ _ _ | (refine mr_lk ?_ (by first | assumption | decide); first | assumption | exact mr_up_same _ _ _ | (refine mr_lk ?_ (by first | assumption | decide); first | assumption | exact mr_up_same _ _ _))))), h_t, hG0, ?_, ?_⟩
    · intro k2
      dsimp only [Option.toList_some, Option.toList_none, List.cons_append, List.nil_append]
      refine mr_if_ne (tgt := 23) dX7_lies_18 (by decide) (by omega) (fun _ => ?_) (fun h => absurd h (by decide))
      obtain ⟨e0, e1, hM0, hW0, hFN, hEQ⟩ := hGW (by omega)
      have hMM : 1 ≤ N 0 ∧ N 0 ≤ 30 := ⟨by omega, by omega⟩
      have hm3 := mr_m3 hMM
      have hm2 := mr_m2 hMM
      refine mr_aload_n dX7_lies_23 rfl ?_
      refine mr_aload_n dX7_lies_24 rfl ?_
      refine mr_get dX7_lies_25 fl_X7_86 (by first | assumption | exact mr_up_same _ _ _ | (refine mr_lk ?_ (by first | assumption | decide); first | assumption | exact mr_up_same _ _ _ | (refine mr_lk ?_ (by first | assumption | decide); first | assumption | exact mr_up_same _ _ _ | (refine mr_lk ?_ (by first | assumption | decide); first | assumption | exact mr_up_same _ _ _ | (refine mr_lk ?_ (by first | assumption | decide); first | assumption | exact mr_up_same _ _ _))))) rfl ?_
      refine mr_iload_n dX7_lies_28 rfl ?_
      refine mr_aload_n dX7_lies_29 rfl ?_
      refine mr_get dX7_lies_30 fl_X7_102 (by first | assumption | exact mr_up_same _ _ _ | (refine mr_lk ?_ (by first | assumption | decide); first | assumption | exact mr_up_same _ _ _ | (refine mr_lk ?_ (by first | assumption | decide); first | assumption | exact mr_up_same _ _ _ | (refine mr_lk ?_ (by first | assumption | decide); first | assumption | exact mr_up_same _ _ _ | (refine mr_lk ?_ (by first | assumption | decide); first | assumption | exact mr_up_same _ _ _))))) rfl ?_
      refine mr_callV (as := [_, _, _]) dX7_lies_33 (ok_X7_laysSet l G) ml_X7_128 cl_X7_laysSet cv_X7_laysSet (by decide) rfl rfl (Nat.le_of_ble_eq_true rfl) (by first | assumption | exact mr_up_same _ _ _ | (refine mr_lk ?_ (by first | assumption | decide); first | assumption | exact mr_up_same _ _ _ | (refine mr_lk ?_ (by first | assumption | decide); first | assumption | exact mr_up_same _ _ _ | (refine mr_lk ?_ (by first | assumption | decide); first | assumption | exact mr_up_same _ _ _ | (refine mr_lk ?_ (by first | assumption | decide); first | assumption | exact mr_up_same _ _ _))))) ?_
      refine mw_lays1 hM1 rfl hMM ⟨by omega, by omega⟩ (hFN t (by omega) (by omega)) (fun w2 st2 li2 n2 hp2 hM2 hF2 => ?_)
      obtain ⟨h18, h19, h20, h21, h22, h23, h24, h25, h26, h27, hs1, hs2, hik⟩ := id hM2
      have kaS : ∀ j : Int, 0 ≤ j → j < 3 → (st2 (mr_nf N s j).toNat = 1 ↔ mr_S (N 0) (L t) (mr_nf N s j)) := fun j g1 g2 => mr_St_at (mr_Lp_St hp2) ((hFN s (by omega) (by omega)).2 j g1 g2).1 ((hFN s (by omega) (by omega)).2 j g1 g2).2
      dsimp only [Option.toList_some, Option.toList_none, List.cons_append, List.nil_append]
      refine mr_aload_n dX7_lies_36 rfl ?_
      refine mr_iload_n dX7_lies_37 rfl ?_
      refine mr_callV (as := [_]) dX7_lies_38 (ok_X7_isWithin l G) ml_X7_220 cl_X7_isWithin cv_X7_isWithin (by decide) rfl rfl (Nat.le_of_ble_eq_true rfl) (by first | assumption | exact mr_up_same _ _ _ | (refine mr_lk ?_ (by first | assumption | decide); first | assumption | exact mr_up_same _ _ _ | (refine mr_lk ?_ (by first | assumption | decide); first | assumption | exact mr_up_same _ _ _ | (refine mr_lk ?_ (by first | assumption | decide); first | assumption | exact mr_up_same _ _ _ | (refine mr_lk ?_ (by first | assumption | decide); first | assumption | exact mr_up_same _ _ _))))) ?_
      refine ⟨_, _, _, _, _, _, _, _, _, _, _, _, _, _, _, _, _, _, _, _, _, _, _, s, rfl, (by assumption), ⟨by omega, by omega⟩, (fun j g1 g2 => by have := (hFN s (by omega) (by omega)).2 j g1 g2; omega), ?_, ?_⟩
      · intro ka
        dsimp only [Option.toList_some, Option.toList_none, List.cons_append, List.nil_append]
        refine mr_istore_n dX7_lies_41 rfl (by decide) ?_
        refine mr_aload_n dX7_lies_42 rfl ?_
        refine mr_aload_n dX7_lies_43 rfl ?_
        refine mr_get dX7_lies_44 fl_X7_86 (by first | assumption | exact mr_up_same _ _ _ | (refine mr_lk ?_ (by first | assumption | decide); first | assumption | exact mr_up_same _ _ _ | (refine mr_lk ?_ (by first | assumption | decide); first | assumption | exact mr_up_same _ _ _ | (refine mr_lk ?_ (by first | assumption | decide); first | assumption | exact mr_up_same _ _ _ | (refine mr_lk ?_ (by first | assumption | decide); first | assumption | exact mr_up_same _ _ _))))) rfl ?_
        refine mr_iload_n dX7_lies_47 rfl ?_
        refine mr_aload_n dX7_lies_48 rfl ?_
        refine mr_get dX7_lies_49 fl_X7_102 (by first | assumption | exact mr_up_same _ _ _ | (refine mr_lk ?_ (by first | assumption | decide); first | assumption | exact mr_up_same _ _ _ | (refine mr_lk ?_ (by first | assumption | decide); first | assumption | exact mr_up_same _ _ _ | (refine mr_lk ?_ (by first | assumption | decide); first | assumption | exact mr_up_same _ _ _ | (refine mr_lk ?_ (by first | assumption | decide); first | assumption | exact mr_up_same _ _ _))))) rfl ?_
        refine mr_callV (as := [_, _, _]) dX7_lies_52 (ok_X7_laysSet l G) ml_X7_128 cl_X7_laysSet cv_X7_laysSet (by decide) rfl rfl (Nat.le_of_ble_eq_true rfl) (by first | assumption | exact mr_up_same _ _ _ | (refine mr_lk ?_ (by first | assumption | decide); first | assumption | exact mr_up_same _ _ _ | (refine mr_lk ?_ (by first | assumption | decide); first | assumption | exact mr_up_same _ _ _ | (refine mr_lk ?_ (by first | assumption | decide); first | assumption | exact mr_up_same _ _ _ | (refine mr_lk ?_ (by first | assumption | decide); first | assumption | exact mr_up_same _ _ _))))) ?_
        refine mw_lays1 hM2 rfl hMM ⟨by omega, by omega⟩ (hFN s (by omega) (by omega)) (fun w3 st3 li3 n3 hp3 hM3 hF3 => ?_)
        obtain ⟨h18, h19, h20, h21, h22, h23, h24, h25, h26, h27, hs1, hs2, hik⟩ := id hM3
        have kbS : ∀ j : Int, 0 ≤ j → j < 3 → (st3 (mr_nf N t j).toNat = 1 ↔ mr_S (N 0) (L s) (mr_nf N t j)) := fun j g1 g2 => mr_St_at (mr_Lp_St hp3) ((hFN t (by omega) (by omega)).2 j g1 g2).1 ((hFN t (by omega) (by omega)).2 j g1 g2).2
        dsimp only [Option.toList_some, Option.toList_none, List.cons_append, List.nil_append]
        refine mr_aload_n dX7_lies_55 rfl ?_
        refine mr_iload_n dX7_lies_56 rfl ?_
        refine mr_callV (as := [_]) dX7_lies_57 (ok_X7_isWithin l G) ml_X7_220 cl_X7_isWithin cv_X7_isWithin (by decide) rfl rfl (Nat.le_of_ble_eq_true rfl) (by first | assumption | exact mr_up_same _ _ _ | (refine mr_lk ?_ (by first | assumption | decide); first | assumption | exact mr_up_same _ _ _ | (refine mr_lk ?_ (by first | assumption | decide); first | assumption | exact mr_up_same _ _ _ | (refine mr_lk ?_ (by first | assumption | decide); first | assumption | exact mr_up_same _ _ _ | (refine mr_lk ?_ (by first | assumption | decide); first | assumption | exact mr_up_same _ _ _))))) ?_
        refine ⟨_, _, _, _, _, _, _, _, _, _, _, _, _, _, _, _, _, _, _, _, _, _, _, t, rfl, (by assumption), ⟨by omega, by omega⟩, (fun j g1 g2 => by have := (hFN t (by omega) (by omega)).2 j g1 g2; omega), ?_, ?_⟩
        · intro kb
          dsimp only [Option.toList_some, Option.toList_none, List.cons_append, List.nil_append]
          refine mr_istore dX7_lies_60 rfl (by decide) ?_
          refine mr_iload_n dX7_lies_62 rfl ?_
          refine mr_if_eq (tgt := 75) dX7_lies_63 (by decide) (by omega) (fun h => absurd h (by decide)) (fun _ => ?_)
          refine mr_iload dX7_lies_66 rfl ?_
          refine mr_if_eq (tgt := 75) dX7_lies_68 (by decide) (by omega) (fun h => absurd h (by decide)) (fun _ => ?_)
          refine mr_iconst dX7_lies_71 ?_
          refine mr_goto (tgt := 93) dX7_lies_72 (by decide) ?_
          refine mr_iret rfl dX7_lies_93 ?_
          first | exact hP0 ⟨k1, k2⟩ (fun j g1 g2 => (kaS j g1 g2).mp (ka j g1 g2)) (fun j g1 g2 => (kbS j g1 g2).mp (kb j g1 g2)) w3 _ _ _ hM3 (hF1.tr (hF2.tr hF3)) | exact hP1 ⟨k1, k2⟩ (fun j g1 g2 => (kaS j g1 g2).mp (ka j g1 g2)) (fun zz => kb (fun j g1 g2 => (kbS j g1 g2).mpr (zz j g1 g2))) w3 _ _ _ hM3 (hF1.tr (hF2.tr hF3)) | exact hP2 ⟨k1, k2⟩ (fun zz => ka (fun j g1 g2 => (kaS j g1 g2).mpr (zz j g1 g2))) (fun j g1 g2 => (kbS j g1 g2).mp (kb j g1 g2)) w3 _ _ _ hM3 (hF1.tr (hF2.tr hF3)) | exact hP3 ⟨k1, k2⟩ (fun zz => ka (fun j g1 g2 => (kaS j g1 g2).mpr (zz j g1 g2))) (fun zz => kb (fun j g1 g2 => (kbS j g1 g2).mpr (zz j g1 g2))) w3 _ _ _ hM3 (hF1.tr (hF2.tr hF3))
        · intro kb
          dsimp only [Option.toList_some, Option.toList_none, List.cons_append, List.nil_append]
          refine mr_istore dX7_lies_60 rfl (by decide) ?_
          refine mr_iload_n dX7_lies_62 rfl ?_
          refine mr_if_eq (tgt := 75) dX7_lies_63 (by decide) (by omega) (fun h => absurd h (by decide)) (fun _ => ?_)
          refine mr_iload dX7_lies_66 rfl ?_
          refine mr_if_eq (tgt := 75) dX7_lies_68 (by decide) (by omega) (fun _ => ?_) (fun h => absurd h (by decide))
          refine mr_iload_n dX7_lies_75 rfl ?_
          refine mr_if_eq (tgt := 83) dX7_lies_76 (by decide) (by omega) (fun h => absurd h (by decide)) (fun _ => ?_)
          refine mr_iconst dX7_lies_79 ?_
          refine mr_goto (tgt := 93) dX7_lies_80 (by decide) ?_
          refine mr_iret rfl dX7_lies_93 ?_
          first | exact hP0 ⟨k1, k2⟩ (fun j g1 g2 => (kaS j g1 g2).mp (ka j g1 g2)) (fun j g1 g2 => (kbS j g1 g2).mp (kb j g1 g2)) w3 _ _ _ hM3 (hF1.tr (hF2.tr hF3)) | exact hP1 ⟨k1, k2⟩ (fun j g1 g2 => (kaS j g1 g2).mp (ka j g1 g2)) (fun zz => kb (fun j g1 g2 => (kbS j g1 g2).mpr (zz j g1 g2))) w3 _ _ _ hM3 (hF1.tr (hF2.tr hF3)) | exact hP2 ⟨k1, k2⟩ (fun zz => ka (fun j g1 g2 => (kaS j g1 g2).mpr (zz j g1 g2))) (fun j g1 g2 => (kbS j g1 g2).mp (kb j g1 g2)) w3 _ _ _ hM3 (hF1.tr (hF2.tr hF3)) | exact hP3 ⟨k1, k2⟩ (fun zz => ka (fun j g1 g2 => (kaS j g1 g2).mpr (zz j g1 g2))) (fun zz => kb (fun j g1 g2 => (kbS j g1 g2).mpr (zz j g1 g2))) w3 _ _ _ hM3 (hF1.tr (hF2.tr hF3))
      · intro ka
        dsimp only [Option.toList_some, Option.toList_none, List.cons_append, List.nil_append]
        refine mr_istore_n dX7_lies_41 rfl (by decide) ?_
        refine mr_aload_n dX7_lies_42 rfl ?_
        refine mr_aload_n dX7_lies_43 rfl ?_
        refine mr_get dX7_lies_44 fl_X7_86 (by first | assumption | exact mr_up_same _ _ _ | (refine mr_lk ?_ (by first | assumption | decide); first | assumption | exact mr_up_same _ _ _ | (refine mr_lk ?_ (by first | assumption | decide); first | assumption | exact mr_up_same _ _ _ | (refine mr_lk ?_ (by first | assumption | decide); first | assumption | exact mr_up_same _ _ _ | (refine mr_lk ?_ (by first | assumption | decide); first | assumption | exact mr_up_same _ _ _))))) rfl ?_
        refine mr_iload_n dX7_lies_47 rfl ?_
        refine mr_aload_n dX7_lies_48 rfl ?_
        refine mr_get dX7_lies_49 fl_X7_102 (by first | assumption | exact mr_up_same _ _ _ | (refine mr_lk ?_ (by first | assumption | decide); first | assumption | exact mr_up_same _ _ _ | (refine mr_lk ?_ (by first | assumption | decide); first | assumption | exact mr_up_same _ _ _ | (refine mr_lk ?_ (by first | assumption | decide); first | assumption | exact mr_up_same _ _ _ | (refine mr_lk ?_ (by first | assumption | decide); first | assumption | exact mr_up_same _ _ _))))) rfl ?_
        refine mr_callV (as := [_, _, _]) dX7_lies_52 (ok_X7_laysSet l G) ml_X7_128 cl_X7_laysSet cv_X7_laysSet (by decide) rfl rfl (Nat.le_of_ble_eq_true rfl) (by first | assumption | exact mr_up_same _ _ _ | (refine mr_lk ?_ (by first | assumption | decide); first | assumption | exact mr_up_same _ _ _ | (refine mr_lk ?_ (by first | assumption | decide); first | assumption | exact mr_up_same _ _ _ | (refine mr_lk ?_ (by first | assumption | decide); first | assumption | exact mr_up_same _ _ _ | (refine mr_lk ?_ (by first | assumption | decide); first | assumption | exact mr_up_same _ _ _))))) ?_
        refine mw_lays1 hM2 rfl hMM ⟨by omega, by omega⟩ (hFN s (by omega) (by omega)) (fun w4 st4 li4 n4 hp4 hM4 hF4 => ?_)
        obtain ⟨h18, h19, h20, h21, h22, h23, h24, h25, h26, h27, hs1, hs2, hik⟩ := id hM4
        have kbS : ∀ j : Int, 0 ≤ j → j < 3 → (st4 (mr_nf N t j).toNat = 1 ↔ mr_S (N 0) (L s) (mr_nf N t j)) := fun j g1 g2 => mr_St_at (mr_Lp_St hp4) ((hFN t (by omega) (by omega)).2 j g1 g2).1 ((hFN t (by omega) (by omega)).2 j g1 g2).2
        dsimp only [Option.toList_some, Option.toList_none, List.cons_append, List.nil_append]
        refine mr_aload_n dX7_lies_55 rfl ?_
        refine mr_iload_n dX7_lies_56 rfl ?_
        refine mr_callV (as := [_]) dX7_lies_57 (ok_X7_isWithin l G) ml_X7_220 cl_X7_isWithin cv_X7_isWithin (by decide) rfl rfl (Nat.le_of_ble_eq_true rfl) (by first | assumption | exact mr_up_same _ _ _ | (refine mr_lk ?_ (by first | assumption | decide); first | assumption | exact mr_up_same _ _ _ | (refine mr_lk ?_ (by first | assumption | decide); first | assumption | exact mr_up_same _ _ _ | (refine mr_lk ?_ (by first | assumption | decide); first | assumption | exact mr_up_same _ _ _ | (refine mr_lk ?_ (by first | assumption | decide); first | assumption | exact mr_up_same _ _ _))))) ?_
        refine ⟨_, _, _, _, _, _, _, _, _, _, _, _, _, _, _, _, _, _, _, _, _, _, _, t, rfl, (by assumption), ⟨by omega, by omega⟩, (fun j g1 g2 => by have := (hFN t (by omega) (by omega)).2 j g1 g2; omega), ?_, ?_⟩
        · intro kb
          dsimp only [Option.toList_some, Option.toList_none, List.cons_append, List.nil_append]
          refine mr_istore dX7_lies_60 rfl (by decide) ?_
          refine mr_iload_n dX7_lies_62 rfl ?_
          refine mr_if_eq (tgt := 75) dX7_lies_63 (by decide) (by omega) (fun _ => ?_) (fun h => absurd h (by decide))
          refine mr_iload_n dX7_lies_75 rfl ?_
          refine mr_if_eq (tgt := 83) dX7_lies_76 (by decide) (by omega) (fun _ => ?_) (fun h => absurd h (by decide))
          refine mr_iload dX7_lies_83 rfl ?_
          refine mr_if_eq (tgt := 92) dX7_lies_85 (by decide) (by omega) (fun h => absurd h (by decide)) (fun _ => ?_)
          refine mr_iconst dX7_lies_88 ?_
          refine mr_goto (tgt := 93) dX7_lies_89 (by decide) ?_
          refine mr_iret rfl dX7_lies_93 ?_
          first | exact hP0 ⟨k1, k2⟩ (fun j g1 g2 => (kaS j g1 g2).mp (ka j g1 g2)) (fun j g1 g2 => (kbS j g1 g2).mp (kb j g1 g2)) w4 _ _ _ hM4 (hF1.tr (hF2.tr hF4)) | exact hP1 ⟨k1, k2⟩ (fun j g1 g2 => (kaS j g1 g2).mp (ka j g1 g2)) (fun zz => kb (fun j g1 g2 => (kbS j g1 g2).mpr (zz j g1 g2))) w4 _ _ _ hM4 (hF1.tr (hF2.tr hF4)) | exact hP2 ⟨k1, k2⟩ (fun zz => ka (fun j g1 g2 => (kaS j g1 g2).mpr (zz j g1 g2))) (fun j g1 g2 => (kbS j g1 g2).mp (kb j g1 g2)) w4 _ _ _ hM4 (hF1.tr (hF2.tr hF4)) | exact hP3 ⟨k1, k2⟩ (fun zz => ka (fun j g1 g2 => (kaS j g1 g2).mpr (zz j g1 g2))) (fun zz => kb (fun j g1 g2 => (kbS j g1 g2).mpr (zz j g1 g2))) w4 _ _ _ hM4 (hF1.tr (hF2.tr hF4))
        · intro kb
          dsimp only [Option.toList_some, Option.toList_none, List.cons_append, List.nil_append]
          refine mr_istore dX7_lies_60 rfl (by decide) ?_
          refine mr_iload_n dX7_lies_62 rfl ?_
          refine mr_if_eq (tgt := 75) dX7_lies_63 (by decide) (by omega) (fun _ => ?_) (fun h => absurd h (by decide))
          refine mr_iload_n dX7_lies_75 rfl ?_
          refine mr_if_eq (tgt := 83) dX7_lies_76 (by decide) (by omega) (fun _ => ?_) (fun h => absurd h (by decide))
          refine mr_iload dX7_lies_83 rfl ?_
          refine mr_if_eq (tgt := 92) dX7_lies_85 (by decide) (by omega) (fun _ => ?_) (fun h => absurd h (by decide))
          refine mr_iconst dX7_lies_92 ?_
          refine mr_iret rfl dX7_lies_93 ?_
          first | exact hP0 ⟨k1, k2⟩ (fun j g1 g2 => (kaS j g1 g2).mp (ka j g1 g2)) (fun j g1 g2 => (kbS j g1 g2).mp (kb j g1 g2)) w4 _ _ _ hM4 (hF1.tr (hF2.tr hF4)) | exact hP1 ⟨k1, k2⟩ (fun j g1 g2 => (kaS j g1 g2).mp (ka j g1 g2)) (fun zz => kb (fun j g1 g2 => (kbS j g1 g2).mpr (zz j g1 g2))) w4 _ _ _ hM4 (hF1.tr (hF2.tr hF4)) | exact hP2 ⟨k1, k2⟩ (fun zz => ka (fun j g1 g2 => (kaS j g1 g2).mpr (zz j g1 g2))) (fun j g1 g2 => (kbS j g1 g2).mp (kb j g1 g2)) w4 _ _ _ hM4 (hF1.tr (hF2.tr hF4)) | exact hP3 ⟨k1, k2⟩ (fun zz => ka (fun j g1 g2 => (kaS j g1 g2).mpr (zz j g1 g2))) (fun zz => kb (fun j g1 g2 => (kbS j g1 g2).mpr (zz j g1 g2))) w4 _ _ _ hM4 (hF1.tr (hF2.tr hF4))
    · intro k2
      dsimp only [Option.toList_some, Option.toList_none, List.cons_append, List.nil_append]
      refine mr_if_ne (tgt := 23) dX7_lies_18 (by decide) (by omega) (fun h => absurd h (by decide)) (fun _ => ?_)
      refine mr_iconst dX7_lies_21 ?_
      refine mr_iret rfl dX7_lies_22 ?_
      first | exact hR (fun zz => k1 zz.1) w1 hM1 hF1 | exact hR (fun zz => k2 zz.2) w1 hM1 hF1
  · intro k1
    dsimp only [Option.toList_some, Option.toList_none, List.cons_append, List.nil_append]
    refine mr_if_eq (tgt := 21) dX7_lies_10 (by decide) (by omega) (fun _ => ?_) (fun h => absurd h (by decide))
    refine mr_iconst dX7_lies_21 ?_
    refine mr_iret rfl dX7_lies_22 ?_
    first | exact hR (fun zz => k1 zz.1) w1 hM1 hF1 | exact hR (fun zz => k2 zz.2) w1 hM1 hF1
