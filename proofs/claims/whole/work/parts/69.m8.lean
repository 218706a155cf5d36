theorem mr_dt_bd {m : Int} (hm : 0 < m) (a b : Int) : 0 ≤ mr_dt m a b ∧ mr_dt m a b < m := by
  unfold mr_dt
  exact mr_em hm _
/-- a set's array so far -/
def mr_Sf (st : Nat → Int) (r : Int) (Q : Int → Prop) : Prop := ∀ i : Nat, (i : Int) < r → (st i = 1 ↔ Q i)
theorem mr_Sf_1 {st : Nat → Int} {r : Int} {Q : Int → Prop} (h : mr_Sf st r Q) (h0 : 0 ≤ r) (hq : Q r) : mr_Sf (mr_fs st r.toNat 1) (r + 1) Q := fun i hi => by
  by_cases e : i = r.toNat
  · rw [e, mr_fs_same, Int.toNat_of_nonneg h0]; exact ⟨fun _ => hq, fun _ => rfl⟩
  · rw [mr_fs_ne _ _ e]; exact h i (by omega)
theorem mr_Sf_0 {st : Nat → Int} {r : Int} {Q : Int → Prop} (h : mr_Sf st r Q) (h0 : 0 ≤ r) (hq : ¬ Q r) : mr_Sf (mr_fs st r.toNat 0) (r + 1) Q := fun i hi => by
  by_cases e : i = r.toNat
  · rw [e, mr_fs_same, Int.toNat_of_nonneg h0]; exact ⟨fun z => absurd z (by decide), fun z => absurd z hq⟩
  · rw [mr_fs_ne _ _ e]; exact h i (by omega)
theorem mr_Sf_St {M : Int} {st : Nat → Int} {Q S : Int → Prop} (h : mr_Sf st (M * M * M) Q) (h01 : ∀ r : Nat, st r = 0 ∨ st r = 1) (hQ : ∀ r : Int, 0 ≤ r → r < M * M * M → (Q r ↔ S r)) : mr_St M st S := ⟨h01, fun r hr => (h r hr).trans (hQ r (by omega) hr)⟩
set_option maxHeartbeats 4000000 in
set_option maxRecDepth 20000 in
theorem lp_X7_clear (l : Launch) (G : mr_G) {Po : Option mr_AV → mr_Wd → Prop} {w0 : mr_Wd} {th tp sz zo fr kd nb ft pl wd sm md li sd : Int} {T N R K Sn ik s1 s2 ls : Nat → Int} {t b : Int} (hMM : 1 ≤ N 0 ∧ N 0 ≤ 30) (h1N : 0 ≤ N 1 ∧ N 1 ≤ 3) (h_b : InR b) : ∀ (n : Nat) (r : Int) (st : Nat → Int) (w : mr_Wd), 0 ≤ r → r + n = N 0 * N 0 * N 0 → mr_Sf st r (fun r : Int => r = 0 ∨ (b ≠ 0 ∧ r % mr_stp N = 0)) → mr_MW w th tp sz zo fr kd nb ft pl wd sm md li sd T N R K Sn ik (st) s2 ls → mr_FM w0 w → (∀ (w' : mr_Wd) (st' : Nat → Int), mr_Sf st' (N 0 * N 0 * N 0) (fun r : Int => r = 0 ∨ (b ≠ 0 ∧ r % mr_stp N = 0)) → mr_MW w' th tp sz zo fr kd nb ft pl wd sm md li sd T N R K Sn ik (st') s2 ls → mr_FM w0 w' → mr_J l G RX7 cX7_clear 4 (some .int) 5 116 Po 69 [some (vR 18 0), some (vI t), some (vI b), none] [] w') → mr_J l G RX7 cX7_clear 4 (some .int) 5 116 Po 25 [some (vR 18 0), some (vI t), some (vI b), some (vI r)] [] w := by
  intro n
  induction n with
  | zero =>
    intro r st w h0 hn hS hM hFr hK
    have e : r = N 0 * N 0 * N 0 := by omega
    have hm3 := mr_m3 hMM
    have hm2 := mr_m2 hMM
    rw [e] at hS
    obtain ⟨h18, h19, h20, h21, h22, h23, h24, h25, h26, h27, hs1, hs2, hik⟩ := id hM
    refine mr_iload_n dX7_clear_25 rfl ?_
    refine mr_aload_n dX7_clear_26 rfl ?_
    refine mr_get dX7_clear_27 fl_X7_86 (by first | assumption | exact mr_up_same _ _ _ | (refine mr_lk ?_ (by first | assumption | decide); first | assumption | exact mr_up_same _ _ _ | (refine mr_lk ?_ (by first | assumption | decide); first | assumption | exact mr_up_same _ _ _ | (refine mr_lk ?_ (by first | assumption | decide); first | assumption | exact mr_up_same _ _ _ | (refine mr_lk ?_ (by first | assumption | decide); first | assumption | exact mr_up_same _ _ _))))) rfl ?_
    refine mr_callS (as := [_]) dX7_clear_30 (ok_X7_end_ l G) ml_X7_233 cl_X7_end_ cs_X7_end_ (by decide) rfl rfl (Nat.le_of_ble_eq_true rfl) ?_
    refine ⟨20, _, rfl, (by first | assumption | exact mr_up_same _ _ _ | (refine mr_lk ?_ (by first | assumption | decide); first | assumption | exact mr_up_same _ _ _ | (refine mr_lk ?_ (by first | assumption | decide); first | assumption | exact mr_up_same _ _ _ | (refine mr_lk ?_ (by first | assumption | decide); first | assumption | exact mr_up_same _ _ _ | (refine mr_lk ?_ (by first | assumption | decide); first | assumption | exact mr_up_same _ _ _))))), ?_⟩
    dsimp only [Option.toList_some, Option.toList_none, List.cons_append, List.nil_append]
    refine mr_icmp_ge (tgt := 69) dX7_clear_33 (by decide) ⟨by omega, by omega⟩ ⟨by omega, by omega⟩ (fun hc_33 => ?_) (fun hc_33 => absurd hc_33 (by omega))
    refine mr_weak [some (vR 18 0), some (vI t), some (vI b), none] ⟨rfl, rfl, rfl, trivial⟩ ?_
    exact hK w st hS hM hFr
  | succ n ih =>
    intro r st w h0 hn hS hM hFr hK
    have hm3 := mr_m3 hMM
    have hm2 := mr_m2 hMM
    obtain ⟨h18, h19, h20, h21, h22, h23, h24, h25, h26, h27, hs1, hs2, hik⟩ := id hM
    refine mr_iload_n dX7_clear_25 rfl ?_
    refine mr_aload_n dX7_clear_26 rfl ?_
    refine mr_get dX7_clear_27 fl_X7_86 (by first | assumption | exact mr_up_same _ _ _ | (refine mr_lk ?_ (by first | assumption | decide); first | assumption | exact mr_up_same _ _ _ | (refine mr_lk ?_ (by first | assumption | decide); first | assumption | exact mr_up_same _ _ _ | (refine mr_lk ?_ (by first | assumption | decide); first | assumption | exact mr_up_same _ _ _ | (refine mr_lk ?_ (by first | assumption | decide); first | assumption | exact mr_up_same _ _ _))))) rfl ?_
    refine mr_callS (as := [_]) dX7_clear_30 (ok_X7_end_ l G) ml_X7_233 cl_X7_end_ cs_X7_end_ (by decide) rfl rfl (Nat.le_of_ble_eq_true rfl) ?_
    refine ⟨20, _, rfl, (by first | assumption | exact mr_up_same _ _ _ | (refine mr_lk ?_ (by first | assumption | decide); first | assumption | exact mr_up_same _ _ _ | (refine mr_lk ?_ (by first | assumption | decide); first | assumption | exact mr_up_same _ _ _ | (refine mr_lk ?_ (by first | assumption | decide); first | assumption | exact mr_up_same _ _ _ | (refine mr_lk ?_ (by first | assumption | decide); first | assumption | exact mr_up_same _ _ _))))), ?_⟩
    dsimp only [Option.toList_some, Option.toList_none, List.cons_append, List.nil_append]
    refine mr_icmp_ge (tgt := 69) dX7_clear_33 (by decide) ⟨by omega, by omega⟩ ⟨by omega, by omega⟩ (fun hc_33 => absurd hc_33 (by omega)) (fun hc_33 => ?_)
    refine mr_aload_n dX7_clear_36 rfl ?_
    refine mr_get dX7_clear_37 fl_X7_102 (by first | assumption | exact mr_up_same _ _ _ | (refine mr_lk ?_ (by first | assumption | decide); first | assumption | exact mr_up_same _ _ _ | (refine mr_lk ?_ (by first | assumption | decide); first | assumption | exact mr_up_same _ _ _ | (refine mr_lk ?_ (by first | assumption | decide); first | assumption | exact mr_up_same _ _ _ | (refine mr_lk ?_ (by first | assumption | decide); first | assumption | exact mr_up_same _ _ _))))) rfl ?_
    refine mr_iload_n dX7_clear_40 rfl ?_
    refine mr_iload_n dX7_clear_41 rfl ?_
    refine mr_if_eq (tgt := 57) dX7_clear_42 (by decide) ⟨by omega, by omega⟩ (fun hc_42 => ?_) (fun hc_42 => ?_)
    · refine mr_iconst dX7_clear_57 ?_
      refine mr_goto (tgt := 62) dX7_clear_58 (by decide) ?_
      refine mr_zast dX7_clear_62 (by first | assumption | exact mr_up_same _ _ _ | (refine mr_lk ?_ (by first | assumption | decide); first | assumption | exact mr_up_same _ _ _ | (refine mr_lk ?_ (by first | assumption | decide); first | assumption | exact mr_up_same _ _ _ | (refine mr_lk ?_ (by first | assumption | decide); first | assumption | exact mr_up_same _ _ _ | (refine mr_lk ?_ (by first | assumption | decide); first | assumption | exact mr_up_same _ _ _))))) (by omega) (by omega) (by decide) (Or.inr rfl) ?_
      refine mw_a25 hM (mr_b01 (by assumption) _ (by first | exact Or.inl rfl | exact Or.inr rfl | assumption)) (fun w1 hM1 hF1 => ?_)
      obtain ⟨h18, h19, h20, h21, h22, h23, h24, h25, h26, h27, hs1, hs2, hik⟩ := id hM1
      refine mr_iinc dX7_clear_63 rfl (by decide) rfl ?_
      refine mr_goto (tgt := 25) dX7_clear_66 (by decide) ?_
      first | exact ih (r + 1) _ w1 (by omega) (by omega) (mr_Sf_1 hS h0 (Or.inl hc_42)) hM1 (hFr.tr hF1) hK | exact ih (r + 1) _ w1 (by omega) (by omega) (mr_Sf_1 hS h0 (Or.inr ⟨hc_46, ky⟩)) hM1 (hFr.tr hF1) hK | exact ih (r + 1) _ w1 (by omega) (by omega) (mr_Sf_0 hS h0 (fun zz => zz.elim (fun z => hc_42 z) (fun z => z.1 hc_46))) hM1 (hFr.tr hF1) hK | exact ih (r + 1) _ w1 (by omega) (by omega) (mr_Sf_0 hS h0 (fun zz => zz.elim (fun z => hc_42 z) (fun z => ky z.2))) hM1 (hFr.tr hF1) hK
    · refine mr_iload_n dX7_clear_45 rfl ?_
      refine mr_if_eq (tgt := 61) dX7_clear_46 (by decide) h_b (fun hc_46 => ?_) (fun hc_46 => ?_)
      · refine mr_iconst dX7_clear_61 ?_
        refine mr_zast dX7_clear_62 (by first | assumption | exact mr_up_same _ _ _ | (refine mr_lk ?_ (by first | assumption | decide); first | assumption | exact mr_up_same _ _ _ | (refine mr_lk ?_ (by first | assumption | decide); first | assumption | exact mr_up_same _ _ _ | (refine mr_lk ?_ (by first | assumption | decide); first | assumption | exact mr_up_same _ _ _ | (refine mr_lk ?_ (by first | assumption | decide); first | assumption | exact mr_up_same _ _ _))))) (by omega) (by omega) (by decide) (Or.inl rfl) ?_
        refine mw_a25 hM (mr_b01 (by assumption) _ (by first | exact Or.inl rfl | exact Or.inr rfl | assumption)) (fun w2 hM2 hF2 => ?_)
        obtain ⟨h18, h19, h20, h21, h22, h23, h24, h25, h26, h27, hs1, hs2, hik⟩ := id hM2
        refine mr_iinc dX7_clear_63 rfl (by decide) rfl ?_
        refine mr_goto (tgt := 25) dX7_clear_66 (by decide) ?_
        first | exact ih (r + 1) _ w2 (by omega) (by omega) (mr_Sf_1 hS h0 (Or.inl hc_42)) hM2 (hFr.tr hF2) hK | exact ih (r + 1) _ w2 (by omega) (by omega) (mr_Sf_1 hS h0 (Or.inr ⟨hc_46, ky⟩)) hM2 (hFr.tr hF2) hK | exact ih (r + 1) _ w2 (by omega) (by omega) (mr_Sf_0 hS h0 (fun zz => zz.elim (fun z => hc_42 z) (fun z => z.1 hc_46))) hM2 (hFr.tr hF2) hK | exact ih (r + 1) _ w2 (by omega) (by omega) (mr_Sf_0 hS h0 (fun zz => zz.elim (fun z => hc_42 z) (fun z => ky z.2))) hM2 (hFr.tr hF2) hK
      · refine mr_aload_n dX7_clear_49 rfl ?_
        refine mr_iload_n dX7_clear_50 rfl ?_
        refine mr_callV (as := [_]) dX7_clear_51 (ok_X7_isRow l G) ml_X7_236 cl_X7_isRow cv_X7_isRow (by decide) rfl rfl (Nat.le_of_ble_eq_true rfl) (by first | assumption | exact mr_up_same _ _ _ | (refine mr_lk ?_ (by first | assumption | decide); first | assumption | exact mr_up_same _ _ _ | (refine mr_lk ?_ (by first | assumption | decide); first | assumption | exact mr_up_same _ _ _ | (refine mr_lk ?_ (by first | assumption | decide); first | assumption | exact mr_up_same _ _ _ | (refine mr_lk ?_ (by first | assumption | decide); first | assumption | exact mr_up_same _ _ _))))) ?_
        refine ⟨_, _, _, _, _, _, _, _, _, _, _, _, _, _, _, _, rfl, (by first | assumption | exact mr_up_same _ _ _ | (refine mr_lk ?_ (by first | assumption | decide); first | assumption | exact mr_up_same _ _ _ | (refine mr_lk ?_ (by first | assumption | decide); first | assumption | exact mr_up_same _ _ _ | (refine mr_lk ?_ (by first | assumption | decide); first | assumption | exact mr_up_same _ _ _ | (refine mr_lk ?_ (by first | assumption | decide); first | assumption | exact mr_up_same _ _ _))))), (by first | assumption | exact mr_up_same _ _ _ | (refine mr_lk ?_ (by first | assumption | decide); first | assumption | exact mr_up_same _ _ _ | (refine mr_lk ?_ (by first | assumption | decide); first | assumption | exact mr_up_same _ _ _ | (refine mr_lk ?_ (by first | assumption | decide); first | assumption | exact mr_up_same _ _ _ | (refine mr_lk ?_ (by first | assumption | decide); first | assumption | exact mr_up_same _ _ _))))), ⟨by omega, by omega⟩, (by assumption), (by assumption), ?_, ?_⟩
        · intro ky
          dsimp only [Option.toList_some, Option.toList_none, List.cons_append, List.nil_append]
          refine mr_if_eq (tgt := 61) dX7_clear_54 (by decide) (by omega) (fun h => absurd h (by decide)) (fun _ => ?_)
          refine mr_iconst dX7_clear_57 ?_
          refine mr_goto (tgt := 62) dX7_clear_58 (by decide) ?_
          refine mr_zast dX7_clear_62 (by first | assumption | exact mr_up_same _ _ _ | (refine mr_lk ?_ (by first | assumption | decide); first | assumption | exact mr_up_same _ _ _ | (refine mr_lk ?_ (by first | assumption | decide); first | assumption | exact mr_up_same _ _ _ | (refine mr_lk ?_ (by first | assumption | decide); first | assumption | exact mr_up_same _ _ _ | (refine mr_lk ?_ (by first | assumption | decide); first | assumption | exact mr_up_same _ _ _))))) (by omega) (by omega) (by decide) (Or.inr rfl) ?_
          refine mw_a25 hM (mr_b01 (by assumption) _ (by first | exact Or.inl rfl | exact Or.inr rfl | assumption)) (fun w3 hM3 hF3 => ?_)
          obtain ⟨h18, h19, h20, h21, h22, h23, h24, h25, h26, h27, hs1, hs2, hik⟩ := id hM3
          refine mr_iinc dX7_clear_63 rfl (by decide) rfl ?_
          refine mr_goto (tgt := 25) dX7_clear_66 (by decide) ?_
          first | exact ih (r + 1) _ w3 (by omega) (by omega) (mr_Sf_1 hS h0 (Or.inl hc_42)) hM3 (hFr.tr hF3) hK | exact ih (r + 1) _ w3 (by omega) (by omega) (mr_Sf_1 hS h0 (Or.inr ⟨hc_46, ky⟩)) hM3 (hFr.tr hF3) hK | exact ih (r + 1) _ w3 (by omega) (by omega) (mr_Sf_0 hS h0 (fun zz => zz.elim (fun z => hc_42 z) (fun z => z.1 hc_46))) hM3 (hFr.tr hF3) hK | exact ih (r + 1) _ w3 (by omega) (by omega) (mr_Sf_0 hS h0 (fun zz => zz.elim (fun z => hc_42 z) (fun z => ky z.2))) hM3 (hFr.tr hF3) hK
        · intro ky
          dsimp only [Option.toList_some, Option.toList_none, List.cons_append, List.nil_append]
          refine mr_if_eq (tgt := 61) dX7_clear_54 (by decide) (by omega) (fun _ => ?_) (fun h => absurd h (by decide))
          refine mr_iconst dX7_clear_61 ?_
          refine mr_zast dX7_clear_62 (by first | assumption | exact mr_up_same _ _ _ | (refine mr_lk ?_ (by first | assumption | decide); first | assumption | exact mr_up_same _ _ _ | (refine mr_lk ?_ (by first | assumption | decide); first | assumption | exact mr_up_same _ _ _ | (refine mr_lk ?_ (by first | assumption | decide); first | assumption | exact mr_up_same _ _ _ | (refine mr_lk ?_ (by first | assumption | decide); first | assumption | exact mr_up_same _ _ _))))) (by omega) (by omega) (by decide) (Or.inl rfl) ?_
          refine mw_a25 hM (mr_b01 (by assumption) _ (by first | exact Or.inl rfl | exact Or.inr rfl | assumption)) (fun w4 hM4 hF4 => ?_)
          obtain ⟨h18, h19, h20, h21, h22, h23, h24, h25, h26, h27, hs1, hs2, hik⟩ := id hM4
          refine mr_iinc dX7_clear_63 rfl (by decide) rfl ?_
          refine mr_goto (tgt := 25) dX7_clear_66 (by decide) ?_
          first | exact ih (r + 1) _ w4 (by omega) (by omega) (mr_Sf_1 hS h0 (Or.inl hc_42)) hM4 (hFr.tr hF4) hK | exact ih (r + 1) _ w4 (by omega) (by omega) (mr_Sf_1 hS h0 (Or.inr ⟨hc_46, ky⟩)) hM4 (hFr.tr hF4) hK | exact ih (r + 1) _ w4 (by omega) (by omega) (mr_Sf_0 hS h0 (fun zz => zz.elim (fun z => hc_42 z) (fun z => z.1 hc_46))) hM4 (hFr.tr hF4) hK | exact ih (r + 1) _ w4 (by omega) (by omega) (mr_Sf_0 hS h0 (fun zz => zz.elim (fun z => hc_42 z) (fun z => ky z.2))) hM4 (hFr.tr hF4) hK
def T_X7_clear (a : List mr_AV) (w : mr_Wd) (Po : Option mr_AV → mr_Wd → Prop) : Prop := ∃ (th tp sz zo fr kd nb ft pl wd sm md li sd : Int) (T N R K Sn ik s1 s2 ls : Nat → Int) (W : Nat) (L : Int → mr_V → Prop) (F : Nat → mr_V) (Lt : mr_V → Prop) (t b : Int), a = [vR 18 0, vI t, vI b] ∧ mr_MW w th tp sz zo fr kd nb ft pl wd sm md li sd T N R K Sn ik s1 s2 ls ∧ mr_NG N W L ∧ (0 ≤ sm ∧ sm ≤ 8) ∧ InR t ∧ InR b ∧ ((0 < N 0 ∧ 0 ≤ t ∧ t ≤ 3) → mr_Fo (N 0) W F Lt) ∧ ((0 < N 0 ∧ 0 ≤ t ∧ t ≤ 3) → (∀ r : Int, 0 ≤ r → r < N 0 * N 0 * N 0 → ((fun r : Int => r = 0 ∨ (b ≠ 0 ∧ r % mr_stp N = 0)) r ↔ mr_S (N 0) Lt r))) ∧ ((0 < N 0 ∧ 0 ≤ t ∧ t ≤ 3) → (∀ (w' : mr_Wd) (Sn' st' li' s2' : Nat → Int) (sm' : Int) (n : Nat), mr_snr N Sn sm Sn' sm' → mr_Lp (N 0) st' li' n (mr_S (N 0) Lt) → mr_MW w' (0) tp sz zo fr kd nb ft pl wd (sm') md ((n : Int)) sd T (mr_kf (N 0) N t F) R K (Sn') ik (st') (s2') (li') → mr_FM w w' → Po (some (vI n)) w')) ∧ (¬ (0 < N 0 ∧ 0 ≤ t ∧ t ≤ 3) → (∀ w' : mr_Wd, mr_MW w' (0) tp sz zo fr kd nb ft pl wd sm md li sd T N R K Sn ik s1 s2 ls → mr_FM w w' → Po (some (vI (-1))) w'))
set_option maxHeartbeats 4000000 in
set_option maxRecDepth 20000 in
theorem ok_X7_clear (l : Launch) (G : mr_G) : mr_Ok l G yX7_clear cX7_clear 4 (some .int) 5 116 T_X7_clear := by
  refine mr_Ok.of (by decide +kernel) ?_
  rintro a w Po ⟨th, tp, sz, zo, fr, kd, nb, ft, pl, wd, sm, md, li, sd, T, N, R, K, Sn, ik, s1, s2, ls, W, L, F, Lt, t, b, rfl, hM, ⟨hG0, hG1, hG14, hGW⟩, hsm, h_t, h_b, hFoC, hQC, hP, hQ⟩
  refine ⟨Nat.le_of_ble_eq_true rfl, ?_⟩
  show mr_J l G RX7 cX7_clear 4 (some .int) 5 116 Po 0 [some (vR 18 0), some (vI t), some (vI b), none] [] w
  obtain ⟨h18, h19, h20, h21, h22, h23, h24, h25, h26, h27, hs1, hs2, hik⟩ := id hM
  refine mr_aload_n dX7_clear_0 rfl ?_
  refine mr_iconst dX7_clear_1 ?_
  refine mr_put dX7_clear_2 fl_X7_1 pf_X7_0 rfl rfl (by first | assumption | exact mr_up_same _ _ _ | (refine mr_lk ?_ (by first | assumption | decide); first | assumption | exact mr_up_same _ _ _ | (refine mr_lk ?_ (by first | assumption | decide); first | assumption | exact mr_up_same _ _ _ | (refine mr_lk ?_ (by first | assumption | decide); first | assumption | exact mr_up_same _ _ _ | (refine mr_lk ?_ (by first | assumption | decide); first | assumption | exact mr_up_same _ _ _))))) (Nat.le_of_ble_eq_true rfl) ?_
  refine mw_p0 hM (fun w1 hM1 hF1 => ?_)
  obtain ⟨h18, h19, h20, h21, h22, h23, h24, h25, h26, h27, hs1, hs2, hik⟩ := id hM1
  refine mr_aload_n dX7_clear_5 rfl ?_
  refine mr_iload_n dX7_clear_6 rfl ?_
  refine mr_callV (as := [_]) dX7_clear_7 (ok_X7_isModuleAt l G) ml_X7_199 cl_X7_isModuleAt cv_X7_isModuleAt (by decide) rfl rfl (Nat.le_of_ble_eq_true rfl) (by first | assumption | exact mr_up_same _ _ _ | (refine mr_lk ?_ (by first | assumption | decide); first | assumption | exact mr_up_same _ _ _ | (refine mr_lk ?_ (by first | assumption | decide); first | assumption | exact mr_up_same _ _ _ | (refine mr_lk ?_ (by first | assumption | decide); first | assumption | exact mr_up_same _ _ _ | (refine mr_lk ?_ (by first | assumption | decide); first | assumption | exact mr_up_same _ _ _))))) ?_
  refine ⟨_, _, _, _, _, _, _, _, _, _, _, _, _, _, _, _, rfl, (by first | assumption | exact mr_up_same _ _ _ | (refine mr_lk ?_ (by first | assumption | decide); first | assumption | exact mr_up_same _ _ _ | (refine mr_lk ?_ (by first | assumption | decide); first | assumption | exact mr_up_same _ _ _ | (refine mr_lk ?_ (by first | assumption | decide); first | assumption | exact mr_up_same _ _ _ | (refine mr_lk ?_ (by first | assumption | decide); first | assumption | exact mr_up_same _ _ _))))), (by first | assumption | exact mr_up_same _ _ _ | (refine mr_lk ?_ (by first | assumption | decide); first | assumption | exact mr_up_same _ _ _ | (refine mr_lk ?_ (by first | assumption | decide); first | assumption | exact mr_up_same _ _ _ | (refine mr_lk ?_ (by first | assumption | decide); first | assumption | exact mr_up_same _ _ _ | (refine mr_lk ?_ (by first | assumption | decide); first | assumption | exact mr_up_same _ _ _))))), h_t, hG0, ?_, ?_⟩
  · intro k1
    dsimp only [Option.toList_some, Option.toList_none, List.cons_append, List.nil_append]
    refine mr_if_ne (tgt := 15) dX7_clear_10 (by decide) (by omega) (fun _ => ?_) (fun h => absurd h (by decide))
    obtain ⟨e0, e1, hM0, hW0, hFN, hEQ⟩ := hGW (by omega)
    have hMM : 1 ≤ N 0 ∧ N 0 ≤ 30 := ⟨by omega, by omega⟩
    have hm3 := mr_m3 hMM
    have hm2 := mr_m2 hMM
    refine mr_aload_n dX7_clear_15 rfl ?_
    refine mr_aload_n dX7_clear_16 rfl ?_
    refine mr_get dX7_clear_17 fl_X7_102 (by first | assumption | exact mr_up_same _ _ _ | (refine mr_lk ?_ (by first | assumption | decide); first | assumption | exact mr_up_same _ _ _ | (refine mr_lk ?_ (by first | assumption | decide); first | assumption | exact mr_up_same _ _ _ | (refine mr_lk ?_ (by first | assumption | decide); first | assumption | exact mr_up_same _ _ _ | (refine mr_lk ?_ (by first | assumption | decide); first | assumption | exact mr_up_same _ _ _))))) rfl ?_
    refine mr_callV (as := [_]) dX7_clear_20 (ok_X7_clears l G) ml_X7_187 cl_X7_clears cv_X7_clears (by decide) rfl rfl (Nat.le_of_ble_eq_true rfl) (by first | assumption | exact mr_up_same _ _ _ | (refine mr_lk ?_ (by first | assumption | decide); first | assumption | exact mr_up_same _ _ _ | (refine mr_lk ?_ (by first | assumption | decide); first | assumption | exact mr_up_same _ _ _ | (refine mr_lk ?_ (by first | assumption | decide); first | assumption | exact mr_up_same _ _ _ | (refine mr_lk ?_ (by first | assumption | decide); first | assumption | exact mr_up_same _ _ _))))) ?_
    refine ⟨_, _, _, _, _, _, _, _, _, _, _, _, _, _, 25, _, _, rfl, (by decide), (by decide), (by first | assumption | exact mr_up_same _ _ _ | (refine mr_lk ?_ (by first | assumption | decide); first | assumption | exact mr_up_same _ _ _ | (refine mr_lk ?_ (by first | assumption | decide); first | assumption | exact mr_up_same _ _ _ | (refine mr_lk ?_ (by first | assumption | decide); first | assumption | exact mr_up_same _ _ _ | (refine mr_lk ?_ (by first | assumption | decide); first | assumption | exact mr_up_same _ _ _))))), (by first | assumption | exact mr_up_same _ _ _ | (refine mr_lk ?_ (by first | assumption | decide); first | assumption | exact mr_up_same _ _ _ | (refine mr_lk ?_ (by first | assumption | decide); first | assumption | exact mr_up_same _ _ _ | (refine mr_lk ?_ (by first | assumption | decide); first | assumption | exact mr_up_same _ _ _ | (refine mr_lk ?_ (by first | assumption | decide); first | assumption | exact mr_up_same _ _ _))))), (by first | assumption | exact mr_up_same _ _ _ | (refine mr_lk ?_ (by first | assumption | decide); first | assumption | exact mr_up_same _ _ _ | (refine mr_lk ?_ (by first | assumption | decide); first | assumption | exact mr_up_same _ _ _ | (refine mr_lk ?_ (by first | assumption | decide); first | assumption | exact mr_up_same _ _ _ | (refine mr_lk ?_ (by first | assumption | decide); first | assumption | exact mr_up_same _ _ _))))), ?_⟩
    have hM2 : mr_MW (mr_up (mr_up (mr_up w1 25 (eA 1 27000 (fun r : Nat => if r = 0 then 1 else 0))) 27 (eA 0 27000 (mr_fs ls 0 0))) 18 (eMo (0) tp sz zo fr kd nb ft pl wd sm md (1) sd)) (0) tp sz zo fr kd nb ft pl wd sm md (1) sd T N R K Sn ik (fun r : Nat => if r = 0 then 1 else 0) s2 (mr_fs ls 0 0) := ⟨rfl, h19, h20, h21, h22, h23, h24, rfl, h26, rfl, (fun r => by by_cases e : r = 0 <;> simp [e]), hs2, hik⟩
    have hF2 : mr_FM w1 (mr_up (mr_up (mr_up w1 25 (eA 1 27000 (fun r : Nat => if r = 0 then 1 else 0))) 27 (eA 0 27000 (mr_fs ls 0 0))) 18 (eMo (0) tp sz zo fr kd nb ft pl wd sm md (1) sd)) := (((mr_FM.rf _).up _ (by decide)).up _ (by decide)).up _ (by decide)
    generalize (mr_up (mr_up (mr_up w1 25 (eA 1 27000 (fun r : Nat => if r = 0 then 1 else 0))) 27 (eA 0 27000 (mr_fs ls 0 0))) 18 (eMo (0) tp sz zo fr kd nb ft pl wd sm md (1) sd)) = w2 at hM2 hF2 ⊢
    obtain ⟨h18, h19, h20, h21, h22, h23, h24, h25, h26, h27, hs1, hs2, hik⟩ := id hM2
    dsimp only [Option.toList_some, Option.toList_none, List.cons_append, List.nil_append]
    refine mr_iconst dX7_clear_23 ?_
    refine mr_istore_n dX7_clear_24 rfl (by decide) ?_
    have hFo := hFoC k1
    refine lp_X7_clear l G (N := N) (s1 := s1) (w0 := w2) (t := t) (b := b) hMM hG1 h_b (N 0 * N 0 * N 0).toNat 0 _ w2 (Int.le_refl 0) (by omega) (fun i hi => by omega) hM2 (mr_FM.rf w2) (fun w3 st3 hS3 hM3 hF3 => ?_)
    obtain ⟨h18, h19, h20, h21, h22, h23, h24, h25, h26, h27, hs1, hs2, hik⟩ := id hM3
    have hSS := mr_Sf_St hS3 hs1 (hQC k1)
    refine mr_aload_n dX7_clear_69 rfl ?_
    refine mr_aload_n dX7_clear_70 rfl ?_
    refine mr_get dX7_clear_71 fl_X7_102 (by first | assumption | exact mr_up_same _ _ _ | (refine mr_lk ?_ (by first | assumption | decide); first | assumption | exact mr_up_same _ _ _ | (refine mr_lk ?_ (by first | assumption | decide); first | assumption | exact mr_up_same _ _ _ | (refine mr_lk ?_ (by first | assumption | decide); first | assumption | exact mr_up_same _ _ _ | (refine mr_lk ?_ (by first | assumption | decide); first | assumption | exact mr_up_same _ _ _))))) rfl ?_
    refine mr_iload_n dX7_clear_74 rfl ?_
    refine mr_callV (as := [_, _]) dX7_clear_75 (ok_X7_comes l G) ml_X7_226 cl_X7_comes cv_X7_comes (by decide) rfl rfl (Nat.le_of_ble_eq_true rfl) (by first | assumption | exact mr_up_same _ _ _ | (refine mr_lk ?_ (by first | assumption | decide); first | assumption | exact mr_up_same _ _ _ | (refine mr_lk ?_ (by first | assumption | decide); first | assumption | exact mr_up_same _ _ _ | (refine mr_lk ?_ (by first | assumption | decide); first | assumption | exact mr_up_same _ _ _ | (refine mr_lk ?_ (by first | assumption | decide); first | assumption | exact mr_up_same _ _ _))))) ?_
    refine ⟨_, _, _, _, _, _, _, _, _, _, _, _, _, _, _, _, _, _, _, _, _, _, _, 25, t, W, F, Lt, rfl, hM3, hsm, hMM, ⟨by omega, by omega⟩, hFo, Or.inl ⟨rfl, hSS⟩, (fun w4 Sn4 st4 li4 sm4 n4 hsn4 hp4 hM4 hF4 => ?_)⟩
    obtain ⟨h18, h19, h20, h21, h22, h23, h24, h25, h26, h27, hs1, hs2, hik⟩ := id hM4
    dsimp only [Option.toList_some, Option.toList_none, List.cons_append, List.nil_append]
    refine mr_iret rfl dX7_clear_78 ?_
    exact hP k1 w4 Sn4 st4 li4 _ sm4 n4 hsn4 hp4 hM4 (hF1.tr (hF2.tr (hF3.tr hF4)))
  · intro k1
    dsimp only [Option.toList_some, Option.toList_none, List.cons_append, List.nil_append]
    refine mr_if_ne (tgt := 15) dX7_clear_10 (by decide) (by omega) (fun h => absurd h (by decide)) (fun _ => ?_)
    refine mr_iconst dX7_clear_13 ?_
    refine mr_iret rfl dX7_clear_14 ?_
    exact hQ k1 w1 hM1 hF1
def T_X7_isUpright (a : List mr_AV) (w : mr_Wd) (Po : Option mr_AV → mr_Wd → Prop) : Prop := ∃ (th tp sz zo fr kd nb ft pl wd sm md li sd : Int) (N : Nat → Int) (x f : Int), a = [vR 18 0, vI x, vI f] ∧ w 18 = eMo th tp sz zo fr kd nb ft pl wd sm md li sd ∧ w 20 = eA 0 21 N ∧ (0 ≤ x ∧ x < N 0 * N 0 * N 0) ∧ (0 ≤ f ∧ f + 3 ≤ 21) ∧ (1 ≤ N 0 ∧ N 0 ≤ 30) ∧ (∀ j : Int, 0 ≤ j → j < 3 → 0 ≤ N (f + j).toNat ∧ N (f + j).toNat < N 0 * N 0 * N 0) ∧ ((mr_dt (N 0) (N (f + 0).toNat) x = 0 ∧ mr_dt (N 0) (N (f + (0 + 1)).toNat) x = 0 ∧ mr_dt (N 0) (N (f + (0 + 1 + 1)).toNat) x = 0) → Po (some (vI 1)) w) ∧ (¬ (mr_dt (N 0) (N (f + 0).toNat) x = 0 ∧ mr_dt (N 0) (N (f + (0 + 1)).toNat) x = 0 ∧ mr_dt (N 0) (N (f + (0 + 1 + 1)).toNat) x = 0) → Po (some (vI 0)) w)
set_option maxHeartbeats 4000000 in
set_option maxRecDepth 20000 in
theorem ok_X7_isUpright (l : Launch) (G : mr_G) : mr_Ok l G yX7_isUpright cX7_isUpright 4 (some .boolean) 1 22 T_X7_isUpright := by
  refine mr_Ok.of (by decide +kernel) ?_
  rintro a w Po ⟨th, tp, sz, zo, fr, kd, nb, ft, pl, wd, sm, md, li, sd, N, x, f, rfl, h18, h20, hx, hf, hMM, hb, hP, hQ⟩
  refine ⟨Nat.le_of_ble_eq_true rfl, ?_⟩
  show mr_J l G RX7 cX7_isUpright 4 (some .boolean) 1 22 Po 0 [some (vR 18 0), some (vI x), some (vI f), none] [] w
  have b0 := hb 0 (by decide) (by decide)
  have b1 := hb (0 + 1) (by decide) (by decide)
  have b2 := hb (0 + 1 + 1) (by decide) (by decide)
  have d0 := mr_dt_bd (m := N 0) (by omega) (N (f + 0).toNat) x
  have d1 := mr_dt_bd (m := N 0) (by omega) (N (f + (0 + 1)).toNat) x
  have d2 := mr_dt_bd (m := N 0) (by omega) (N (f + (0 + 1 + 1)).toNat) x
  refine mr_iconst dX7_isUpright_0 ?_
  refine mr_istore_n dX7_isUpright_1 rfl (by decide) ?_
  refine mr_iload_n dX7_isUpright_2 rfl ?_
  refine mr_iconst dX7_isUpright_3 ?_
  refine mr_icmp_ge (tgt := 34) dX7_isUpright_4 (by decide) (by omega) (by omega) (fun h => absurd h (by decide)) (fun _ => ?_)
  refine mr_aload_n dX7_isUpright_7 rfl ?_
  refine mr_get dX7_isUpright_8 fl_X7_86 (by first | assumption | exact mr_up_same _ _ _ | (refine mr_lk ?_ (by first | assumption | decide); first | assumption | exact mr_up_same _ _ _ | (refine mr_lk ?_ (by first | assumption | decide); first | assumption | exact mr_up_same _ _ _ | (refine mr_lk ?_ (by first | assumption | decide); first | assumption | exact mr_up_same _ _ _ | (refine mr_lk ?_ (by first | assumption | decide); first | assumption | exact mr_up_same _ _ _))))) rfl ?_
  refine mr_iload_n dX7_isUpright_11 rfl ?_
  refine mr_iload_n dX7_isUpright_12 rfl ?_
  refine mr_iadd dX7_isUpright_13 ?_
  refine mr_iald dX7_isUpright_14 (by first | assumption | exact mr_up_same _ _ _ | (refine mr_lk ?_ (by first | assumption | decide); first | assumption | exact mr_up_same _ _ _ | (refine mr_lk ?_ (by first | assumption | decide); first | assumption | exact mr_up_same _ _ _ | (refine mr_lk ?_ (by first | assumption | decide); first | assumption | exact mr_up_same _ _ _ | (refine mr_lk ?_ (by first | assumption | decide); first | assumption | exact mr_up_same _ _ _))))) (by omega) (by omega) (by decide) ?_
  refine mr_iload_n dX7_isUpright_15 rfl ?_
  refine mr_aload_n dX7_isUpright_16 rfl ?_
  refine mr_callV (as := []) dX7_isUpright_17 (ok_X7_by l G) ml_X7_195 cl_X7_by cv_X7_by (by decide) rfl rfl (Nat.le_of_ble_eq_true rfl) (by first | assumption | exact mr_up_same _ _ _ | (refine mr_lk ?_ (by first | assumption | decide); first | assumption | exact mr_up_same _ _ _ | (refine mr_lk ?_ (by first | assumption | decide); first | assumption | exact mr_up_same _ _ _ | (refine mr_lk ?_ (by first | assumption | decide); first | assumption | exact mr_up_same _ _ _ | (refine mr_lk ?_ (by first | assumption | decide); first | assumption | exact mr_up_same _ _ _))))) ?_
  refine ⟨_, _, _, _, _, _, _, _, _, _, _, _, _, _, _, rfl, (by first | assumption | exact mr_up_same _ _ _ | (refine mr_lk ?_ (by first | assumption | decide); first | assumption | exact mr_up_same _ _ _ | (refine mr_lk ?_ (by first | assumption | decide); first | assumption | exact mr_up_same _ _ _ | (refine mr_lk ?_ (by first | assumption | decide); first | assumption | exact mr_up_same _ _ _ | (refine mr_lk ?_ (by first | assumption | decide); first | assumption | exact mr_up_same _ _ _))))), (by first | assumption | exact mr_up_same _ _ _ | (refine mr_lk ?_ (by first | assumption | decide); first | assumption | exact mr_up_same _ _ _ | (refine mr_lk ?_ (by first | assumption | decide); first | assumption | exact mr_up_same _ _ _ | (refine mr_lk ?_ (by first | assumption | decide); first | assumption | exact mr_up_same _ _ _ | (refine mr_lk ?_ (by first | assumption | decide); first | assumption | exact mr_up_same _ _ _))))), ?_⟩
  dsimp only [Option.toList_some, Option.toList_none, List.cons_append, List.nil_append]
  refine mr_callS (as := [_, _, _]) dX7_isUpright_20 (ok_X7_dot l G) ml_X7_239 cl_X7_dot cs_X7_dot (by decide) rfl rfl (Nat.le_of_ble_eq_true rfl) ?_
  refine ⟨_, _, _, rfl, (by omega), hx, hMM, ?_⟩
  dsimp only [Option.toList_some, Option.toList_none, List.cons_append, List.nil_append]
  refine mr_if_eq (tgt := 28) dX7_isUpright_23 (by decide) ⟨by omega, by omega⟩ (fun hz1 => ?_) (fun hz1 => ?_)
  · refine mr_iinc dX7_isUpright_28 rfl (by decide) rfl ?_
    refine mr_goto (tgt := 2) dX7_isUpright_31 (by decide) ?_
    refine mr_iload_n dX7_isUpright_2 rfl ?_
    refine mr_iconst dX7_isUpright_3 ?_
    refine mr_icmp_ge (tgt := 34) dX7_isUpright_4 (by decide) (by omega) (by omega) (fun h => absurd h (by decide)) (fun _ => ?_)
    refine mr_aload_n dX7_isUpright_7 rfl ?_
    refine mr_get dX7_isUpright_8 fl_X7_86 (by first | assumption | exact mr_up_same _ _ _ | (refine mr_lk ?_ (by first | assumption | decide); first | assumption | exact mr_up_same _ _ _ | (refine mr_lk ?_ (by first | assumption | decide); first | assumption | exact mr_up_same _ _ _ | (refine mr_lk ?_ (by first | assumption | decide); first | assumption | exact mr_up_same _ _ _ | (refine mr_lk ?_ (by first | assumption | decide); first | assumption | exact mr_up_same _ _ _))))) rfl ?_
    refine mr_iload_n dX7_isUpright_11 rfl ?_
    refine mr_iload_n dX7_isUpright_12 rfl ?_
    refine mr_iadd dX7_isUpright_13 ?_
    refine mr_iald dX7_isUpright_14 (by first | assumption | exact mr_up_same _ _ _ | (refine mr_lk ?_ (by first | assumption | decide); first | assumption | exact mr_up_same _ _ _ | (refine mr_lk ?_ (by first | assumption | decide); first | assumption | exact mr_up_same _ _ _ | (refine mr_lk ?_ (by first | assumption | decide); first | assumption | exact mr_up_same _ _ _ | (refine mr_lk ?_ (by first | assumption | decide); first | assumption | exact mr_up_same _ _ _))))) (by omega) (by omega) (by decide) ?_
    refine mr_iload_n dX7_isUpright_15 rfl ?_
    refine mr_aload_n dX7_isUpright_16 rfl ?_
    refine mr_callV (as := []) dX7_isUpright_17 (ok_X7_by l G) ml_X7_195 cl_X7_by cv_X7_by (by decide) rfl rfl (Nat.le_of_ble_eq_true rfl) (by first | assumption | exact mr_up_same _ _ _ | (refine mr_lk ?_ (by first | assumption | decide); first | assumption | exact mr_up_same _ _ _ | (refine mr_lk ?_ (by first | assumption | decide); first | assumption | exact mr_up_same _ _ _ | (refine mr_lk ?_ (by first | assumption | decide); first | assumption | exact mr_up_same _ _ _ | (refine mr_lk ?_ (by first | assumption | decide); first | assumption | exact mr_up_same _ _ _))))) ?_
    refine ⟨_, _, _, _, _, _, _, _, _, _, _, _, _, _, _, rfl, (by first | assumption | exact mr_up_same _ _ _ | (refine mr_lk ?_ (by first | assumption | decide); first | assumption | exact mr_up_same _ _ _ | (refine mr_lk ?_ (by first | assumption | decide); first | assumption | exact mr_up_same _ _ _ | (refine mr_lk ?_ (by first | assumption | decide); first | assumption | exact mr_up_same _ _ _ | (refine mr_lk ?_ (by first | assumption | decide); first | assumption | exact mr_up_same _ _ _))))), (by first | assumption | exact mr_up_same _ _ _ | (refine mr_lk ?_ (by first | assumption | decide); first | assumption | exact mr_up_same _ _ _ | (refine mr_lk ?_ (by first | assumption | decide); first | assumption | exact mr_up_same _ _ _ | (refine mr_lk ?_ (by first | assumption | decide); first | assumption | exact mr_up_same _ _ _ | (refine mr_lk ?_ (by first | assumption | decide); first | assumption | exact mr_up_same _ _ _))))), ?_⟩
    dsimp only [Option.toList_some, Option.toList_none, List.cons_append, List.nil_append]
    refine mr_callS (as := [_, _, _]) dX7_isUpright_20 (ok_X7_dot l G) ml_X7_239 cl_X7_dot cs_X7_dot (by decide) rfl rfl (Nat.le_of_ble_eq_true rfl) ?_
    refine ⟨_, _, _, rfl, (by omega), hx, hMM, ?_⟩
    dsimp only [Option.toList_some, Option.toList_none, List.cons_append, List.nil_append]
    refine mr_if_eq (tgt := 28) dX7_isUpright_23 (by decide) ⟨by omega, by omega⟩ (fun hz2 => ?_) (fun hz2 => ?_)
    · refine mr_iinc dX7_isUpright_28 rfl (by decide) rfl ?_
      refine mr_goto (tgt := 2) dX7_isUpright_31 (by decide) ?_
      refine mr_iload_n dX7_isUpright_2 rfl ?_
      refine mr_iconst dX7_isUpright_3 ?_
      refine mr_icmp_ge (tgt := 34) dX7_isUpright_4 (by decide) (by omega) (by omega) (fun h => absurd h (by decide)) (fun _ => ?_)
      refine mr_aload_n dX7_isUpright_7 rfl ?_
      refine mr_get dX7_isUpright_8 fl_X7_86 (by first | assumption | exact mr_up_same _ _ _ | (refine mr_lk ?_ (by first | assumption | decide); first | assumption | exact mr_up_same _ _ _ | (refine mr_lk ?_ (by first | assumption | decide); first | assumption | exact mr_up_same _ _ _ | (refine mr_lk ?_ (by first | assumption | decide); first | assumption | exact mr_up_same _ _ _ | (refine mr_lk ?_ (by first | assumption | decide); first | assumption | exact mr_up_same _ _ _))))) rfl ?_
      refine mr_iload_n dX7_isUpright_11 rfl ?_
      refine mr_iload_n dX7_isUpright_12 rfl ?_
      refine mr_iadd dX7_isUpright_13 ?_
      refine mr_iald dX7_isUpright_14 (by first | assumption | exact mr_up_same _ _ _ | (refine mr_lk ?_ (by first | assumption | decide); first | assumption | exact mr_up_same _ _ _ | (refine mr_lk ?_ (by first | assumption | decide); first | assumption | exact mr_up_same _ _ _ | (refine mr_lk ?_ (by first | assumption | decide); first | assumption | exact mr_up_same _ _ _ | (refine mr_lk ?_ (by first | assumption | decide); first | assumption | exact mr_up_same _ _ _))))) (by omega) (by omega) (by decide) ?_
      refine mr_iload_n dX7_isUpright_15 rfl ?_
      refine mr_aload_n dX7_isUpright_16 rfl ?_
      refine mr_callV (as := []) dX7_isUpright_17 (ok_X7_by l G) ml_X7_195 cl_X7_by cv_X7_by (by decide) rfl rfl (Nat.le_of_ble_eq_true rfl) (by first | assumption | exact mr_up_same _ _ _ | (refine mr_lk ?_ (by first | assumption | decide); first | assumption | exact mr_up_same _ _ _ | (refine mr_lk ?_ (by first | assumption | decide); first | assumption | exact mr_up_same _ _ _ | (refine mr_lk ?_ (by first | assumption | decide); first | assumption | exact mr_up_same _ _ _ | (refine mr_lk ?_ (by first | assumption | decide); first | assumption | exact mr_up_same _ _ _))))) ?_
      refine ⟨_, _, _, _, _, _, _, _, _, _, _, _, _, _, _, rfl, (by first | assumption | exact mr_up_same _ _ _ | (refine mr_lk ?_ (by first | assumption | decide); first | assumption | exact mr_up_same _ _ _ | (refine mr_lk ?_ (by first | assumption | decide); first | assumption | exact mr_up_same _ _ _ | (refine mr_lk ?_ (by first | assumption | decide); first | assumption | exact mr_up_same _ _ _ | (refine mr_lk ?_ (by first | assumption | decide); first | assumption | exact mr_up_same _ _ _))))), (by first | assumption | exact mr_up_same _ _ _ | (refine mr_lk ?_ (by first | assumption | decide); first | assumption | exact mr_up_same _ _ _ | (refine mr_lk ?_ (by first | assumption | decide); first | assumption | exact mr_up_same _ _ _ | (refine mr_lk ?_ (by first | assumption | decide); first | assumption | exact mr_up_same _ _ _ | (refine mr_lk ?_ (by first | assumption | decide); first | assumption | exact mr_up_same _ _ _))))), ?_⟩
      dsimp only [Option.toList_some, Option.toList_none, List.cons_append, List.nil_append]
      refine mr_callS (as := [_, _, _]) dX7_isUpright_20 (ok_X7_dot l G) ml_X7_239 cl_X7_dot cs_X7_dot (by decide) rfl rfl (Nat.le_of_ble_eq_true rfl) ?_
      refine ⟨_, _, _, rfl, (by omega), hx, hMM, ?_⟩
      dsimp only [Option.toList_some, Option.toList_none, List.cons_append, List.nil_append]
      refine mr_if_eq (tgt := 28) dX7_isUpright_23 (by decide) ⟨by omega, by omega⟩ (fun hz3 => ?_) (fun hz3 => ?_)
      · refine mr_iinc dX7_isUpright_28 rfl (by decide) rfl ?_
        refine mr_goto (tgt := 2) dX7_isUpright_31 (by decide) ?_
        refine mr_iload_n dX7_isUpright_2 rfl ?_
        refine mr_iconst dX7_isUpright_3 ?_
        refine mr_icmp_ge (tgt := 34) dX7_isUpright_4 (by decide) (by omega) (by omega) (fun _ => ?_) (fun h => absurd h (by decide))
        refine mr_iconst dX7_isUpright_34 ?_
        refine mr_zret rfl (Or.inr rfl) dX7_isUpright_35 ?_
        first | exact hQ (fun zz => by omega) | exact hP ⟨by omega, by omega, by omega⟩
      · refine mr_iconst dX7_isUpright_26 ?_
        refine mr_zret rfl (Or.inl rfl) dX7_isUpright_27 ?_
        first | exact hQ (fun zz => by omega) | exact hP ⟨by omega, by omega, by omega⟩
    · refine mr_iconst dX7_isUpright_26 ?_
      refine mr_zret rfl (Or.inl rfl) dX7_isUpright_27 ?_
      first | exact hQ (fun zz => by omega) | exact hP ⟨by omega, by omega, by omega⟩
  · refine mr_iconst dX7_isUpright_26 ?_
    refine mr_zret rfl (Or.inl rfl) dX7_isUpright_27 ?_
    first | exact hQ (fun zz => by omega) | exact hP ⟨by omega, by omega, by omega⟩
set_option maxHeartbeats 4000000 in
set_option maxRecDepth 20000 in
theorem lp_X7_comesUpright (l : Launch) (G : mr_G) {Po : Option mr_AV → mr_Wd → Prop} {w0 : mr_Wd} {th tp sz zo fr kd nb ft pl wd sm md li sd : Int} {T N R K Sn ik s1 s2 ls : Nat → Int} {f t : Int} (hMM : 1 ≤ N 0 ∧ N 0 ≤ 30) (h1N : 0 ≤ N 1 ∧ N 1 ≤ 3) (hf : 0 ≤ f ∧ f + 3 ≤ 21) (hb : ∀ j : Int, 0 ≤ j → j < 3 → 0 ≤ N (f + j).toNat ∧ N (f + j).toNat < N 0 * N 0 * N 0) : ∀ (n : Nat) (r : Int) (st : Nat → Int) (w : mr_Wd), 0 ≤ r → r + n = N 0 * N 0 * N 0 → mr_Sf st r (fun r : Int => r % mr_stp N = 0 ∧ (mr_dt (N 0) (N (f + 0).toNat) r = 0 ∧ mr_dt (N 0) (N (f + (0 + 1)).toNat) r = 0 ∧ mr_dt (N 0) (N (f + (0 + 1 + 1)).toNat) r = 0)) → mr_MW w th tp sz zo fr kd nb ft pl wd sm md li sd T N R K Sn ik (st) s2 ls → mr_FM w0 w → (∀ (w' : mr_Wd) (st' : Nat → Int), mr_Sf st' (N 0 * N 0 * N 0) (fun r : Int => r % mr_stp N = 0 ∧ (mr_dt (N 0) (N (f + 0).toNat) r = 0 ∧ mr_dt (N 0) (N (f + (0 + 1)).toNat) r = 0 ∧ mr_dt (N 0) (N (f + (0 + 1 + 1)).toNat) r = 0)) → mr_MW w' th tp sz zo fr kd nb ft pl wd sm md li sd T N R K Sn ik (st') s2 ls → mr_FM w0 w' → mr_J l G RX7 cX7_comesUpright 4 (some .int) 5 116 Po 47 [some (vR 18 0), some (vI f), some (vI t), none] [] w') → mr_J l G RX7 cX7_comesUpright 4 (some .int) 5 116 Po 2 [some (vR 18 0), some (vI f), some (vI t), some (vI r)] [] w := by
  intro n
  induction n with
  | zero =>
    intro r st w h0 hn hS hM hFr hK
    have e : r = N 0 * N 0 * N 0 := by omega
    have hm3 := mr_m3 hMM
    have hm2 := mr_m2 hMM
    rw [e] at hS
    obtain ⟨h18, h19, h20, h21, h22, h23, h24, h25, h26, h27, hs1, hs2, hik⟩ := id hM
    refine mr_iload_n dX7_comesUpright_2 rfl ?_
    refine mr_aload_n dX7_comesUpright_3 rfl ?_
    refine mr_get dX7_comesUpright_4 fl_X7_86 (by first | assumption | exact mr_up_same _ _ _ | (refine mr_lk ?_ (by first | assumption | decide); first | assumption | exact mr_up_same _ _ _ | (refine mr_lk ?_ (by first | assumption | decide); first | assumption | exact mr_up_same _ _ _ | (refine mr_lk ?_ (by first | assumption | decide); first | assumption | exact mr_up_same _ _ _ | (refine mr_lk ?_ (by first | assumption | decide); first | assumption | exact mr_up_same _ _ _))))) rfl ?_
    refine mr_callS (as := [_]) dX7_comesUpright_7 (ok_X7_end_ l G) ml_X7_233 cl_X7_end_ cs_X7_end_ (by decide) rfl rfl (Nat.le_of_ble_eq_true rfl) ?_
    refine ⟨20, _, rfl, (by first | assumption | exact mr_up_same _ _ _ | (refine mr_lk ?_ (by first | assumption | decide); first | assumption | exact mr_up_same _ _ _ | (refine mr_lk ?_ (by first | assumption | decide); first | assumption | exact mr_up_same _ _ _ | (refine mr_lk ?_ (by first | assumption | decide); first | assumption | exact mr_up_same _ _ _ | (refine mr_lk ?_ (by first | assumption | decide); first | assumption | exact mr_up_same _ _ _))))), ?_⟩
    dsimp only [Option.toList_some, Option.toList_none, List.cons_append, List.nil_append]
    refine mr_icmp_ge (tgt := 47) dX7_comesUpright_10 (by decide) ⟨by omega, by omega⟩ ⟨by omega, by omega⟩ (fun hc_10 => ?_) (fun hc_10 => absurd hc_10 (by omega))
    refine mr_weak [some (vR 18 0), some (vI f), some (vI t), none] ⟨rfl, rfl, rfl, trivial⟩ ?_
    exact hK w st hS hM hFr
  | succ n ih =>
    intro r st w h0 hn hS hM hFr hK
    have hm3 := mr_m3 hMM
    have hm2 := mr_m2 hMM
    obtain ⟨h18, h19, h20, h21, h22, h23, h24, h25, h26, h27, hs1, hs2, hik⟩ := id hM
    refine mr_iload_n dX7_comesUpright_2 rfl ?_
    refine mr_aload_n dX7_comesUpright_3 rfl ?_
    refine mr_get dX7_comesUpright_4 fl_X7_86 (by first | assumption | exact mr_up_same _ _ _ | (refine mr_lk ?_ (by first | assumption | decide); first | assumption | exact mr_up_same _ _ _ | (refine mr_lk ?_ (by first | assumption | decide); first | assumption | exact mr_up_same _ _ _ | (refine mr_lk ?_ (by first | assumption | decide); first | assumption | exact mr_up_same _ _ _ | (refine mr_lk ?_ (by first | assumption | decide); first | assumption | exact mr_up_same _ _ _))))) rfl ?_
    refine mr_callS (as := [_]) dX7_comesUpright_7 (ok_X7_end_ l G) ml_X7_233 cl_X7_end_ cs_X7_end_ (by decide) rfl rfl (Nat.le_of_ble_eq_true rfl) ?_
    refine ⟨20, _, rfl, (by first | assumption | exact mr_up_same _ _ _ | (refine mr_lk ?_ (by first | assumption | decide); first | assumption | exact mr_up_same _ _ _ | (refine mr_lk ?_ (by first | assumption | decide); first | assumption | exact mr_up_same _ _ _ | (refine mr_lk ?_ (by first | assumption | decide); first | assumption | exact mr_up_same _ _ _ | (refine mr_lk ?_ (by first | assumption | decide); first | assumption | exact mr_up_same _ _ _))))), ?_⟩
    dsimp only [Option.toList_some, Option.toList_none, List.cons_append, List.nil_append]
    refine mr_icmp_ge (tgt := 47) dX7_comesUpright_10 (by decide) ⟨by omega, by omega⟩ ⟨by omega, by omega⟩ (fun hc_10 => absurd hc_10 (by omega)) (fun hc_10 => ?_)
    refine mr_aload_n dX7_comesUpright_13 rfl ?_
    refine mr_get dX7_comesUpright_14 fl_X7_102 (by first | assumption | exact mr_up_same _ _ _ | (refine mr_lk ?_ (by first | assumption | decide); first | assumption | exact mr_up_same _ _ _ | (refine mr_lk ?_ (by first | assumption | decide); first | assumption | exact mr_up_same _ _ _ | (refine mr_lk ?_ (by first | assumption | decide); first | assumption | exact mr_up_same _ _ _ | (refine mr_lk ?_ (by first | assumption | decide); first | assumption | exact mr_up_same _ _ _))))) rfl ?_
    refine mr_iload_n dX7_comesUpright_17 rfl ?_
    refine mr_aload_n dX7_comesUpright_18 rfl ?_
    refine mr_iload_n dX7_comesUpright_19 rfl ?_
    refine mr_callV (as := [_]) dX7_comesUpright_20 (ok_X7_isRow l G) ml_X7_236 cl_X7_isRow cv_X7_isRow (by decide) rfl rfl (Nat.le_of_ble_eq_true rfl) (by first | assumption | exact mr_up_same _ _ _ | (refine mr_lk ?_ (by first | assumption | decide); first | assumption | exact mr_up_same _ _ _ | (refine mr_lk ?_ (by first | assumption | decide); first | assumption | exact mr_up_same _ _ _ | (refine mr_lk ?_ (by first | assumption | decide); first | assumption | exact mr_up_same _ _ _ | (refine mr_lk ?_ (by first | assumption | decide); first | assumption | exact mr_up_same _ _ _))))) ?_
    refine ⟨_, _, _, _, _, _, _, _, _, _, _, _, _, _, _, _, rfl, (by first | assumption | exact mr_up_same _ _ _ | (refine mr_lk ?_ (by first | assumption | decide); first | assumption | exact mr_up_same _ _ _ | (refine mr_lk ?_ (by first | assumption | decide); first | assumption | exact mr_up_same _ _ _ | (refine mr_lk ?_ (by first | assumption | decide); first | assumption | exact mr_up_same _ _ _ | (refine mr_lk ?_ (by first | assumption | decide); first | assumption | exact mr_up_same _ _ _))))), (by first | assumption | exact mr_up_same _ _ _ | (refine mr_lk ?_ (by first | assumption | decide); first | assumption | exact mr_up_same _ _ _ | (refine mr_lk ?_ (by first | assumption | decide); first | assumption | exact mr_up_same _ _ _ | (refine mr_lk ?_ (by first | assumption | decide); first | assumption | exact mr_up_same _ _ _ | (refine mr_lk ?_ (by first | assumption | decide); first | assumption | exact mr_up_same _ _ _))))), ⟨by omega, by omega⟩, (by assumption), (by assumption), ?_, ?_⟩
    · intro ky
      dsimp only [Option.toList_some, Option.toList_none, List.cons_append, List.nil_append]
      refine mr_if_eq (tgt := 39) dX7_comesUpright_23 (by decide) (by omega) (fun h => absurd h (by decide)) (fun _ => ?_)
      refine mr_aload_n dX7_comesUpright_26 rfl ?_
      refine mr_iload_n dX7_comesUpright_27 rfl ?_
      refine mr_iload_n dX7_comesUpright_28 rfl ?_
      refine mr_callV (as := [_, _]) dX7_comesUpright_29 (ok_X7_isUpright l G) ml_X7_242 cl_X7_isUpright cv_X7_isUpright (by decide) rfl rfl (Nat.le_of_ble_eq_true rfl) (by first | assumption | exact mr_up_same _ _ _ | (refine mr_lk ?_ (by first | assumption | decide); first | assumption | exact mr_up_same _ _ _ | (refine mr_lk ?_ (by first | assumption | decide); first | assumption | exact mr_up_same _ _ _ | (refine mr_lk ?_ (by first | assumption | decide); first | assumption | exact mr_up_same _ _ _ | (refine mr_lk ?_ (by first | assumption | decide); first | assumption | exact mr_up_same _ _ _))))) ?_
      refine ⟨_, _, _, _, _, _, _, _, _, _, _, _, _, _, _, _, _, rfl, (by first | assumption | exact mr_up_same _ _ _ | (refine mr_lk ?_ (by first | assumption | decide); first | assumption | exact mr_up_same _ _ _ | (refine mr_lk ?_ (by first | assumption | decide); first | assumption | exact mr_up_same _ _ _ | (refine mr_lk ?_ (by first | assumption | decide); first | assumption | exact mr_up_same _ _ _ | (refine mr_lk ?_ (by first | assumption | decide); first | assumption | exact mr_up_same _ _ _))))), (by first | assumption | exact mr_up_same _ _ _ | (refine mr_lk ?_ (by first | assumption | decide); first | assumption | exact mr_up_same _ _ _ | (refine mr_lk ?_ (by first | assumption | decide); first | assumption | exact mr_up_same _ _ _ | (refine mr_lk ?_ (by first | assumption | decide); first | assumption | exact mr_up_same _ _ _ | (refine mr_lk ?_ (by first | assumption | decide); first | assumption | exact mr_up_same _ _ _))))), ⟨by omega, by omega⟩, hf, hMM, hb, ?_, ?_⟩
      · intro ku
        dsimp only [Option.toList_some, Option.toList_none, List.cons_append, List.nil_append]
        refine mr_if_eq (tgt := 39) dX7_comesUpright_32 (by decide) (by omega) (fun h => absurd h (by decide)) (fun _ => ?_)
        refine mr_iconst dX7_comesUpright_35 ?_
        refine mr_goto (tgt := 40) dX7_comesUpright_36 (by decide) ?_
        refine mr_zast dX7_comesUpright_40 (by first | assumption | exact mr_up_same _ _ _ | (refine mr_lk ?_ (by first | assumption | decide); first | assumption | exact mr_up_same _ _ _ | (refine mr_lk ?_ (by first | assumption | decide); first | assumption | exact mr_up_same _ _ _ | (refine mr_lk ?_ (by first | assumption | decide); first | assumption | exact mr_up_same _ _ _ | (refine mr_lk ?_ (by first | assumption | decide); first | assumption | exact mr_up_same _ _ _))))) (by omega) (by omega) (by decide) (Or.inr rfl) ?_
        refine mw_a25 hM (mr_b01 (by assumption) _ (by first | exact Or.inl rfl | exact Or.inr rfl | assumption)) (fun w1 hM1 hF1 => ?_)
        obtain ⟨h18, h19, h20, h21, h22, h23, h24, h25, h26, h27, hs1, hs2, hik⟩ := id hM1
        refine mr_iinc dX7_comesUpright_41 rfl (by decide) rfl ?_
        refine mr_goto (tgt := 2) dX7_comesUpright_44 (by decide) ?_
        first | exact ih (r + 1) _ w1 (by omega) (by omega) (mr_Sf_1 hS h0 ⟨ky, ku⟩) hM1 (hFr.tr hF1) hK | exact ih (r + 1) _ w1 (by omega) (by omega) (mr_Sf_0 hS h0 (fun zz => ky zz.1)) hM1 (hFr.tr hF1) hK | exact ih (r + 1) _ w1 (by omega) (by omega) (mr_Sf_0 hS h0 (fun zz => ku zz.2)) hM1 (hFr.tr hF1) hK
      · intro ku
        dsimp only [Option.toList_some, Option.toList_none, List.cons_append, List.nil_append]
        refine mr_if_eq (tgt := 39) dX7_comesUpright_32 (by decide) (by omega) (fun _ => ?_) (fun h => absurd h (by decide))
        refine mr_iconst dX7_comesUpright_39 ?_
        refine mr_zast dX7_comesUpright_40 (by first | assumption | exact mr_up_same _ _ _ | (refine mr_lk ?_ (by first | assumption | decide); first | assumption | exact mr_up_same _ _ _ | (refine mr_lk ?_ (by first | assumption | decide); first | assumption | exact mr_up_same _ _ _ | (refine mr_lk ?_ (by first | assumption | decide); first | assumption | exact mr_up_same _ _ _ | (refine mr_lk ?_ (by first | assumption | decide); first | assumption | exact mr_up_same _ _ _))))) (by omega) (by omega) (by decide) (Or.inl rfl) ?_
        refine mw_a25 hM (mr_b01 (by assumption) _ (by first | exact Or.inl rfl | exact Or.inr rfl | assumption)) (fun w2 hM2 hF2 => ?_)
        obtain ⟨h18, h19, h20, h21, h22, h23, h24, h25, h26, h27, hs1, hs2, hik⟩ := id hM2
        refine mr_iinc dX7_comesUpright_41 rfl (by decide) rfl ?_
        refine mr_goto (tgt := 2) dX7_comesUpright_44 (by decide) ?_
        first | exact ih (r + 1) _ w2 (by omega) (by omega) (mr_Sf_1 hS h0 ⟨ky, ku⟩) hM2 (hFr.tr hF2) hK | exact ih (r + 1) _ w2 (by omega) (by omega) (mr_Sf_0 hS h0 (fun zz => ky zz.1)) hM2 (hFr.tr hF2) hK | exact ih (r + 1) _ w2 (by omega) (by omega) (mr_Sf_0 hS h0 (fun zz => ku zz.2)) hM2 (hFr.tr hF2) hK
    · intro ky
      dsimp only [Option.toList_some, Option.toList_none, List.cons_append, List.nil_append]
      refine mr_if_eq (tgt := 39) dX7_comesUpright_23 (by decide) (by omega) (fun _ => ?_) (fun h => absurd h (by decide))
      refine mr_iconst dX7_comesUpright_39 ?_
      refine mr_zast dX7_comesUpright_40 (by first | assumption | exact mr_up_same _ _ _ | (refine mr_lk ?_ (by first | assumption | decide); first | assumption | exact mr_up_same _ _ _ | (refine mr_lk ?_ (by first | assumption | decide); first | assumption | exact mr_up_same _ _ _ | (refine mr_lk ?_ (by first | assumption | decide); first | assumption | exact mr_up_same _ _ _ | (refine mr_lk ?_ (by first | assumption | decide); first | assumption | exact mr_up_same _ _ _))))) (by omega) (by omega) (by decide) (Or.inl rfl) ?_
      refine mw_a25 hM (mr_b01 (by assumption) _ (by first | exact Or.inl rfl | exact Or.inr rfl | assumption)) (fun w3 hM3 hF3 => ?_)
      obtain ⟨h18, h19, h20, h21, h22, h23, h24, h25, h26, h27, hs1, hs2, hik⟩ := id hM3
      refine mr_iinc dX7_comesUpright_41 rfl (by decide) rfl ?_
      refine mr_goto (tgt := 2) dX7_comesUpright_44 (by decide) ?_
      first | exact ih (r + 1) _ w3 (by omega) (by omega) (mr_Sf_1 hS h0 ⟨ky, ku⟩) hM3 (hFr.tr hF3) hK | exact ih (r + 1) _ w3 (by omega) (by omega) (mr_Sf_0 hS h0 (fun zz => ky zz.1)) hM3 (hFr.tr hF3) hK | exact ih (r + 1) _ w3 (by omega) (by omega) (mr_Sf_0 hS h0 (fun zz => ku zz.2)) hM3 (hFr.tr hF3) hK
def T_X7_comesUpright (a : List mr_AV) (w : mr_Wd) (Po : Option mr_AV → mr_Wd → Prop) : Prop := ∃ (th tp sz zo fr kd nb ft pl wd sm md li sd : Int) (T N R K Sn ik s1 s2 ls : Nat → Int) (W : Nat) (F : Nat → mr_V) (Lt : mr_V → Prop) (f t : Int), a = [vR 18 0, vI f, vI t] ∧ mr_MW w th tp sz zo fr kd nb ft pl wd sm md li sd T N R K Sn ik s1 s2 ls ∧ (0 ≤ sm ∧ sm ≤ 8) ∧ (1 ≤ N 0 ∧ N 0 ≤ 30) ∧ (0 ≤ N 1 ∧ N 1 ≤ 3) ∧ (0 ≤ f ∧ f + 3 ≤ 21) ∧ (0 ≤ t ∧ t ≤ 3) ∧ (∀ j : Int, 0 ≤ j → j < 3 → 0 ≤ N (f + j).toNat ∧ N (f + j).toNat < N 0 * N 0 * N 0) ∧ mr_Fo (N 0) W F Lt ∧ (∀ r : Int, 0 ≤ r → r < N 0 * N 0 * N 0 → ((fun r : Int => r % mr_stp N = 0 ∧ (mr_dt (N 0) (N (f + 0).toNat) r = 0 ∧ mr_dt (N 0) (N (f + (0 + 1)).toNat) r = 0 ∧ mr_dt (N 0) (N (f + (0 + 1 + 1)).toNat) r = 0)) r ↔ mr_S (N 0) Lt r)) ∧ (∀ (w' : mr_Wd) (Sn' st' li' s2' : Nat → Int) (sm' : Int) (n : Nat), mr_snr N Sn sm Sn' sm' → mr_Lp (N 0) st' li' n (mr_S (N 0) Lt) → mr_MW w' th tp sz zo fr kd nb ft pl wd (sm') md ((n : Int)) sd T (mr_kf (N 0) N t F) R K (Sn') ik (st') (s2') (li') → mr_FM w w' → Po (some (vI n)) w')
set_option maxHeartbeats 4000000 in
set_option maxRecDepth 20000 in
theorem ok_X7_comesUpright (l : Launch) (G : mr_G) : mr_Ok l G yX7_comesUpright cX7_comesUpright 4 (some .int) 5 116 T_X7_comesUpright := by
  refine mr_Ok.of (by decide +kernel) ?_
  rintro a w Po ⟨th, tp, sz, zo, fr, kd, nb, ft, pl, wd, sm, md, li, sd, T, N, R, K, Sn, ik, s1, s2, ls, W, F, Lt, f, t, rfl, hM, hsm, hMM, hG1, hf, ht, hb, hFo, hQC, hP⟩
  refine ⟨Nat.le_of_ble_eq_true rfl, ?_⟩
  show mr_J l G RX7 cX7_comesUpright 4 (some .int) 5 116 Po 0 [some (vR 18 0), some (vI f), some (vI t), none] [] w
  obtain ⟨h18, h19, h20, h21, h22, h23, h24, h25, h26, h27, hs1, hs2, hik⟩ := id hM
  refine mr_iconst dX7_comesUpright_0 ?_
  refine mr_istore_n dX7_comesUpright_1 rfl (by decide) ?_
  have hm3 := mr_m3 hMM
  refine lp_X7_comesUpright l G (N := N) (s1 := s1) (w0 := w) (f := f) (t := t) hMM hG1 hf hb (N 0 * N 0 * N 0).toNat 0 s1 w (Int.le_refl 0) (by omega) (fun i hi => by omega) hM (mr_FM.rf w) (fun w1 st1 hS1 hM1 hF1 => ?_)
  obtain ⟨h18, h19, h20, h21, h22, h23, h24, h25, h26, h27, hs1, hs2, hik⟩ := id hM1
  have hSS := mr_Sf_St hS1 hs1 hQC
  refine mr_aload_n dX7_comesUpright_47 rfl ?_
  refine mr_aload_n dX7_comesUpright_48 rfl ?_
  refine mr_get dX7_comesUpright_49 fl_X7_102 (by first | assumption | exact mr_up_same _ _ _ | (refine mr_lk ?_ (by first | assumption | decide); first | assumption | exact mr_up_same _ _ _ | (refine mr_lk ?_ (by first | assumption | decide); first | assumption | exact mr_up_same _ _ _ | (refine mr_lk ?_ (by first | assumption | decide); first | assumption | exact mr_up_same _ _ _ | (refine mr_lk ?_ (by first | assumption | decide); first | assumption | exact mr_up_same _ _ _))))) rfl ?_
  refine mr_iload_n dX7_comesUpright_52 rfl ?_
  refine mr_callV (as := [_, _]) dX7_comesUpright_53 (ok_X7_comes l G) ml_X7_226 cl_X7_comes cv_X7_comes (by decide) rfl rfl (Nat.le_of_ble_eq_true rfl) (by first | assumption | exact mr_up_same _ _ _ | (refine mr_lk ?_ (by first | assumption | decide); first | assumption | exact mr_up_same _ _ _ | (refine mr_lk ?_ (by first | assumption | decide); first | assumption | exact mr_up_same _ _ _ | (refine mr_lk ?_ (by first | assumption | decide); first | assumption | exact mr_up_same _ _ _ | (refine mr_lk ?_ (by first | assumption | decide); first | assumption | exact mr_up_same _ _ _))))) ?_
  refine ⟨_, _, _, _, _, _, _, _, _, _, _, _, _, _, _, _, _, _, _, _, _, _, _, 25, t, W, F, Lt, rfl, hM1, hsm, hMM, ⟨by omega, by omega⟩, hFo, Or.inl ⟨rfl, hSS⟩, (fun w2 Sn2 st2 li2 sm2 n2 hsn2 hp2 hM2 hF2 => ?_)⟩
  obtain ⟨h18, h19, h20, h21, h22, h23, h24, h25, h26, h27, hs1, hs2, hik⟩ := id hM2
  dsimp only [Option.toList_some, Option.toList_none, List.cons_append, List.nil_append]
  refine mr_iret rfl dX7_comesUpright_56 ?_
  exact hP w2 Sn2 st2 li2 _ sm2 n2 hsn2 hp2 hM2 (hF1.tr hF2)
def T_X7_upright (a : List mr_AV) (w : mr_Wd) (Po : Option mr_AV → mr_Wd → Prop) : Prop := ∃ (th tp sz zo fr kd nb ft pl wd sm md li sd : Int) (T N R K Sn ik s1 s2 ls : Nat → Int) (W : Nat) (L : Int → mr_V → Prop) (F : Nat → mr_V) (Lt : mr_V → Prop) (s t : Int), a = [vR 18 0, vI s, vI t] ∧ mr_MW w th tp sz zo fr kd nb ft pl wd sm md li sd T N R K Sn ik s1 s2 ls ∧ mr_NG N W L ∧ (0 ≤ sm ∧ sm ≤ 8) ∧ InR s ∧ InR t ∧ (((0 < N 0 ∧ 0 ≤ s ∧ s ≤ 3) ∧ (0 < N 0 ∧ 0 ≤ t ∧ t ≤ 3)) → mr_Fo (N 0) W F Lt) ∧ (((0 < N 0 ∧ 0 ≤ s ∧ s ≤ 3) ∧ (0 < N 0 ∧ 0 ≤ t ∧ t ≤ 3)) → (∀ r : Int, 0 ≤ r → r < N 0 * N 0 * N 0 → ((fun r : Int => r % mr_stp N = 0 ∧ (mr_dt (N 0) (N ((2 + 3 * s) + 0).toNat) r = 0 ∧ mr_dt (N 0) (N ((2 + 3 * s) + (0 + 1)).toNat) r = 0 ∧ mr_dt (N 0) (N ((2 + 3 * s) + (0 + 1 + 1)).toNat) r = 0)) r ↔ mr_S (N 0) Lt r))) ∧ (((0 < N 0 ∧ 0 ≤ s ∧ s ≤ 3) ∧ (0 < N 0 ∧ 0 ≤ t ∧ t ≤ 3)) → (∀ (w' : mr_Wd) (Sn' st' li' s2' : Nat → Int) (sm' : Int) (n : Nat), mr_snr N Sn sm Sn' sm' → mr_Lp (N 0) st' li' n (mr_S (N 0) Lt) → mr_MW w' (0) tp sz zo fr kd nb ft pl wd (sm') md ((n : Int)) sd T (mr_kf (N 0) N t F) R K (Sn') ik (st') (s2') (li') → mr_FM w w' → Po (some (vI n)) w')) ∧ (¬ ((0 < N 0 ∧ 0 ≤ s ∧ s ≤ 3) ∧ (0 < N 0 ∧ 0 ≤ t ∧ t ≤ 3)) → (∀ w' : mr_Wd, mr_MW w' (0) tp sz zo fr kd nb ft pl wd sm md li sd T N R K Sn ik s1 s2 ls → mr_FM w w' → Po (some (vI (-1))) w'))
set_option maxHeartbeats 4000000 in
set_option maxRecDepth 20000 in
theorem ok_X7_upright (l : Launch) (G : mr_G) : mr_Ok l G yX7_upright cX7_upright 3 (some .int) 6 139 T_X7_upright := by
  refine mr_Ok.of (by decide +kernel) ?_
  rintro a w Po ⟨th, tp, sz, zo, fr, kd, nb, ft, pl, wd, sm, md, li, sd, T, N, R, K, Sn, ik, s1, s2, ls, W, L, F, Lt, s, t, rfl, hM, ⟨hG0, hG1, hG14, hGW⟩, hsm, h_s, h_t, hFoC, hQC, hP, hQ⟩
  refine ⟨Nat.le_of_ble_eq_true rfl, ?_⟩
  show mr_J l G RX7 cX7_upright 3 (some .int) 6 139 Po 0 [some (vR 18 0), some (vI s), some (vI t)] [] w
  obtain ⟨h18, h19, h20, h21, h22, h23, h24, h25, h26, h27, hs1, hs2, hik⟩ := id hM
  refine mr_aload_n dX7_upright_0 rfl ?_
  refine mr_iconst dX7_upright_1 ?_
  refine mr_put dX7_upright_2 fl_X7_1 pf_X7_0 rfl rfl (by first | assumption | exact mr_up_same _ _ _ | (refine mr_lk ?_ (by first | assumption | decide); first | assumption | exact mr_up_same _ _ _ | (refine mr_lk ?_ (by first | assumption | decide); first | assumption | exact mr_up_same _ _ _ | (refine mr_lk ?_ (by first | assumption | decide); first | assumption | exact mr_up_same _ _ _ | (refine mr_lk ?_ (by first | assumption | decide); first | assumption | exact mr_up_same _ _ _))))) (Nat.le_of_ble_eq_true rfl) ?_
  refine mw_p0 hM (fun w1 hM1 hF1 => ?_)
  obtain ⟨h18, h19, h20, h21, h22, h23, h24, h25, h26, h27, hs1, hs2, hik⟩ := id hM1
  refine mr_aload_n dX7_upright_5 rfl ?_
  refine mr_iload_n dX7_upright_6 rfl ?_
  refine mr_callV (as := [_]) dX7_upright_7 (ok_X7_isModuleAt l G) ml_X7_199 cl_X7_isModuleAt cv_X7_isModuleAt (by decide) rfl rfl (Nat.le_of_ble_eq_true rfl) (by first | assumption | exact mr_up_same _ _ _ | (refine mr_lk ?_ (by first | assumption | decide); first | assumption | exact mr_up_same _ _ _ | (refine mr_lk ?_ (by first | assumption | decide); first | assumption | exact mr_up_same _ _ _ | (refine mr_lk ?_ (by first | assumption | decide); first | assumption | exact mr_up_same _ _ _ | (refine mr_lk ?_ (by first | assumption | decide); first | assumption | exact mr_up_same _ _ _))))) ?_
  refine ⟨_, _, _, _, _, _, _, _, _, _, _, _, _, _, _, _, rfl, (by first | assumption | exact mr_up_same _ _ _ | (refine mr_lk ?_ (by first | assumption | decide); first | assumption | exact mr_up_same _ _ _ | (refine mr_lk ?_ (by first | assumption | decide); first | assumption | exact mr_up_same _ _ _ | (refine mr_lk ?_ (by first | assumption | decide); first | assumption | exact mr_up_same _ _ _ | (refine mr_lk ?_ (by first | assumption | decide); first | assumption | exact mr_up_same _ _ _))))), (by first | assumption | exact mr_up_same _ _ _ | (refine mr_lk ?_ (by first | assumption | decide); first | assumption | exact mr_up_same _ _ _ | (refine mr_lk ?_ (by first | assumption | decide); first | assumption | exact mr_up_same _ _ _ | (refine mr_lk ?_ (by first | assumption | decide); first | assumption | exact mr_up_same _ _ _ | (refine mr_lk ?_ (by first | assumption | decide); first | assumption | exact mr_up_same _ _ _))))), h_s, hG0, ?_, ?_⟩
  · intro k1
    dsimp only [Option.toList_some, Option.toList_none, List.cons_append, List.nil_append]
    refine mr_if_eq (tgt := 34) dX7_upright_10 (by decide) (by omega) (fun h => absurd h (by decide)) (fun _ => ?_)
    refine mr_aload_n dX7_upright_13 rfl ?_
    refine mr_iload_n dX7_upright_14 rfl ?_
    refine mr_callV (as := [_]) dX7_upright_15 (ok_X7_isModuleAt l G) ml_X7_199 cl_X7_isModuleAt cv_X7_isModuleAt (by decide) rfl rfl (Nat.le_of_ble_eq_true rfl) (by first | assumption | exact mr_up_same _ _ _ | (refine mr_lk ?_ (by first | assumption | decide); first | assumption | exact mr_up_same _ _ _ | (refine mr_lk ?_ (by first | assumption | decide); first | assumption | exact mr_up_same _ _ _ | (refine mr_lk ?_ (by first | assumption | decide); first | assumption | exact mr_up_same _ _ _ | (refine mr_lk ?_ (by first | assumption | decide); first | assumption | exact mr_up_same _ _ _))))) ?_
    refine ⟨_, _, _, _, _, _, _, _, _, _, _, _, _, _, _, _, rfl, (by first | assumption | exact mr_up_same _ _ _ | (refine mr_lk ?_ (by first | assumption | decide); first | assumption | exact mr_up_same _ _ _ | (refine mr_lk ?_ (by first | assumption | decide); first | assumption | exact mr_up_same _ _ _ | (refine mr_lk ?_ (by first | assumption | decide); first | assumption | exact mr_up_same _ _ _ | (refine mr_lk ?_ (by first | assumption | decide); first | assumption | exact mr_up_same _ _ _))))), (by first | assumption | exact mr_up_same _ _ _ | (refine mr_lk ?_ (by first | assumption | decide); first | assumption | exact mr_up_same _ _ _ | (refine mr_lk ?_ (by first | assumption | decide); first | assumption | exact mr_up_same _ _ _ | (refine mr_lk ?_ (by first | assumption | decide); first | assumption | exact mr_up_same _ _ _ | (refine mr_lk ?_ (by first | assumption | decide); first | assumption | exact mr_up_same _ _ _))))), h_t, hG0, ?_, ?_⟩
    · intro k2
      dsimp only [Option.toList_some, Option.toList_none, List.cons_append, List.nil_append]
      refine mr_if_eq (tgt := 34) dX7_upright_18 (by decide) (by omega) (fun h => absurd h (by decide)) (fun _ => ?_)
      obtain ⟨e0, e1, hM0, hW0, hFN, hEQ⟩ := hGW (by omega)
      have hMM : 1 ≤ N 0 ∧ N 0 ≤ 30 := ⟨by omega, by omega⟩
      have hm3 := mr_m3 hMM
      have hm2 := mr_m2 hMM
      have K0 : ((0 < N 0 ∧ 0 ≤ s ∧ s ≤ 3) ∧ (0 < N 0 ∧ 0 ≤ t ∧ t ≤ 3)) := ⟨k1, k2⟩
      have hFo := hFoC K0
      refine mr_aload_n dX7_upright_21 rfl ?_
      refine mr_iconst dX7_upright_22 ?_
      refine mr_iconst dX7_upright_23 ?_
      refine mr_iload_n dX7_upright_24 rfl ?_
      refine mr_imul dX7_upright_25 ?_
      refine mr_iadd dX7_upright_26 ?_
      refine mr_iload_n dX7_upright_27 rfl ?_
      refine mr_callV (as := [_, _]) dX7_upright_28 (ok_X7_comesUpright l G) ml_X7_246 cl_X7_comesUpright cv_X7_comesUpright (by decide) rfl rfl (Nat.le_of_ble_eq_true rfl) (by first | assumption | exact mr_up_same _ _ _ | (refine mr_lk ?_ (by first | assumption | decide); first | assumption | exact mr_up_same _ _ _ | (refine mr_lk ?_ (by first | assumption | decide); first | assumption | exact mr_up_same _ _ _ | (refine mr_lk ?_ (by first | assumption | decide); first | assumption | exact mr_up_same _ _ _ | (refine mr_lk ?_ (by first | assumption | decide); first | assumption | exact mr_up_same _ _ _))))) ?_
      refine ⟨_, _, _, _, _, _, _, _, _, _, _, _, _, _, _, _, _, _, _, _, _, _, _, W, F, Lt, _, _, rfl, hM1, hsm, hMM, hG1, ⟨by omega, by omega⟩, ⟨by omega, by omega⟩, (hFN s (by omega) (by omega)).2, hFo, hQC K0, (fun w2 Sn2 st2 li2 s22 sm2 n2 hsn2 hp2 hM2 hF2 => ?_)⟩
      dsimp only [Option.toList_some, Option.toList_none, List.cons_append, List.nil_append]
      refine mr_goto (tgt := 35) dX7_upright_31 (by decide) ?_
      refine mr_iret rfl dX7_upright_35 ?_
      exact hP K0 w2 Sn2 st2 li2 s22 sm2 n2 hsn2 hp2 hM2 (hF1.tr hF2)
    · intro k2
      dsimp only [Option.toList_some, Option.toList_none, List.cons_append, List.nil_append]
      refine mr_if_eq (tgt := 34) dX7_upright_18 (by decide) (by omega) (fun _ => ?_) (fun h => absurd h (by decide))
      refine mr_iconst dX7_upright_34 ?_
      refine mr_iret rfl dX7_upright_35 ?_
      first | exact hQ (fun zz => k1 zz.1) w1 hM1 hF1 | exact hQ (fun zz => k2 zz.2) w1 hM1 hF1
  · intro k1
    dsimp only [Option.toList_some, Option.toList_none, List.cons_append, List.nil_append]
    refine mr_if_eq (tgt := 34) dX7_upright_10 (by decide) (by omega) (fun _ => ?_) (fun h => absurd h (by decide))
    refine mr_iconst dX7_upright_34 ?_
    refine mr_iret rfl dX7_upright_35 ?_
    first | exact hQ (fun zz => k1 zz.1) w1 hM1 hF1 | exact hQ (fun zz => k2 zz.2) w1 hM1 hF1
def T_X7_kernel (a : List mr_AV) (w : mr_Wd) (Po : Option mr_AV → mr_Wd → Prop) : Prop := ∃ (th tp sz zo fr kd nb ft pl wd sm md li sd : Int) (T N R K Sn ik s1 s2 ls : Nat → Int) (W : Nat) (L : Int → mr_V → Prop) (F : Nat → mr_V) (Lt : mr_V → Prop) (t : Int), a = [vR 18 0, vI t] ∧ mr_MW w th tp sz zo fr kd nb ft pl wd sm md li sd T N R K Sn ik s1 s2 ls ∧ mr_NG N W L ∧ (0 ≤ sm ∧ sm ≤ 8) ∧ InR t ∧ ((0 < N 0 ∧ 0 ≤ t ∧ t ≤ 3) → mr_Fo (N 0) W F Lt) ∧ ((0 < N 0 ∧ 0 ≤ t ∧ t ≤ 3) → (∀ r : Int, 0 ≤ r → r < N 0 * N 0 * N 0 → ((fun r : Int => r % mr_stp N = 0 ∧ (mr_dt (N 0) (N ((15 : Int) + 0).toNat) r = 0 ∧ mr_dt (N 0) (N ((15 : Int) + (0 + 1)).toNat) r = 0 ∧ mr_dt (N 0) (N ((15 : Int) + (0 + 1 + 1)).toNat) r = 0)) r ↔ mr_S (N 0) Lt r))) ∧ ((0 < N 0 ∧ 0 ≤ t ∧ t ≤ 3) → (∀ (w' : mr_Wd) (Sn' st' li' s2' : Nat → Int) (sm' : Int) (n : Nat), mr_snr N Sn sm Sn' sm' → mr_Lp (N 0) st' li' n (mr_S (N 0) Lt) → mr_MW w' (0) tp sz zo fr kd nb ft pl wd (sm') md ((n : Int)) sd T (mr_kf (N 0) N t F) R K (Sn') ik (st') (s2') (li') → mr_FM w w' → Po (some (vI n)) w')) ∧ (¬ (0 < N 0 ∧ 0 ≤ t ∧ t ≤ 3) → (∀ w' : mr_Wd, mr_MW w' (0) tp sz zo fr kd nb ft pl wd sm md li sd T N R K Sn ik s1 s2 ls → mr_FM w w' → Po (some (vI (-1))) w'))
set_option maxHeartbeats 4000000 in
set_option maxRecDepth 20000 in
theorem ok_X7_kernel (l : Launch) (G : mr_G) : mr_Ok l G yX7_kernel cX7_kernel 2 (some .int) 6 139 T_X7_kernel := by
  refine mr_Ok.of (by decide +kernel) ?_
  rintro a w Po ⟨th, tp, sz, zo, fr, kd, nb, ft, pl, wd, sm, md, li, sd, T, N, R, K, Sn, ik, s1, s2, ls, W, L, F, Lt, t, rfl, hM, ⟨hG0, hG1, hG14, hGW⟩, hsm, h_t, hFoC, hQC, hP, hQ⟩
  refine ⟨Nat.le_of_ble_eq_true rfl, ?_⟩
  show mr_J l G RX7 cX7_kernel 2 (some .int) 6 139 Po 0 [some (vR 18 0), some (vI t)] [] w
  obtain ⟨h18, h19, h20, h21, h22, h23, h24, h25, h26, h27, hs1, hs2, hik⟩ := id hM
  refine mr_aload_n dX7_kernel_0 rfl ?_
  refine mr_iconst dX7_kernel_1 ?_
  refine mr_put dX7_kernel_2 fl_X7_1 pf_X7_0 rfl rfl (by first | assumption | exact mr_up_same _ _ _ | (refine mr_lk ?_ (by first | assumption | decide); first | assumption | exact mr_up_same _ _ _ | (refine mr_lk ?_ (by first | assumption | decide); first | assumption | exact mr_up_same _ _ _ | (refine mr_lk ?_ (by first | assumption | decide); first | assumption | exact mr_up_same _ _ _ | (refine mr_lk ?_ (by first | assumption | decide); first | assumption | exact mr_up_same _ _ _))))) (Nat.le_of_ble_eq_true rfl) ?_
  refine mw_p0 hM (fun w1 hM1 hF1 => ?_)
  obtain ⟨h18, h19, h20, h21, h22, h23, h24, h25, h26, h27, hs1, hs2, hik⟩ := id hM1
  refine mr_aload_n dX7_kernel_5 rfl ?_
  refine mr_iload_n dX7_kernel_6 rfl ?_
  refine mr_callV (as := [_]) dX7_kernel_7 (ok_X7_isModuleAt l G) ml_X7_199 cl_X7_isModuleAt cv_X7_isModuleAt (by decide) rfl rfl (Nat.le_of_ble_eq_true rfl) (by first | assumption | exact mr_up_same _ _ _ | (refine mr_lk ?_ (by first | assumption | decide); first | assumption | exact mr_up_same _ _ _ | (refine mr_lk ?_ (by first | assumption | decide); first | assumption | exact mr_up_same _ _ _ | (refine mr_lk ?_ (by first | assumption | decide); first | assumption | exact mr_up_same _ _ _ | (refine mr_lk ?_ (by first | assumption | decide); first | assumption | exact mr_up_same _ _ _))))) ?_
  refine ⟨_, _, _, _, _, _, _, _, _, _, _, _, _, _, _, _, rfl, (by first | assumption | exact mr_up_same _ _ _ | (refine mr_lk ?_ (by first | assumption | decide); first | assumption | exact mr_up_same _ _ _ | (refine mr_lk ?_ (by first | assumption | decide); first | assumption | exact mr_up_same _ _ _ | (refine mr_lk ?_ (by first | assumption | decide); first | assumption | exact mr_up_same _ _ _ | (refine mr_lk ?_ (by first | assumption | decide); first | assumption | exact mr_up_same _ _ _))))), (by first | assumption | exact mr_up_same _ _ _ | (refine mr_lk ?_ (by first | assumption | decide); first | assumption | exact mr_up_same _ _ _ | (refine mr_lk ?_ (by first | assumption | decide); first | assumption | exact mr_up_same _ _ _ | (refine mr_lk ?_ (by first | assumption | decide); first | assumption | exact mr_up_same _ _ _ | (refine mr_lk ?_ (by first | assumption | decide); first | assumption | exact mr_up_same _ _ _))))), h_t, hG0, ?_, ?_⟩
  · intro K0
    dsimp only [Option.toList_some, Option.toList_none, List.cons_append, List.nil_append]
    refine mr_if_eq (tgt := 23) dX7_kernel_10 (by decide) (by omega) (fun h => absurd h (by decide)) (fun _ => ?_)
    obtain ⟨e0, e1, hM0, hW0, hFN, hEQ⟩ := hGW (by omega)
    have hMM : 1 ≤ N 0 ∧ N 0 ≤ 30 := ⟨by omega, by omega⟩
    have hm3 := mr_m3 hMM
    have hm2 := mr_m2 hMM
    have hFo := hFoC K0
    refine mr_aload_n dX7_kernel_13 rfl ?_
    refine mr_bipush dX7_kernel_14 rfl ?_
    refine mr_iload_n dX7_kernel_16 rfl ?_
    refine mr_callV (as := [_, _]) dX7_kernel_17 (ok_X7_comesUpright l G) ml_X7_246 cl_X7_comesUpright cv_X7_comesUpright (by decide) rfl rfl (Nat.le_of_ble_eq_true rfl) (by first | assumption | exact mr_up_same _ _ _ | (refine mr_lk ?_ (by first | assumption | decide); first | assumption | exact mr_up_same _ _ _ | (refine mr_lk ?_ (by first | assumption | decide); first | assumption | exact mr_up_same _ _ _ | (refine mr_lk ?_ (by first | assumption | decide); first | assumption | exact mr_up_same _ _ _ | (refine mr_lk ?_ (by first | assumption | decide); first | assumption | exact mr_up_same _ _ _))))) ?_
    refine ⟨_, _, _, _, _, _, _, _, _, _, _, _, _, _, _, _, _, _, _, _, _, _, _, W, F, Lt, _, _, rfl, hM1, hsm, hMM, hG1, ⟨by omega, by omega⟩, ⟨by omega, by omega⟩, (fun j g1 g2 => (hEQ j g1 g2).1), hFo, hQC K0, (fun w2 Sn2 st2 li2 s22 sm2 n2 hsn2 hp2 hM2 hF2 => ?_)⟩
    dsimp only [Option.toList_some, Option.toList_none, List.cons_append, List.nil_append]
    refine mr_goto (tgt := 24) dX7_kernel_20 (by decide) ?_
    refine mr_iret rfl dX7_kernel_24 ?_
    exact hP K0 w2 Sn2 st2 li2 s22 sm2 n2 hsn2 hp2 hM2 (hF1.tr hF2)
  · intro K0
    dsimp only [Option.toList_some, Option.toList_none, List.cons_append, List.nil_append]
    refine mr_if_eq (tgt := 23) dX7_kernel_10 (by decide) (by omega) (fun _ => ?_) (fun h => absurd h (by decide))
    refine mr_iconst dX7_kernel_23 ?_
    refine mr_iret rfl dX7_kernel_24 ?_
    exact hQ K0 w1 hM1 hF1
