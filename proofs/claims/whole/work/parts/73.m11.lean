set_option maxHeartbeats 4000000 in
set_option maxRecDepth 20000 in
theorem lp_X7_times (l : Launch) (G : mr_G) {Po : Option mr_AV → mr_Wd → Prop} {w0 : mr_Wd} {th tp sz zo fr kd nb ft pl wd sm md li sd : Int} {T N R K Sn ik s1 s2 ls : Nat → Int} {s u b q : Int} {A0 : Int → Prop} (hMM : 1 ≤ N 0 ∧ N 0 ≤ 30) (h1N : 0 ≤ N 1 ∧ N 1 ≤ 3) (hu : 0 ≤ u ∧ u ≤ 30) (hA0 : mr_St (N 0) s1 A0) : ∀ (n : Nat) (r : Int) (st : Nat → Int) (w : mr_Wd), 0 ≤ r → r + n = N 0 * N 0 * N 0 → mr_Sf st r (fun r : Int => r % mr_stp N = 0 ∧ A0 (mr_of (N 0) r u)) → mr_MW w th tp sz zo fr kd nb ft pl wd sm md li sd T N R K Sn ik s1 (st) ls → mr_FM w0 w → (∀ (w' : mr_Wd) (st' : Nat → Int), mr_Sf st' (N 0 * N 0 * N 0) (fun r : Int => r % mr_stp N = 0 ∧ A0 (mr_of (N 0) r u)) → mr_MW w' th tp sz zo fr kd nb ft pl wd sm md li sd T N R K Sn ik s1 (st') ls → mr_FM w0 w' → mr_J l G RX7 cX7_times 6 (some .int) 5 116 Po 124 [some (vR 18 0), some (vI s), some (vI u), some (vI b), some (vI q), none] [] w') → mr_J l G RX7 cX7_times 6 (some .int) 5 116 Po 58 [some (vR 18 0), some (vI s), some (vI u), some (vI b), some (vI q), some (vI r)] [] w := by
  intro n
  induction n with
  | zero =>
    intro r st w h0 hn hS hM hFr hK
    have e : r = N 0 * N 0 * N 0 := by omega
    have hm3 := mr_m3 hMM
    have hm2 := mr_m2 hMM
    rw [e] at hS
    obtain ⟨h18, h19, h20, h21, h22, h23, h24, h25, h26, h27, hs1, hs2, hik⟩ := id hM
    refine mr_iload dX7_times_58 rfl ?_
    refine mr_aload_n dX7_times_60 rfl ?_
    refine mr_get dX7_times_61 fl_X7_86 (by first | assumption | exact mr_up_same _ _ _ | (refine mr_lk ?_ (by first | assumption | decide); first | assumption | exact mr_up_same _ _ _ | (refine mr_lk ?_ (by first | assumption | decide); first | assumption | exact mr_up_same _ _ _ | (refine mr_lk ?_ (by first | assumption | decide); first | assumption | exact mr_up_same _ _ _ | (refine mr_lk ?_ (by first | assumption | decide); first | assumption | exact mr_up_same _ _ _))))) rfl ?_
    refine mr_callS (as := [_]) dX7_times_64 (ok_X7_end_ l G) ml_X7_233 cl_X7_end_ cs_X7_end_ (by decide) rfl rfl (Nat.le_of_ble_eq_true rfl) ?_
    refine ⟨20, _, rfl, (by first | assumption | exact mr_up_same _ _ _ | (refine mr_lk ?_ (by first | assumption | decide); first | assumption | exact mr_up_same _ _ _ | (refine mr_lk ?_ (by first | assumption | decide); first | assumption | exact mr_up_same _ _ _ | (refine mr_lk ?_ (by first | assumption | decide); first | assumption | exact mr_up_same _ _ _ | (refine mr_lk ?_ (by first | assumption | decide); first | assumption | exact mr_up_same _ _ _))))), ?_⟩
    dsimp only [Option.toList_some, Option.toList_none, List.cons_append, List.nil_append]
    refine mr_icmp_ge (tgt := 115) dX7_times_67 (by decide) ⟨by omega, by omega⟩ ⟨by omega, by omega⟩ (fun hc_67 => ?_) (fun hc_67 => absurd hc_67 (by omega))
    refine mr_goto (tgt := 124) dX7_times_115 (by decide) ?_
    refine mr_weak [some (vR 18 0), some (vI s), some (vI u), some (vI b), some (vI q), none] ⟨rfl, rfl, rfl, rfl, rfl, trivial⟩ ?_
    exact hK w st hS hM hFr
  | succ n ih =>
    intro r st w h0 hn hS hM hFr hK
    have hm3 := mr_m3 hMM
    have hm2 := mr_m2 hMM
    obtain ⟨h18, h19, h20, h21, h22, h23, h24, h25, h26, h27, hs1, hs2, hik⟩ := id hM
    have hof := mr_of_bd (M := N 0) (by omega) r u
    have hat := mr_St_at hA0 hof.1 hof.2
    have hz1 := hs1 (mr_of (N 0) r u).toNat
    refine mr_iload dX7_times_58 rfl ?_
    refine mr_aload_n dX7_times_60 rfl ?_
    refine mr_get dX7_times_61 fl_X7_86 (by first | assumption | exact mr_up_same _ _ _ | (refine mr_lk ?_ (by first | assumption | decide); first | assumption | exact mr_up_same _ _ _ | (refine mr_lk ?_ (by first | assumption | decide); first | assumption | exact mr_up_same _ _ _ | (refine mr_lk ?_ (by first | assumption | decide); first | assumption | exact mr_up_same _ _ _ | (refine mr_lk ?_ (by first | assumption | decide); first | assumption | exact mr_up_same _ _ _))))) rfl ?_
    refine mr_callS (as := [_]) dX7_times_64 (ok_X7_end_ l G) ml_X7_233 cl_X7_end_ cs_X7_end_ (by decide) rfl rfl (Nat.le_of_ble_eq_true rfl) ?_
    refine ⟨20, _, rfl, (by first | assumption | exact mr_up_same _ _ _ | (refine mr_lk ?_ (by first | assumption | decide); first | assumption | exact mr_up_same _ _ _ | (refine mr_lk ?_ (by first | assumption | decide); first | assumption | exact mr_up_same _ _ _ | (refine mr_lk ?_ (by first | assumption | decide); first | assumption | exact mr_up_same _ _ _ | (refine mr_lk ?_ (by first | assumption | decide); first | assumption | exact mr_up_same _ _ _))))), ?_⟩
    dsimp only [Option.toList_some, Option.toList_none, List.cons_append, List.nil_append]
    refine mr_icmp_ge (tgt := 115) dX7_times_67 (by decide) ⟨by omega, by omega⟩ ⟨by omega, by omega⟩ (fun hc_67 => absurd hc_67 (by omega)) (fun hc_67 => ?_)
    refine mr_aload_n dX7_times_70 rfl ?_
    refine mr_get dX7_times_71 fl_X7_105 (by first | assumption | exact mr_up_same _ _ _ | (refine mr_lk ?_ (by first | assumption | decide); first | assumption | exact mr_up_same _ _ _ | (refine mr_lk ?_ (by first | assumption | decide); first | assumption | exact mr_up_same _ _ _ | (refine mr_lk ?_ (by first | assumption | decide); first | assumption | exact mr_up_same _ _ _ | (refine mr_lk ?_ (by first | assumption | decide); first | assumption | exact mr_up_same _ _ _))))) rfl ?_
    refine mr_iload dX7_times_74 rfl ?_
    refine mr_aload_n dX7_times_76 rfl ?_
    refine mr_iload dX7_times_77 rfl ?_
    refine mr_callV (as := [_]) dX7_times_79 (ok_X7_isRow l G) ml_X7_236 cl_X7_isRow cv_X7_isRow (by decide) rfl rfl (Nat.le_of_ble_eq_true rfl) (by first | assumption | exact mr_up_same _ _ _ | (refine mr_lk ?_ (by first | assumption | decide); first | assumption | exact mr_up_same _ _ _ | (refine mr_lk ?_ (by first | assumption | decide); first | assumption | exact mr_up_same _ _ _ | (refine mr_lk ?_ (by first | assumption | decide); first | assumption | exact mr_up_same _ _ _ | (refine mr_lk ?_ (by first | assumption | decide); first | assumption | exact mr_up_same _ _ _))))) ?_
    refine ⟨_, _, _, _, _, _, _, _, _, _, _, _, _, _, _, _, rfl, (by first | assumption | exact mr_up_same _ _ _ | (refine mr_lk ?_ (by first | assumption | decide); first | assumption | exact mr_up_same _ _ _ | (refine mr_lk ?_ (by first | assumption | decide); first | assumption | exact mr_up_same _ _ _ | (refine mr_lk ?_ (by first | assumption | decide); first | assumption | exact mr_up_same _ _ _ | (refine mr_lk ?_ (by first | assumption | decide); first | assumption | exact mr_up_same _ _ _))))), (by first | assumption | exact mr_up_same _ _ _ | (refine mr_lk ?_ (by first | assumption | decide); first | assumption | exact mr_up_same _ _ _ | (refine mr_lk ?_ (by first | assumption | decide); first | assumption | exact mr_up_same _ _ _ | (refine mr_lk ?_ (by first | assumption | decide); first | assumption | exact mr_up_same _ _ _ | (refine mr_lk ?_ (by first | assumption | decide); first | assumption | exact mr_up_same _ _ _))))), ⟨by omega, by omega⟩, (by assumption), (by assumption), ?_, ?_⟩
    · intro ky
      dsimp only [Option.toList_some, Option.toList_none, List.cons_append, List.nil_append]
      refine mr_if_eq (tgt := 107) dX7_times_82 (by decide) (by omega) (fun h => absurd h (by decide)) (fun _ => ?_)
      refine mr_aload_n dX7_times_85 rfl ?_
      refine mr_get dX7_times_86 fl_X7_102 (by first | assumption | exact mr_up_same _ _ _ | (refine mr_lk ?_ (by first | assumption | decide); first | assumption | exact mr_up_same _ _ _ | (refine mr_lk ?_ (by first | assumption | decide); first | assumption | exact mr_up_same _ _ _ | (refine mr_lk ?_ (by first | assumption | decide); first | assumption | exact mr_up_same _ _ _ | (refine mr_lk ?_ (by first | assumption | decide); first | assumption | exact mr_up_same _ _ _))))) rfl ?_
      refine mr_iload dX7_times_89 rfl ?_
      refine mr_iload_n dX7_times_91 rfl ?_
      refine mr_aload_n dX7_times_92 rfl ?_
      refine mr_callV (as := []) dX7_times_93 (ok_X7_by l G) ml_X7_195 cl_X7_by cv_X7_by (by decide) rfl rfl (Nat.le_of_ble_eq_true rfl) (by first | assumption | exact mr_up_same _ _ _ | (refine mr_lk ?_ (by first | assumption | decide); first | assumption | exact mr_up_same _ _ _ | (refine mr_lk ?_ (by first | assumption | decide); first | assumption | exact mr_up_same _ _ _ | (refine mr_lk ?_ (by first | assumption | decide); first | assumption | exact mr_up_same _ _ _ | (refine mr_lk ?_ (by first | assumption | decide); first | assumption | exact mr_up_same _ _ _))))) ?_
      refine ⟨_, _, _, _, _, _, _, _, _, _, _, _, _, _, _, rfl, (by first | assumption | exact mr_up_same _ _ _ | (refine mr_lk ?_ (by first | assumption | decide); first | assumption | exact mr_up_same _ _ _ | (refine mr_lk ?_ (by first | assumption | decide); first | assumption | exact mr_up_same _ _ _ | (refine mr_lk ?_ (by first | assumption | decide); first | assumption | exact mr_up_same _ _ _ | (refine mr_lk ?_ (by first | assumption | decide); first | assumption | exact mr_up_same _ _ _))))), (by first | assumption | exact mr_up_same _ _ _ | (refine mr_lk ?_ (by first | assumption | decide); first | assumption | exact mr_up_same _ _ _ | (refine mr_lk ?_ (by first | assumption | decide); first | assumption | exact mr_up_same _ _ _ | (refine mr_lk ?_ (by first | assumption | decide); first | assumption | exact mr_up_same _ _ _ | (refine mr_lk ?_ (by first | assumption | decide); first | assumption | exact mr_up_same _ _ _))))), ?_⟩
      dsimp only [Option.toList_some, Option.toList_none, List.cons_append, List.nil_append]
      refine mr_callS (as := [_, _, _]) dX7_times_96 (ok_X7_often l G) ml_X7_214 cl_X7_often cs_X7_often (by decide) rfl rfl (Nat.le_of_ble_eq_true rfl) ?_
      refine ⟨_, _, _, rfl, ⟨by omega, by omega⟩, hu, hMM, ?_⟩
      dsimp only [Option.toList_some, Option.toList_none, List.cons_append, List.nil_append]
      refine mr_zald dX7_times_99 (by first | assumption | exact mr_up_same _ _ _ | (refine mr_lk ?_ (by first | assumption | decide); first | assumption | exact mr_up_same _ _ _ | (refine mr_lk ?_ (by first | assumption | decide); first | assumption | exact mr_up_same _ _ _ | (refine mr_lk ?_ (by first | assumption | decide); first | assumption | exact mr_up_same _ _ _ | (refine mr_lk ?_ (by first | assumption | decide); first | assumption | exact mr_up_same _ _ _))))) (by omega) (by omega) (by decide) ?_
      refine mr_if_eq (tgt := 107) dX7_times_100 (by decide) ⟨by omega, by omega⟩ (fun hc_100 => ?_) (fun hc_100 => ?_)
      · refine mr_iconst dX7_times_107 ?_
        refine mr_zast dX7_times_108 (by first | assumption | exact mr_up_same _ _ _ | (refine mr_lk ?_ (by first | assumption | decide); first | assumption | exact mr_up_same _ _ _ | (refine mr_lk ?_ (by first | assumption | decide); first | assumption | exact mr_up_same _ _ _ | (refine mr_lk ?_ (by first | assumption | decide); first | assumption | exact mr_up_same _ _ _ | (refine mr_lk ?_ (by first | assumption | decide); first | assumption | exact mr_up_same _ _ _))))) (by omega) (by omega) (by decide) (Or.inl rfl) ?_
        refine mw_a26 hM (mr_b01 (by assumption) _ (by first | exact Or.inl rfl | exact Or.inr rfl | assumption)) (fun w1 hM1 hF1 => ?_)
        obtain ⟨h18, h19, h20, h21, h22, h23, h24, h25, h26, h27, hs1, hs2, hik⟩ := id hM1
        refine mr_iinc dX7_times_109 rfl (by decide) rfl ?_
        refine mr_goto (tgt := 58) dX7_times_112 (by decide) ?_
        first | exact ih (r + 1) _ w1 (by omega) (by omega) (mr_Sf_1 hS h0 ⟨ky, hat.mp (by omega)⟩) hM1 (hFr.tr hF1) hK | exact ih (r + 1) _ w1 (by omega) (by omega) (mr_Sf_0 hS h0 (fun zz => ky zz.1)) hM1 (hFr.tr hF1) hK | exact ih (r + 1) _ w1 (by omega) (by omega) (mr_Sf_0 hS h0 (fun zz => by have := hat.mpr zz.2; omega)) hM1 (hFr.tr hF1) hK
      · refine mr_iconst dX7_times_103 ?_
        refine mr_goto (tgt := 108) dX7_times_104 (by decide) ?_
        refine mr_zast dX7_times_108 (by first | assumption | exact mr_up_same _ _ _ | (refine mr_lk ?_ (by first | assumption | decide); first | assumption | exact mr_up_same _ _ _ | (refine mr_lk ?_ (by first | assumption | decide); first | assumption | exact mr_up_same _ _ _ | (refine mr_lk ?_ (by first | assumption | decide); first | assumption | exact mr_up_same _ _ _ | (refine mr_lk ?_ (by first | assumption | decide); first | assumption | exact mr_up_same _ _ _))))) (by omega) (by omega) (by decide) (Or.inr rfl) ?_
        refine mw_a26 hM (mr_b01 (by assumption) _ (by first | exact Or.inl rfl | exact Or.inr rfl | assumption)) (fun w2 hM2 hF2 => ?_)
        obtain ⟨h18, h19, h20, h21, h22, h23, h24, h25, h26, h27, hs1, hs2, hik⟩ := id hM2
        refine mr_iinc dX7_times_109 rfl (by decide) rfl ?_
        refine mr_goto (tgt := 58) dX7_times_112 (by decide) ?_
        first | exact ih (r + 1) _ w2 (by omega) (by omega) (mr_Sf_1 hS h0 ⟨ky, hat.mp (by omega)⟩) hM2 (hFr.tr hF2) hK | exact ih (r + 1) _ w2 (by omega) (by omega) (mr_Sf_0 hS h0 (fun zz => ky zz.1)) hM2 (hFr.tr hF2) hK | exact ih (r + 1) _ w2 (by omega) (by omega) (mr_Sf_0 hS h0 (fun zz => by have := hat.mpr zz.2; omega)) hM2 (hFr.tr hF2) hK
    · intro ky
      dsimp only [Option.toList_some, Option.toList_none, List.cons_append, List.nil_append]
      refine mr_if_eq (tgt := 107) dX7_times_82 (by decide) (by omega) (fun _ => ?_) (fun h => absurd h (by decide))
      refine mr_iconst dX7_times_107 ?_
      refine mr_zast dX7_times_108 (by first | assumption | exact mr_up_same _ _ _ | (refine mr_lk ?_ (by first | assumption | decide); first | assumption | exact mr_up_same _ _ _ | (refine mr_lk ?_ (by first | assumption | decide); first | assumption | exact mr_up_same _ _ _ | (refine mr_lk ?_ (by first | assumption | decide); first | assumption | exact mr_up_same _ _ _ | (refine mr_lk ?_ (by first | assumption | decide); first | assumption | exact mr_up_same _ _ _))))) (by omega) (by omega) (by decide) (Or.inl rfl) ?_
      refine mw_a26 hM (mr_b01 (by assumption) _ (by first | exact Or.inl rfl | exact Or.inr rfl | assumption)) (fun w3 hM3 hF3 => ?_)
      obtain ⟨h18, h19, h20, h21, h22, h23, h24, h25, h26, h27, hs1, hs2, hik⟩ := id hM3
      refine mr_iinc dX7_times_109 rfl (by decide) rfl ?_
      refine mr_goto (tgt := 58) dX7_times_112 (by decide) ?_
      first | exact ih (r + 1) _ w3 (by omega) (by omega) (mr_Sf_1 hS h0 ⟨ky, hat.mp (by omega)⟩) hM3 (hFr.tr hF3) hK | exact ih (r + 1) _ w3 (by omega) (by omega) (mr_Sf_0 hS h0 (fun zz => ky zz.1)) hM3 (hFr.tr hF3) hK | exact ih (r + 1) _ w3 (by omega) (by omega) (mr_Sf_0 hS h0 (fun zz => by have := hat.mpr zz.2; omega)) hM3 (hFr.tr hF3) hK
def T_X7_times (a : List mr_AV) (w : mr_Wd) (Po : Option mr_AV → mr_Wd → Prop) : Prop := ∃ (th tp sz zo fr kd nb ft pl wd sm md li sd : Int) (T N R K Sn ik s1 s2 ls : Nat → Int) (W : Nat) (L : Int → mr_V → Prop) (F : Nat → mr_V) (Lt : mr_V → Prop) (s u b q : Int), a = [vR 18 0, vI s, vI u, vI b, vI q] ∧ mr_MW w th tp sz zo fr kd nb ft pl wd sm md li sd T N R K Sn ik s1 s2 ls ∧ mr_NG N W L ∧ (0 ≤ sm ∧ sm ≤ 8) ∧ InR s ∧ InR u ∧ InR b ∧ InR q ∧ (((0 < N 0 ∧ 0 ≤ s ∧ s ≤ 3) ∧ (0 < N 0 ∧ 0 ≤ q ∧ q ≤ 3) ∧ (0 ≤ u ∧ u < N 0)) → mr_Fo (N 0) W F Lt) ∧ (((0 < N 0 ∧ 0 ≤ s ∧ s ≤ 3) ∧ (0 < N 0 ∧ 0 ≤ q ∧ q ≤ 3) ∧ (0 ≤ u ∧ u < N 0)) → b = 0 → ∀ r : Int, 0 ≤ r → r < N 0 * N 0 * N 0 → ((∃ x : Int, (0 ≤ x ∧ x < N 0 * N 0 * N 0) ∧ mr_S (N 0) (L s) x ∧ r = mr_of (N 0) x u) ↔ mr_S (N 0) Lt r)) ∧ (((0 < N 0 ∧ 0 ≤ s ∧ s ≤ 3) ∧ (0 < N 0 ∧ 0 ≤ q ∧ q ≤ 3) ∧ (0 ≤ u ∧ u < N 0)) → b ≠ 0 → ∀ r : Int, 0 ≤ r → r < N 0 * N 0 * N 0 → ((r % mr_stp N = 0 ∧ mr_S (N 0) (L s) (mr_of (N 0) r u)) ↔ mr_S (N 0) Lt r)) ∧ (((0 < N 0 ∧ 0 ≤ s ∧ s ≤ 3) ∧ (0 < N 0 ∧ 0 ≤ q ∧ q ≤ 3) ∧ (0 ≤ u ∧ u < N 0)) → (∀ (w' : mr_Wd) (Sn' st' li' s2' : Nat → Int) (sm' : Int) (n : Nat), mr_snr N Sn sm Sn' sm' → mr_Lp (N 0) st' li' n (mr_S (N 0) Lt) → mr_MW w' (0) tp sz zo fr kd nb ft pl wd (sm') md ((n : Int)) sd T (mr_kf (N 0) N q F) R K (Sn') ik (st') (s2') (li') → mr_FM w w' → Po (some (vI n)) w')) ∧ (¬ ((0 < N 0 ∧ 0 ≤ s ∧ s ≤ 3) ∧ (0 < N 0 ∧ 0 ≤ q ∧ q ≤ 3) ∧ (0 ≤ u ∧ u < N 0)) → (∀ w' : mr_Wd, mr_MW w' (0) tp sz zo fr kd nb ft pl wd sm md li sd T N R K Sn ik s1 s2 ls → mr_FM w w' → Po (some (vI (-1))) w'))
set_option maxHeartbeats 4000000 in
set_option maxRecDepth 20000 in
theorem ok_X7_times (l : Launch) (G : mr_G) : mr_Ok l G yX7_times cX7_times 6 (some .int) 5 116 T_X7_times := by
  refine mr_Ok.of (by decide +kernel) ?_
  rintro a w Po ⟨th, tp, sz, zo, fr, kd, nb, ft, pl, wd, sm, md, li, sd, T, N, R, K, Sn, ik, s1, s2, ls, W, L, F, Lt, s, u, b, q, rfl, hM, ⟨hG0, hG1, hG14, hGW⟩, hsm, h_s, h_u, h_b, h_q, hFoC, hQ0, hQ1, hP, hQ⟩
  refine ⟨Nat.le_of_ble_eq_true rfl, ?_⟩
  show mr_J l G RX7 cX7_times 6 (some .int) 5 116 Po 0 [some (vR 18 0), some (vI s), some (vI u), some (vI b), some (vI q), none] [] w
  obtain ⟨h18, h19, h20, h21, h22, h23, h24, h25, h26, h27, hs1, hs2, hik⟩ := id hM
  refine mr_aload_n dX7_times_0 rfl ?_
  refine mr_iconst dX7_times_1 ?_
  refine mr_put dX7_times_2 fl_X7_1 pf_X7_0 rfl rfl (by first | assumption | exact mr_up_same _ _ _ | (refine mr_lk ?_ (by first | assumption | decide); first | assumption | exact mr_up_same _ _ _ | (refine mr_lk ?_ (by first | assumption | decide); first | assumption | exact mr_up_same _ _ _ | (refine mr_lk ?_ (by first | assumption | decide); first | assumption | exact mr_up_same _ _ _ | (refine mr_lk ?_ (by first | assumption | decide); first | assumption | exact mr_up_same _ _ _))))) (Nat.le_of_ble_eq_true rfl) ?_
  refine mw_p0 hM (fun w1 hM1 hF1 => ?_)
  obtain ⟨h18, h19, h20, h21, h22, h23, h24, h25, h26, h27, hs1, hs2, hik⟩ := id hM1
  refine mr_aload_n dX7_times_5 rfl ?_
  refine mr_iload_n dX7_times_6 rfl ?_
  refine mr_callV (as := [_]) dX7_times_7 (ok_X7_isModuleAt l G) ml_X7_199 cl_X7_isModuleAt cv_X7_isModuleAt (by decide) rfl rfl (Nat.le_of_ble_eq_true rfl) (by first | assumption | exact mr_up_same _ _ _ | (refine mr_lk ?_ (by first | assumption | decide); first | assumption | exact mr_up_same _ _ _ | (refine mr_lk ?_ (by first | assumption | decide); first | assumption | exact mr_up_same _ _ _ | (refine mr_lk ?_ (by first | assumption | decide); first | assumption | exact mr_up_same _ _ _ | (refine mr_lk ?_ (by first | assumption | decide); first | assumption | exact mr_up_same _ _ _))))) ?_
  refine ⟨_, _, _, _, _, _, _, _, _, _, _, _, _, _, _, _, rfl, (by first | assumption | exact mr_up_same _ _ _ | (refine mr_lk ?_ (by first | assumption | decide); first | assumption | exact mr_up_same _ _ _ | (refine mr_lk ?_ (by first | assumption | decide); first | assumption | exact mr_up_same _ _ _ | (refine mr_lk ?_ (by first | assumption | decide); first | assumption | exact mr_up_same _ _ _ | (refine mr_lk ?_ (by first | assumption | decide); first | assumption | exact mr_up_same _ _ _))))), (by first | assumption | exact mr_up_same _ _ _ | (refine mr_lk ?_ (by first | assumption | decide); first | assumption | exact mr_up_same _ _ _ | (refine mr_lk ?_ (by first | assumption | decide); first | assumption | exact mr_up_same _ _ _ | (refine mr_lk ?_ (by first | assumption | decide); first | assumption | exact mr_up_same _ _ _ | (refine mr_lk ?_ (by first | assumption | decide); first | assumption | exact mr_up_same _ _ _))))), h_s, hG0, ?_, ?_⟩
  · intro k1
    dsimp only [Option.toList_some, Option.toList_none, List.cons_append, List.nil_append]
    refine mr_if_eq (tgt := 36) dX7_times_10 (by decide) (by omega) (fun h => absurd h (by decide)) (fun _ => ?_)
    refine mr_aload_n dX7_times_13 rfl ?_
    refine mr_iload dX7_times_14 rfl ?_
    refine mr_callV (as := [_]) dX7_times_16 (ok_X7_isModuleAt l G) ml_X7_199 cl_X7_isModuleAt cv_X7_isModuleAt (by decide) rfl rfl (Nat.le_of_ble_eq_true rfl) (by first | assumption | exact mr_up_same _ _ _ | (refine mr_lk ?_ (by first | assumption | decide); first | assumption | exact mr_up_same _ _ _ | (refine mr_lk ?_ (by first | assumption | decide); first | assumption | exact mr_up_same _ _ _ | (refine mr_lk ?_ (by first | assumption | decide); first | assumption | exact mr_up_same _ _ _ | (refine mr_lk ?_ (by first | assumption | decide); first | assumption | exact mr_up_same _ _ _))))) ?_
    refine ⟨_, _, _, _, _, _, _, _, _, _, _, _, _, _, _, _, rfl, (by first | assumption | exact mr_up_same _ _ _ | (refine mr_lk ?_ (by first | assumption | decide); first | assumption | exact mr_up_same _ _ _ | (refine mr_lk ?_ (by first | assumption | decide); first | assumption | exact mr_up_same _ _ _ | (refine mr_lk ?_ (by first | assumption | decide); first | assumption | exact mr_up_same _ _ _ | (refine mr_lk ?_ (by first | assumption | decide); first | assumption | exact mr_up_same _ _ _))))), (by first | assumption | exact mr_up_same _ _ _ | (refine mr_lk ?_ (by first | assumption | decide); first | assumption | exact mr_up_same _ _ _ | (refine mr_lk ?_ (by first | assumption | decide); first | assumption | exact mr_up_same _ _ _ | (refine mr_lk ?_ (by first | assumption | decide); first | assumption | exact mr_up_same _ _ _ | (refine mr_lk ?_ (by first | assumption | decide); first | assumption | exact mr_up_same _ _ _))))), h_q, hG0, ?_, ?_⟩
    · intro k2
      dsimp only [Option.toList_some, Option.toList_none, List.cons_append, List.nil_append]
      refine mr_if_eq (tgt := 36) dX7_times_19 (by decide) (by omega) (fun h => absurd h (by decide)) (fun _ => ?_)
      refine mr_iload_n dX7_times_22 rfl ?_
      refine mr_iconst dX7_times_23 ?_
      refine mr_aload_n dX7_times_24 rfl ?_
      refine mr_callV (as := []) dX7_times_25 (ok_X7_by l G) ml_X7_195 cl_X7_by cv_X7_by (by decide) rfl rfl (Nat.le_of_ble_eq_true rfl) (by first | assumption | exact mr_up_same _ _ _ | (refine mr_lk ?_ (by first | assumption | decide); first | assumption | exact mr_up_same _ _ _ | (refine mr_lk ?_ (by first | assumption | decide); first | assumption | exact mr_up_same _ _ _ | (refine mr_lk ?_ (by first | assumption | decide); first | assumption | exact mr_up_same _ _ _ | (refine mr_lk ?_ (by first | assumption | decide); first | assumption | exact mr_up_same _ _ _))))) ?_
      refine ⟨_, _, _, _, _, _, _, _, _, _, _, _, _, _, _, rfl, (by first | assumption | exact mr_up_same _ _ _ | (refine mr_lk ?_ (by first | assumption | decide); first | assumption | exact mr_up_same _ _ _ | (refine mr_lk ?_ (by first | assumption | decide); first | assumption | exact mr_up_same _ _ _ | (refine mr_lk ?_ (by first | assumption | decide); first | assumption | exact mr_up_same _ _ _ | (refine mr_lk ?_ (by first | assumption | decide); first | assumption | exact mr_up_same _ _ _))))), (by first | assumption | exact mr_up_same _ _ _ | (refine mr_lk ?_ (by first | assumption | decide); first | assumption | exact mr_up_same _ _ _ | (refine mr_lk ?_ (by first | assumption | decide); first | assumption | exact mr_up_same _ _ _ | (refine mr_lk ?_ (by first | assumption | decide); first | assumption | exact mr_up_same _ _ _ | (refine mr_lk ?_ (by first | assumption | decide); first | assumption | exact mr_up_same _ _ _))))), ?_⟩
      dsimp only [Option.toList_some, Option.toList_none, List.cons_append, List.nil_append]
      refine mr_iconst dX7_times_28 ?_
      refine mr_isub dX7_times_29 ?_
      refine mr_callS (as := [_, _, _]) dX7_times_30 (ok_X7_isIn l G) ml_X7_117 cl_X7_isIn cs_X7_isIn (by decide) rfl rfl (Nat.le_of_ble_eq_true rfl) ?_
      refine ⟨_, _, _, rfl, h_u, (by decide), ⟨by omega, by omega⟩, ?_, ?_⟩
      · intro k3
        dsimp only [Option.toList_some, Option.toList_none, List.cons_append, List.nil_append]
        refine mr_if_ne (tgt := 38) dX7_times_33 (by decide) (by omega) (fun _ => ?_) (fun h => absurd h (by decide))
        obtain ⟨e0, e1, hM0, hW0, hFN, hEQ⟩ := hGW (by omega)
        have hMM : 1 ≤ N 0 ∧ N 0 ≤ 30 := ⟨by omega, by omega⟩
        have hm3 := mr_m3 hMM
        have hm2 := mr_m2 hMM
        have K0 : ((0 < N 0 ∧ 0 ≤ s ∧ s ≤ 3) ∧ (0 < N 0 ∧ 0 ≤ q ∧ q ≤ 3) ∧ (0 ≤ u ∧ u < N 0)) := ⟨k1, k2, by omega⟩
        have hFo := hFoC K0
        have hu30 : 0 ≤ u ∧ u ≤ 30 := ⟨by omega, by omega⟩
        refine mr_aload_n dX7_times_38 rfl ?_
        refine mr_aload_n dX7_times_39 rfl ?_
        refine mr_get dX7_times_40 fl_X7_86 (by first | assumption | exact mr_up_same _ _ _ | (refine mr_lk ?_ (by first | assumption | decide); first | assumption | exact mr_up_same _ _ _ | (refine mr_lk ?_ (by first | assumption | decide); first | assumption | exact mr_up_same _ _ _ | (refine mr_lk ?_ (by first | assumption | decide); first | assumption | exact mr_up_same _ _ _ | (refine mr_lk ?_ (by first | assumption | decide); first | assumption | exact mr_up_same _ _ _))))) rfl ?_
        refine mr_iload_n dX7_times_43 rfl ?_
        refine mr_aload_n dX7_times_44 rfl ?_
        refine mr_get dX7_times_45 fl_X7_102 (by first | assumption | exact mr_up_same _ _ _ | (refine mr_lk ?_ (by first | assumption | decide); first | assumption | exact mr_up_same _ _ _ | (refine mr_lk ?_ (by first | assumption | decide); first | assumption | exact mr_up_same _ _ _ | (refine mr_lk ?_ (by first | assumption | decide); first | assumption | exact mr_up_same _ _ _ | (refine mr_lk ?_ (by first | assumption | decide); first | assumption | exact mr_up_same _ _ _))))) rfl ?_
        refine mr_callV (as := [_, _, _]) dX7_times_48 (ok_X7_laysSet l G) ml_X7_128 cl_X7_laysSet cv_X7_laysSet (by decide) rfl rfl (Nat.le_of_ble_eq_true rfl) (by first | assumption | exact mr_up_same _ _ _ | (refine mr_lk ?_ (by first | assumption | decide); first | assumption | exact mr_up_same _ _ _ | (refine mr_lk ?_ (by first | assumption | decide); first | assumption | exact mr_up_same _ _ _ | (refine mr_lk ?_ (by first | assumption | decide); first | assumption | exact mr_up_same _ _ _ | (refine mr_lk ?_ (by first | assumption | decide); first | assumption | exact mr_up_same _ _ _))))) ?_
        refine mw_lays1 hM1 rfl hMM ⟨by omega, by omega⟩ (hFN s (by omega) (by omega)) (fun w2 st2 li2 n2 hp2 hM2 hF2 => ?_)
        obtain ⟨h18, h19, h20, h21, h22, h23, h24, h25, h26, h27, hs1, hs2, hik⟩ := id hM2
        dsimp only [Option.toList_some, Option.toList_none, List.cons_append, List.nil_append]
        refine mr_iload_n dX7_times_51 rfl ?_
        refine mr_if_eq (tgt := 118) dX7_times_52 (by decide) h_b (fun hc_52 => ?_) (fun hc_52 => ?_)
        · refine mr_aload_n dX7_times_118 rfl ?_
          refine mr_iload_n dX7_times_119 rfl ?_
          refine mr_callV (as := [_]) dX7_times_120 (ok_X7_manyTimes l G) ml_X7_217 cl_X7_manyTimes cv_X7_manyTimes (by decide) rfl rfl (Nat.le_of_ble_eq_true rfl) (by first | assumption | exact mr_up_same _ _ _ | (refine mr_lk ?_ (by first | assumption | decide); first | assumption | exact mr_up_same _ _ _ | (refine mr_lk ?_ (by first | assumption | decide); first | assumption | exact mr_up_same _ _ _ | (refine mr_lk ?_ (by first | assumption | decide); first | assumption | exact mr_up_same _ _ _ | (refine mr_lk ?_ (by first | assumption | decide); first | assumption | exact mr_up_same _ _ _))))) ?_
          refine ⟨_, _, _, _, _, _, _, _, _, _, _, _, _, _, _, _, _, _, _, _, _, _, u, n2, rfl, hM2, hMM, hu30, (by have := mr_Lp_le (by omega) hp2; omega), (fun i hi => (hp2.2.2.1 i hi).1), (fun w3 s23 l23 c3 hp3 hM3 hF3 => ?_)⟩
          obtain ⟨h18, h19, h20, h21, h22, h23, h24, h25, h26, h27, hs1, hs2, hik⟩ := id hM3
          dsimp only [Option.toList_some, Option.toList_none, List.cons_append, List.nil_append]
          refine mr_pop dX7_times_123 rfl ?_
          have hSS : mr_St (N 0) s23 (mr_S (N 0) Lt) := mr_Lp_St (mr_Lp_cg hp3 (fun r g1 g2 => by
            refine Iff.trans ⟨fun ⟨i, hi, e⟩ => ⟨_, (hp2.2.2.1 i hi).1, (hp2.2.2.1 i hi).2, e⟩, fun ⟨x, hx, hSx, e⟩ => ?_⟩ (hQ0 K0 hc_52 r g1 g2)
            obtain ⟨i, hi, ei⟩ := hp2.2.2.2.1 x.toNat (by omega) (by rw [Int.toNat_of_nonneg hx.1]; exact hSx)
            rw [Int.toNat_of_nonneg hx.1] at ei
            exact ⟨i, hi, by rw [ei]; exact e⟩))
          refine mr_aload_n dX7_times_124 rfl ?_
          refine mr_aload_n dX7_times_125 rfl ?_
          refine mr_get dX7_times_126 fl_X7_105 (by first | assumption | exact mr_up_same _ _ _ | (refine mr_lk ?_ (by first | assumption | decide); first | assumption | exact mr_up_same _ _ _ | (refine mr_lk ?_ (by first | assumption | decide); first | assumption | exact mr_up_same _ _ _ | (refine mr_lk ?_ (by first | assumption | decide); first | assumption | exact mr_up_same _ _ _ | (refine mr_lk ?_ (by first | assumption | decide); first | assumption | exact mr_up_same _ _ _))))) rfl ?_
          refine mr_iload dX7_times_129 rfl ?_
          refine mr_callV (as := [_, _]) dX7_times_131 (ok_X7_comes l G) ml_X7_226 cl_X7_comes cv_X7_comes (by decide) rfl rfl (Nat.le_of_ble_eq_true rfl) (by first | assumption | exact mr_up_same _ _ _ | (refine mr_lk ?_ (by first | assumption | decide); first | assumption | exact mr_up_same _ _ _ | (refine mr_lk ?_ (by first | assumption | decide); first | assumption | exact mr_up_same _ _ _ | (refine mr_lk ?_ (by first | assumption | decide); first | assumption | exact mr_up_same _ _ _ | (refine mr_lk ?_ (by first | assumption | decide); first | assumption | exact mr_up_same _ _ _))))) ?_
          refine ⟨_, _, _, _, _, _, _, _, _, _, _, _, _, _, _, _, _, _, _, _, _, _, _, 26, q, W, F, Lt, rfl, hM3, hsm, hMM, ⟨by omega, by omega⟩, hFo, Or.inr ⟨rfl, hSS⟩, (fun w4 Sn4 st4 li4 sm4 n4 hsn4 hp4 hM4 hF4 => ?_)⟩
          obtain ⟨h18, h19, h20, h21, h22, h23, h24, h25, h26, h27, hs1, hs2, hik⟩ := id hM4
          dsimp only [Option.toList_some, Option.toList_none, List.cons_append, List.nil_append]
          refine mr_iret rfl dX7_times_134 ?_
          exact hP K0 w4 Sn4 st4 li4 _ sm4 n4 hsn4 hp4 hM4 (hF1.tr (hF2.tr (hF3.tr hF4)))
        · refine mr_iconst dX7_times_55 ?_
          refine mr_istore dX7_times_56 rfl (by decide) ?_
          refine mr_weak [some (vR 18 0), some (vI s), some (vI u), some (vI b), some (vI q), some (vI 0)] ⟨rfl, rfl, rfl, rfl, rfl, rfl, trivial⟩ ?_
          refine lp_X7_times l G (N := N) (s2 := s2) (w0 := w2) (s := s) (u := u) (b := b) (q := q) (A0 := mr_S (N 0) (L s)) hMM hG1 hu30 (mr_Lp_St hp2) (N 0 * N 0 * N 0).toNat 0 _ w2 (Int.le_refl 0) (by omega) (fun i hi => by omega) hM2 (mr_FM.rf _) (fun w99 st99 hS99 hM99 hF99 => ?_)
          obtain ⟨h18, h19, h20, h21, h22, h23, h24, h25, h26, h27, hs1, hs2, hik⟩ := id hM99
          have hSS := mr_Sf_St hS99 hs2 (hQ1 K0 hc_52)
          refine mr_aload_n dX7_times_124 rfl ?_
          refine mr_aload_n dX7_times_125 rfl ?_
          refine mr_get dX7_times_126 fl_X7_105 (by first | assumption | exact mr_up_same _ _ _ | (refine mr_lk ?_ (by first | assumption | decide); first | assumption | exact mr_up_same _ _ _ | (refine mr_lk ?_ (by first | assumption | decide); first | assumption | exact mr_up_same _ _ _ | (refine mr_lk ?_ (by first | assumption | decide); first | assumption | exact mr_up_same _ _ _ | (refine mr_lk ?_ (by first | assumption | decide); first | assumption | exact mr_up_same _ _ _))))) rfl ?_
          refine mr_iload dX7_times_129 rfl ?_
          refine mr_callV (as := [_, _]) dX7_times_131 (ok_X7_comes l G) ml_X7_226 cl_X7_comes cv_X7_comes (by decide) rfl rfl (Nat.le_of_ble_eq_true rfl) (by first | assumption | exact mr_up_same _ _ _ | (refine mr_lk ?_ (by first | assumption | decide); first | assumption | exact mr_up_same _ _ _ | (refine mr_lk ?_ (by first | assumption | decide); first | assumption | exact mr_up_same _ _ _ | (refine mr_lk ?_ (by first | assumption | decide); first | assumption | exact mr_up_same _ _ _ | (refine mr_lk ?_ (by first | assumption | decide); first | assumption | exact mr_up_same _ _ _))))) ?_
          refine ⟨_, _, _, _, _, _, _, _, _, _, _, _, _, _, _, _, _, _, _, _, _, _, _, 26, q, W, F, Lt, rfl, hM99, hsm, hMM, ⟨by omega, by omega⟩, hFo, Or.inr ⟨rfl, hSS⟩, (fun w100 Sn100 st100 li100 sm100 n100 hsn100 hp100 hM100 hF100 => ?_)⟩
          obtain ⟨h18, h19, h20, h21, h22, h23, h24, h25, h26, h27, hs1, hs2, hik⟩ := id hM100
          dsimp only [Option.toList_some, Option.toList_none, List.cons_append, List.nil_append]
          refine mr_iret rfl dX7_times_134 ?_
          exact hP K0 w100 Sn100 st100 li100 _ sm100 n100 hsn100 hp100 hM100 (hF1.tr (hF2.tr (hF99.tr hF100)))
      · intro k3
        dsimp only [Option.toList_some, Option.toList_none, List.cons_append, List.nil_append]
        refine mr_if_ne (tgt := 38) dX7_times_33 (by decide) (by omega) (fun h => absurd h (by decide)) (fun _ => ?_)
        refine mr_iconst dX7_times_36 ?_
        refine mr_iret rfl dX7_times_37 ?_
        first | exact hQ (fun zz => k1 zz.1) w1 hM1 hF1 | exact hQ (fun zz => k2 zz.2.1) w1 hM1 hF1 | exact hQ (fun zz => k3 ⟨zz.2.2.1, by omega⟩) w1 hM1 hF1
    · intro k2
      dsimp only [Option.toList_some, Option.toList_none, List.cons_append, List.nil_append]
      refine mr_if_eq (tgt := 36) dX7_times_19 (by decide) (by omega) (fun _ => ?_) (fun h => absurd h (by decide))
      refine mr_iconst dX7_times_36 ?_
      refine mr_iret rfl dX7_times_37 ?_
      first | exact hQ (fun zz => k1 zz.1) w1 hM1 hF1 | exact hQ (fun zz => k2 zz.2.1) w1 hM1 hF1 | exact hQ (fun zz => k3 ⟨zz.2.2.1, by omega⟩) w1 hM1 hF1
  · intro k1
    dsimp only [Option.toList_some, Option.toList_none, List.cons_append, List.nil_append]
    refine mr_if_eq (tgt := 36) dX7_times_10 (by decide) (by omega) (fun _ => ?_) (fun h => absurd h (by decide))
    refine mr_iconst dX7_times_36 ?_
    refine mr_iret rfl dX7_times_37 ?_
    first | exact hQ (fun zz => k1 zz.1) w1 hM1 hF1 | exact hQ (fun zz => k2 zz.2.1) w1 hM1 hF1 | exact hQ (fun zz => k3 ⟨zz.2.2.1, by omega⟩) w1 hM1 hF1
set_option maxHeartbeats 4000000 in
set_option maxRecDepth 20000 in
theorem lp_X7_row (l : Launch) (G : mr_G) {Po : Option mr_AV → mr_Wd → Prop} {w : mr_Wd} {th tp sz zo fr kd nb ft pl wd sm md li sd : Int} {T N R K Sn ik s1 s2 ls : Nat → Int} {t x : Int} (hM : mr_MW w th tp sz zo fr kd nb ft pl wd sm md li sd T N R K Sn ik s1 s2 ls) (hMM : 1 ≤ N 0 ∧ N 0 ≤ 30) (hx : 0 ≤ x ∧ x < mr_sm (N 0 * N 0 * N 0).toNat s1) (hP : ∀ r : Int, 0 ≤ r → r < N 0 * N 0 * N 0 → s1 r.toNat = 1 → mr_sm r.toNat s1 = x → Po (some (vI (mr_tbk (N 0) r))) w) : ∀ (n : Nat) (r lf : Int), 0 ≤ r → r + n = N 0 * N 0 * N 0 → lf = x - mr_sm r.toNat s1 → 0 ≤ lf → mr_J l G RX7 cX7_row 5 (some .int) 4 94 Po 36 [some (vR 18 0), some (vI t), some (vI x), some (vI lf), some (vI r)] [] w := by
  intro n
  have hm3 := mr_m3 hMM
  obtain ⟨h18, h19, h20, h21, h22, h23, h24, h25, h26, h27, hs1, hs2, hik⟩ := id hM
  have hs9 := mr_sm_nn hs1 (N 0 * N 0 * N 0).toNat
  induction n with
  | zero =>
    intro r lf h0 hn hl hl0
    have e : r = N 0 * N 0 * N 0 := by omega
    rw [← e] at hx
    omega
  | succ n ih =>
    intro r lf h0 hn hl hl0
    have hz := hs1 r.toNat
    have hsr := mr_sm_nn hs1 r.toNat
    have hsn : mr_sm (r + 1).toNat s1 = mr_sm r.toNat s1 + s1 r.toNat := by rw [show (r + 1).toNat = r.toNat + 1 by omega]; rfl
    refine mr_aload_n dX7_row_36 rfl ?_
    refine mr_get dX7_row_37 fl_X7_102 (by first | assumption | exact mr_up_same _ _ _ | (refine mr_lk ?_ (by first | assumption | decide); first | assumption | exact mr_up_same _ _ _ | (refine mr_lk ?_ (by first | assumption | decide); first | assumption | exact mr_up_same _ _ _ | (refine mr_lk ?_ (by first | assumption | decide); first | assumption | exact mr_up_same _ _ _ | (refine mr_lk ?_ (by first | assumption | decide); first | assumption | exact mr_up_same _ _ _))))) rfl ?_
    refine mr_iload dX7_row_40 rfl ?_
    refine mr_zald dX7_row_42 (by first | assumption | exact mr_up_same _ _ _ | (refine mr_lk ?_ (by first | assumption | decide); first | assumption | exact mr_up_same _ _ _ | (refine mr_lk ?_ (by first | assumption | decide); first | assumption | exact mr_up_same _ _ _ | (refine mr_lk ?_ (by first | assumption | decide); first | assumption | exact mr_up_same _ _ _ | (refine mr_lk ?_ (by first | assumption | decide); first | assumption | exact mr_up_same _ _ _))))) (by omega) (by omega) (by decide) ?_
    refine mr_if_eq (tgt := 50) dX7_row_43 (by decide) ⟨by omega, by omega⟩ (fun hc_43 => ?_) (fun hc_43 => ?_)
    · refine mr_aload_n dX7_row_50 rfl ?_
      refine mr_get dX7_row_51 fl_X7_102 (by first | assumption | exact mr_up_same _ _ _ | (refine mr_lk ?_ (by first | assumption | decide); first | assumption | exact mr_up_same _ _ _ | (refine mr_lk ?_ (by first | assumption | decide); first | assumption | exact mr_up_same _ _ _ | (refine mr_lk ?_ (by first | assumption | decide); first | assumption | exact mr_up_same _ _ _ | (refine mr_lk ?_ (by first | assumption | decide); first | assumption | exact mr_up_same _ _ _))))) rfl ?_
      refine mr_iload dX7_row_54 rfl ?_
      refine mr_zald dX7_row_56 (by first | assumption | exact mr_up_same _ _ _ | (refine mr_lk ?_ (by first | assumption | decide); first | assumption | exact mr_up_same _ _ _ | (refine mr_lk ?_ (by first | assumption | decide); first | assumption | exact mr_up_same _ _ _ | (refine mr_lk ?_ (by first | assumption | decide); first | assumption | exact mr_up_same _ _ _ | (refine mr_lk ?_ (by first | assumption | decide); first | assumption | exact mr_up_same _ _ _))))) (by omega) (by omega) (by decide) ?_
      refine mr_if_eq (tgt := 63) dX7_row_57 (by decide) ⟨by omega, by omega⟩ (fun hc_57 => ?_) (fun hc_57 => ?_)
      · refine mr_iinc dX7_row_63 rfl (by decide) rfl ?_
        refine mr_goto (tgt := 36) dX7_row_66 (by decide) ?_
        first | (exfalso; omega) | exact ih (r + 1) lf (by omega) (by omega) (by omega) (by omega) | exact ih (r + 1) (lf + -1) (by omega) (by omega) (by omega) (by omega)
      · refine mr_iinc dX7_row_60 rfl (by decide) rfl ?_
        refine mr_iinc dX7_row_63 rfl (by decide) rfl ?_
        refine mr_goto (tgt := 36) dX7_row_66 (by decide) ?_
        first | (exfalso; omega) | exact ih (r + 1) lf (by omega) (by omega) (by omega) (by omega) | exact ih (r + 1) (lf + -1) (by omega) (by omega) (by omega) (by omega)
    · refine mr_iload_n dX7_row_46 rfl ?_
      refine mr_if_le (tgt := 69) dX7_row_47 (by decide) ⟨by omega, by omega⟩ (fun hc_47 => ?_) (fun hc_47 => ?_)
      · refine mr_aload_n dX7_row_69 rfl ?_
        refine mr_iload dX7_row_70 rfl ?_
        refine mr_callV (as := [_]) dX7_row_72 (ok_X7_toldBack l G) ml_X7_202 cl_X7_toldBack cv_X7_toldBack (by decide) rfl rfl (Nat.le_of_ble_eq_true rfl) (by first | assumption | exact mr_up_same _ _ _ | (refine mr_lk ?_ (by first | assumption | decide); first | assumption | exact mr_up_same _ _ _ | (refine mr_lk ?_ (by first | assumption | decide); first | assumption | exact mr_up_same _ _ _ | (refine mr_lk ?_ (by first | assumption | decide); first | assumption | exact mr_up_same _ _ _ | (refine mr_lk ?_ (by first | assumption | decide); first | assumption | exact mr_up_same _ _ _))))) ?_
        refine ⟨_, _, _, _, _, _, _, _, _, _, _, _, _, _, _, _, rfl, (by first | assumption | exact mr_up_same _ _ _ | (refine mr_lk ?_ (by first | assumption | decide); first | assumption | exact mr_up_same _ _ _ | (refine mr_lk ?_ (by first | assumption | decide); first | assumption | exact mr_up_same _ _ _ | (refine mr_lk ?_ (by first | assumption | decide); first | assumption | exact mr_up_same _ _ _ | (refine mr_lk ?_ (by first | assumption | decide); first | assumption | exact mr_up_same _ _ _))))), (by first | assumption | exact mr_up_same _ _ _ | (refine mr_lk ?_ (by first | assumption | decide); first | assumption | exact mr_up_same _ _ _ | (refine mr_lk ?_ (by first | assumption | decide); first | assumption | exact mr_up_same _ _ _ | (refine mr_lk ?_ (by first | assumption | decide); first | assumption | exact mr_up_same _ _ _ | (refine mr_lk ?_ (by first | assumption | decide); first | assumption | exact mr_up_same _ _ _))))), ⟨by omega, by omega⟩, hMM, ?_⟩
        dsimp only [Option.toList_some, Option.toList_none, List.cons_append, List.nil_append]
        refine mr_iret rfl dX7_row_75 ?_
        exact hP r h0 (by omega) (by omega) (by omega)
      · refine mr_aload_n dX7_row_50 rfl ?_
        refine mr_get dX7_row_51 fl_X7_102 (by first | assumption | exact mr_up_same _ _ _ | (refine mr_lk ?_ (by first | assumption | decide); first | assumption | exact mr_up_same _ _ _ | (refine mr_lk ?_ (by first | assumption | decide); first | assumption | exact mr_up_same _ _ _ | (refine mr_lk ?_ (by first | assumption | decide); first | assumption | exact mr_up_same _ _ _ | (refine mr_lk ?_ (by first | assumption | decide); first | assumption | exact mr_up_same _ _ _))))) rfl ?_
        refine mr_iload dX7_row_54 rfl ?_
        refine mr_zald dX7_row_56 (by first | assumption | exact mr_up_same _ _ _ | (refine mr_lk ?_ (by first | assumption | decide); first | assumption | exact mr_up_same _ _ _ | (refine mr_lk ?_ (by first | assumption | decide); first | assumption | exact mr_up_same _ _ _ | (refine mr_lk ?_ (by first | assumption | decide); first | assumption | exact mr_up_same _ _ _ | (refine mr_lk ?_ (by first | assumption | decide); first | assumption | exact mr_up_same _ _ _))))) (by omega) (by omega) (by decide) ?_
        refine mr_if_eq (tgt := 63) dX7_row_57 (by decide) ⟨by omega, by omega⟩ (fun hc_57 => ?_) (fun hc_57 => ?_)
        · refine mr_iinc dX7_row_63 rfl (by decide) rfl ?_
          refine mr_goto (tgt := 36) dX7_row_66 (by decide) ?_
          first | (exfalso; omega) | exact ih (r + 1) lf (by omega) (by omega) (by omega) (by omega) | exact ih (r + 1) (lf + -1) (by omega) (by omega) (by omega) (by omega)
        · refine mr_iinc dX7_row_60 rfl (by decide) rfl ?_
          refine mr_iinc dX7_row_63 rfl (by decide) rfl ?_
          refine mr_goto (tgt := 36) dX7_row_66 (by decide) ?_
          first | (exfalso; omega) | exact ih (r + 1) lf (by omega) (by omega) (by omega) (by omega) | exact ih (r + 1) (lf + -1) (by omega) (by omega) (by omega) (by omega)
def T_X7_row (a : List mr_AV) (w : mr_Wd) (Po : Option mr_AV → mr_Wd → Prop) : Prop := ∃ (th tp sz zo fr kd nb ft pl wd sm md li sd : Int) (T N R K Sn ik s1 s2 ls : Nat → Int) (W : Nat) (L : Int → mr_V → Prop) (t x : Int), a = [vR 18 0, vI t, vI x] ∧ mr_MW w th tp sz zo fr kd nb ft pl wd sm md li sd T N R K Sn ik s1 s2 ls ∧ mr_NG N W L ∧ InR t ∧ InR x ∧ (((0 < N 0 ∧ 0 ≤ t ∧ t ≤ 3) ∧ 0 ≤ x) → (∀ (w' : mr_Wd) (st li' : Nat → Int) (n : Nat), mr_Lp (N 0) st li' n (mr_S (N 0) (L t)) → x < n → ∀ r : Int, 0 ≤ r → r < N 0 * N 0 * N 0 → st r.toNat = 1 → mr_sm r.toNat st = x → mr_MW w' (0) tp sz zo fr kd nb ft pl wd sm md ((n : Int)) sd T N R K Sn ik (st) s2 (li') → mr_FM w w' → Po (some (vI (mr_tbk (N 0) r))) w')) ∧ (((0 < N 0 ∧ 0 ≤ t ∧ t ≤ 3) ∧ 0 ≤ x) → (∀ (w' : mr_Wd) (st li' : Nat → Int) (n : Nat), mr_Lp (N 0) st li' n (mr_S (N 0) (L t)) → n ≤ x → mr_MW w' (1) tp sz zo fr kd nb ft pl wd sm md ((n : Int)) sd T N R K Sn ik (st) s2 (li') → mr_FM w w' → Po (some (vI 0)) w')) ∧ (¬ ((0 < N 0 ∧ 0 ≤ t ∧ t ≤ 3) ∧ 0 ≤ x) → (∀ w' : mr_Wd, mr_MW w' (1) tp sz zo fr kd nb ft pl wd sm md li sd T N R K Sn ik s1 s2 ls → mr_FM w w' → Po (some (vI 0)) w'))
set_option maxHeartbeats 4000000 in
set_option maxRecDepth 20000 in
theorem ok_X7_row (l : Launch) (G : mr_G) : mr_Ok l G yX7_row cX7_row 5 (some .int) 4 94 T_X7_row := by
  refine mr_Ok.of (by decide +kernel) ?_
  rintro a w Po ⟨th, tp, sz, zo, fr, kd, nb, ft, pl, wd, sm, md, li, sd, T, N, R, K, Sn, ik, s1, s2, ls, W, L, t, x, rfl, hM, ⟨hG0, hG1, hG14, hGW⟩, h_t, h_x, hP, hR, hQ⟩
  refine ⟨Nat.le_of_ble_eq_true rfl, ?_⟩
  show mr_J l G RX7 cX7_row 5 (some .int) 4 94 Po 0 [some (vR 18 0), some (vI t), some (vI x), none, none] [] w
  obtain ⟨h18, h19, h20, h21, h22, h23, h24, h25, h26, h27, hs1, hs2, hik⟩ := id hM
  refine mr_aload_n dX7_row_0 rfl ?_
  refine mr_iconst dX7_row_1 ?_
  refine mr_put dX7_row_2 fl_X7_1 pf_X7_0 rfl rfl (by first | assumption | exact mr_up_same _ _ _ | (refine mr_lk ?_ (by first | assumption | decide); first | assumption | exact mr_up_same _ _ _ | (refine mr_lk ?_ (by first | assumption | decide); first | assumption | exact mr_up_same _ _ _ | (refine mr_lk ?_ (by first | assumption | decide); first | assumption | exact mr_up_same _ _ _ | (refine mr_lk ?_ (by first | assumption | decide); first | assumption | exact mr_up_same _ _ _))))) (Nat.le_of_ble_eq_true rfl) ?_
  refine mw_p0 hM (fun w1 hM1 hF1 => ?_)
  obtain ⟨h18, h19, h20, h21, h22, h23, h24, h25, h26, h27, hs1, hs2, hik⟩ := id hM1
  refine mr_aload_n dX7_row_5 rfl ?_
  refine mr_iload_n dX7_row_6 rfl ?_
  refine mr_callV (as := [_]) dX7_row_7 (ok_X7_isModuleAt l G) ml_X7_199 cl_X7_isModuleAt cv_X7_isModuleAt (by decide) rfl rfl (Nat.le_of_ble_eq_true rfl) (by first | assumption | exact mr_up_same _ _ _ | (refine mr_lk ?_ (by first | assumption | decide); first | assumption | exact mr_up_same _ _ _ | (refine mr_lk ?_ (by first | assumption | decide); first | assumption | exact mr_up_same _ _ _ | (refine mr_lk ?_ (by first | assumption | decide); first | assumption | exact mr_up_same _ _ _ | (refine mr_lk ?_ (by first | assumption | decide); first | assumption | exact mr_up_same _ _ _))))) ?_
  refine ⟨_, _, _, _, _, _, _, _, _, _, _, _, _, _, _, _, rfl, (by first | assumption | exact mr_up_same _ _ _ | (refine mr_lk ?_ (by first | assumption | decide); first | assumption | exact mr_up_same _ _ _ | (refine mr_lk ?_ (by first | assumption | decide); first | assumption | exact mr_up_same _ _ _ | (refine mr_lk ?_ (by first | assumption | decide); first | assumption | exact mr_up_same _ _ _ | (refine mr_lk ?_ (by first | assumption | decide); first | assumption | exact mr_up_same _ _ _))))), (by first | assumption | exact mr_up_same _ _ _ | (refine mr_lk ?_ (by first | assumption | decide); first | assumption | exact mr_up_same _ _ _ | (refine mr_lk ?_ (by first | assumption | decide); first | assumption | exact mr_up_same _ _ _ | (refine mr_lk ?_ (by first | assumption | decide); first | assumption | exact mr_up_same _ _ _ | (refine mr_lk ?_ (by first | assumption | decide); first | assumption | exact mr_up_same _ _ _))))), h_t, hG0, ?_, ?_⟩
  · intro k1
    dsimp only [Option.toList_some, Option.toList_none, List.cons_append, List.nil_append]
    refine mr_if_eq (tgt := 26) dX7_row_10 (by decide) (by omega) (fun h => absurd h (by decide)) (fun _ => ?_)
    refine mr_iload_n dX7_row_13 rfl ?_
    refine mr_if_lt (tgt := 26) dX7_row_14 (by decide) h_x (fun hc_14 => ?_) (fun hc_14 => ?_)
    · refine mr_aload_n dX7_row_26 rfl ?_
      refine mr_callV (as := []) dX7_row_27 (ok_X7_refuse l G) ml_X7_208 cl_X7_refuse cv_X7_refuse (by decide) rfl rfl (Nat.le_of_ble_eq_true rfl) (by first | assumption | exact mr_up_same _ _ _ | (refine mr_lk ?_ (by first | assumption | decide); first | assumption | exact mr_up_same _ _ _ | (refine mr_lk ?_ (by first | assumption | decide); first | assumption | exact mr_up_same _ _ _ | (refine mr_lk ?_ (by first | assumption | decide); first | assumption | exact mr_up_same _ _ _ | (refine mr_lk ?_ (by first | assumption | decide); first | assumption | exact mr_up_same _ _ _))))) ?_
      refine ⟨_, _, _, _, _, _, _, _, _, _, _, _, _, _, _, _, _, _, _, _, _, _, _, rfl, hM1, (fun w2 hM2 hF2 => ?_)⟩
      dsimp only [Option.toList_some, Option.toList_none, List.cons_append, List.nil_append]
      refine mr_iret rfl dX7_row_30 ?_
      first | exact hQ (fun zz => k1 zz.1) w2 hM2 (hF1.tr hF2) | exact hQ (fun zz => by have := zz.2; omega) w2 hM2 (hF1.tr hF2)
    · obtain ⟨e0, e1, hM0, hW0, hFN, hEQ⟩ := hGW (by omega)
      have hMM : 1 ≤ N 0 ∧ N 0 ≤ 30 := ⟨by omega, by omega⟩
      have hm3 := mr_m3 hMM
      have hm2 := mr_m2 hMM
      refine mr_iload_n dX7_row_17 rfl ?_
      refine mr_aload_n dX7_row_18 rfl ?_
      refine mr_iload_n dX7_row_19 rfl ?_
      have hx0 : 0 ≤ x := by omega
      refine mr_callV (as := [_]) dX7_row_20 (ok_X7_sizeOf l G) ml_X7_205 cl_X7_sizeOf cv_X7_sizeOf (by decide) rfl rfl (Nat.le_of_ble_eq_true rfl) (by first | assumption | exact mr_up_same _ _ _ | (refine mr_lk ?_ (by first | assumption | decide); first | assumption | exact mr_up_same _ _ _ | (refine mr_lk ?_ (by first | assumption | decide); first | assumption | exact mr_up_same _ _ _ | (refine mr_lk ?_ (by first | assumption | decide); first | assumption | exact mr_up_same _ _ _ | (refine mr_lk ?_ (by first | assumption | decide); first | assumption | exact mr_up_same _ _ _))))) ?_
      refine ⟨_, _, _, _, _, _, _, _, _, _, _, _, _, _, _, _, _, _, _, _, _, _, _, t, _, _, rfl, hM1, hMM, ⟨by omega, by omega⟩, (hFN t (by omega) (by omega)), (fun w3 st3 li3 n3 hp3 hM3 hF3 => ?_)⟩
      obtain ⟨h18, h19, h20, h21, h22, h23, h24, h25, h26, h27, hs1, hs2, hik⟩ := id hM3
      have hnn3 := mr_Lp_le (by omega) hp3
      dsimp only [Option.toList_some, Option.toList_none, List.cons_append, List.nil_append]
      refine mr_icmp_lt (tgt := 31) dX7_row_23 (by decide) h_x ⟨by omega, by omega⟩ (fun hc_23 => ?_) (fun hc_23 => ?_)
      · refine mr_iload_n dX7_row_31 rfl ?_
        refine mr_istore_n dX7_row_32 rfl (by decide) ?_
        refine mr_iconst dX7_row_33 ?_
        refine mr_istore dX7_row_34 rfl (by decide) ?_
        refine lp_X7_row l G (t := t) hM3 hMM ⟨by omega, by rw [mr_Lp_sm hp3]; omega⟩ (fun r g1 g2 g3 g4 => hP ⟨k1, by omega⟩ w3 _ _ _ hp3 (by omega) r g1 g2 g3 g4 hM3 (hF1.tr hF3)) (N 0 * N 0 * N 0).toNat 0 x (Int.le_refl 0) (by omega) (by show x = x - 0; omega) (by omega)
      · refine mr_aload_n dX7_row_26 rfl ?_
        refine mr_callV (as := []) dX7_row_27 (ok_X7_refuse l G) ml_X7_208 cl_X7_refuse cv_X7_refuse (by decide) rfl rfl (Nat.le_of_ble_eq_true rfl) (by first | assumption | exact mr_up_same _ _ _ | (refine mr_lk ?_ (by first | assumption | decide); first | assumption | exact mr_up_same _ _ _ | (refine mr_lk ?_ (by first | assumption | decide); first | assumption | exact mr_up_same _ _ _ | (refine mr_lk ?_ (by first | assumption | decide); first | assumption | exact mr_up_same _ _ _ | (refine mr_lk ?_ (by first | assumption | decide); first | assumption | exact mr_up_same _ _ _))))) ?_
        refine ⟨_, _, _, _, _, _, _, _, _, _, _, _, _, _, _, _, _, _, _, _, _, _, _, rfl, hM3, (fun w4 hM4 hF4 => ?_)⟩
        dsimp only [Option.toList_some, Option.toList_none, List.cons_append, List.nil_append]
        refine mr_iret rfl dX7_row_30 ?_
        exact hR ⟨k1, by omega⟩ w4 _ _ _ hp3 (by omega) hM4 (hF1.tr (hF3.tr hF4))
  · intro k1
    dsimp only [Option.toList_some, Option.toList_none, List.cons_append, List.nil_append]
    refine mr_if_eq (tgt := 26) dX7_row_10 (by decide) (by omega) (fun _ => ?_) (fun h => absurd h (by decide))
    refine mr_aload_n dX7_row_26 rfl ?_
    refine mr_callV (as := []) dX7_row_27 (ok_X7_refuse l G) ml_X7_208 cl_X7_refuse cv_X7_refuse (by decide) rfl rfl (Nat.le_of_ble_eq_true rfl) (by first | assumption | exact mr_up_same _ _ _ | (refine mr_lk ?_ (by first | assumption | decide); first | assumption | exact mr_up_same _ _ _ | (refine mr_lk ?_ (by first | assumption | decide); first | assumption | exact mr_up_same _ _ _ | (refine mr_lk ?_ (by first | assumption | decide); first | assumption | exact mr_up_same _ _ _ | (refine mr_lk ?_ (by first | assumption | decide); first | assumption | exact mr_up_same _ _ _))))) ?_
    refine ⟨_, _, _, _, _, _, _, _, _, _, _, _, _, _, _, _, _, _, _, _, _, _, _, rfl, hM1, (fun w5 hM5 hF5 => ?_)⟩
    dsimp only [Option.toList_some, Option.toList_none, List.cons_append, List.nil_append]
    refine mr_iret rfl dX7_row_30 ?_
    first | exact hQ (fun zz => k1 zz.1) w5 hM5 (hF1.tr hF5) | exact hQ (fun zz => by have := zz.2; omega) w5 hM5 (hF1.tr hF5)
set_option maxHeartbeats 4000000 in
set_option maxRecDepth 20000 in
theorem lp_X7_rank (l : Launch) (G : mr_G) {Po : Option mr_AV → mr_Wd → Prop} {w : mr_Wd} {th tp sz zo fr kd nb ft pl wd sm md li sd : Int} {T N R K Sn ik s1 s2 ls : Nat → Int} {t x y z v : Int} (hM : mr_MW w th tp sz zo fr kd nb ft pl wd sm md li sd T N R K Sn ik s1 s2 ls) (hv : 0 ≤ v ∧ v < 27000) (hP : Po (some (vI (mr_sm v.toNat s1))) w) : ∀ (n : Nat) (r c : Int), 0 ≤ r → r + n = v → c = mr_sm r.toNat s1 → mr_J l G RX7 cX7_rank 8 (some .int) 3 73 Po 68 [some (vR 18 0), some (vI t), some (vI x), some (vI y), some (vI z), some (vI v), some (vI c), some (vI r)] [] w := by
  intro n
  obtain ⟨h18, h19, h20, h21, h22, h23, h24, h25, h26, h27, hs1, hs2, hik⟩ := id hM
  induction n with
  | zero =>
    intro r c h0 hn hc
    have e : r = v := by omega
    subst e
    subst hc
    refine mr_iload dX7_rank_68 rfl ?_
    refine mr_iload dX7_rank_70 rfl ?_
    refine mr_icmp_ge (tgt := 94) dX7_rank_72 (by decide) ⟨by omega, by omega⟩ ⟨by omega, by omega⟩ (fun hc_72 => ?_) (fun hc_72 => absurd hc_72 (by omega))
    refine mr_iload dX7_rank_94 rfl ?_
    refine mr_iret rfl dX7_rank_96 ?_
    exact hP
  | succ n ih =>
    intro r c h0 hn hc
    have hz := hs1 r.toNat
    have hsr := mr_sm_nn hs1 r.toNat
    have hsn : mr_sm (r + 1).toNat s1 = mr_sm r.toNat s1 + s1 r.toNat := by rw [show (r + 1).toNat = r.toNat + 1 by omega]; rfl
    refine mr_iload dX7_rank_68 rfl ?_
    refine mr_iload dX7_rank_70 rfl ?_
    refine mr_icmp_ge (tgt := 94) dX7_rank_72 (by decide) ⟨by omega, by omega⟩ ⟨by omega, by omega⟩ (fun hc_72 => absurd hc_72 (by omega)) (fun hc_72 => ?_)
    refine mr_aload_n dX7_rank_75 rfl ?_
    refine mr_get dX7_rank_76 fl_X7_102 (by first | assumption | exact mr_up_same _ _ _ | (refine mr_lk ?_ (by first | assumption | decide); first | assumption | exact mr_up_same _ _ _ | (refine mr_lk ?_ (by first | assumption | decide); first | assumption | exact mr_up_same _ _ _ | (refine mr_lk ?_ (by first | assumption | decide); first | assumption | exact mr_up_same _ _ _ | (refine mr_lk ?_ (by first | assumption | decide); first | assumption | exact mr_up_same _ _ _))))) rfl ?_
    refine mr_iload dX7_rank_79 rfl ?_
    refine mr_zald dX7_rank_81 (by first | assumption | exact mr_up_same _ _ _ | (refine mr_lk ?_ (by first | assumption | decide); first | assumption | exact mr_up_same _ _ _ | (refine mr_lk ?_ (by first | assumption | decide); first | assumption | exact mr_up_same _ _ _ | (refine mr_lk ?_ (by first | assumption | decide); first | assumption | exact mr_up_same _ _ _ | (refine mr_lk ?_ (by first | assumption | decide); first | assumption | exact mr_up_same _ _ _))))) (by omega) (by omega) (by decide) ?_
    refine mr_if_eq (tgt := 88) dX7_rank_82 (by decide) ⟨by omega, by omega⟩ (fun hc_82 => ?_) (fun hc_82 => ?_)
    · refine mr_iinc dX7_rank_88 rfl (by decide) rfl ?_
      refine mr_goto (tgt := 68) dX7_rank_91 (by decide) ?_
      first | exact ih (r + 1) c (by omega) (by omega) (by omega) | exact ih (r + 1) (c + 1) (by omega) (by omega) (by omega)
    · refine mr_iinc dX7_rank_85 rfl (by decide) rfl ?_
      refine mr_iinc dX7_rank_88 rfl (by decide) rfl ?_
      refine mr_goto (tgt := 68) dX7_rank_91 (by decide) ?_
      first | exact ih (r + 1) c (by omega) (by omega) (by omega) | exact ih (r + 1) (c + 1) (by omega) (by omega) (by omega)
def T_X7_rank (a : List mr_AV) (w : mr_Wd) (Po : Option mr_AV → mr_Wd → Prop) : Prop := ∃ (th tp sz zo fr kd nb ft pl wd sm md li sd : Int) (T N R K Sn ik s1 s2 ls : Nat → Int) (W : Nat) (L : Int → mr_V → Prop) (t x y z : Int), a = [vR 18 0, vI t, vI x, vI y, vI z] ∧ mr_MW w th tp sz zo fr kd nb ft pl wd sm md li sd T N R K Sn ik s1 s2 ls ∧ mr_NG N W L ∧ InR t ∧ InR x ∧ InR y ∧ InR z ∧ (((0 < N 0 ∧ 0 ≤ t ∧ t ≤ 3) ∧ ((0 ≤ x ∧ x < N 0) ∧ (0 ≤ y ∧ y < N 0) ∧ (0 ≤ z ∧ z < N 0) ∧ (N 1 < 2 → y = 0) ∧ (N 1 < 3 → z = 0))) → (∀ (w' : mr_Wd) (st li' : Nat → Int) (n : Nat), mr_Lp (N 0) st li' n (mr_S (N 0) (L t)) → mr_MW w' (0) tp sz zo fr kd nb ft pl wd sm md ((n : Int)) sd T N R K Sn ik (st) s2 (li') → mr_FM w w' → (st ((x * N 0 + y) * N 0 + z).toNat = 1 → Po (some (vI (mr_sm ((x * N 0 + y) * N 0 + z).toNat st))) w') ∧ (st ((x * N 0 + y) * N 0 + z).toNat ≠ 1 → Po (some (vI (-1))) w'))) ∧ (¬ ((0 < N 0 ∧ 0 ≤ t ∧ t ≤ 3) ∧ ((0 ≤ x ∧ x < N 0) ∧ (0 ≤ y ∧ y < N 0) ∧ (0 ≤ z ∧ z < N 0) ∧ (N 1 < 2 → y = 0) ∧ (N 1 < 3 → z = 0))) → (∀ w' : mr_Wd, mr_MW w' (0) tp sz zo fr kd nb ft pl wd sm md li sd T N R K Sn ik s1 s2 ls → mr_FM w w' → Po (some (vI (-1))) w'))
set_option maxHeartbeats 4000000 in
set_option maxRecDepth 20000 in
theorem ok_X7_rank (l : Launch) (G : mr_G) : mr_Ok l G yX7_rank cX7_rank 8 (some .int) 3 73 T_X7_rank := by
  refine mr_Ok.of (by decide +kernel) ?_
  rintro a w Po ⟨th, tp, sz, zo, fr, kd, nb, ft, pl, wd, sm, md, li, sd, T, N, R, K, Sn, ik, s1, s2, ls, W, L, t, x, y, z, rfl, hM, ⟨hG0, hG1, hG14, hGW⟩, h_t, h_x, h_y, h_z, hP, hQ⟩
  refine ⟨Nat.le_of_ble_eq_true rfl, ?_⟩
  show mr_J l G RX7 cX7_rank 8 (some .int) 3 73 Po 0 [some (vR 18 0), some (vI t), some (vI x), some (vI y), some (vI z), none, none, none] [] w
  obtain ⟨h18, h19, h20, h21, h22, h23, h24, h25, h26, h27, hs1, hs2, hik⟩ := id hM
  refine mr_aload_n dX7_rank_0 rfl ?_
  refine mr_iconst dX7_rank_1 ?_
  refine mr_put dX7_rank_2 fl_X7_1 pf_X7_0 rfl rfl (by first | assumption | exact mr_up_same _ _ _ | (refine mr_lk ?_ (by first | assumption | decide); first | assumption | exact mr_up_same _ _ _ | (refine mr_lk ?_ (by first | assumption | decide); first | assumption | exact mr_up_same _ _ _ | (refine mr_lk ?_ (by first | assumption | decide); first | assumption | exact mr_up_same _ _ _ | (refine mr_lk ?_ (by first | assumption | decide); first | assumption | exact mr_up_same _ _ _))))) (Nat.le_of_ble_eq_true rfl) ?_
  refine mw_p0 hM (fun w1 hM1 hF1 => ?_)
  obtain ⟨h18, h19, h20, h21, h22, h23, h24, h25, h26, h27, hs1, hs2, hik⟩ := id hM1
  refine mr_aload_n dX7_rank_5 rfl ?_
  refine mr_iload_n dX7_rank_6 rfl ?_
  refine mr_callV (as := [_]) dX7_rank_7 (ok_X7_isModuleAt l G) ml_X7_199 cl_X7_isModuleAt cv_X7_isModuleAt (by decide) rfl rfl (Nat.le_of_ble_eq_true rfl) (by first | assumption | exact mr_up_same _ _ _ | (refine mr_lk ?_ (by first | assumption | decide); first | assumption | exact mr_up_same _ _ _ | (refine mr_lk ?_ (by first | assumption | decide); first | assumption | exact mr_up_same _ _ _ | (refine mr_lk ?_ (by first | assumption | decide); first | assumption | exact mr_up_same _ _ _ | (refine mr_lk ?_ (by first | assumption | decide); first | assumption | exact mr_up_same _ _ _))))) ?_
  refine ⟨_, _, _, _, _, _, _, _, _, _, _, _, _, _, _, _, rfl, (by first | assumption | exact mr_up_same _ _ _ | (refine mr_lk ?_ (by first | assumption | decide); first | assumption | exact mr_up_same _ _ _ | (refine mr_lk ?_ (by first | assumption | decide); first | assumption | exact mr_up_same _ _ _ | (refine mr_lk ?_ (by first | assumption | decide); first | assumption | exact mr_up_same _ _ _ | (refine mr_lk ?_ (by first | assumption | decide); first | assumption | exact mr_up_same _ _ _))))), (by first | assumption | exact mr_up_same _ _ _ | (refine mr_lk ?_ (by first | assumption | decide); first | assumption | exact mr_up_same _ _ _ | (refine mr_lk ?_ (by first | assumption | decide); first | assumption | exact mr_up_same _ _ _ | (refine mr_lk ?_ (by first | assumption | decide); first | assumption | exact mr_up_same _ _ _ | (refine mr_lk ?_ (by first | assumption | decide); first | assumption | exact mr_up_same _ _ _))))), h_t, hG0, ?_, ?_⟩
  · intro k1
    dsimp only [Option.toList_some, Option.toList_none, List.cons_append, List.nil_append]
    refine mr_if_eq (tgt := 25) dX7_rank_10 (by decide) (by omega) (fun h => absurd h (by decide)) (fun _ => ?_)
    refine mr_aload_n dX7_rank_13 rfl ?_
    refine mr_iload_n dX7_rank_14 rfl ?_
    refine mr_iload_n dX7_rank_15 rfl ?_
    refine mr_iload dX7_rank_16 rfl ?_
    refine mr_callV (as := [_, _, _]) dX7_rank_18 (ok_X7_rowOf l G) ml_X7_211 cl_X7_rowOf cv_X7_rowOf (by decide) rfl rfl (Nat.le_of_ble_eq_true rfl) (by first | assumption | exact mr_up_same _ _ _ | (refine mr_lk ?_ (by first | assumption | decide); first | assumption | exact mr_up_same _ _ _ | (refine mr_lk ?_ (by first | assumption | decide); first | assumption | exact mr_up_same _ _ _ | (refine mr_lk ?_ (by first | assumption | decide); first | assumption | exact mr_up_same _ _ _ | (refine mr_lk ?_ (by first | assumption | decide); first | assumption | exact mr_up_same _ _ _))))) ?_
    refine ⟨_, _, _, _, _, _, _, _, _, _, _, _, _, _, _, _, _, _, rfl, (by first | assumption | exact mr_up_same _ _ _ | (refine mr_lk ?_ (by first | assumption | decide); first | assumption | exact mr_up_same _ _ _ | (refine mr_lk ?_ (by first | assumption | decide); first | assumption | exact mr_up_same _ _ _ | (refine mr_lk ?_ (by first | assumption | decide); first | assumption | exact mr_up_same _ _ _ | (refine mr_lk ?_ (by first | assumption | decide); first | assumption | exact mr_up_same _ _ _))))), (by first | assumption | exact mr_up_same _ _ _ | (refine mr_lk ?_ (by first | assumption | decide); first | assumption | exact mr_up_same _ _ _ | (refine mr_lk ?_ (by first | assumption | decide); first | assumption | exact mr_up_same _ _ _ | (refine mr_lk ?_ (by first | assumption | decide); first | assumption | exact mr_up_same _ _ _ | (refine mr_lk ?_ (by first | assumption | decide); first | assumption | exact mr_up_same _ _ _))))), h_x, h_y, h_z, hG0, hG1, ?_, ?_⟩
    · intro kr
      have hrw := mr_rw_bd (m := N 0) (by omega) kr.1 kr.2.1 kr.2.2.1
      have hm3 := mr_m3 (m := N 0) ⟨by omega, by omega⟩
      dsimp only [Option.toList_some, Option.toList_none, List.cons_append, List.nil_append]
      refine mr_iconst dX7_rank_21 ?_
      refine mr_icmp_ne (tgt := 27) dX7_rank_22 (by decide) ⟨by omega, by omega⟩ (by decide) (fun hc_22 => ?_) (fun hc_22 => absurd hc_22 (by omega))
      obtain ⟨e0, e1, hM0, hW0, hFN, hEQ⟩ := hGW (by omega)
      have hMM : 1 ≤ N 0 ∧ N 0 ≤ 30 := ⟨by omega, by omega⟩
      have hm3 := mr_m3 hMM
      have hm2 := mr_m2 hMM
      refine mr_aload_n dX7_rank_27 rfl ?_
      refine mr_aload_n dX7_rank_28 rfl ?_
      refine mr_get dX7_rank_29 fl_X7_86 (by first | assumption | exact mr_up_same _ _ _ | (refine mr_lk ?_ (by first | assumption | decide); first | assumption | exact mr_up_same _ _ _ | (refine mr_lk ?_ (by first | assumption | decide); first | assumption | exact mr_up_same _ _ _ | (refine mr_lk ?_ (by first | assumption | decide); first | assumption | exact mr_up_same _ _ _ | (refine mr_lk ?_ (by first | assumption | decide); first | assumption | exact mr_up_same _ _ _))))) rfl ?_
      refine mr_iload_n dX7_rank_32 rfl ?_
      refine mr_aload_n dX7_rank_33 rfl ?_
      refine mr_get dX7_rank_34 fl_X7_102 (by first | assumption | exact mr_up_same _ _ _ | (refine mr_lk ?_ (by first | assumption | decide); first | assumption | exact mr_up_same _ _ _ | (refine mr_lk ?_ (by first | assumption | decide); first | assumption | exact mr_up_same _ _ _ | (refine mr_lk ?_ (by first | assumption | decide); first | assumption | exact mr_up_same _ _ _ | (refine mr_lk ?_ (by first | assumption | decide); first | assumption | exact mr_up_same _ _ _))))) rfl ?_
      refine mr_callV (as := [_, _, _]) dX7_rank_37 (ok_X7_laysSet l G) ml_X7_128 cl_X7_laysSet cv_X7_laysSet (by decide) rfl rfl (Nat.le_of_ble_eq_true rfl) (by first | assumption | exact mr_up_same _ _ _ | (refine mr_lk ?_ (by first | assumption | decide); first | assumption | exact mr_up_same _ _ _ | (refine mr_lk ?_ (by first | assumption | decide); first | assumption | exact mr_up_same _ _ _ | (refine mr_lk ?_ (by first | assumption | decide); first | assumption | exact mr_up_same _ _ _ | (refine mr_lk ?_ (by first | assumption | decide); first | assumption | exact mr_up_same _ _ _))))) ?_
      refine mw_lays1 hM1 rfl hMM ⟨by omega, by omega⟩ (hFN t (by omega) (by omega)) (fun w2 st2 li2 n2 hp2 hM2 hF2 => ?_)
      obtain ⟨h18, h19, h20, h21, h22, h23, h24, h25, h26, h27, hs1, hs2, hik⟩ := id hM2
      dsimp only [Option.toList_some, Option.toList_none, List.cons_append, List.nil_append]
      refine mr_aload_n dX7_rank_40 rfl ?_
      refine mr_iload_n dX7_rank_41 rfl ?_
      refine mr_iload_n dX7_rank_42 rfl ?_
      refine mr_iload dX7_rank_43 rfl ?_
      refine mr_callV (as := [_, _, _]) dX7_rank_45 (ok_X7_rowOf l G) ml_X7_211 cl_X7_rowOf cv_X7_rowOf (by decide) rfl rfl (Nat.le_of_ble_eq_true rfl) (by first | assumption | exact mr_up_same _ _ _ | (refine mr_lk ?_ (by first | assumption | decide); first | assumption | exact mr_up_same _ _ _ | (refine mr_lk ?_ (by first | assumption | decide); first | assumption | exact mr_up_same _ _ _ | (refine mr_lk ?_ (by first | assumption | decide); first | assumption | exact mr_up_same _ _ _ | (refine mr_lk ?_ (by first | assumption | decide); first | assumption | exact mr_up_same _ _ _))))) ?_
      refine ⟨_, _, _, _, _, _, _, _, _, _, _, _, _, _, _, _, _, _, rfl, (by first | assumption | exact mr_up_same _ _ _ | (refine mr_lk ?_ (by first | assumption | decide); first | assumption | exact mr_up_same _ _ _ | (refine mr_lk ?_ (by first | assumption | decide); first | assumption | exact mr_up_same _ _ _ | (refine mr_lk ?_ (by first | assumption | decide); first | assumption | exact mr_up_same _ _ _ | (refine mr_lk ?_ (by first | assumption | decide); first | assumption | exact mr_up_same _ _ _))))), (by first | assumption | exact mr_up_same _ _ _ | (refine mr_lk ?_ (by first | assumption | decide); first | assumption | exact mr_up_same _ _ _ | (refine mr_lk ?_ (by first | assumption | decide); first | assumption | exact mr_up_same _ _ _ | (refine mr_lk ?_ (by first | assumption | decide); first | assumption | exact mr_up_same _ _ _ | (refine mr_lk ?_ (by first | assumption | decide); first | assumption | exact mr_up_same _ _ _))))), h_x, h_y, h_z, hG0, hG1, ?_, ?_⟩
      · intro _
        dsimp only [Option.toList_some, Option.toList_none, List.cons_append, List.nil_append]
        refine mr_istore dX7_rank_48 rfl (by decide) ?_
        have hz9 := hs1 ((x * N 0 + y) * N 0 + z).toNat
        refine mr_aload_n dX7_rank_50 rfl ?_
        refine mr_get dX7_rank_51 fl_X7_102 (by first | assumption | exact mr_up_same _ _ _ | (refine mr_lk ?_ (by first | assumption | decide); first | assumption | exact mr_up_same _ _ _ | (refine mr_lk ?_ (by first | assumption | decide); first | assumption | exact mr_up_same _ _ _ | (refine mr_lk ?_ (by first | assumption | decide); first | assumption | exact mr_up_same _ _ _ | (refine mr_lk ?_ (by first | assumption | decide); first | assumption | exact mr_up_same _ _ _))))) rfl ?_
        refine mr_iload dX7_rank_54 rfl ?_
        refine mr_zald dX7_rank_56 (by first | assumption | exact mr_up_same _ _ _ | (refine mr_lk ?_ (by first | assumption | decide); first | assumption | exact mr_up_same _ _ _ | (refine mr_lk ?_ (by first | assumption | decide); first | assumption | exact mr_up_same _ _ _ | (refine mr_lk ?_ (by first | assumption | decide); first | assumption | exact mr_up_same _ _ _ | (refine mr_lk ?_ (by first | assumption | decide); first | assumption | exact mr_up_same _ _ _))))) (by omega) (by omega) (by decide) ?_
        refine mr_if_ne (tgt := 62) dX7_rank_57 (by decide) ⟨by omega, by omega⟩ (fun hc_57 => ?_) (fun hc_57 => ?_)
        · refine mr_iconst dX7_rank_62 ?_
          refine mr_istore dX7_rank_63 rfl (by decide) ?_
          refine mr_iconst dX7_rank_65 ?_
          refine mr_istore dX7_rank_66 rfl (by decide) ?_
          exact lp_X7_rank l G (t := t) (x := x) (y := y) (z := z) (v := ((x * N 0 + y) * N 0 + z)) hM2 ⟨by omega, by omega⟩ ((hP ⟨k1, kr⟩ w2 _ _ _ hp2 hM2 (hF1.tr hF2)).1 (by omega)) ((x * N 0 + y) * N 0 + z).toNat 0 0 (Int.le_refl 0) (by omega) rfl
        · refine mr_iconst dX7_rank_60 ?_
          refine mr_iret rfl dX7_rank_61 ?_
          exact (hP ⟨k1, kr⟩ w2 _ _ _ hp2 hM2 (hF1.tr hF2)).2 (by omega)
      · intro hno
        exact absurd kr hno
    · intro kr
      dsimp only [Option.toList_some, Option.toList_none, List.cons_append, List.nil_append]
      refine mr_iconst dX7_rank_21 ?_
      refine mr_icmp_ne (tgt := 27) dX7_rank_22 (by decide) ⟨by omega, by omega⟩ (by decide) (fun h => absurd h (by decide)) (fun _ => ?_)
      refine mr_iconst dX7_rank_25 ?_
      refine mr_iret rfl dX7_rank_26 ?_
      first | exact hQ (fun zz => k1 zz.1) w1 hM1 hF1 | exact hQ (fun zz => kr zz.2) w1 hM1 hF1
  · intro k1
    dsimp only [Option.toList_some, Option.toList_none, List.cons_append, List.nil_append]
    refine mr_if_eq (tgt := 25) dX7_rank_10 (by decide) (by omega) (fun _ => ?_) (fun h => absurd h (by decide))
    refine mr_iconst dX7_rank_25 ?_
    refine mr_iret rfl dX7_rank_26 ?_
    first | exact hQ (fun zz => k1 zz.1) w1 hM1 hF1 | exact hQ (fun zz => kr zz.2) w1 hM1 hF1
set_option maxHeartbeats 4000000 in
set_option maxRecDepth 20000 in
theorem lp_X7_beside (l : Launch) (G : mr_G) {Po : Option mr_AV → mr_Wd → Prop} {w : mr_Wd} {th tp sz zo fr kd nb ft pl wd sm md li sd : Int} {T N R K Sn ik s1 s2 ls : Nat → Int} {t x y z : Int} {n0 : Nat} (hM : mr_MW w th tp sz zo fr kd nb ft pl wd sm md ((n0 : Int)) sd T N R K Sn ik s1 s2 ls) (hMM : 1 ≤ N 0 ∧ N 0 ≤ 30) (hG0 : 0 ≤ N 0 ∧ N 0 ≤ 30) (hG1 : 0 ≤ N 1 ∧ N 1 ≤ 3) (h_x : InR x) (h_y : InR y) (h_z : InR z) (kr : ((0 ≤ x ∧ x < N 0) ∧ (0 ≤ y ∧ y < N 0) ∧ (0 ≤ z ∧ z < N 0) ∧ (N 1 < 2 → y = 0) ∧ (N 1 < 3 → z = 0))) (hn0 : (n0 : Int) ≤ 27000) (hls : ∀ i : Nat, i < n0 → 0 ≤ ls i ∧ ls i < N 0 * N 0 * N 0) (hP : ∀ v : Int, (0 ≤ v ∧ v < N 0 * N 0 * N 0) → ((v = ((x * N 0 + y) * N 0 + z) ∨ ∃ i : Nat, i < n0 ∧ v = mr_tg (N 0) ((x * N 0 + y) * N 0 + z) (ls i)) ∧ (v ≤ ((x * N 0 + y) * N 0 + z) ∧ ∀ i : Nat, i < n0 → v ≤ mr_tg (N 0) ((x * N 0 + y) * N 0 + z) (ls i))) → Po (some (vI (mr_tbk (N 0) v))) w) : ∀ (n kk : Nat) (v : Int), kk + n = n0 → (0 ≤ v ∧ v < N 0 * N 0 * N 0) → ((v = ((x * N 0 + y) * N 0 + z) ∨ ∃ i : Nat, i < kk ∧ v = mr_tg (N 0) ((x * N 0 + y) * N 0 + z) (ls i)) ∧ (v ≤ ((x * N 0 + y) * N 0 + z) ∧ ∀ i : Nat, i < kk → v ≤ mr_tg (N 0) ((x * N 0 + y) * N 0 + z) (ls i))) → mr_J l G RX7 cX7_beside 8 (some .int) 3 73 Po 53 [some (vR 18 0), some (vI t), some (vI x), some (vI y), some (vI z), some (vI v), some (vI kk), none] [] w := by
  intro n
  have hm3 := mr_m3 hMM
  have hrw := mr_rw_bd (m := N 0) (by omega) kr.1 kr.2.1 kr.2.2.1
  obtain ⟨h18, h19, h20, h21, h22, h23, h24, h25, h26, h27, hs1, hs2, hik⟩ := id hM
  induction n with
  | zero =>
    intro kk v hn hv hB
    have e : kk = n0 := by omega
    subst e
    refine mr_iload dX7_beside_53 rfl ?_
    refine mr_aload_n dX7_beside_55 rfl ?_
    refine mr_get dX7_beside_56 fl_X7_180 (by first | assumption | exact mr_up_same _ _ _ | (refine mr_lk ?_ (by first | assumption | decide); first | assumption | exact mr_up_same _ _ _ | (refine mr_lk ?_ (by first | assumption | decide); first | assumption | exact mr_up_same _ _ _ | (refine mr_lk ?_ (by first | assumption | decide); first | assumption | exact mr_up_same _ _ _ | (refine mr_lk ?_ (by first | assumption | decide); first | assumption | exact mr_up_same _ _ _))))) rfl ?_
    refine mr_icmp_ge (tgt := 103) dX7_beside_59 (by decide) ⟨by omega, by omega⟩ ⟨by omega, by omega⟩ (fun hc_59 => ?_) (fun hc_59 => absurd hc_59 (by omega))
    refine mr_aload_n dX7_beside_103 rfl ?_
    refine mr_iload dX7_beside_104 rfl ?_
    refine mr_callV (as := [_]) dX7_beside_106 (ok_X7_toldBack l G) ml_X7_202 cl_X7_toldBack cv_X7_toldBack (by decide) rfl rfl (Nat.le_of_ble_eq_true rfl) (by first | assumption | exact mr_up_same _ _ _ | (refine mr_lk ?_ (by first | assumption | decide); first | assumption | exact mr_up_same _ _ _ | (refine mr_lk ?_ (by first | assumption | decide); first | assumption | exact mr_up_same _ _ _ | (refine mr_lk ?_ (by first | assumption | decide); first | assumption | exact mr_up_same _ _ _ | (refine mr_lk ?_ (by first | assumption | decide); first | assumption | exact mr_up_same _ _ _))))) ?_
    refine ⟨_, _, _, _, _, _, _, _, _, _, _, _, _, _, _, _, rfl, (by first | assumption | exact mr_up_same _ _ _ | (refine mr_lk ?_ (by first | assumption | decide); first | assumption | exact mr_up_same _ _ _ | (refine mr_lk ?_ (by first | assumption | decide); first | assumption | exact mr_up_same _ _ _ | (refine mr_lk ?_ (by first | assumption | decide); first | assumption | exact mr_up_same _ _ _ | (refine mr_lk ?_ (by first | assumption | decide); first | assumption | exact mr_up_same _ _ _))))), (by first | assumption | exact mr_up_same _ _ _ | (refine mr_lk ?_ (by first | assumption | decide); first | assumption | exact mr_up_same _ _ _ | (refine mr_lk ?_ (by first | assumption | decide); first | assumption | exact mr_up_same _ _ _ | (refine mr_lk ?_ (by first | assumption | decide); first | assumption | exact mr_up_same _ _ _ | (refine mr_lk ?_ (by first | assumption | decide); first | assumption | exact mr_up_same _ _ _))))), ⟨by omega, by omega⟩, hMM, ?_⟩
    dsimp only [Option.toList_some, Option.toList_none, List.cons_append, List.nil_append]
    refine mr_iret rfl dX7_beside_109 ?_
    exact hP v hv hB
  | succ n ih =>
    intro kk v hn hv hB
    have hlk := hls kk (by omega)
    have htg := mr_tg_bd (M := N 0) (by omega) ((x * N 0 + y) * N 0 + z) (ls kk)
    refine mr_iload dX7_beside_53 rfl ?_
    refine mr_aload_n dX7_beside_55 rfl ?_
    refine mr_get dX7_beside_56 fl_X7_180 (by first | assumption | exact mr_up_same _ _ _ | (refine mr_lk ?_ (by first | assumption | decide); first | assumption | exact mr_up_same _ _ _ | (refine mr_lk ?_ (by first | assumption | decide); first | assumption | exact mr_up_same _ _ _ | (refine mr_lk ?_ (by first | assumption | decide); first | assumption | exact mr_up_same _ _ _ | (refine mr_lk ?_ (by first | assumption | decide); first | assumption | exact mr_up_same _ _ _))))) rfl ?_
    refine mr_icmp_ge (tgt := 103) dX7_beside_59 (by decide) ⟨by omega, by omega⟩ ⟨by omega, by omega⟩ (fun hc_59 => absurd hc_59 (by omega)) (fun hc_59 => ?_)
    refine mr_aload_n dX7_beside_62 rfl ?_
    refine mr_iload_n dX7_beside_63 rfl ?_
    refine mr_iload_n dX7_beside_64 rfl ?_
    refine mr_iload dX7_beside_65 rfl ?_
    refine mr_callV (as := [_, _, _]) dX7_beside_67 (ok_X7_rowOf l G) ml_X7_211 cl_X7_rowOf cv_X7_rowOf (by decide) rfl rfl (Nat.le_of_ble_eq_true rfl) (by first | assumption | exact mr_up_same _ _ _ | (refine mr_lk ?_ (by first | assumption | decide); first | assumption | exact mr_up_same _ _ _ | (refine mr_lk ?_ (by first | assumption | decide); first | assumption | exact mr_up_same _ _ _ | (refine mr_lk ?_ (by first | assumption | decide); first | assumption | exact mr_up_same _ _ _ | (refine mr_lk ?_ (by first | assumption | decide); first | assumption | exact mr_up_same _ _ _))))) ?_
    refine ⟨_, _, _, _, _, _, _, _, _, _, _, _, _, _, _, _, _, _, rfl, (by first | assumption | exact mr_up_same _ _ _ | (refine mr_lk ?_ (by first | assumption | decide); first | assumption | exact mr_up_same _ _ _ | (refine mr_lk ?_ (by first | assumption | decide); first | assumption | exact mr_up_same _ _ _ | (refine mr_lk ?_ (by first | assumption | decide); first | assumption | exact mr_up_same _ _ _ | (refine mr_lk ?_ (by first | assumption | decide); first | assumption | exact mr_up_same _ _ _))))), (by first | assumption | exact mr_up_same _ _ _ | (refine mr_lk ?_ (by first | assumption | decide); first | assumption | exact mr_up_same _ _ _ | (refine mr_lk ?_ (by first | assumption | decide); first | assumption | exact mr_up_same _ _ _ | (refine mr_lk ?_ (by first | assumption | decide); first | assumption | exact mr_up_same _ _ _ | (refine mr_lk ?_ (by first | assumption | decide); first | assumption | exact mr_up_same _ _ _))))), h_x, h_y, h_z, hG0, hG1, ?_, ?_⟩
    · intro _
      dsimp only [Option.toList_some, Option.toList_none, List.cons_append, List.nil_append]
      refine mr_aload_n dX7_beside_70 rfl ?_
      refine mr_get dX7_beside_71 fl_X7_108 (by first | assumption | exact mr_up_same _ _ _ | (refine mr_lk ?_ (by first | assumption | decide); first | assumption | exact mr_up_same _ _ _ | (refine mr_lk ?_ (by first | assumption | decide); first | assumption | exact mr_up_same _ _ _ | (refine mr_lk ?_ (by first | assumption | decide); first | assumption | exact mr_up_same _ _ _ | (refine mr_lk ?_ (by first | assumption | decide); first | assumption | exact mr_up_same _ _ _))))) rfl ?_
      refine mr_iload dX7_beside_74 rfl ?_
      refine mr_iald dX7_beside_76 (by first | assumption | exact mr_up_same _ _ _ | (refine mr_lk ?_ (by first | assumption | decide); first | assumption | exact mr_up_same _ _ _ | (refine mr_lk ?_ (by first | assumption | decide); first | assumption | exact mr_up_same _ _ _ | (refine mr_lk ?_ (by first | assumption | decide); first | assumption | exact mr_up_same _ _ _ | (refine mr_lk ?_ (by first | assumption | decide); first | assumption | exact mr_up_same _ _ _))))) (by omega) (by omega) (by decide) ?_
      refine mr_aload_n dX7_beside_77 rfl ?_
      refine mr_callV (as := []) dX7_beside_78 (ok_X7_by l G) ml_X7_195 cl_X7_by cv_X7_by (by decide) rfl rfl (Nat.le_of_ble_eq_true rfl) (by first | assumption | exact mr_up_same _ _ _ | (refine mr_lk ?_ (by first | assumption | decide); first | assumption | exact mr_up_same _ _ _ | (refine mr_lk ?_ (by first | assumption | decide); first | assumption | exact mr_up_same _ _ _ | (refine mr_lk ?_ (by first | assumption | decide); first | assumption | exact mr_up_same _ _ _ | (refine mr_lk ?_ (by first | assumption | decide); first | assumption | exact mr_up_same _ _ _))))) ?_
      refine ⟨_, _, _, _, _, _, _, _, _, _, _, _, _, _, _, rfl, (by first | assumption | exact mr_up_same _ _ _ | (refine mr_lk ?_ (by first | assumption | decide); first | assumption | exact mr_up_same _ _ _ | (refine mr_lk ?_ (by first | assumption | decide); first | assumption | exact mr_up_same _ _ _ | (refine mr_lk ?_ (by first | assumption | decide); first | assumption | exact mr_up_same _ _ _ | (refine mr_lk ?_ (by first | assumption | decide); first | assumption | exact mr_up_same _ _ _))))), (by first | assumption | exact mr_up_same _ _ _ | (refine mr_lk ?_ (by first | assumption | decide); first | assumption | exact mr_up_same _ _ _ | (refine mr_lk ?_ (by first | assumption | decide); first | assumption | exact mr_up_same _ _ _ | (refine mr_lk ?_ (by first | assumption | decide); first | assumption | exact mr_up_same _ _ _ | (refine mr_lk ?_ (by first | assumption | decide); first | assumption | exact mr_up_same _ _ _))))), ?_⟩
      dsimp only [Option.toList_some, Option.toList_none, List.cons_append, List.nil_append]
      refine mr_callS (as := [_, _, _]) dX7_beside_81 (ok_X7_together l G) ml_X7_183 cl_X7_together cs_X7_together (by decide) rfl rfl (Nat.le_of_ble_eq_true rfl) ?_
      rw [Int.toNat_natCast]
      refine ⟨_, _, _, rfl, ⟨by omega, by omega⟩, ⟨by omega, by omega⟩, hMM, ?_⟩
      dsimp only [Option.toList_some, Option.toList_none, List.cons_append, List.nil_append]
      refine mr_istore dX7_beside_84 rfl (by decide) ?_
      refine mr_iload dX7_beside_86 rfl ?_
      refine mr_iload dX7_beside_88 rfl ?_
      refine mr_icmp_ge (tgt := 97) dX7_beside_90 (by decide) ⟨by omega, by omega⟩ ⟨by omega, by omega⟩ (fun hc_90 => ?_) (fun hc_90 => ?_)
      · refine mr_iinc dX7_beside_97 rfl (by decide) rfl ?_
        refine mr_goto (tgt := 53) dX7_beside_100 (by decide) ?_
        first
          | (refine mr_weak [some (vR 18 0), some (vI t), some (vI x), some (vI y), some (vI z), some (vI v), some (vI ((kk + 1 : Nat) : Int)), none] ⟨rfl, rfl, rfl, rfl, rfl, rfl, rfl, trivial⟩ ?_
             refine ih (kk + 1) v (by omega) hv ⟨hB.1.imp id (fun ⟨i, hi, e⟩ => ⟨i, by omega, e⟩), hB.2.1, fun i hi => ?_⟩
             rcases (show i < kk ∨ i = kk by omega) with g | g
             · exact hB.2.2 i g
             · subst g; omega)
          | (refine mr_weak [some (vR 18 0), some (vI t), some (vI x), some (vI y), some (vI z), some (vI (mr_tg (N 0) ((x * N 0 + y) * N 0 + z) (ls kk))), some (vI ((kk + 1 : Nat) : Int)), none] ⟨rfl, rfl, rfl, rfl, rfl, rfl, rfl, trivial⟩ ?_
             refine ih (kk + 1) _ (by omega) htg ⟨Or.inr ⟨kk, by omega, rfl⟩, by omega, fun i hi => ?_⟩
             rcases (show i < kk ∨ i = kk by omega) with g | g
             · have := hB.2.2 i g; omega
             · subst g; omega)
      · refine mr_iload dX7_beside_93 rfl ?_
        refine mr_istore dX7_beside_95 rfl (by decide) ?_
        refine mr_iinc dX7_beside_97 rfl (by decide) rfl ?_
        refine mr_goto (tgt := 53) dX7_beside_100 (by decide) ?_
        first
          | (refine mr_weak [some (vR 18 0), some (vI t), some (vI x), some (vI y), some (vI z), some (vI v), some (vI ((kk + 1 : Nat) : Int)), none] ⟨rfl, rfl, rfl, rfl, rfl, rfl, rfl, trivial⟩ ?_
             refine ih (kk + 1) v (by omega) hv ⟨hB.1.imp id (fun ⟨i, hi, e⟩ => ⟨i, by omega, e⟩), hB.2.1, fun i hi => ?_⟩
             rcases (show i < kk ∨ i = kk by omega) with g | g
             · exact hB.2.2 i g
             · subst g; omega)
          | (refine mr_weak [some (vR 18 0), some (vI t), some (vI x), some (vI y), some (vI z), some (vI (mr_tg (N 0) ((x * N 0 + y) * N 0 + z) (ls kk))), some (vI ((kk + 1 : Nat) : Int)), none] ⟨rfl, rfl, rfl, rfl, rfl, rfl, rfl, trivial⟩ ?_
             refine ih (kk + 1) _ (by omega) htg ⟨Or.inr ⟨kk, by omega, rfl⟩, by omega, fun i hi => ?_⟩
             rcases (show i < kk ∨ i = kk by omega) with g | g
             · have := hB.2.2 i g; omega
             · subst g; omega)
    · intro hno
      exact absurd kr hno
def T_X7_beside (a : List mr_AV) (w : mr_Wd) (Po : Option mr_AV → mr_Wd → Prop) : Prop := ∃ (th tp sz zo fr kd nb ft pl wd sm md li sd : Int) (T N R K Sn ik s1 s2 ls : Nat → Int) (W : Nat) (L : Int → mr_V → Prop) (t x y z : Int), a = [vR 18 0, vI t, vI x, vI y, vI z] ∧ mr_MW w th tp sz zo fr kd nb ft pl wd sm md li sd T N R K Sn ik s1 s2 ls ∧ mr_NG N W L ∧ InR t ∧ InR x ∧ InR y ∧ InR z ∧ (((0 < N 0 ∧ 0 ≤ t ∧ t ≤ 3) ∧ ((0 ≤ x ∧ x < N 0) ∧ (0 ≤ y ∧ y < N 0) ∧ (0 ≤ z ∧ z < N 0) ∧ (N 1 < 2 → y = 0) ∧ (N 1 < 3 → z = 0))) → (∀ (w' : mr_Wd) (st li' : Nat → Int) (n : Nat) (v : Int), mr_Lp (N 0) st li' n (mr_S (N 0) (L t)) → (0 ≤ v ∧ v < N 0 * N 0 * N 0) → ((v = ((x * N 0 + y) * N 0 + z) ∨ ∃ i : Nat, i < n ∧ v = mr_tg (N 0) ((x * N 0 + y) * N 0 + z) (li' i)) ∧ (v ≤ ((x * N 0 + y) * N 0 + z) ∧ ∀ i : Nat, i < n → v ≤ mr_tg (N 0) ((x * N 0 + y) * N 0 + z) (li' i))) → mr_MW w' (0) tp sz zo fr kd nb ft pl wd sm md ((n : Int)) sd T N R K Sn ik (st) s2 (li') → mr_FM w w' → Po (some (vI (mr_tbk (N 0) v))) w')) ∧ (¬ ((0 < N 0 ∧ 0 ≤ t ∧ t ≤ 3) ∧ ((0 ≤ x ∧ x < N 0) ∧ (0 ≤ y ∧ y < N 0) ∧ (0 ≤ z ∧ z < N 0) ∧ (N 1 < 2 → y = 0) ∧ (N 1 < 3 → z = 0))) → (∀ w' : mr_Wd, mr_MW w' (0) tp sz zo fr kd nb ft pl wd sm md li sd T N R K Sn ik s1 s2 ls → mr_FM w w' → Po (some (vI (-1))) w'))
set_option maxHeartbeats 4000000 in
set_option maxRecDepth 20000 in
theorem ok_X7_beside (l : Launch) (G : mr_G) : mr_Ok l G yX7_beside cX7_beside 8 (some .int) 3 73 T_X7_beside := by
  refine mr_Ok.of (by decide +kernel) ?_
  rintro a w Po ⟨th, tp, sz, zo, fr, kd, nb, ft, pl, wd, sm, md, li, sd, T, N, R, K, Sn, ik, s1, s2, ls, W, L, t, x, y, z, rfl, hM, ⟨hG0, hG1, hG14, hGW⟩, h_t, h_x, h_y, h_z, hP, hQ⟩
  refine ⟨Nat.le_of_ble_eq_true rfl, ?_⟩
  show mr_J l G RX7 cX7_beside 8 (some .int) 3 73 Po 0 [some (vR 18 0), some (vI t), some (vI x), some (vI y), some (vI z), none, none, none] [] w
  obtain ⟨h18, h19, h20, h21, h22, h23, h24, h25, h26, h27, hs1, hs2, hik⟩ := id hM
  refine mr_aload_n dX7_beside_0 rfl ?_
  refine mr_iconst dX7_beside_1 ?_
  refine mr_put dX7_beside_2 fl_X7_1 pf_X7_0 rfl rfl (by first | assumption | exact mr_up_same _ _ _ | (refine mr_lk ?_ (by first | assumption | decide); first | assumption | exact mr_up_same _ _ _ | (refine mr_lk ?_ (by first | assumption | decide); first | assumption | exact mr_up_same _ _ _ | (refine mr_lk ?_ (by first | assumption | decide); first | assumption | exact mr_up_same _ _ _ | (refine mr_lk ?_ (by first | assumption | decide); first | assumption | exact mr_up_same _ _ _))))) (Nat.le_of_ble_eq_true rfl) ?_
  refine mw_p0 hM (fun w1 hM1 hF1 => ?_)
  obtain ⟨h18, h19, h20, h21, h22, h23, h24, h25, h26, h27, hs1, hs2, hik⟩ := id hM1
  refine mr_aload_n dX7_beside_5 rfl ?_
  refine mr_iload_n dX7_beside_6 rfl ?_
  refine mr_callV (as := [_]) dX7_beside_7 (ok_X7_isModuleAt l G) ml_X7_199 cl_X7_isModuleAt cv_X7_isModuleAt (by decide) rfl rfl (Nat.le_of_ble_eq_true rfl) (by first | assumption | exact mr_up_same _ _ _ | (refine mr_lk ?_ (by first | assumption | decide); first | assumption | exact mr_up_same _ _ _ | (refine mr_lk ?_ (by first | assumption | decide); first | assumption | exact mr_up_same _ _ _ | (refine mr_lk ?_ (by first | assumption | decide); first | assumption | exact mr_up_same _ _ _ | (refine mr_lk ?_ (by first | assumption | decide); first | assumption | exact mr_up_same _ _ _))))) ?_
  refine ⟨_, _, _, _, _, _, _, _, _, _, _, _, _, _, _, _, rfl, (by first | assumption | exact mr_up_same _ _ _ | (refine mr_lk ?_ (by first | assumption | decide); first | assumption | exact mr_up_same _ _ _ | (refine mr_lk ?_ (by first | assumption | decide); first | assumption | exact mr_up_same _ _ _ | (refine mr_lk ?_ (by first | assumption | decide); first | assumption | exact mr_up_same _ _ _ | (refine mr_lk ?_ (by first | assumption | decide); first | assumption | exact mr_up_same _ _ _))))), (by first | assumption | exact mr_up_same _ _ _ | (refine mr_lk ?_ (by first | assumption | decide); first | assumption | exact mr_up_same _ _ _ | (refine mr_lk ?_ (by first | assumption | decide); first | assumption | exact mr_up_same _ _ _ | (refine mr_lk ?_ (by first | assumption | decide); first | assumption | exact mr_up_same _ _ _ | (refine mr_lk ?_ (by first | assumption | decide); first | assumption | exact mr_up_same _ _ _))))), h_t, hG0, ?_, ?_⟩
  · intro k1
    dsimp only [Option.toList_some, Option.toList_none, List.cons_append, List.nil_append]
    refine mr_if_eq (tgt := 25) dX7_beside_10 (by decide) (by omega) (fun h => absurd h (by decide)) (fun _ => ?_)
    refine mr_aload_n dX7_beside_13 rfl ?_
    refine mr_iload_n dX7_beside_14 rfl ?_
    refine mr_iload_n dX7_beside_15 rfl ?_
    refine mr_iload dX7_beside_16 rfl ?_
    refine mr_callV (as := [_, _, _]) dX7_beside_18 (ok_X7_rowOf l G) ml_X7_211 cl_X7_rowOf cv_X7_rowOf (by decide) rfl rfl (Nat.le_of_ble_eq_true rfl) (by first | assumption | exact mr_up_same _ _ _ | (refine mr_lk ?_ (by first | assumption | decide); first | assumption | exact mr_up_same _ _ _ | (refine mr_lk ?_ (by first | assumption | decide); first | assumption | exact mr_up_same _ _ _ | (refine mr_lk ?_ (by first | assumption | decide); first | assumption | exact mr_up_same _ _ _ | (refine mr_lk ?_ (by first | assumption | decide); first | assumption | exact mr_up_same _ _ _))))) ?_
    refine ⟨_, _, _, _, _, _, _, _, _, _, _, _, _, _, _, _, _, _, rfl, (by first | assumption | exact mr_up_same _ _ _ | (refine mr_lk ?_ (by first | assumption | decide); first | assumption | exact mr_up_same _ _ _ | (refine mr_lk ?_ (by first | assumption | decide); first | assumption | exact mr_up_same _ _ _ | (refine mr_lk ?_ (by first | assumption | decide); first | assumption | exact mr_up_same _ _ _ | (refine mr_lk ?_ (by first | assumption | decide); first | assumption | exact mr_up_same _ _ _))))), (by first | assumption | exact mr_up_same _ _ _ | (refine mr_lk ?_ (by first | assumption | decide); first | assumption | exact mr_up_same _ _ _ | (refine mr_lk ?_ (by first | assumption | decide); first | assumption | exact mr_up_same _ _ _ | (refine mr_lk ?_ (by first | assumption | decide); first | assumption | exact mr_up_same _ _ _ | (refine mr_lk ?_ (by first | assumption | decide); first | assumption | exact mr_up_same _ _ _))))), h_x, h_y, h_z, hG0, hG1, ?_, ?_⟩
    · intro kr
      have hrw := mr_rw_bd (m := N 0) (by omega) kr.1 kr.2.1 kr.2.2.1
      have hm3 := mr_m3 (m := N 0) ⟨by omega, by omega⟩
      dsimp only [Option.toList_some, Option.toList_none, List.cons_append, List.nil_append]
      refine mr_iconst dX7_beside_21 ?_
      refine mr_icmp_ne (tgt := 27) dX7_beside_22 (by decide) ⟨by omega, by omega⟩ (by decide) (fun hc_22 => ?_) (fun hc_22 => absurd hc_22 (by omega))
      obtain ⟨e0, e1, hM0, hW0, hFN, hEQ⟩ := hGW (by omega)
      have hMM : 1 ≤ N 0 ∧ N 0 ≤ 30 := ⟨by omega, by omega⟩
      have hm3 := mr_m3 hMM
      have hm2 := mr_m2 hMM
      refine mr_aload_n dX7_beside_27 rfl ?_
      refine mr_aload_n dX7_beside_28 rfl ?_
      refine mr_get dX7_beside_29 fl_X7_86 (by first | assumption | exact mr_up_same _ _ _ | (refine mr_lk ?_ (by first | assumption | decide); first | assumption | exact mr_up_same _ _ _ | (refine mr_lk ?_ (by first | assumption | decide); first | assumption | exact mr_up_same _ _ _ | (refine mr_lk ?_ (by first | assumption | decide); first | assumption | exact mr_up_same _ _ _ | (refine mr_lk ?_ (by first | assumption | decide); first | assumption | exact mr_up_same _ _ _))))) rfl ?_
      refine mr_iload_n dX7_beside_32 rfl ?_
      refine mr_aload_n dX7_beside_33 rfl ?_
      refine mr_get dX7_beside_34 fl_X7_102 (by first | assumption | exact mr_up_same _ _ _ | (refine mr_lk ?_ (by first | assumption | decide); first | assumption | exact mr_up_same _ _ _ | (refine mr_lk ?_ (by first | assumption | decide); first | assumption | exact mr_up_same _ _ _ | (refine mr_lk ?_ (by first | assumption | decide); first | assumption | exact mr_up_same _ _ _ | (refine mr_lk ?_ (by first | assumption | decide); first | assumption | exact mr_up_same _ _ _))))) rfl ?_
      refine mr_callV (as := [_, _, _]) dX7_beside_37 (ok_X7_laysSet l G) ml_X7_128 cl_X7_laysSet cv_X7_laysSet (by decide) rfl rfl (Nat.le_of_ble_eq_true rfl) (by first | assumption | exact mr_up_same _ _ _ | (refine mr_lk ?_ (by first | assumption | decide); first | assumption | exact mr_up_same _ _ _ | (refine mr_lk ?_ (by first | assumption | decide); first | assumption | exact mr_up_same _ _ _ | (refine mr_lk ?_ (by first | assumption | decide); first | assumption | exact mr_up_same _ _ _ | (refine mr_lk ?_ (by first | assumption | decide); first | assumption | exact mr_up_same _ _ _))))) ?_
      refine mw_lays1 hM1 rfl hMM ⟨by omega, by omega⟩ (hFN t (by omega) (by omega)) (fun w2 st2 li2 n2 hp2 hM2 hF2 => ?_)
      obtain ⟨h18, h19, h20, h21, h22, h23, h24, h25, h26, h27, hs1, hs2, hik⟩ := id hM2
      dsimp only [Option.toList_some, Option.toList_none, List.cons_append, List.nil_append]
      refine mr_aload_n dX7_beside_40 rfl ?_
      refine mr_iload_n dX7_beside_41 rfl ?_
      refine mr_iload_n dX7_beside_42 rfl ?_
      refine mr_iload dX7_beside_43 rfl ?_
      refine mr_callV (as := [_, _, _]) dX7_beside_45 (ok_X7_rowOf l G) ml_X7_211 cl_X7_rowOf cv_X7_rowOf (by decide) rfl rfl (Nat.le_of_ble_eq_true rfl) (by first | assumption | exact mr_up_same _ _ _ | (refine mr_lk ?_ (by first | assumption | decide); first | assumption | exact mr_up_same _ _ _ | (refine mr_lk ?_ (by first | assumption | decide); first | assumption | exact mr_up_same _ _ _ | (refine mr_lk ?_ (by first | assumption | decide); first | assumption | exact mr_up_same _ _ _ | (refine mr_lk ?_ (by first | assumption | decide); first | assumption | exact mr_up_same _ _ _))))) ?_
      refine ⟨_, _, _, _, _, _, _, _, _, _, _, _, _, _, _, _, _, _, rfl, (by first | assumption | exact mr_up_same _ _ _ | (refine mr_lk ?_ (by first | assumption | decide); first | assumption | exact mr_up_same _ _ _ | (refine mr_lk ?_ (by first | assumption | decide); first | assumption | exact mr_up_same _ _ _ | (refine mr_lk ?_ (by first | assumption | decide); first | assumption | exact mr_up_same _ _ _ | (refine mr_lk ?_ (by first | assumption | decide); first | assumption | exact mr_up_same _ _ _))))), (by first | assumption | exact mr_up_same _ _ _ | (refine mr_lk ?_ (by first | assumption | decide); first | assumption | exact mr_up_same _ _ _ | (refine mr_lk ?_ (by first | assumption | decide); first | assumption | exact mr_up_same _ _ _ | (refine mr_lk ?_ (by first | assumption | decide); first | assumption | exact mr_up_same _ _ _ | (refine mr_lk ?_ (by first | assumption | decide); first | assumption | exact mr_up_same _ _ _))))), h_x, h_y, h_z, hG0, hG1, ?_, ?_⟩
      · intro _
        dsimp only [Option.toList_some, Option.toList_none, List.cons_append, List.nil_append]
        refine mr_istore dX7_beside_48 rfl (by decide) ?_
        refine mr_iconst dX7_beside_50 ?_
        refine mr_istore dX7_beside_51 rfl (by decide) ?_
        have hnn := mr_Lp_le (by omega) hp2
        refine mr_weak [some (vR 18 0), some (vI t), some (vI x), some (vI y), some (vI z), some (vI ((x * N 0 + y) * N 0 + z)), some (vI ((0 : Nat) : Int)), none] ⟨rfl, rfl, rfl, rfl, rfl, rfl, rfl, trivial⟩ ?_
        exact lp_X7_beside l G (t := t) (x := x) (y := y) (z := z) (li := 0) hM2 hMM hG0 hG1 h_x h_y h_z kr (by omega) (fun i hi => (hp2.2.2.1 i hi).1) (fun v g1 g2 => hP ⟨k1, kr⟩ w2 _ _ _ v hp2 g1 g2 hM2 (hF1.tr hF2)) n2 0 ((x * N 0 + y) * N 0 + z) (by omega) hrw ⟨Or.inl rfl, Int.le_refl _, fun i hi => by omega⟩
      · intro hno
        exact absurd kr hno
    · intro kr
      dsimp only [Option.toList_some, Option.toList_none, List.cons_append, List.nil_append]
      refine mr_iconst dX7_beside_21 ?_
      refine mr_icmp_ne (tgt := 27) dX7_beside_22 (by decide) ⟨by omega, by omega⟩ (by decide) (fun h => absurd h (by decide)) (fun _ => ?_)
      refine mr_iconst dX7_beside_25 ?_
      refine mr_iret rfl dX7_beside_26 ?_
      first | exact hQ (fun zz => k1 zz.1) w1 hM1 hF1 | exact hQ (fun zz => kr zz.2) w1 hM1 hF1
  · intro k1
    dsimp only [Option.toList_some, Option.toList_none, List.cons_append, List.nil_append]
    refine mr_if_eq (tgt := 25) dX7_beside_10 (by decide) (by omega) (fun _ => ?_) (fun h => absurd h (by decide))
    refine mr_iconst dX7_beside_25 ?_
    refine mr_iret rfl dX7_beside_26 ?_
    first | exact hQ (fun zz => k1 zz.1) w1 hM1 hF1 | exact hQ (fun zz => kr zz.2) w1 hM1 hF1
set_option maxHeartbeats 4000000 in
set_option maxRecDepth 20000 in
theorem lp_X7_nought (l : Launch) (G : mr_G) {Po : Option mr_AV → mr_Wd → Prop} {w0 : mr_Wd} {th tp sz zo fr kd nb ft pl wd sm md li sd : Int} {T N R K Sn ik s1 s2 ls : Nat → Int} {t : Int} {n0 : Nat} {L : mr_V → Prop} (hMM : 1 ≤ N 0 ∧ N 0 ≤ 30) (hL : mr_Li (N 0) L) (hp0 : mr_Lp (N 0) s1 ls n0 (mr_S (N 0) L)) (hP : ∀ (w' : mr_Wd) (s2' : Nat → Int) (u : Int), 1 ≤ u → u ≤ N 0 → (∀ v : Int, 1 ≤ v → v < u → ¬ (∀ x : Int, 0 ≤ x → x < N 0 * N 0 * N 0 → mr_S (N 0) L x → mr_of (N 0) x v = 0)) → (∀ x : Int, 0 ≤ x → x < N 0 * N 0 * N 0 → mr_S (N 0) L x → mr_of (N 0) x u = 0) → mr_MW w' th tp sz zo fr kd nb ft pl wd sm md ((n0 : Int)) sd T N R K Sn ik s1 (s2') ls → mr_FM w0 w' → Po (some (vI u)) w') : ∀ (n : Nat) (u : Int) (s2 : Nat → Int) (w : mr_Wd), 1 ≤ u → u + n = N 0 → (∀ v : Int, 1 ≤ v → v < u → ¬ (∀ x : Int, 0 ≤ x → x < N 0 * N 0 * N 0 → mr_S (N 0) L x → mr_of (N 0) x v = 0)) → mr_MW w th tp sz zo fr kd nb ft pl wd sm md ((n0 : Int)) sd T N R K Sn ik s1 s2 ls → mr_FM w0 w → mr_J l G RX7 cX7_nought 3 (some .int) 3 73 Po 30 [some (vR 18 0), some (vI t), some (vI u)] [] w := by
  intro n
  have hm3 := mr_m3 hMM
  have hnn := mr_Lp_le (by omega) hp0
  induction n with
  | zero =>
    intro u s2 w h0 hn hu hM hFr
    have e : u = N 0 := by omega
    obtain ⟨h18, h19, h20, h21, h22, h23, h24, h25, h26, h27, hs1, hs2, hik⟩ := id hM
    refine mr_aload_n dX7_nought_30 rfl ?_
    refine mr_iload_n dX7_nought_31 rfl ?_
    refine mr_callV (as := [_]) dX7_nought_32 (ok_X7_manyTimes l G) ml_X7_217 cl_X7_manyTimes cv_X7_manyTimes (by decide) rfl rfl (Nat.le_of_ble_eq_true rfl) (by first | assumption | exact mr_up_same _ _ _ | (refine mr_lk ?_ (by first | assumption | decide); first | assumption | exact mr_up_same _ _ _ | (refine mr_lk ?_ (by first | assumption | decide); first | assumption | exact mr_up_same _ _ _ | (refine mr_lk ?_ (by first | assumption | decide); first | assumption | exact mr_up_same _ _ _ | (refine mr_lk ?_ (by first | assumption | decide); first | assumption | exact mr_up_same _ _ _))))) ?_
    refine ⟨_, _, _, _, _, _, _, _, _, _, _, _, _, _, _, _, _, _, _, _, _, _, u, n0, rfl, hM, hMM, ⟨by omega, by omega⟩, (by omega), (fun i hi => (hp0.2.2.1 i hi).1), (fun w1 s21 l21 c1 hp1 hM1 hF1 => ?_)⟩
    have hmt := mr_mt1 (u := u) (show 0 < N 0 by omega) hL hp0 hp1
    have hcn := mr_Lp_le (by omega) hp1
    obtain ⟨h18, h19, h20, h21, h22, h23, h24, h25, h26, h27, hs1, hs2, hik⟩ := id hM1
    dsimp only [Option.toList_some, Option.toList_none, List.cons_append, List.nil_append]
    refine mr_iconst dX7_nought_35 ?_
    refine mr_icmp_le (tgt := 45) dX7_nought_36 (by decide) ⟨by omega, by omega⟩ (by decide) (fun hc_36 => ?_) (fun hc_36 => ?_)
    · refine mr_iload_n dX7_nought_45 rfl ?_
      refine mr_iret rfl dX7_nought_46 ?_
      exact hP w1 _ u h0 (by omega) hu (hmt.mp (by omega)) hM1 (hFr.tr hF1)
    · refine mr_iinc dX7_nought_39 rfl (by decide) rfl ?_
      refine mr_goto (tgt := 30) dX7_nought_42 (by decide) ?_
      exact absurd (hmt.mpr (fun x _ _ _ => by rw [e]; exact mr_of_M x)) (by omega)
  | succ n ih =>
    intro u s2 w h0 hn hu hM hFr
    obtain ⟨h18, h19, h20, h21, h22, h23, h24, h25, h26, h27, hs1, hs2, hik⟩ := id hM
    refine mr_aload_n dX7_nought_30 rfl ?_
    refine mr_iload_n dX7_nought_31 rfl ?_
    refine mr_callV (as := [_]) dX7_nought_32 (ok_X7_manyTimes l G) ml_X7_217 cl_X7_manyTimes cv_X7_manyTimes (by decide) rfl rfl (Nat.le_of_ble_eq_true rfl) (by first | assumption | exact mr_up_same _ _ _ | (refine mr_lk ?_ (by first | assumption | decide); first | assumption | exact mr_up_same _ _ _ | (refine mr_lk ?_ (by first | assumption | decide); first | assumption | exact mr_up_same _ _ _ | (refine mr_lk ?_ (by first | assumption | decide); first | assumption | exact mr_up_same _ _ _ | (refine mr_lk ?_ (by first | assumption | decide); first | assumption | exact mr_up_same _ _ _))))) ?_
    refine ⟨_, _, _, _, _, _, _, _, _, _, _, _, _, _, _, _, _, _, _, _, _, _, u, n0, rfl, hM, hMM, ⟨by omega, by omega⟩, (by omega), (fun i hi => (hp0.2.2.1 i hi).1), (fun w1 s21 l21 c1 hp1 hM1 hF1 => ?_)⟩
    have hmt := mr_mt1 (u := u) (show 0 < N 0 by omega) hL hp0 hp1
    have hcn := mr_Lp_le (by omega) hp1
    obtain ⟨h18, h19, h20, h21, h22, h23, h24, h25, h26, h27, hs1, hs2, hik⟩ := id hM1
    dsimp only [Option.toList_some, Option.toList_none, List.cons_append, List.nil_append]
    refine mr_iconst dX7_nought_35 ?_
    refine mr_icmp_le (tgt := 45) dX7_nought_36 (by decide) ⟨by omega, by omega⟩ (by decide) (fun hc_36 => ?_) (fun hc_36 => ?_)
    · refine mr_iload_n dX7_nought_45 rfl ?_
      refine mr_iret rfl dX7_nought_46 ?_
      exact hP w1 _ u h0 (by omega) hu (hmt.mp (by omega)) hM1 (hFr.tr hF1)
    · refine mr_iinc dX7_nought_39 rfl (by decide) rfl ?_
      refine mr_goto (tgt := 30) dX7_nought_42 (by decide) ?_
      refine ih (u + 1) _ w1 (by omega) (by omega) (fun v g1 g2 => ?_) hM1 (hFr.tr hF1)
      by_cases ev : v = u
      · subst ev; exact fun zz => by have := hmt.mpr zz; omega
      · exact hu v g1 (by omega)
def T_X7_nought (a : List mr_AV) (w : mr_Wd) (Po : Option mr_AV → mr_Wd → Prop) : Prop := ∃ (th tp sz zo fr kd nb ft pl wd sm md li sd : Int) (T N R K Sn ik s1 s2 ls : Nat → Int) (W : Nat) (L : Int → mr_V → Prop) (t : Int), a = [vR 18 0, vI t] ∧ mr_MW w th tp sz zo fr kd nb ft pl wd sm md li sd T N R K Sn ik s1 s2 ls ∧ mr_NG N W L ∧ InR t ∧ ((0 < N 0 ∧ 0 ≤ t ∧ t ≤ 3) → (∀ (w' : mr_Wd) (s1' s2' ls' : Nat → Int) (li' u : Int), 1 ≤ u → u ≤ N 0 → (∀ v : Int, 1 ≤ v → v < u → ¬ (∀ x : Int, 0 ≤ x → x < N 0 * N 0 * N 0 → mr_S (N 0) (L t) x → mr_of (N 0) x v = 0)) → (∀ x : Int, 0 ≤ x → x < N 0 * N 0 * N 0 → mr_S (N 0) (L t) x → mr_of (N 0) x u = 0) → mr_MW w' (0) tp sz zo fr kd nb ft pl wd sm md (li') sd T N R K Sn ik (s1') (s2') (ls') → mr_FM w w' → Po (some (vI u)) w')) ∧ (¬ (0 < N 0 ∧ 0 ≤ t ∧ t ≤ 3) → (∀ w' : mr_Wd, mr_MW w' (0) tp sz zo fr kd nb ft pl wd sm md li sd T N R K Sn ik s1 s2 ls → mr_FM w w' → Po (some (vI (-1))) w'))
set_option maxHeartbeats 4000000 in
set_option maxRecDepth 20000 in
theorem ok_X7_nought (l : Launch) (G : mr_G) : mr_Ok l G yX7_nought cX7_nought 3 (some .int) 3 73 T_X7_nought := by
  refine mr_Ok.of (by decide +kernel) ?_
  rintro a w Po ⟨th, tp, sz, zo, fr, kd, nb, ft, pl, wd, sm, md, li, sd, T, N, R, K, Sn, ik, s1, s2, ls, W, L, t, rfl, hM, ⟨hG0, hG1, hG14, hGW⟩, h_t, hP, hQ⟩
  refine ⟨Nat.le_of_ble_eq_true rfl, ?_⟩
  show mr_J l G RX7 cX7_nought 3 (some .int) 3 73 Po 0 [some (vR 18 0), some (vI t), none] [] w
  obtain ⟨h18, h19, h20, h21, h22, h23, h24, h25, h26, h27, hs1, hs2, hik⟩ := id hM
  refine mr_aload_n dX7_nought_0 rfl ?_
  refine mr_iconst dX7_nought_1 ?_
  refine mr_put dX7_nought_2 fl_X7_1 pf_X7_0 rfl rfl (by first | assumption | exact mr_up_same _ _ _ | (refine mr_lk ?_ (by first | assumption | decide); first | assumption | exact mr_up_same _ _ _ | (refine mr_lk ?_ (by first | assumption | decide); first | assumption | exact mr_up_same _ _ _ | (refine mr_lk ?_ (by first | assumption | decide); first | assumption | exact mr_up_same _ _ _ | (refine mr_lk ?_ (by first | assumption | decide); first | assumption | exact mr_up_same _ _ _))))) (Nat.le_of_ble_eq_true rfl) ?_
  refine mw_p0 hM (fun w1 hM1 hF1 => ?_)
  obtain ⟨h18, h19, h20, h21, h22, h23, h24, h25, h26, h27, hs1, hs2, hik⟩ := id hM1
  refine mr_aload_n dX7_nought_5 rfl ?_
  refine mr_iload_n dX7_nought_6 rfl ?_
  refine mr_callV (as := [_]) dX7_nought_7 (ok_X7_isModuleAt l G) ml_X7_199 cl_X7_isModuleAt cv_X7_isModuleAt (by decide) rfl rfl (Nat.le_of_ble_eq_true rfl) (by first | assumption | exact mr_up_same _ _ _ | (refine mr_lk ?_ (by first | assumption | decide); first | assumption | exact mr_up_same _ _ _ | (refine mr_lk ?_ (by first | assumption | decide); first | assumption | exact mr_up_same _ _ _ | (refine mr_lk ?_ (by first | assumption | decide); first | assumption | exact mr_up_same _ _ _ | (refine mr_lk ?_ (by first | assumption | decide); first | assumption | exact mr_up_same _ _ _))))) ?_
  refine ⟨_, _, _, _, _, _, _, _, _, _, _, _, _, _, _, _, rfl, (by first | assumption | exact mr_up_same _ _ _ | (refine mr_lk ?_ (by first | assumption | decide); first | assumption | exact mr_up_same _ _ _ | (refine mr_lk ?_ (by first | assumption | decide); first | assumption | exact mr_up_same _ _ _ | (refine mr_lk ?_ (by first | assumption | decide); first | assumption | exact mr_up_same _ _ _ | (refine mr_lk ?_ (by first | assumption | decide); first | assumption | exact mr_up_same _ _ _))))), (by first | assumption | exact mr_up_same _ _ _ | (refine mr_lk ?_ (by first | assumption | decide); first | assumption | exact mr_up_same _ _ _ | (refine mr_lk ?_ (by first | assumption | decide); first | assumption | exact mr_up_same _ _ _ | (refine mr_lk ?_ (by first | assumption | decide); first | assumption | exact mr_up_same _ _ _ | (refine mr_lk ?_ (by first | assumption | decide); first | assumption | exact mr_up_same _ _ _))))), h_t, hG0, ?_, ?_⟩
  · intro k1
    dsimp only [Option.toList_some, Option.toList_none, List.cons_append, List.nil_append]
    refine mr_if_ne (tgt := 15) dX7_nought_10 (by decide) (by omega) (fun _ => ?_) (fun h => absurd h (by decide))
    obtain ⟨e0, e1, hM0, hW0, hFN, hEQ⟩ := hGW (by omega)
    have hMM : 1 ≤ N 0 ∧ N 0 ≤ 30 := ⟨by omega, by omega⟩
    have hm3 := mr_m3 hMM
    have hm2 := mr_m2 hMM
    refine mr_aload_n dX7_nought_15 rfl ?_
    refine mr_aload_n dX7_nought_16 rfl ?_
    refine mr_get dX7_nought_17 fl_X7_86 (by first | assumption | exact mr_up_same _ _ _ | (refine mr_lk ?_ (by first | assumption | decide); first | assumption | exact mr_up_same _ _ _ | (refine mr_lk ?_ (by first | assumption | decide); first | assumption | exact mr_up_same _ _ _ | (refine mr_lk ?_ (by first | assumption | decide); first | assumption | exact mr_up_same _ _ _ | (refine mr_lk ?_ (by first | assumption | decide); first | assumption | exact mr_up_same _ _ _))))) rfl ?_
    refine mr_iload_n dX7_nought_20 rfl ?_
    refine mr_aload_n dX7_nought_21 rfl ?_
    refine mr_get dX7_nought_22 fl_X7_102 (by first | assumption | exact mr_up_same _ _ _ | (refine mr_lk ?_ (by first | assumption | decide); first | assumption | exact mr_up_same _ _ _ | (refine mr_lk ?_ (by first | assumption | decide); first | assumption | exact mr_up_same _ _ _ | (refine mr_lk ?_ (by first | assumption | decide); first | assumption | exact mr_up_same _ _ _ | (refine mr_lk ?_ (by first | assumption | decide); first | assumption | exact mr_up_same _ _ _))))) rfl ?_
    refine mr_callV (as := [_, _, _]) dX7_nought_25 (ok_X7_laysSet l G) ml_X7_128 cl_X7_laysSet cv_X7_laysSet (by decide) rfl rfl (Nat.le_of_ble_eq_true rfl) (by first | assumption | exact mr_up_same _ _ _ | (refine mr_lk ?_ (by first | assumption | decide); first | assumption | exact mr_up_same _ _ _ | (refine mr_lk ?_ (by first | assumption | decide); first | assumption | exact mr_up_same _ _ _ | (refine mr_lk ?_ (by first | assumption | decide); first | assumption | exact mr_up_same _ _ _ | (refine mr_lk ?_ (by first | assumption | decide); first | assumption | exact mr_up_same _ _ _))))) ?_
    refine mw_lays1 hM1 rfl hMM ⟨by omega, by omega⟩ (hFN t (by omega) (by omega)) (fun w2 st2 li2 n2 hp2 hM2 hF2 => ?_)
    obtain ⟨h18, h19, h20, h21, h22, h23, h24, h25, h26, h27, hs1, hs2, hik⟩ := id hM2
    dsimp only [Option.toList_some, Option.toList_none, List.cons_append, List.nil_append]
    refine mr_iconst dX7_nought_28 ?_
    refine mr_istore_n dX7_nought_29 rfl (by decide) ?_
    exact lp_X7_nought l G (t := t) (s2 := s2) (li := 0) (w0 := w) hMM (mr_Fo_Li (hFN t (by omega) (by omega)).1) hp2 (fun w' s2' u g1 g2 g3 g4 g5 g6 => hP k1 w' _ s2' _ _ u g1 g2 g3 g4 g5 g6) (N 0 - 1).toNat 1 s2 w2 (Int.le_refl 1) (by omega) (fun v g1 g2 => by omega) hM2 (hF1.tr hF2)
  · intro k1
    dsimp only [Option.toList_some, Option.toList_none, List.cons_append, List.nil_append]
    refine mr_if_ne (tgt := 15) dX7_nought_10 (by decide) (by omega) (fun h => absurd h (by decide)) (fun _ => ?_)
    refine mr_iconst dX7_nought_13 ?_
    refine mr_iret rfl dX7_nought_14 ?_
    exact hQ k1 w1 hM1 hF1
