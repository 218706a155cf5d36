/-- both: what is beyond r stands as it was -/
def mr_Sb (st : Nat → Int) (r M : Int) (Q A : Int → Prop) : Prop := ∀ i : Nat, (i : Int) < M * M * M → (st i = 1 ↔ (if (i : Int) < r then Q i else A i))
theorem mr_Sb_s {st : Nat → Int} {r M v : Int} {Q A : Int → Prop} (h : mr_Sb st r M Q A) (h0 : 0 ≤ r) (hv : v = 1 ↔ Q r) : mr_Sb (mr_fs st r.toNat v) (r + 1) M Q A := fun i hi => by
  by_cases e : i = r.toNat
  · have e2 : (i : Int) = r := by omega
    have e3 : (i : Int) < r + 1 := by omega
    rw [if_pos e3, e, mr_fs_same, show ((r.toNat : Nat) : Int) = r by omega]
    exact hv
  · rw [mr_fs_ne _ _ e]
    have := h i hi
    by_cases e2 : (i : Int) < r
    · have e3 : (i : Int) < r + 1 := by omega
      rw [if_pos e2] at this
      rw [if_pos e3]
      exact this
    · have e3 : ¬ (i : Int) < r + 1 := by omega
      rw [if_neg e2] at this
      rw [if_neg e3]
      exact this
set_option maxHeartbeats 4000000 in
set_option maxRecDepth 20000 in
theorem lp_X7_join (l : Launch) (G : mr_G) {Po : Option mr_AV → mr_Wd → Prop} {w0 : mr_Wd} {th tp sz zo fr kd nb ft pl wd sm md li sd : Int} {T N R K Sn ik s1 s2 ls : Nat → Int} {s t b q : Int} {A0 B0 : Int → Prop} (hMM : 1 ≤ N 0 ∧ N 0 ≤ 30) (hB0 : mr_St (N 0) s2 B0) : ∀ (n : Nat) (r : Int) (st : Nat → Int) (w : mr_Wd), 0 ≤ r → r + n = N 0 * N 0 * N 0 → mr_Sb st r (N 0) (fun r : Int => A0 r ∧ B0 r) A0 → mr_MW w th tp sz zo fr kd nb ft pl wd sm md li sd T N R K Sn ik (st) s2 ls → mr_FM w0 w → (∀ (w' : mr_Wd) (st' : Nat → Int), mr_Sb st' (N 0 * N 0 * N 0) (N 0) (fun r : Int => A0 r ∧ B0 r) A0 → mr_MW w' th tp sz zo fr kd nb ft pl wd sm md li sd T N R K Sn ik (st') s2 ls → mr_FM w0 w' → mr_J l G RX7 cX7_join 6 (some .int) 5 116 Po 162 [some (vR 18 0), some (vI s), some (vI t), some (vI b), some (vI q), none] [] w') → mr_J l G RX7 cX7_join 6 (some .int) 5 116 Po 69 [some (vR 18 0), some (vI s), some (vI t), some (vI b), some (vI q), some (vI r)] [] w := by
  intro n
  induction n with
  | zero =>
    intro r st w h0 hn hS hM hFr hK
    have e : r = N 0 * N 0 * N 0 := by omega
    have hm3 := mr_m3 hMM
    have hm2 := mr_m2 hMM
    rw [e] at hS
    obtain ⟨h18, h19, h20, h21, h22, h23, h24, h25, h26, h27, hs1, hs2, hik⟩ := id hM
    refine mr_iload dX7_join_69 rfl ?_
    refine mr_aload_n dX7_join_71 rfl ?_
    refine mr_get dX7_join_72 fl_X7_86 (by first | assumption | exact mr_up_same _ _ _ | (refine mr_lk ?_ (by first | assumption | decide); first | assumption | exact mr_up_same _ _ _ | (refine mr_lk ?_ (by first | assumption | decide); first | assumption | exact mr_up_same _ _ _ | (refine mr_lk ?_ (by first | assumption | decide); first | assumption | exact mr_up_same _ _ _ | (refine mr_lk ?_ (by first | assumption | decide); first | assumption | exact mr_up_same _ _ _))))) rfl ?_
    refine mr_callS (as := [_]) dX7_join_75 (ok_X7_end_ l G) ml_X7_233 cl_X7_end_ cs_X7_end_ (by decide) rfl rfl (Nat.le_of_ble_eq_true rfl) ?_
    refine ⟨20, _, rfl, (by first | assumption | exact mr_up_same _ _ _ | (refine mr_lk ?_ (by first | assumption | decide); first | assumption | exact mr_up_same _ _ _ | (refine mr_lk ?_ (by first | assumption | decide); first | assumption | exact mr_up_same _ _ _ | (refine mr_lk ?_ (by first | assumption | decide); first | assumption | exact mr_up_same _ _ _ | (refine mr_lk ?_ (by first | assumption | decide); first | assumption | exact mr_up_same _ _ _))))), ?_⟩
    dsimp only [Option.toList_some, Option.toList_none, List.cons_append, List.nil_append]
    refine mr_icmp_ge (tgt := 119) dX7_join_78 (by decide) ⟨by omega, by omega⟩ ⟨by omega, by omega⟩ (fun hc_78 => ?_) (fun hc_78 => absurd hc_78 (by omega))
    refine mr_goto (tgt := 162) dX7_join_119 (by decide) ?_
    refine mr_weak [some (vR 18 0), some (vI s), some (vI t), some (vI b), some (vI q), none] ⟨rfl, rfl, rfl, rfl, rfl, trivial⟩ ?_
    exact hK w st hS hM hFr
  | succ n ih =>
    intro r st w h0 hn hS hM hFr hK
    have hm3 := mr_m3 hMM
    have hm2 := mr_m2 hMM
    obtain ⟨h18, h19, h20, h21, h22, h23, h24, h25, h26, h27, hs1, hs2, hik⟩ := id hM
    have a1 := hS r.toNat (by omega)
    rw [if_neg (show ¬ ((r.toNat : Nat) : Int) < r by omega), Int.toNat_of_nonneg h0] at a1
    have a2 := mr_St_at hB0 h0 (show r < N 0 * N 0 * N 0 by omega)
    have z1 := hs1 r.toNat
    have z2 := hs2 r.toNat
    refine mr_iload dX7_join_69 rfl ?_
    refine mr_aload_n dX7_join_71 rfl ?_
    refine mr_get dX7_join_72 fl_X7_86 (by first | assumption | exact mr_up_same _ _ _ | (refine mr_lk ?_ (by first | assumption | decide); first | assumption | exact mr_up_same _ _ _ | (refine mr_lk ?_ (by first | assumption | decide); first | assumption | exact mr_up_same _ _ _ | (refine mr_lk ?_ (by first | assumption | decide); first | assumption | exact mr_up_same _ _ _ | (refine mr_lk ?_ (by first | assumption | decide); first | assumption | exact mr_up_same _ _ _))))) rfl ?_
    refine mr_callS (as := [_]) dX7_join_75 (ok_X7_end_ l G) ml_X7_233 cl_X7_end_ cs_X7_end_ (by decide) rfl rfl (Nat.le_of_ble_eq_true rfl) ?_
    refine ⟨20, _, rfl, (by first | assumption | exact mr_up_same _ _ _ | (refine mr_lk ?_ (by first | assumption | decide); first | assumption | exact mr_up_same _ _ _ | (refine mr_lk ?_ (by first | assumption | decide); first | assumption | exact mr_up_same _ _ _ | (refine mr_lk ?_ (by first | assumption | decide); first | assumption | exact mr_up_same _ _ _ | (refine mr_lk ?_ (by first | assumption | decide); first | assumption | exact mr_up_same _ _ _))))), ?_⟩
    dsimp only [Option.toList_some, Option.toList_none, List.cons_append, List.nil_append]
    refine mr_icmp_ge (tgt := 119) dX7_join_78 (by decide) ⟨by omega, by omega⟩ ⟨by omega, by omega⟩ (fun hc_78 => absurd hc_78 (by omega)) (fun hc_78 => ?_)
    refine mr_aload_n dX7_join_81 rfl ?_
    refine mr_get dX7_join_82 fl_X7_102 (by first | assumption | exact mr_up_same _ _ _ | (refine mr_lk ?_ (by first | assumption | decide); first | assumption | exact mr_up_same _ _ _ | (refine mr_lk ?_ (by first | assumption | decide); first | assumption | exact mr_up_same _ _ _ | (refine mr_lk ?_ (by first | assumption | decide); first | assumption | exact mr_up_same _ _ _ | (refine mr_lk ?_ (by first | assumption | decide); first | assumption | exact mr_up_same _ _ _))))) rfl ?_
    refine mr_iload dX7_join_85 rfl ?_
    refine mr_aload_n dX7_join_87 rfl ?_
    refine mr_get dX7_join_88 fl_X7_102 (by first | assumption | exact mr_up_same _ _ _ | (refine mr_lk ?_ (by first | assumption | decide); first | assumption | exact mr_up_same _ _ _ | (refine mr_lk ?_ (by first | assumption | decide); first | assumption | exact mr_up_same _ _ _ | (refine mr_lk ?_ (by first | assumption | decide); first | assumption | exact mr_up_same _ _ _ | (refine mr_lk ?_ (by first | assumption | decide); first | assumption | exact mr_up_same _ _ _))))) rfl ?_
    refine mr_iload dX7_join_91 rfl ?_
    refine mr_zald dX7_join_93 (by first | assumption | exact mr_up_same _ _ _ | (refine mr_lk ?_ (by first | assumption | decide); first | assumption | exact mr_up_same _ _ _ | (refine mr_lk ?_ (by first | assumption | decide); first | assumption | exact mr_up_same _ _ _ | (refine mr_lk ?_ (by first | assumption | decide); first | assumption | exact mr_up_same _ _ _ | (refine mr_lk ?_ (by first | assumption | decide); first | assumption | exact mr_up_same _ _ _))))) (by omega) (by omega) (by decide) ?_
    refine mr_if_eq (tgt := 111) dX7_join_94 (by decide) ⟨by omega, by omega⟩ (fun hc_94 => ?_) (fun hc_94 => ?_)
    · refine mr_iconst dX7_join_111 ?_
      refine mr_zast dX7_join_112 (by first | assumption | exact mr_up_same _ _ _ | (refine mr_lk ?_ (by first | assumption | decide); first | assumption | exact mr_up_same _ _ _ | (refine mr_lk ?_ (by first | assumption | decide); first | assumption | exact mr_up_same _ _ _ | (refine mr_lk ?_ (by first | assumption | decide); first | assumption | exact mr_up_same _ _ _ | (refine mr_lk ?_ (by first | assumption | decide); first | assumption | exact mr_up_same _ _ _))))) (by omega) (by omega) (by decide) (Or.inl rfl) ?_
      refine mw_a25 hM (mr_b01 (by assumption) _ (by first | exact Or.inl rfl | exact Or.inr rfl | assumption)) (fun w1 hM1 hF1 => ?_)
      obtain ⟨h18, h19, h20, h21, h22, h23, h24, h25, h26, h27, hs1, hs2, hik⟩ := id hM1
      refine mr_iinc dX7_join_113 rfl (by decide) rfl ?_
      refine mr_goto (tgt := 69) dX7_join_116 (by decide) ?_
      first | exact ih (r + 1) _ w1 (by omega) (by omega) (mr_Sb_s hS h0 ⟨fun _ => ⟨a1.mp (by omega), a2.mp (by omega)⟩, fun _ => rfl⟩) hM1 (hFr.tr hF1) hK | exact ih (r + 1) _ w1 (by omega) (by omega) (mr_Sb_s hS h0 ⟨fun zz => absurd zz (by decide), fun zz => by have := a1.mpr zz.1; omega⟩) hM1 (hFr.tr hF1) hK | exact ih (r + 1) _ w1 (by omega) (by omega) (mr_Sb_s hS h0 ⟨fun zz => absurd zz (by decide), fun zz => by have := a2.mpr zz.2; omega⟩) hM1 (hFr.tr hF1) hK
    · refine mr_aload_n dX7_join_97 rfl ?_
      refine mr_get dX7_join_98 fl_X7_105 (by first | assumption | exact mr_up_same _ _ _ | (refine mr_lk ?_ (by first | assumption | decide); first | assumption | exact mr_up_same _ _ _ | (refine mr_lk ?_ (by first | assumption | decide); first | assumption | exact mr_up_same _ _ _ | (refine mr_lk ?_ (by first | assumption | decide); first | assumption | exact mr_up_same _ _ _ | (refine mr_lk ?_ (by first | assumption | decide); first | assumption | exact mr_up_same _ _ _))))) rfl ?_
      refine mr_iload dX7_join_101 rfl ?_
      refine mr_zald dX7_join_103 (by first | assumption | exact mr_up_same _ _ _ | (refine mr_lk ?_ (by first | assumption | decide); first | assumption | exact mr_up_same _ _ _ | (refine mr_lk ?_ (by first | assumption | decide); first | assumption | exact mr_up_same _ _ _ | (refine mr_lk ?_ (by first | assumption | decide); first | assumption | exact mr_up_same _ _ _ | (refine mr_lk ?_ (by first | assumption | decide); first | assumption | exact mr_up_same _ _ _))))) (by omega) (by omega) (by decide) ?_
      refine mr_if_eq (tgt := 111) dX7_join_104 (by decide) ⟨by omega, by omega⟩ (fun hc_104 => ?_) (fun hc_104 => ?_)
      · refine mr_iconst dX7_join_111 ?_
        refine mr_zast dX7_join_112 (by first | assumption | exact mr_up_same _ _ _ | (refine mr_lk ?_ (by first | assumption | decide); first | assumption | exact mr_up_same _ _ _ | (refine mr_lk ?_ (by first | assumption | decide); first | assumption | exact mr_up_same _ _ _ | (refine mr_lk ?_ (by first | assumption | decide); first | assumption | exact mr_up_same _ _ _ | (refine mr_lk ?_ (by first | assumption | decide); first | assumption | exact mr_up_same _ _ _))))) (by omega) (by omega) (by decide) (Or.inl rfl) ?_
        refine mw_a25 hM (mr_b01 (by assumption) _ (by first | exact Or.inl rfl | exact Or.inr rfl | assumption)) (fun w2 hM2 hF2 => ?_)
        obtain ⟨h18, h19, h20, h21, h22, h23, h24, h25, h26, h27, hs1, hs2, hik⟩ := id hM2
        refine mr_iinc dX7_join_113 rfl (by decide) rfl ?_
        refine mr_goto (tgt := 69) dX7_join_116 (by decide) ?_
        first | exact ih (r + 1) _ w2 (by omega) (by omega) (mr_Sb_s hS h0 ⟨fun _ => ⟨a1.mp (by omega), a2.mp (by omega)⟩, fun _ => rfl⟩) hM2 (hFr.tr hF2) hK | exact ih (r + 1) _ w2 (by omega) (by omega) (mr_Sb_s hS h0 ⟨fun zz => absurd zz (by decide), fun zz => by have := a1.mpr zz.1; omega⟩) hM2 (hFr.tr hF2) hK | exact ih (r + 1) _ w2 (by omega) (by omega) (mr_Sb_s hS h0 ⟨fun zz => absurd zz (by decide), fun zz => by have := a2.mpr zz.2; omega⟩) hM2 (hFr.tr hF2) hK
      · refine mr_iconst dX7_join_107 ?_
        refine mr_goto (tgt := 112) dX7_join_108 (by decide) ?_
        refine mr_zast dX7_join_112 (by first | assumption | exact mr_up_same _ _ _ | (refine mr_lk ?_ (by first | assumption | decide); first | assumption | exact mr_up_same _ _ _ | (refine mr_lk ?_ (by first | assumption | decide); first | assumption | exact mr_up_same _ _ _ | (refine mr_lk ?_ (by first | assumption | decide); first | assumption | exact mr_up_same _ _ _ | (refine mr_lk ?_ (by first | assumption | decide); first | assumption | exact mr_up_same _ _ _))))) (by omega) (by omega) (by decide) (Or.inr rfl) ?_
        refine mw_a25 hM (mr_b01 (by assumption) _ (by first | exact Or.inl rfl | exact Or.inr rfl | assumption)) (fun w3 hM3 hF3 => ?_)
        obtain ⟨h18, h19, h20, h21, h22, h23, h24, h25, h26, h27, hs1, hs2, hik⟩ := id hM3
        refine mr_iinc dX7_join_113 rfl (by decide) rfl ?_
        refine mr_goto (tgt := 69) dX7_join_116 (by decide) ?_
        first | exact ih (r + 1) _ w3 (by omega) (by omega) (mr_Sb_s hS h0 ⟨fun _ => ⟨a1.mp (by omega), a2.mp (by omega)⟩, fun _ => rfl⟩) hM3 (hFr.tr hF3) hK | exact ih (r + 1) _ w3 (by omega) (by omega) (mr_Sb_s hS h0 ⟨fun zz => absurd zz (by decide), fun zz => by have := a1.mpr zz.1; omega⟩) hM3 (hFr.tr hF3) hK | exact ih (r + 1) _ w3 (by omega) (by omega) (mr_Sb_s hS h0 ⟨fun zz => absurd zz (by decide), fun zz => by have := a2.mpr zz.2; omega⟩) hM3 (hFr.tr hF3) hK
def T_X7_join (a : List mr_AV) (w : mr_Wd) (Po : Option mr_AV → mr_Wd → Prop) : Prop := ∃ (th tp sz zo fr kd nb ft pl wd sm md li sd : Int) (T N R K Sn ik s1 s2 ls : Nat → Int) (W : Nat) (L : Int → mr_V → Prop) (F : Nat → mr_V) (Lt : mr_V → Prop) (s t b q : Int), a = [vR 18 0, vI s, vI t, vI b, vI q] ∧ mr_MW w th tp sz zo fr kd nb ft pl wd sm md li sd T N R K Sn ik s1 s2 ls ∧ mr_NG N W L ∧ (0 ≤ sm ∧ sm ≤ 8) ∧ InR s ∧ InR t ∧ InR b ∧ InR q ∧ (((0 < N 0 ∧ 0 ≤ s ∧ s ≤ 3) ∧ (0 < N 0 ∧ 0 ≤ t ∧ t ≤ 3) ∧ (0 < N 0 ∧ 0 ≤ q ∧ q ≤ 3)) → mr_Fo (N 0) W F Lt) ∧ (((0 < N 0 ∧ 0 ≤ s ∧ s ≤ 3) ∧ (0 < N 0 ∧ 0 ≤ t ∧ t ≤ 3) ∧ (0 < N 0 ∧ 0 ≤ q ∧ q ≤ 3)) → b = 0 → ∀ x : mr_V, (mr_LA (mr_LA (mr_LA (L s) (mr_dec (N 0) (mr_nf N t 0))) (mr_dec (N 0) (mr_nf N t 1))) (mr_dec (N 0) (mr_nf N t 2))) x ↔ Lt x) ∧ (((0 < N 0 ∧ 0 ≤ s ∧ s ≤ 3) ∧ (0 < N 0 ∧ 0 ≤ t ∧ t ≤ 3) ∧ (0 < N 0 ∧ 0 ≤ q ∧ q ≤ 3)) → b ≠ 0 → ∀ x : mr_V, (L s x ∧ L t x) ↔ Lt x) ∧ (((0 < N 0 ∧ 0 ≤ s ∧ s ≤ 3) ∧ (0 < N 0 ∧ 0 ≤ t ∧ t ≤ 3) ∧ (0 < N 0 ∧ 0 ≤ q ∧ q ≤ 3)) → (∀ (w' : mr_Wd) (Sn' st' li' s2' : Nat → Int) (sm' : Int) (n : Nat), mr_snr N Sn sm Sn' sm' → mr_Lp (N 0) st' li' n (mr_S (N 0) Lt) → mr_MW w' (0) tp sz zo fr kd nb ft pl wd (sm') md ((n : Int)) sd T (mr_kf (N 0) N q F) R K (Sn') ik (st') (s2') (li') → mr_FM w w' → Po (some (vI n)) w')) ∧ (¬ ((0 < N 0 ∧ 0 ≤ s ∧ s ≤ 3) ∧ (0 < N 0 ∧ 0 ≤ t ∧ t ≤ 3) ∧ (0 < N 0 ∧ 0 ≤ q ∧ q ≤ 3)) → (∀ w' : mr_Wd, mr_MW w' (0) tp sz zo fr kd nb ft pl wd sm md li sd T N R K Sn ik s1 s2 ls → mr_FM w w' → Po (some (vI (-1))) w'))
set_option maxHeartbeats 4000000 in
set_option maxRecDepth 20000 in
theorem ok_X7_join (l : Launch) (G : mr_G) : mr_Ok l G yX7_join cX7_join 6 (some .int) 5 116 T_X7_join := by
  refine mr_Ok.of (by decide +kernel) ?_
  rintro a w Po ⟨th, tp, sz, zo, fr, kd, nb, ft, pl, wd, sm, md, li, sd, T, N, R, K, Sn, ik, s1, s2, ls, W, L, F, Lt, s, t, b, q, rfl, hM, ⟨hG0, hG1, hG14, hGW⟩, hsm, h_s, h_t, h_b, h_q, hFoC, hQ0, hQ1, hP, hQ⟩
  refine ⟨Nat.le_of_ble_eq_true rfl, ?_⟩
  show mr_J l G RX7 cX7_join 6 (some .int) 5 116 Po 0 [some (vR 18 0), some (vI s), some (vI t), some (vI b), some (vI q), none] [] w
  obtain ⟨h18, h19, h20, h21, h22, h23, h24, h25, h26, h27, hs1, hs2, hik⟩ := id hM
  refine mr_aload_n dX7_join_0 rfl ?_
  refine mr_iconst dX7_join_1 ?_
  refine mr_put dX7_join_2 fl_X7_1 pf_X7_0 rfl rfl (by first | assumption | exact mr_up_same _ _ _ | (refine mr_lk ?_ (by first | assumption | decide); first | assumption | exact mr_up_same _ _ _ | (refine mr_lk ?_ (by first | assumption | decide); first | assumption | exact mr_up_same _ _ _ | (refine mr_lk ?_ (by first | assumption | decide); first | assumption | exact mr_up_same _ _ _ | (refine mr_lk ?_ (by first | assumption | decide); first | assumption | exact mr_up_same _ _ _))))) (Nat.le_of_ble_eq_true rfl) ?_
  refine mw_p0 hM (fun w1 hM1 hF1 => ?_)
  obtain ⟨h18, h19, h20, h21, h22, h23, h24, h25, h26, h27, hs1, hs2, hik⟩ := id hM1
  refine mr_aload_n dX7_join_5 rfl ?_
  refine mr_iload_n dX7_join_6 rfl ?_
  refine mr_callV (as := [_]) dX7_join_7 (ok_X7_isModuleAt l G) ml_X7_199 cl_X7_isModuleAt cv_X7_isModuleAt (by decide) rfl rfl (Nat.le_of_ble_eq_true rfl) (by first | assumption | exact mr_up_same _ _ _ | (refine mr_lk ?_ (by first | assumption | decide); first | assumption | exact mr_up_same _ _ _ | (refine mr_lk ?_ (by first | assumption | decide); first | assumption | exact mr_up_same _ _ _ | (refine mr_lk ?_ (by first | assumption | decide); first | assumption | exact mr_up_same _ _ _ | (refine mr_lk ?_ (by first | assumption | decide); first | assumption | exact mr_up_same _ _ _))))) ?_
  refine ⟨_, _, _, _, _, _, _, _, _, _, _, _, _, _, _, _, rfl, (by first | assumption | exact mr_up_same _ _ _ | (refine mr_lk ?_ (by first | assumption | decide); first | assumption | exact mr_up_same _ _ _ | (refine mr_lk ?_ (by first | assumption | decide); first | assumption | exact mr_up_same _ _ _ | (refine mr_lk ?_ (by first | assumption | decide); first | assumption | exact mr_up_same _ _ _ | (refine mr_lk ?_ (by first | assumption | decide); first | assumption | exact mr_up_same _ _ _))))), (by first | assumption | exact mr_up_same _ _ _ | (refine mr_lk ?_ (by first | assumption | decide); first | assumption | exact mr_up_same _ _ _ | (refine mr_lk ?_ (by first | assumption | decide); first | assumption | exact mr_up_same _ _ _ | (refine mr_lk ?_ (by first | assumption | decide); first | assumption | exact mr_up_same _ _ _ | (refine mr_lk ?_ (by first | assumption | decide); first | assumption | exact mr_up_same _ _ _))))), h_s, hG0, ?_, ?_⟩
  · intro k1
    dsimp only [Option.toList_some, Option.toList_none, List.cons_append, List.nil_append]
    refine mr_if_eq (tgt := 30) dX7_join_10 (by decide) (by omega) (fun h => absurd h (by decide)) (fun _ => ?_)
    refine mr_aload_n dX7_join_13 rfl ?_
    refine mr_iload_n dX7_join_14 rfl ?_
    refine mr_callV (as := [_]) dX7_join_15 (ok_X7_isModuleAt l G) ml_X7_199 cl_X7_isModuleAt cv_X7_isModuleAt (by decide) rfl rfl (Nat.le_of_ble_eq_true rfl) (by first | assumption | exact mr_up_same _ _ _ | (refine mr_lk ?_ (by first | assumption | decide); first | assumption | exact mr_up_same _ _ _ | (refine mr_lk ?_ (by first | assumption | decide); first | assumption | exact mr_up_same _ _ _ | (refine mr_lk ?_ (by first | assumption | decide); first | assumption | exact mr_up_same _ _ _ | (refine mr_lk ?_ (by first | assumption | decide); first | assumption | exact mr_up_same _ _ _))))) ?_
    refine ⟨_, _, _, _, _, _, _, _, _, _, _, _, _, _, _, _, rfl, (by first | assumption | exact mr_up_same _ _ _ | (refine mr_lk ?_ (by first | assumption | decide); first | assumption | exact mr_up_same _ _ _ | (refine mr_lk ?_ (by first | assumption | decide); first | assumption | exact mr_up_same _ _ _ | (refine mr_lk ?_ (by first | assumption | decide); first | assumption | exact mr_up_same _ _ _ | (refine mr_lk ?_ (by first | assumption | decide); first | assumption | exact mr_up_same _ _ _))))), (by first | assumption | exact mr_up_same _ _ _ | (refine mr_lk ?_ (by first | assumption | decide); first | assumption | exact mr_up_same _ _ _ | (refine mr_lk ?_ (by first | assumption | decide); first | assumption | exact mr_up_same _ _ _ | (refine mr_lk ?_ (by first | assumption | decide); first | assumption | exact mr_up_same _ _ _ | (refine mr_lk ?_ (by first | assumption | decide); first | assumption | exact mr_up_same _ _ _))))), h_t, hG0, ?_, ?_⟩
    · intro k2
      dsimp only [Option.toList_some, Option.toList_none, List.cons_append, List.nil_append]
      refine mr_if_eq (tgt := 30) dX7_join_18 (by decide) (by omega) (fun h => absurd h (by decide)) (fun _ => ?_)
      refine mr_aload_n dX7_join_21 rfl ?_
      refine mr_iload dX7_join_22 rfl ?_
      refine mr_callV (as := [_]) dX7_join_24 (ok_X7_isModuleAt l G) ml_X7_199 cl_X7_isModuleAt cv_X7_isModuleAt (by decide) rfl rfl (Nat.le_of_ble_eq_true rfl) (by first | assumption | exact mr_up_same _ _ _ | (refine mr_lk ?_ (by first | assumption | decide); first | assumption | exact mr_up_same _ _ _ | (refine mr_lk ?_ (by first | assumption | decide); first | assumption | exact mr_up_same _ _ _ | (refine mr_lk ?_ (by first | assumption | decide); first | assumption | exact mr_up_same _ _ _ | (refine mr_lk ?_ (by first | assumption | decide); first | assumption | exact mr_up_same _ _ _))))) ?_
      refine ⟨_, _, _, _, _, _, _, _, _, _, _, _, _, _, _, _, rfl, (by first | assumption | exact mr_up_same _ _ _ | (refine mr_lk ?_ (by first | assumption | decide); first | assumption | exact mr_up_same _ _ _ | (refine mr_lk ?_ (by first | assumption | decide); first | assumption | exact mr_up_same _ _ _ | (refine mr_lk ?_ (by first | assumption | decide); first | assumption | exact mr_up_same _ _ _ | (refine mr_lk ?_ (by first | assumption | decide); first | assumption | exact mr_up_same _ _ _))))), (by first | assumption | exact mr_up_same _ _ _ | (refine mr_lk ?_ (by first | assumption | decide); first | assumption | exact mr_up_same _ _ _ | (refine mr_lk ?_ (by first | assumption | decide); first | assumption | exact mr_up_same _ _ _ | (refine mr_lk ?_ (by first | assumption | decide); first | assumption | exact mr_up_same _ _ _ | (refine mr_lk ?_ (by first | assumption | decide); first | assumption | exact mr_up_same _ _ _))))), h_q, hG0, ?_, ?_⟩
      · intro k3
        dsimp only [Option.toList_some, Option.toList_none, List.cons_append, List.nil_append]
        refine mr_if_ne (tgt := 32) dX7_join_27 (by decide) (by omega) (fun _ => ?_) (fun h => absurd h (by decide))
        obtain ⟨e0, e1, hM0, hW0, hFN, hEQ⟩ := hGW (by omega)
        have hMM : 1 ≤ N 0 ∧ N 0 ≤ 30 := ⟨by omega, by omega⟩
        have hm3 := mr_m3 hMM
        have hm2 := mr_m2 hMM
        have K0 : ((0 < N 0 ∧ 0 ≤ s ∧ s ≤ 3) ∧ (0 < N 0 ∧ 0 ≤ t ∧ t ≤ 3) ∧ (0 < N 0 ∧ 0 ≤ q ∧ q ≤ 3)) := ⟨k1, k2, k3⟩
        have hFo := hFoC K0
        refine mr_iload_n dX7_join_32 rfl ?_
        refine mr_if_eq (tgt := 49) dX7_join_33 (by decide) h_b (fun hc_33 => ?_) (fun hc_33 => ?_)
        · refine mr_aload_n dX7_join_49 rfl ?_
          refine mr_aload_n dX7_join_50 rfl ?_
          refine mr_get dX7_join_51 fl_X7_86 (by first | assumption | exact mr_up_same _ _ _ | (refine mr_lk ?_ (by first | assumption | decide); first | assumption | exact mr_up_same _ _ _ | (refine mr_lk ?_ (by first | assumption | decide); first | assumption | exact mr_up_same _ _ _ | (refine mr_lk ?_ (by first | assumption | decide); first | assumption | exact mr_up_same _ _ _ | (refine mr_lk ?_ (by first | assumption | decide); first | assumption | exact mr_up_same _ _ _))))) rfl ?_
          refine mr_iload_n dX7_join_54 rfl ?_
          refine mr_aload_n dX7_join_55 rfl ?_
          refine mr_get dX7_join_56 fl_X7_102 (by first | assumption | exact mr_up_same _ _ _ | (refine mr_lk ?_ (by first | assumption | decide); first | assumption | exact mr_up_same _ _ _ | (refine mr_lk ?_ (by first | assumption | decide); first | assumption | exact mr_up_same _ _ _ | (refine mr_lk ?_ (by first | assumption | decide); first | assumption | exact mr_up_same _ _ _ | (refine mr_lk ?_ (by first | assumption | decide); first | assumption | exact mr_up_same _ _ _))))) rfl ?_
          refine mr_callV (as := [_, _, _]) dX7_join_59 (ok_X7_laysSet l G) ml_X7_128 cl_X7_laysSet cv_X7_laysSet (by decide) rfl rfl (Nat.le_of_ble_eq_true rfl) (by first | assumption | exact mr_up_same _ _ _ | (refine mr_lk ?_ (by first | assumption | decide); first | assumption | exact mr_up_same _ _ _ | (refine mr_lk ?_ (by first | assumption | decide); first | assumption | exact mr_up_same _ _ _ | (refine mr_lk ?_ (by first | assumption | decide); first | assumption | exact mr_up_same _ _ _ | (refine mr_lk ?_ (by first | assumption | decide); first | assumption | exact mr_up_same _ _ _))))) ?_
          refine mw_lays1 hM1 rfl hMM ⟨by omega, by omega⟩ (hFN s (by omega) (by omega)) (fun w2 st2 li2 n2 hp2 hM2 hF2 => ?_)
          obtain ⟨h18, h19, h20, h21, h22, h23, h24, h25, h26, h27, hs1, hs2, hik⟩ := id hM2
          dsimp only [Option.toList_some, Option.toList_none, List.cons_append, List.nil_append]
          refine mr_iload_n dX7_join_62 rfl ?_
          refine mr_if_eq (tgt := 122) dX7_join_63 (by decide) h_b (fun hc_63 => ?_) (fun hc_63 => ?_)
          · refine mr_iconst dX7_join_122 ?_
            refine mr_istore dX7_join_123 rfl (by decide) ?_
            refine mr_iload dX7_join_125 rfl ?_
            refine mr_iconst dX7_join_127 ?_
            refine mr_icmp_ge (tgt := 162) dX7_join_128 (by decide) (by omega) (by omega) (fun h => absurd h (by decide)) (fun _ => ?_)
            refine mr_aload_n dX7_join_131 rfl ?_
            refine mr_aload_n dX7_join_132 rfl ?_
            refine mr_get dX7_join_133 fl_X7_86 (by first | assumption | exact mr_up_same _ _ _ | (refine mr_lk ?_ (by first | assumption | decide); first | assumption | exact mr_up_same _ _ _ | (refine mr_lk ?_ (by first | assumption | decide); first | assumption | exact mr_up_same _ _ _ | (refine mr_lk ?_ (by first | assumption | decide); first | assumption | exact mr_up_same _ _ _ | (refine mr_lk ?_ (by first | assumption | decide); first | assumption | exact mr_up_same _ _ _))))) rfl ?_
            refine mr_aload_n dX7_join_136 rfl ?_
            refine mr_get dX7_join_137 fl_X7_102 (by first | assumption | exact mr_up_same _ _ _ | (refine mr_lk ?_ (by first | assumption | decide); first | assumption | exact mr_up_same _ _ _ | (refine mr_lk ?_ (by first | assumption | decide); first | assumption | exact mr_up_same _ _ _ | (refine mr_lk ?_ (by first | assumption | decide); first | assumption | exact mr_up_same _ _ _ | (refine mr_lk ?_ (by first | assumption | decide); first | assumption | exact mr_up_same _ _ _))))) rfl ?_
            refine mr_aload_n dX7_join_140 rfl ?_
            refine mr_get dX7_join_141 fl_X7_86 (by first | assumption | exact mr_up_same _ _ _ | (refine mr_lk ?_ (by first | assumption | decide); first | assumption | exact mr_up_same _ _ _ | (refine mr_lk ?_ (by first | assumption | decide); first | assumption | exact mr_up_same _ _ _ | (refine mr_lk ?_ (by first | assumption | decide); first | assumption | exact mr_up_same _ _ _ | (refine mr_lk ?_ (by first | assumption | decide); first | assumption | exact mr_up_same _ _ _))))) rfl ?_
            refine mr_iconst dX7_join_144 ?_
            refine mr_iconst dX7_join_145 ?_
            refine mr_iload_n dX7_join_146 rfl ?_
            refine mr_imul dX7_join_147 ?_
            refine mr_iadd dX7_join_148 ?_
            refine mr_iload dX7_join_149 rfl ?_
            refine mr_iadd dX7_join_151 ?_
            refine mr_iald dX7_join_152 (by first | assumption | exact mr_up_same _ _ _ | (refine mr_lk ?_ (by first | assumption | decide); first | assumption | exact mr_up_same _ _ _ | (refine mr_lk ?_ (by first | assumption | decide); first | assumption | exact mr_up_same _ _ _ | (refine mr_lk ?_ (by first | assumption | decide); first | assumption | exact mr_up_same _ _ _ | (refine mr_lk ?_ (by first | assumption | decide); first | assumption | exact mr_up_same _ _ _))))) (by omega) (by omega) (by decide) ?_
            refine mr_callV (as := [_, _, _]) dX7_join_153 (ok_X7_adds l G) ml_X7_132 cl_X7_adds cv_X7_adds (by decide) rfl rfl (Nat.le_of_ble_eq_true rfl) (by first | assumption | exact mr_up_same _ _ _ | (refine mr_lk ?_ (by first | assumption | decide); first | assumption | exact mr_up_same _ _ _ | (refine mr_lk ?_ (by first | assumption | decide); first | assumption | exact mr_up_same _ _ _ | (refine mr_lk ?_ (by first | assumption | decide); first | assumption | exact mr_up_same _ _ _ | (refine mr_lk ?_ (by first | assumption | decide); first | assumption | exact mr_up_same _ _ _))))) ?_
            refine mw_adds (li := 0) hM2 rfl hMM ((hFN t (by omega) (by omega)).2 0 (by decide) (by decide)) (mr_Fo_Li (hFN s (by omega) (by omega)).1) hp2 (fun w3 st3 li3 n3 hp3 hM3 hF3 => ?_)
            obtain ⟨h18, h19, h20, h21, h22, h23, h24, h25, h26, h27, hs1, hs2, hik⟩ := id hM3
            dsimp only [Option.toList_some, Option.toList_none, List.cons_append, List.nil_append]
            refine mr_iinc dX7_join_156 rfl (by decide) rfl ?_
            refine mr_goto (tgt := 125) dX7_join_159 (by decide) ?_
            refine mr_iload dX7_join_125 rfl ?_
            refine mr_iconst dX7_join_127 ?_
            refine mr_icmp_ge (tgt := 162) dX7_join_128 (by decide) (by omega) (by omega) (fun h => absurd h (by decide)) (fun _ => ?_)
            refine mr_aload_n dX7_join_131 rfl ?_
            refine mr_aload_n dX7_join_132 rfl ?_
            refine mr_get dX7_join_133 fl_X7_86 (by first | assumption | exact mr_up_same _ _ _ | (refine mr_lk ?_ (by first | assumption | decide); first | assumption | exact mr_up_same _ _ _ | (refine mr_lk ?_ (by first | assumption | decide); first | assumption | exact mr_up_same _ _ _ | (refine mr_lk ?_ (by first | assumption | decide); first | assumption | exact mr_up_same _ _ _ | (refine mr_lk ?_ (by first | assumption | decide); first | assumption | exact mr_up_same _ _ _))))) rfl ?_
            refine mr_aload_n dX7_join_136 rfl ?_
            refine mr_get dX7_join_137 fl_X7_102 (by first | assumption | exact mr_up_same _ _ _ | (refine mr_lk ?_ (by first | assumption | decide); first | assumption | exact mr_up_same _ _ _ | (refine mr_lk ?_ (by first | assumption | decide); first | assumption | exact mr_up_same _ _ _ | (refine mr_lk ?_ (by first | assumption | decide); first | assumption | exact mr_up_same _ _ _ | (refine mr_lk ?_ (by first | assumption | decide); first | assumption | exact mr_up_same _ _ _))))) rfl ?_
            refine mr_aload_n dX7_join_140 rfl ?_
            refine mr_get dX7_join_141 fl_X7_86 (by first | assumption | exact mr_up_same _ _ _ | (refine mr_lk ?_ (by first | assumption | decide); first | assumption | exact mr_up_same _ _ _ | (refine mr_lk ?_ (by first | assumption | decide); first | assumption | exact mr_up_same _ _ _ | (refine mr_lk ?_ (by first | assumption | decide); first | assumption | exact mr_up_same _ _ _ | (refine mr_lk ?_ (by first | assumption | decide); first | assumption | exact mr_up_same _ _ _))))) rfl ?_
            refine mr_iconst dX7_join_144 ?_
            refine mr_iconst dX7_join_145 ?_
            refine mr_iload_n dX7_join_146 rfl ?_
            refine mr_imul dX7_join_147 ?_
            refine mr_iadd dX7_join_148 ?_
            refine mr_iload dX7_join_149 rfl ?_
            refine mr_iadd dX7_join_151 ?_
            refine mr_iald dX7_join_152 (by first | assumption | exact mr_up_same _ _ _ | (refine mr_lk ?_ (by first | assumption | decide); first | assumption | exact mr_up_same _ _ _ | (refine mr_lk ?_ (by first | assumption | decide); first | assumption | exact mr_up_same _ _ _ | (refine mr_lk ?_ (by first | assumption | decide); first | assumption | exact mr_up_same _ _ _ | (refine mr_lk ?_ (by first | assumption | decide); first | assumption | exact mr_up_same _ _ _))))) (by omega) (by omega) (by decide) ?_
            refine mr_callV (as := [_, _, _]) dX7_join_153 (ok_X7_adds l G) ml_X7_132 cl_X7_adds cv_X7_adds (by decide) rfl rfl (Nat.le_of_ble_eq_true rfl) (by first | assumption | exact mr_up_same _ _ _ | (refine mr_lk ?_ (by first | assumption | decide); first | assumption | exact mr_up_same _ _ _ | (refine mr_lk ?_ (by first | assumption | decide); first | assumption | exact mr_up_same _ _ _ | (refine mr_lk ?_ (by first | assumption | decide); first | assumption | exact mr_up_same _ _ _ | (refine mr_lk ?_ (by first | assumption | decide); first | assumption | exact mr_up_same _ _ _))))) ?_
            refine mw_adds (li := 0) hM3 rfl hMM ((hFN t (by omega) (by omega)).2 1 (by decide) (by decide)) (mr_LA_Li (mr_Fo_Li (hFN s (by omega) (by omega)).1) _) hp3 (fun w4 st4 li4 n4 hp4 hM4 hF4 => ?_)
            obtain ⟨h18, h19, h20, h21, h22, h23, h24, h25, h26, h27, hs1, hs2, hik⟩ := id hM4
            dsimp only [Option.toList_some, Option.toList_none, List.cons_append, List.nil_append]
            refine mr_iinc dX7_join_156 rfl (by decide) rfl ?_
            refine mr_goto (tgt := 125) dX7_join_159 (by decide) ?_
            refine mr_iload dX7_join_125 rfl ?_
            refine mr_iconst dX7_join_127 ?_
            refine mr_icmp_ge (tgt := 162) dX7_join_128 (by decide) (by omega) (by omega) (fun h => absurd h (by decide)) (fun _ => ?_)
            refine mr_aload_n dX7_join_131 rfl ?_
            refine mr_aload_n dX7_join_132 rfl ?_
            refine mr_get dX7_join_133 fl_X7_86 (by first | assumption | exact mr_up_same _ _ _ | (refine mr_lk ?_ (by first | assumption | decide); first | assumption | exact mr_up_same _ _ _ | (refine mr_lk ?_ (by first | assumption | decide); first | assumption | exact mr_up_same _ _ _ | (refine mr_lk ?_ (by first | assumption | decide); first | assumption | exact mr_up_same _ _ _ | (refine mr_lk ?_ (by first | assumption | decide); first | assumption | exact mr_up_same _ _ _))))) rfl ?_
            refine mr_aload_n dX7_join_136 rfl ?_
            refine mr_get dX7_join_137 fl_X7_102 (by first | assumption | exact mr_up_same _ _ _ | (refine mr_lk ?_ (by first | assumption | decide); first | assumption | exact mr_up_same _ _ _ | (refine mr_lk ?_ (by first | assumption | decide); first | assumption | exact mr_up_same _ _ _ | (refine mr_lk ?_ (by first | assumption | decide); first | assumption | exact mr_up_same _ _ _ | (refine mr_lk ?_ (by first | assumption | decide); first | assumption | exact mr_up_same _ _ _))))) rfl ?_
            refine mr_aload_n dX7_join_140 rfl ?_
            refine mr_get dX7_join_141 fl_X7_86 (by first | assumption | exact mr_up_same _ _ _ | (refine mr_lk ?_ (by first | assumption | decide); first | assumption | exact mr_up_same _ _ _ | (refine mr_lk ?_ (by first | assumption | decide); first | assumption | exact mr_up_same _ _ _ | (refine mr_lk ?_ (by first | assumption | decide); first | assumption | exact mr_up_same _ _ _ | (refine mr_lk ?_ (by first | assumption | decide); first | assumption | exact mr_up_same _ _ _))))) rfl ?_
            refine mr_iconst dX7_join_144 ?_
            refine mr_iconst dX7_join_145 ?_
            refine mr_iload_n dX7_join_146 rfl ?_
            refine mr_imul dX7_join_147 ?_
            refine mr_iadd dX7_join_148 ?_
            refine mr_iload dX7_join_149 rfl ?_
            refine mr_iadd dX7_join_151 ?_
            refine mr_iald dX7_join_152 (by first | assumption | exact mr_up_same _ _ _ | (refine mr_lk ?_ (by first | assumption | decide); first | assumption | exact mr_up_same _ _ _ | (refine mr_lk ?_ (by first | assumption | decide); first | assumption | exact mr_up_same _ _ _ | (refine mr_lk ?_ (by first | assumption | decide); first | assumption | exact mr_up_same _ _ _ | (refine mr_lk ?_ (by first | assumption | decide); first | assumption | exact mr_up_same _ _ _))))) (by omega) (by omega) (by decide) ?_
            refine mr_callV (as := [_, _, _]) dX7_join_153 (ok_X7_adds l G) ml_X7_132 cl_X7_adds cv_X7_adds (by decide) rfl rfl (Nat.le_of_ble_eq_true rfl) (by first | assumption | exact mr_up_same _ _ _ | (refine mr_lk ?_ (by first | assumption | decide); first | assumption | exact mr_up_same _ _ _ | (refine mr_lk ?_ (by first | assumption | decide); first | assumption | exact mr_up_same _ _ _ | (refine mr_lk ?_ (by first | assumption | decide); first | assumption | exact mr_up_same _ _ _ | (refine mr_lk ?_ (by first | assumption | decide); first | assumption | exact mr_up_same _ _ _))))) ?_
            refine mw_adds (li := 0) hM4 rfl hMM ((hFN t (by omega) (by omega)).2 2 (by decide) (by decide)) (mr_LA_Li (mr_LA_Li (mr_Fo_Li (hFN s (by omega) (by omega)).1) _) _) hp4 (fun w5 st5 li5 n5 hp5 hM5 hF5 => ?_)
            obtain ⟨h18, h19, h20, h21, h22, h23, h24, h25, h26, h27, hs1, hs2, hik⟩ := id hM5
            dsimp only [Option.toList_some, Option.toList_none, List.cons_append, List.nil_append]
            refine mr_iinc dX7_join_156 rfl (by decide) rfl ?_
            refine mr_goto (tgt := 125) dX7_join_159 (by decide) ?_
            refine mr_iload dX7_join_125 rfl ?_
            refine mr_iconst dX7_join_127 ?_
            refine mr_icmp_ge (tgt := 162) dX7_join_128 (by decide) (by omega) (by omega) (fun _ => ?_) (fun h => absurd h (by decide))
            refine mr_weak [some (vR 18 0), some (vI s), some (vI t), some (vI b), some (vI q), none] ⟨rfl, rfl, rfl, rfl, rfl, trivial⟩ ?_
            have hSS : mr_St (N 0) st5 (mr_S (N 0) Lt) := mr_Lp_St (mr_Lp_cg hp5 (fun r _ _ => hQ0 K0 hc_33 (mr_dec (N 0) r)))
            refine mr_aload_n dX7_join_162 rfl ?_
            refine mr_aload_n dX7_join_163 rfl ?_
            refine mr_get dX7_join_164 fl_X7_102 (by first | assumption | exact mr_up_same _ _ _ | (refine mr_lk ?_ (by first | assumption | decide); first | assumption | exact mr_up_same _ _ _ | (refine mr_lk ?_ (by first | assumption | decide); first | assumption | exact mr_up_same _ _ _ | (refine mr_lk ?_ (by first | assumption | decide); first | assumption | exact mr_up_same _ _ _ | (refine mr_lk ?_ (by first | assumption | decide); first | assumption | exact mr_up_same _ _ _))))) rfl ?_
            refine mr_iload dX7_join_167 rfl ?_
            refine mr_callV (as := [_, _]) dX7_join_169 (ok_X7_comes l G) ml_X7_226 cl_X7_comes cv_X7_comes (by decide) rfl rfl (Nat.le_of_ble_eq_true rfl) (by first | assumption | exact mr_up_same _ _ _ | (refine mr_lk ?_ (by first | assumption | decide); first | assumption | exact mr_up_same _ _ _ | (refine mr_lk ?_ (by first | assumption | decide); first | assumption | exact mr_up_same _ _ _ | (refine mr_lk ?_ (by first | assumption | decide); first | assumption | exact mr_up_same _ _ _ | (refine mr_lk ?_ (by first | assumption | decide); first | assumption | exact mr_up_same _ _ _))))) ?_
            refine ⟨_, _, _, _, _, _, _, _, _, _, _, _, _, _, _, _, _, _, _, _, _, _, _, 25, q, W, F, Lt, rfl, hM5, hsm, hMM, ⟨by omega, by omega⟩, hFo, Or.inl ⟨rfl, hSS⟩, (fun w6 Sn6 st6 li6 sm6 n6 hsn6 hp6 hM6 hF6 => ?_)⟩
            obtain ⟨h18, h19, h20, h21, h22, h23, h24, h25, h26, h27, hs1, hs2, hik⟩ := id hM6
            dsimp only [Option.toList_some, Option.toList_none, List.cons_append, List.nil_append]
            refine mr_iret rfl dX7_join_172 ?_
            exact hP K0 w6 Sn6 st6 li6 _ sm6 n6 hsn6 hp6 hM6 (hF1.tr (hF2.tr (hF3.tr (hF4.tr (hF5.tr hF6)))))
          · refine mr_iconst dX7_join_66 ?_
            refine mr_istore dX7_join_67 rfl (by decide) ?_
            exact absurd hc_33 hc_63
        · refine mr_aload_n dX7_join_36 rfl ?_
          refine mr_aload_n dX7_join_37 rfl ?_
          refine mr_get dX7_join_38 fl_X7_86 (by first | assumption | exact mr_up_same _ _ _ | (refine mr_lk ?_ (by first | assumption | decide); first | assumption | exact mr_up_same _ _ _ | (refine mr_lk ?_ (by first | assumption | decide); first | assumption | exact mr_up_same _ _ _ | (refine mr_lk ?_ (by first | assumption | decide); first | assumption | exact mr_up_same _ _ _ | (refine mr_lk ?_ (by first | assumption | decide); first | assumption | exact mr_up_same _ _ _))))) rfl ?_
          refine mr_iload_n dX7_join_41 rfl ?_
          refine mr_aload_n dX7_join_42 rfl ?_
          refine mr_get dX7_join_43 fl_X7_105 (by first | assumption | exact mr_up_same _ _ _ | (refine mr_lk ?_ (by first | assumption | decide); first | assumption | exact mr_up_same _ _ _ | (refine mr_lk ?_ (by first | assumption | decide); first | assumption | exact mr_up_same _ _ _ | (refine mr_lk ?_ (by first | assumption | decide); first | assumption | exact mr_up_same _ _ _ | (refine mr_lk ?_ (by first | assumption | decide); first | assumption | exact mr_up_same _ _ _))))) rfl ?_
          refine mr_callV (as := [_, _, _]) dX7_join_46 (ok_X7_laysSet l G) ml_X7_128 cl_X7_laysSet cv_X7_laysSet (by decide) rfl rfl (Nat.le_of_ble_eq_true rfl) (by first | assumption | exact mr_up_same _ _ _ | (refine mr_lk ?_ (by first | assumption | decide); first | assumption | exact mr_up_same _ _ _ | (refine mr_lk ?_ (by first | assumption | decide); first | assumption | exact mr_up_same _ _ _ | (refine mr_lk ?_ (by first | assumption | decide); first | assumption | exact mr_up_same _ _ _ | (refine mr_lk ?_ (by first | assumption | decide); first | assumption | exact mr_up_same _ _ _))))) ?_
          refine mw_lays2 hM1 rfl hMM ⟨by omega, by omega⟩ (hFN t (by omega) (by omega)) (fun w3 st3 li3 n3 hp3 hM3 hF3 => ?_)
          obtain ⟨h18, h19, h20, h21, h22, h23, h24, h25, h26, h27, hs1, hs2, hik⟩ := id hM3
          dsimp only [Option.toList_some, Option.toList_none, List.cons_append, List.nil_append]
          refine mr_aload_n dX7_join_49 rfl ?_
          refine mr_aload_n dX7_join_50 rfl ?_
          refine mr_get dX7_join_51 fl_X7_86 (by first | assumption | exact mr_up_same _ _ _ | (refine mr_lk ?_ (by first | assumption | decide); first | assumption | exact mr_up_same _ _ _ | (refine mr_lk ?_ (by first | assumption | decide); first | assumption | exact mr_up_same _ _ _ | (refine mr_lk ?_ (by first | assumption | decide); first | assumption | exact mr_up_same _ _ _ | (refine mr_lk ?_ (by first | assumption | decide); first | assumption | exact mr_up_same _ _ _))))) rfl ?_
          refine mr_iload_n dX7_join_54 rfl ?_
          refine mr_aload_n dX7_join_55 rfl ?_
          refine mr_get dX7_join_56 fl_X7_102 (by first | assumption | exact mr_up_same _ _ _ | (refine mr_lk ?_ (by first | assumption | decide); first | assumption | exact mr_up_same _ _ _ | (refine mr_lk ?_ (by first | assumption | decide); first | assumption | exact mr_up_same _ _ _ | (refine mr_lk ?_ (by first | assumption | decide); first | assumption | exact mr_up_same _ _ _ | (refine mr_lk ?_ (by first | assumption | decide); first | assumption | exact mr_up_same _ _ _))))) rfl ?_
          refine mr_callV (as := [_, _, _]) dX7_join_59 (ok_X7_laysSet l G) ml_X7_128 cl_X7_laysSet cv_X7_laysSet (by decide) rfl rfl (Nat.le_of_ble_eq_true rfl) (by first | assumption | exact mr_up_same _ _ _ | (refine mr_lk ?_ (by first | assumption | decide); first | assumption | exact mr_up_same _ _ _ | (refine mr_lk ?_ (by first | assumption | decide); first | assumption | exact mr_up_same _ _ _ | (refine mr_lk ?_ (by first | assumption | decide); first | assumption | exact mr_up_same _ _ _ | (refine mr_lk ?_ (by first | assumption | decide); first | assumption | exact mr_up_same _ _ _))))) ?_
          refine mw_lays1 hM3 rfl hMM ⟨by omega, by omega⟩ (hFN s (by omega) (by omega)) (fun w4 st4 li4 n4 hp4 hM4 hF4 => ?_)
          obtain ⟨h18, h19, h20, h21, h22, h23, h24, h25, h26, h27, hs1, hs2, hik⟩ := id hM4
          dsimp only [Option.toList_some, Option.toList_none, List.cons_append, List.nil_append]
          refine mr_iload_n dX7_join_62 rfl ?_
          refine mr_if_eq (tgt := 122) dX7_join_63 (by decide) h_b (fun hc_63 => ?_) (fun hc_63 => ?_)
          · exact absurd hc_63 hc_33
          · refine mr_iconst dX7_join_66 ?_
            refine mr_istore dX7_join_67 rfl (by decide) ?_
            refine lp_X7_join l G (N := N) (s1 := s1) (w0 := w4) (s := s) (t := t) (b := b) (q := q) (A0 := mr_S (N 0) (L s)) (B0 := mr_S (N 0) (L t)) hMM (mr_Lp_St hp3) (N 0 * N 0 * N 0).toNat 0 _ w4 (Int.le_refl 0) (by omega) (fun i hi => by rw [if_neg (show ¬ (i : Int) < 0 by omega)]; exact hp4.2.1 i hi) hM4 (mr_FM.rf _) (fun w99 st4 hS4 hM99 hF99 => ?_)
            obtain ⟨h18, h19, h20, h21, h22, h23, h24, h25, h26, h27, hs1, hs2, hik⟩ := id hM99
            have hSS : mr_St (N 0) st4 (mr_S (N 0) Lt) := ⟨hs1, fun r hr => by
              have := hS4 r hr
              rw [if_pos hr] at this
              exact this.trans (hQ1 K0 hc_33 _)⟩
            refine mr_aload_n dX7_join_162 rfl ?_
            refine mr_aload_n dX7_join_163 rfl ?_
            refine mr_get dX7_join_164 fl_X7_102 (by first | assumption | exact mr_up_same _ _ _ | (refine mr_lk ?_ (by first | assumption | decide); first | assumption | exact mr_up_same _ _ _ | (refine mr_lk ?_ (by first | assumption | decide); first | assumption | exact mr_up_same _ _ _ | (refine mr_lk ?_ (by first | assumption | decide); first | assumption | exact mr_up_same _ _ _ | (refine mr_lk ?_ (by first | assumption | decide); first | assumption | exact mr_up_same _ _ _))))) rfl ?_
            refine mr_iload dX7_join_167 rfl ?_
            refine mr_callV (as := [_, _]) dX7_join_169 (ok_X7_comes l G) ml_X7_226 cl_X7_comes cv_X7_comes (by decide) rfl rfl (Nat.le_of_ble_eq_true rfl) (by first | assumption | exact mr_up_same _ _ _ | (refine mr_lk ?_ (by first | assumption | decide); first | assumption | exact mr_up_same _ _ _ | (refine mr_lk ?_ (by first | assumption | decide); first | assumption | exact mr_up_same _ _ _ | (refine mr_lk ?_ (by first | assumption | decide); first | assumption | exact mr_up_same _ _ _ | (refine mr_lk ?_ (by first | assumption | decide); first | assumption | exact mr_up_same _ _ _))))) ?_
            refine ⟨_, _, _, _, _, _, _, _, _, _, _, _, _, _, _, _, _, _, _, _, _, _, _, 25, q, W, F, Lt, rfl, hM99, hsm, hMM, ⟨by omega, by omega⟩, hFo, Or.inl ⟨rfl, hSS⟩, (fun w100 Sn100 st100 li100 sm100 n100 hsn100 hp100 hM100 hF100 => ?_)⟩
            obtain ⟨h18, h19, h20, h21, h22, h23, h24, h25, h26, h27, hs1, hs2, hik⟩ := id hM100
            dsimp only [Option.toList_some, Option.toList_none, List.cons_append, List.nil_append]
            refine mr_iret rfl dX7_join_172 ?_
            exact hP K0 w100 Sn100 st100 li100 _ sm100 n100 hsn100 hp100 hM100 (hF1.tr (hF3.tr (hF4.tr (hF99.tr hF100))))
      · intro k3
        dsimp only [Option.toList_some, Option.toList_none, List.cons_append, List.nil_append]
        refine mr_if_ne (tgt := 32) dX7_join_27 (by decide) (by omega) (fun h => absurd h (by decide)) (fun _ => ?_)
        refine mr_iconst dX7_join_30 ?_
        refine mr_iret rfl dX7_join_31 ?_
        first | exact hQ (fun zz => k1 zz.1) w1 hM1 hF1 | exact hQ (fun zz => k2 zz.2.1) w1 hM1 hF1 | exact hQ (fun zz => k3 zz.2.2) w1 hM1 hF1
    · intro k2
      dsimp only [Option.toList_some, Option.toList_none, List.cons_append, List.nil_append]
      refine mr_if_eq (tgt := 30) dX7_join_18 (by decide) (by omega) (fun _ => ?_) (fun h => absurd h (by decide))
      refine mr_iconst dX7_join_30 ?_
      refine mr_iret rfl dX7_join_31 ?_
      first | exact hQ (fun zz => k1 zz.1) w1 hM1 hF1 | exact hQ (fun zz => k2 zz.2.1) w1 hM1 hF1 | exact hQ (fun zz => k3 zz.2.2) w1 hM1 hF1
  · intro k1
    dsimp only [Option.toList_some, Option.toList_none, List.cons_append, List.nil_append]
    refine mr_if_eq (tgt := 30) dX7_join_10 (by decide) (by omega) (fun _ => ?_) (fun h => absurd h (by decide))
    refine mr_iconst dX7_join_30 ?_
    refine mr_iret rfl dX7_join_31 ?_
    first | exact hQ (fun zz => k1 zz.1) w1 hM1 hF1 | exact hQ (fun zz => k2 zz.2.1) w1 hM1 hF1 | exact hQ (fun zz => k3 zz.2.2) w1 hM1 hF1
