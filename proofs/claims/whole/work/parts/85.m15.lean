theorem mr_Lp_book {f : Nat → Int} {M : Int} {w : Nat} {L : Int → mr_V → Prop} (h : mr_WB f M w L) {t : Int} (ht : 0 ≤ t ∧ t < 4) {st li : Nat → Int} {n : Nat} (hp : mr_Lp M st li n (mr_S M (L t))) : (n : Int) = mr_sz f t 0 := by
  have hF := h.2.2.2.2.2.1 t ht.1 ht.2
  have hM : 1 ≤ M := by have := h.2.2.1; omega
  rw [(mr_sz_e hM h.1 h.2.1 h.2.2.2.1 hF).1, mr_Lp_sz hM hF hp]
def T_X7_drawn (a : List mr_AV) (w : mr_Wd) (Po : Option mr_AV → mr_Wd → Prop) : Prop := ∃ (th tp sz zo fr kd nb ft pl wd sm md li sd : Int) (T N R K Sn ik s1 s2 ls : Nat → Int) (W : Nat) (L : Int → mr_V → Prop) (f : Nat → Int) (n x : Int), a = [vR 18 0, vI n, vI x] ∧ mr_MW w th tp sz zo fr kd nb ft pl wd sm md li sd T N R K Sn ik s1 s2 ls ∧ (0 ≤ N 0 ∧ N 0 ≤ 30) ∧ (0 < N 0 → mr_WB f (N 0) W L ∧ mr_Cq f N) ∧ (0 ≤ sm ∧ sm ≤ 8) ∧ InR n ∧ ((1 ≤ n ∧ n ≤ 60) → 0 < N 0 → (∀ (w' : mr_Wd) (N' Sn' s1' ls' : Nat → Int) (sm' li' sd' : Int) (L' : Int → mr_V → Prop), mr_snr N Sn sm Sn' sm' → mr_WB (mr_deeds n.toNat (f, x)).1 (N 0) W L' → mr_Cq (mr_deeds n.toNat (f, x)).1 N' → mr_MW w' (0) tp sz zo fr kd nb ft pl wd (sm') md (li') (sd') T (N') R K (Sn') ik (s1') s2 (ls') → mr_FM w w' → Po (some (vI (mr_sum4 (mr_deeds n.toNat (f, x)).1))) w')) ∧ ((1 ≤ n ∧ n ≤ 60) → N 0 = 0 → (∀ w' : mr_Wd, mr_MW w' (0) tp sz zo fr kd nb ft pl wd sm md li sd T N R K Sn ik s1 s2 ls → mr_FM w w' → Po (some (vI 0)) w')) ∧ (¬ (1 ≤ n ∧ n ≤ 60) → (∀ w' : mr_Wd, mr_MW w' (0) tp sz zo fr kd nb ft pl wd sm md li sd T N R K Sn ik s1 s2 ls → mr_FM w w' → Po (some (vI (-1))) w'))
set_option maxHeartbeats 4000000 in
set_option maxRecDepth 20000 in
theorem ok_X7_drawn (l : Launch) (G : mr_G) : mr_Ok l G yX7_drawn cX7_drawn 7 (some .int) 4 94 T_X7_drawn := by
  refine mr_Ok.of (by decide +kernel) ?_
  rintro a w Po ⟨th, tp, sz, zo, fr, kd, nb, ft, pl, wd, sm, md, li, sd, T, N, R, K, Sn, ik, s1, s2, ls, W, L, f, n, x, rfl, hM, hG0, hGW, hsm, h_n, hP, hQ, hR⟩
  refine ⟨Nat.le_of_ble_eq_true rfl, ?_⟩
  show mr_J l G RX7 cX7_drawn 7 (some .int) 4 94 Po 0 [some (vR 18 0), some (vI n), some (vI x), none, none, none, none] [] w
  obtain ⟨h18, h19, h20, h21, h22, h23, h24, h25, h26, h27, hs1, hs2, hik⟩ := id hM
  refine mr_aload_n dX7_drawn_0 rfl ?_
  refine mr_iconst dX7_drawn_1 ?_
  refine mr_put dX7_drawn_2 fl_X7_1 pf_X7_0 rfl rfl (by first | assumption | exact mr_up_same _ _ _ | (refine mr_lk ?_ (by first | assumption | decide); first | assumption | exact mr_up_same _ _ _ | (refine mr_lk ?_ (by first | assumption | decide); first | assumption | exact mr_up_same _ _ _ | (refine mr_lk ?_ (by first | assumption | decide); first | assumption | exact mr_up_same _ _ _ | (refine mr_lk ?_ (by first | assumption | decide); first | assumption | exact mr_up_same _ _ _))))) (Nat.le_of_ble_eq_true rfl) ?_
  refine mw_p0 hM (fun w1 hM1 hF1 => ?_)
  obtain ⟨h18, h19, h20, h21, h22, h23, h24, h25, h26, h27, hs1, hs2, hik⟩ := id hM1
  refine mr_iload_n dX7_drawn_5 rfl ?_
  refine mr_iconst dX7_drawn_6 ?_
  refine mr_bipush dX7_drawn_7 rfl ?_
  refine mr_callS (as := [_, _, _]) dX7_drawn_9 (ok_X7_isIn l G) ml_X7_117 cl_X7_isIn cs_X7_isIn (by decide) rfl rfl (Nat.le_of_ble_eq_true rfl) ?_
  refine ⟨_, _, _, rfl, h_n, (by decide), (by decide), ?_, ?_⟩
  · intro k1
    dsimp only [Option.toList_some, Option.toList_none, List.cons_append, List.nil_append]
    refine mr_if_ne (tgt := 17) dX7_drawn_12 (by decide) (by omega) (fun _ => ?_) (fun h => absurd h (by decide))
    refine mr_aload_n dX7_drawn_17 rfl ?_
    refine mr_callV (as := []) dX7_drawn_18 (ok_X7_by l G) ml_X7_195 cl_X7_by cv_X7_by (by decide) rfl rfl (Nat.le_of_ble_eq_true rfl) (by first | assumption | exact mr_up_same _ _ _ | (refine mr_lk ?_ (by first | assumption | decide); first | assumption | exact mr_up_same _ _ _ | (refine mr_lk ?_ (by first | assumption | decide); first | assumption | exact mr_up_same _ _ _ | (refine mr_lk ?_ (by first | assumption | decide); first | assumption | exact mr_up_same _ _ _ | (refine mr_lk ?_ (by first | assumption | decide); first | assumption | exact mr_up_same _ _ _))))) ?_
    refine ⟨_, _, _, _, _, _, _, _, _, _, _, _, _, _, _, rfl, (by first | assumption | exact mr_up_same _ _ _ | (refine mr_lk ?_ (by first | assumption | decide); first | assumption | exact mr_up_same _ _ _ | (refine mr_lk ?_ (by first | assumption | decide); first | assumption | exact mr_up_same _ _ _ | (refine mr_lk ?_ (by first | assumption | decide); first | assumption | exact mr_up_same _ _ _ | (refine mr_lk ?_ (by first | assumption | decide); first | assumption | exact mr_up_same _ _ _))))), (by first | assumption | exact mr_up_same _ _ _ | (refine mr_lk ?_ (by first | assumption | decide); first | assumption | exact mr_up_same _ _ _ | (refine mr_lk ?_ (by first | assumption | decide); first | assumption | exact mr_up_same _ _ _ | (refine mr_lk ?_ (by first | assumption | decide); first | assumption | exact mr_up_same _ _ _ | (refine mr_lk ?_ (by first | assumption | decide); first | assumption | exact mr_up_same _ _ _))))), ?_⟩
    dsimp only [Option.toList_some, Option.toList_none, List.cons_append, List.nil_append]
    refine mr_if_ne (tgt := 26) dX7_drawn_21 (by decide) ⟨by show -2147483648 ≤ N 0; omega, by show N 0 < 2147483648; omega⟩ (fun hc_21 => ?_) (fun hc_21 => ?_)
    · refine mr_aload_n dX7_drawn_26 rfl ?_
      refine mr_callV (as := []) dX7_drawn_27 (ok_X7_snap l G) ml_X7_223 cl_X7_snap cv_X7_snap (by decide) rfl rfl (Nat.le_of_ble_eq_true rfl) (by first | assumption | exact mr_up_same _ _ _ | (refine mr_lk ?_ (by first | assumption | decide); first | assumption | exact mr_up_same _ _ _ | (refine mr_lk ?_ (by first | assumption | decide); first | assumption | exact mr_up_same _ _ _ | (refine mr_lk ?_ (by first | assumption | decide); first | assumption | exact mr_up_same _ _ _ | (refine mr_lk ?_ (by first | assumption | decide); first | assumption | exact mr_up_same _ _ _))))) ?_
      refine ⟨_, _, _, _, _, _, _, _, _, _, _, _, _, _, _, _, _, _, _, _, _, _, _, rfl, hM1, (by omega), (fun w2 Sn2 sm2 hsn2 hM2 hF2 => ?_)⟩
      obtain ⟨h18, h19, h20, h21, h22, h23, h24, h25, h26, h27, hs1, hs2, hik⟩ := id hM2
      dsimp only [Option.toList_some, Option.toList_none, List.cons_append, List.nil_append]
      refine mr_aload_n dX7_drawn_30 rfl ?_
      refine mr_iload_n dX7_drawn_31 rfl ?_
      refine mr_put dX7_drawn_32 fl_X7_262 pf_X7_22 rfl rfl (by first | assumption | exact mr_up_same _ _ _ | (refine mr_lk ?_ (by first | assumption | decide); first | assumption | exact mr_up_same _ _ _ | (refine mr_lk ?_ (by first | assumption | decide); first | assumption | exact mr_up_same _ _ _ | (refine mr_lk ?_ (by first | assumption | decide); first | assumption | exact mr_up_same _ _ _ | (refine mr_lk ?_ (by first | assumption | decide); first | assumption | exact mr_up_same _ _ _))))) (Nat.le_of_ble_eq_true rfl) ?_
      refine mw_p22 hM2 (fun w3 hM3 hF3 => ?_)
      obtain ⟨h18, h19, h20, h21, h22, h23, h24, h25, h26, h27, hs1, hs2, hik⟩ := id hM3
      refine mr_iconst dX7_drawn_35 ?_
      refine mr_istore_n dX7_drawn_36 rfl (by decide) ?_
      obtain ⟨hW0, hC0⟩ := hGW (by omega)
      refine mr_weak [some (vR 18 0), some (vI n), some (vI x), some (vI 0), none, none, none] ⟨rfl, rfl, rfl, rfl, trivial⟩ ?_
      refine lp_X7_drawn l G (w0 := w) (n := n) (x := x) (M := N 0) (W := W) k1.2 n.toNat 0 x _ f _ _ N L w3 (Int.le_refl 0) (by omega) rfl hW0 hC0 hM3 (hF1.tr (hF2.tr hF3)) (fun w99 N' s1' ls' li' sd' L' hW' hC' hM99 hF99 => ?_)
      obtain ⟨e0', e1', hM0', hW0', hFN', hEQ'⟩ := mr_Cq_NW hW' hC'
      have hMM2 : 1 ≤ N' 0 ∧ N' 0 ≤ 30 := ⟨by omega, by omega⟩
      have hFN2 : ∀ t : Int, 0 ≤ t → t ≤ 3 → mr_FN (N' 0) W N' t (L' t) := by rw [e0']; exact hFN'
      obtain ⟨h18, h19, h20, h21, h22, h23, h24, h25, h26, h27, hs1, hs2, hik⟩ := id hM99
      refine mr_iconst dX7_drawn_147 ?_
      refine mr_istore_n dX7_drawn_148 rfl (by decide) ?_
      refine mr_iconst dX7_drawn_149 ?_
      refine mr_istore dX7_drawn_150 rfl (by decide) ?_
      refine mr_iload dX7_drawn_152 rfl ?_
      refine mr_iconst dX7_drawn_154 ?_
      refine mr_icmp_ge (tgt := 173) dX7_drawn_155 (by decide) (by decide) (by decide) (fun h => absurd h (by decide)) (fun _ => ?_)
      refine mr_iload_n dX7_drawn_158 rfl ?_
      refine mr_aload_n dX7_drawn_159 rfl ?_
      refine mr_iload dX7_drawn_160 rfl ?_
      refine mr_callV (as := [_]) dX7_drawn_162 (ok_X7_sizeOf l G) ml_X7_205 cl_X7_sizeOf cv_X7_sizeOf (by decide) rfl rfl (Nat.le_of_ble_eq_true rfl) (by first | assumption | exact mr_up_same _ _ _ | (refine mr_lk ?_ (by first | assumption | decide); first | assumption | exact mr_up_same _ _ _ | (refine mr_lk ?_ (by first | assumption | decide); first | assumption | exact mr_up_same _ _ _ | (refine mr_lk ?_ (by first | assumption | decide); first | assumption | exact mr_up_same _ _ _ | (refine mr_lk ?_ (by first | assumption | decide); first | assumption | exact mr_up_same _ _ _))))) ?_
      refine ⟨_, _, _, _, _, _, _, _, _, _, _, _, _, _, _, _, _, _, _, _, _, _, _, 0, _, _, rfl, hM99, hMM2, ⟨by decide, by decide⟩, (hFN2 0 (by decide) (by decide)), (fun w100 st100 li100 n100 hp100 hM100 hF100 => ?_)⟩
      rw [e0'] at hp100
      have hz100 := mr_Lp_book (t := 0) hW' (by decide) hp100
      obtain ⟨h18, h19, h20, h21, h22, h23, h24, h25, h26, h27, hs1, hs2, hik⟩ := id hM100
      dsimp only [Option.toList_some, Option.toList_none, List.cons_append, List.nil_append]
      refine mr_iadd dX7_drawn_165 ?_
      refine mr_istore_n dX7_drawn_166 rfl (by decide) ?_
      refine mr_iinc dX7_drawn_167 rfl (by decide) rfl ?_
      refine mr_goto (tgt := 152) dX7_drawn_170 (by decide) ?_
      refine mr_iload dX7_drawn_152 rfl ?_
      refine mr_iconst dX7_drawn_154 ?_
      refine mr_icmp_ge (tgt := 173) dX7_drawn_155 (by decide) (by decide) (by decide) (fun h => absurd h (by decide)) (fun _ => ?_)
      refine mr_iload_n dX7_drawn_158 rfl ?_
      refine mr_aload_n dX7_drawn_159 rfl ?_
      refine mr_iload dX7_drawn_160 rfl ?_
      refine mr_callV (as := [_]) dX7_drawn_162 (ok_X7_sizeOf l G) ml_X7_205 cl_X7_sizeOf cv_X7_sizeOf (by decide) rfl rfl (Nat.le_of_ble_eq_true rfl) (by first | assumption | exact mr_up_same _ _ _ | (refine mr_lk ?_ (by first | assumption | decide); first | assumption | exact mr_up_same _ _ _ | (refine mr_lk ?_ (by first | assumption | decide); first | assumption | exact mr_up_same _ _ _ | (refine mr_lk ?_ (by first | assumption | decide); first | assumption | exact mr_up_same _ _ _ | (refine mr_lk ?_ (by first | assumption | decide); first | assumption | exact mr_up_same _ _ _))))) ?_
      refine ⟨_, _, _, _, _, _, _, _, _, _, _, _, _, _, _, _, _, _, _, _, _, _, _, 1, _, _, rfl, hM100, hMM2, ⟨by decide, by decide⟩, (hFN2 1 (by decide) (by decide)), (fun w101 st101 li101 n101 hp101 hM101 hF101 => ?_)⟩
      rw [e0'] at hp101
      have hz101 := mr_Lp_book (t := 1) hW' (by decide) hp101
      obtain ⟨h18, h19, h20, h21, h22, h23, h24, h25, h26, h27, hs1, hs2, hik⟩ := id hM101
      dsimp only [Option.toList_some, Option.toList_none, List.cons_append, List.nil_append]
      refine mr_iadd dX7_drawn_165 ?_
      refine mr_istore_n dX7_drawn_166 rfl (by decide) ?_
      refine mr_iinc dX7_drawn_167 rfl (by decide) rfl ?_
      refine mr_goto (tgt := 152) dX7_drawn_170 (by decide) ?_
      refine mr_iload dX7_drawn_152 rfl ?_
      refine mr_iconst dX7_drawn_154 ?_
      refine mr_icmp_ge (tgt := 173) dX7_drawn_155 (by decide) (by decide) (by decide) (fun h => absurd h (by decide)) (fun _ => ?_)
      refine mr_iload_n dX7_drawn_158 rfl ?_
      refine mr_aload_n dX7_drawn_159 rfl ?_
      refine mr_iload dX7_drawn_160 rfl ?_
      refine mr_callV (as := [_]) dX7_drawn_162 (ok_X7_sizeOf l G) ml_X7_205 cl_X7_sizeOf cv_X7_sizeOf (by decide) rfl rfl (Nat.le_of_ble_eq_true rfl) (by first | assumption | exact mr_up_same _ _ _ | (refine mr_lk ?_ (by first | assumption | decide); first | assumption | exact mr_up_same _ _ _ | (refine mr_lk ?_ (by first | assumption | decide); first | assumption | exact mr_up_same _ _ _ | (refine mr_lk ?_ (by first | assumption | decide); first | assumption | exact mr_up_same _ _ _ | (refine mr_lk ?_ (by first | assumption | decide); first | assumption | exact mr_up_same _ _ _))))) ?_
      refine ⟨_, _, _, _, _, _, _, _, _, _, _, _, _, _, _, _, _, _, _, _, _, _, _, 2, _, _, rfl, hM101, hMM2, ⟨by decide, by decide⟩, (hFN2 2 (by decide) (by decide)), (fun w102 st102 li102 n102 hp102 hM102 hF102 => ?_)⟩
      rw [e0'] at hp102
      have hz102 := mr_Lp_book (t := 2) hW' (by decide) hp102
      obtain ⟨h18, h19, h20, h21, h22, h23, h24, h25, h26, h27, hs1, hs2, hik⟩ := id hM102
      dsimp only [Option.toList_some, Option.toList_none, List.cons_append, List.nil_append]
      refine mr_iadd dX7_drawn_165 ?_
      refine mr_istore_n dX7_drawn_166 rfl (by decide) ?_
      refine mr_iinc dX7_drawn_167 rfl (by decide) rfl ?_
      refine mr_goto (tgt := 152) dX7_drawn_170 (by decide) ?_
      refine mr_iload dX7_drawn_152 rfl ?_
      refine mr_iconst dX7_drawn_154 ?_
      refine mr_icmp_ge (tgt := 173) dX7_drawn_155 (by decide) (by decide) (by decide) (fun h => absurd h (by decide)) (fun _ => ?_)
      refine mr_iload_n dX7_drawn_158 rfl ?_
      refine mr_aload_n dX7_drawn_159 rfl ?_
      refine mr_iload dX7_drawn_160 rfl ?_
      refine mr_callV (as := [_]) dX7_drawn_162 (ok_X7_sizeOf l G) ml_X7_205 cl_X7_sizeOf cv_X7_sizeOf (by decide) rfl rfl (Nat.le_of_ble_eq_true rfl) (by first | assumption | exact mr_up_same _ _ _ | (refine mr_lk ?_ (by first | assumption | decide); first | assumption | exact mr_up_same _ _ _ | (refine mr_lk ?_ (by first | assumption | decide); first | assumption | exact mr_up_same _ _ _ | (refine mr_lk ?_ (by first | assumption | decide); first | assumption | exact mr_up_same _ _ _ | (refine mr_lk ?_ (by first | assumption | decide); first | assumption | exact mr_up_same _ _ _))))) ?_
      refine ⟨_, _, _, _, _, _, _, _, _, _, _, _, _, _, _, _, _, _, _, _, _, _, _, 3, _, _, rfl, hM102, hMM2, ⟨by decide, by decide⟩, (hFN2 3 (by decide) (by decide)), (fun w103 st103 li103 n103 hp103 hM103 hF103 => ?_)⟩
      rw [e0'] at hp103
      have hz103 := mr_Lp_book (t := 3) hW' (by decide) hp103
      obtain ⟨h18, h19, h20, h21, h22, h23, h24, h25, h26, h27, hs1, hs2, hik⟩ := id hM103
      dsimp only [Option.toList_some, Option.toList_none, List.cons_append, List.nil_append]
      refine mr_iadd dX7_drawn_165 ?_
      refine mr_istore_n dX7_drawn_166 rfl (by decide) ?_
      refine mr_iinc dX7_drawn_167 rfl (by decide) rfl ?_
      refine mr_goto (tgt := 152) dX7_drawn_170 (by decide) ?_
      refine mr_iload dX7_drawn_152 rfl ?_
      refine mr_iconst dX7_drawn_154 ?_
      refine mr_icmp_ge (tgt := 173) dX7_drawn_155 (by decide) (by decide) (by decide) (fun _ => ?_) (fun h => absurd h (by decide))
      refine mr_iload_n dX7_drawn_173 rfl ?_
      refine mr_iret rfl dX7_drawn_174 ?_
      have h9 := hP (by omega) (by omega) w103 N' _ _ _ sm2 _ _ L' hsn2 hW' hC' hM103 (hF99.tr (hF100.tr (hF101.tr (hF102.tr hF103))))
      unfold mr_sum4 at h9
      rw [← hz100, ← hz101, ← hz102, ← hz103] at h9
      exact h9
    · refine mr_iconst dX7_drawn_24 ?_
      refine mr_iret rfl dX7_drawn_25 ?_
      first | exact hR k1 w1 hM1 hF1 | exact hQ k1 hc_21 w1 hM1 hF1
  · intro k1
    dsimp only [Option.toList_some, Option.toList_none, List.cons_append, List.nil_append]
    refine mr_if_ne (tgt := 17) dX7_drawn_12 (by decide) (by omega) (fun h => absurd h (by decide)) (fun _ => ?_)
    refine mr_iconst dX7_drawn_15 ?_
    refine mr_iret rfl dX7_drawn_16 ?_
    first | exact hR k1 w1 hM1 hF1 | exact hQ k1 hc_21 w1 hM1 hF1
