def mr_pc (M : Int) (nm : Nat → Int) : Nat → Int
  | 0 => 0
  | k + 1 => M * mr_pc M nm k + nm k
theorem mr_pc_cg {M : Int} {a b : Nat → Int} : ∀ k : Nat, (∀ j, j < k → a j = b j) → mr_pc M a k = mr_pc M b k
  | 0, _ => rfl
  | k + 1, h => by
    show M * mr_pc M a k + a k = M * mr_pc M b k + b k
    rw [mr_pc_cg k (fun j hj => h j (by omega)), h k (by omega)]
theorem mr_pc_3 {M : Int} {x : Nat → Int} (h : mr_box M x) : mr_pc M x 3 = mr_ec M x := by
  rw [mr_ec_box h]
  show M * (M * (M * 0 + x 0) + x 1) + x 2 = (x 0 * M + x 1) * M + x 2
  rw [Int.mul_zero, Int.zero_add, Int.mul_comm M (x 0), Int.mul_comm M]
/-- a line's tokens are there: only its end is wanted -/
def mr_RL (n0 : Int) (g : Nat → Int) (C : mr_Ct9) (ln md : Int) (f R' : Nat → Int) (md' n' : Int) : Prop := ∃ (op sl v : Int) (nm : Nat → Int), mr_at n0 g C n' op sl ln md f nm v ∧ op ≠ 0 ∧ ¬ (sl < mr_due op f ∨ (op = 4 ∧ sl = mr_due op f + 1)) ∧ ¬ (op = 4 ∧ sl = mr_due op f) ∧ md' = (mr_fin op md f nm v).2 ∧ (0 ≤ md' ∧ md' ≤ 4) ∧ ∃ (M : Int) (W : Nat) (L : Int → mr_V → Prop), mr_WB (mr_fin op md f nm v).1 M W L ∧ mr_Cq (mr_fin op md f nm v).1 R'
theorem mr_if1 (x : Int) : (if x = 1 then (1 : Int) else 1) = 1 := by split <;> rfl
theorem mr_kdR {n0 n fr kd nb wd zo : Int} {g : Nat → Int} (hn0 : 0 ≤ n0 ∧ n0 ≤ 540) (hn : 0 ≤ n ∧ n ≤ n0) (h : mr_Tok n0 g n fr kd nb wd zo) : (0 ≤ kd ∧ kd ≤ 4) ∧ (kd = 2 ↔ mr_tK n0 g n = 2) ∧ (kd = 3 ↔ mr_tK n0 g n = 3) ∧ (kd = 4 ↔ mr_tK n0 g n = 4) ∧ (kd = 0 ↔ (mr_tK n0 g n = 1 ∧ n0 ≤ 500)) := by
  have := mr_mk_bd (g := g) hn0 hn
  rw [← h.2.1] at this
  exact this
set_option maxHeartbeats 4000000 in
set_option maxRecDepth 20000 in
theorem lp_X7_numbers (l : Launch) (G : mr_G) {Po : Option mr_AV → mr_Wd → Prop} {w0 : mr_Wd} {th tp sz ft pl sm md li sd : Int} {T N R K Sn ik s1 s2 ls : Nat → Int} {g f : Nat → Int} {C : mr_Ct9} {op ln n0' : Int} {W : Nat} (hsz : 0 ≤ sz ∧ sz ≤ 540) (hT : ∀ j : Nat, (j : Int) < sz → T j = mr_ba sz g j) (hop : op = 3 ∨ op = 4) (hf0 : f 0 = R 0) (hf1 : f 1 = W) (hR1 : R 1 = W) (hM0 : 2 ≤ R 0 ∧ R 0 ≤ 30) (hW : 1 ≤ W ∧ W ≤ 3) (hn0 : 0 ≤ n0') (hB : ∀ (w' : mr_Wd) (zo' fr' kd' nb' wd' a b : Int), C = .inl (a, b) → (-1000000 ≤ nb' ∧ nb' ≤ 1000000) → InL wd' → mr_MW w' th tp sz (zo') (fr') (kd') (nb') (a) (b) (wd') sm md li sd T N R K Sn ik s1 s2 ls → mr_FM w0 w' → Po (some (vI (-1))) w') (hG : ∀ (w' : mr_Wd) (zo' fr' kd' nb' wd' n' v' : Int) (nm' : Nat → Int), (n0' ≤ n' ∧ n' ≤ sz) → mr_Tok sz g n' fr' kd' nb' wd' zo' → mr_at sz g C n' op W ln md f nm' v' → mr_box (R 0) nm' → (∀ j, W ≤ j → j < 3 → nm' j = 0) → mr_MW w' th tp sz (zo') (fr') (kd') (nb') ft pl (wd') sm md li sd T N R K Sn ik s1 s2 ls → mr_FM w0 w' → Po (some (vI (mr_ec (R 0) nm'))) w') : ∀ (m k : Nat) (n vv v : Int) (nm : Nat → Int) (zo fr kd nb wd : Int) (w : mr_Wd), k + m = 3 → (0 ≤ n ∧ n ≤ sz) → n0' ≤ n → mr_Tok sz g n fr kd nb wd zo → mr_at sz g C n op (min (k : Int) W) ln md f nm v → mr_box (R 0) nm → (∀ j, k ≤ j → j < 3 → nm j = 0) → (∀ j, W ≤ j → j < 3 → nm j = 0) → vv = mr_pc (R 0) nm k → mr_MW w th tp sz zo fr kd nb ft pl wd sm md li sd T N R K Sn ik s1 s2 ls → mr_FM w0 w → mr_J l G RX7 cX7_numbers 5 (some .int) 2 45 Po 4 [some (vR 18 0), some (vR 21 0), some (vI vv), some (vI (k : Int)), none] [] w := by
  intro m
  have hdu : mr_due op f = W := by unfold mr_due; rw [if_neg (by omega), if_neg (by omega)]; exact hf1
  induction m with
  | zero =>
    intro k n vv v nm zo fr kd nb wd w hk hn hnn hTk hat hbx hnz hnw hvp hM hFr
    have e3 : k = 3 := by omega
    subst e3
    subst hvp
    rw [show min ((3 : Nat) : Int) W = W by omega] at hat
    obtain ⟨h18, h19, h20, h21, h22, h23, h24, h25, h26, h27, hs1, hs2, hik⟩ := id hM
    refine mr_iload_n dX7_numbers_4 rfl ?_
    refine mr_iconst dX7_numbers_5 ?_
    refine mr_icmp_ge (tgt := 78) dX7_numbers_6 (by decide) (by decide) (by decide) (fun hc_6 => ?_) (fun hc_6 => absurd hc_6 (by decide))
    refine mr_iload_n dX7_numbers_78 rfl ?_
    refine mr_iret rfl dX7_numbers_79 ?_
    rw [mr_pc_3 hbx]
    exact hG w zo fr kd nb wd n v nm ⟨hnn, hn.2⟩ hTk hat hbx hnw hM hFr
  | succ m ih =>
    intro k n vv v nm zo fr kd nb wd w hk hn hnn hTk hat hbx hnz hnw hvp hM hFr
    have hkb := mr_kdR hsz hn hTk
    have hmst : mr_mst2 op (min (k : Int) W) f = R 0 - 1 := by unfold mr_mst2; rw [if_neg (by omega), hf0]
    have hlst : mr_lst2 op (min (k : Int) W) = 0 := by unfold mr_lst2; rw [if_neg (by omega)]
    have hns : (k : Int) < W → mr_nset op (min (k : Int) W) f nm (mr_vv sz g n v) = mr_fs nm k (mr_vv sz g n v) := fun z => by unfold mr_nset; rw [if_pos ⟨by omega, by omega, by omega⟩, show (min (k : Int) W).toNat = k by omega]
    obtain ⟨h18, h19, h20, h21, h22, h23, h24, h25, h26, h27, hs1, hs2, hik⟩ := id hM
    refine mr_iload_n dX7_numbers_4 rfl ?_
    refine mr_iconst dX7_numbers_5 ?_
    refine mr_icmp_ge (tgt := 78) dX7_numbers_6 (by decide) ⟨by omega, by omega⟩ (by decide) (fun hc_6 => absurd hc_6 (by omega)) (fun hc_6 => ?_)
    refine mr_iconst dX7_numbers_9 ?_
    refine mr_istore dX7_numbers_10 rfl (by decide) ?_
    refine mr_iload_n dX7_numbers_12 rfl ?_
    refine mr_aload_n dX7_numbers_13 rfl ?_
    refine mr_iconst dX7_numbers_14 ?_
    refine mr_ialdK 1 dX7_numbers_15 (by first | assumption | exact mr_up_same _ _ _ | (refine mr_lk ?_ (by first | assumption | decide); first | assumption | exact mr_up_same _ _ _ | (refine mr_lk ?_ (by first | assumption | decide); first | assumption | exact mr_up_same _ _ _ | (refine mr_lk ?_ (by first | assumption | decide); first | assumption | exact mr_up_same _ _ _ | (refine mr_lk ?_ (by first | assumption | decide); first | assumption | exact mr_up_same _ _ _))))) (by decide) (by decide) ?_
    refine mr_icmp_ge (tgt := 63) dX7_numbers_16 (by decide) ⟨by omega, by omega⟩ ⟨by omega, by omega⟩ (fun hc_16 => ?_) (fun hc_16 => ?_)
    · refine mr_aload_n dX7_numbers_63 rfl ?_
      refine mr_iconst dX7_numbers_64 ?_
      refine mr_ialdK 0 dX7_numbers_65 (by first | assumption | exact mr_up_same _ _ _ | (refine mr_lk ?_ (by first | assumption | decide); first | assumption | exact mr_up_same _ _ _ | (refine mr_lk ?_ (by first | assumption | decide); first | assumption | exact mr_up_same _ _ _ | (refine mr_lk ?_ (by first | assumption | decide); first | assumption | exact mr_up_same _ _ _ | (refine mr_lk ?_ (by first | assumption | decide); first | assumption | exact mr_up_same _ _ _))))) (by decide) (by decide) ?_
      refine mr_iload_n dX7_numbers_66 rfl ?_
      refine mr_imul dX7_numbers_67 ?_
      refine mr_iload dX7_numbers_68 rfl ?_
      refine mr_iadd dX7_numbers_70 ?_
      refine mr_istore_n dX7_numbers_71 rfl (by decide) ?_
      refine mr_iinc dX7_numbers_72 rfl (by decide) rfl ?_
      refine mr_goto (tgt := 4) dX7_numbers_75 (by decide) ?_
      refine mr_weak [some (vR 18 0), some (vR 21 0), some (vI (mr_pc (R 0) nm (k + 1))), some (vI ((k + 1 : Nat) : Int)), none] ⟨rfl, rfl, by show vI _ = vI _; rw [hvp]; show vI (R 0 * mr_pc (R 0) nm k + nm k) = vI (R 0 * mr_pc (R 0) nm k + 0); rw [hnz k (Nat.le_refl k) (by omega)], rfl, trivial⟩ ?_
      exact ih (k + 1) n _ v nm zo fr kd nb wd w (by omega) hn hnn hTk (by rw [show min ((k + 1 : Nat) : Int) W = min (k : Int) W by omega]; exact hat) hbx (fun j g1 g2 => hnz j (by omega) g2) hnw rfl hM hFr
    · have hsl : min (k : Int) W < mr_due op f ∨ (op = 4 ∧ min (k : Int) W = mr_due op f + 1) := Or.inl (by rw [hdu]; omega)
      refine mr_aload_n dX7_numbers_19 rfl ?_
      refine mr_get dX7_numbers_20 fl_X7_27 (by first | assumption | exact mr_up_same _ _ _ | (refine mr_lk ?_ (by first | assumption | decide); first | assumption | exact mr_up_same _ _ _ | (refine mr_lk ?_ (by first | assumption | decide); first | assumption | exact mr_up_same _ _ _ | (refine mr_lk ?_ (by first | assumption | decide); first | assumption | exact mr_up_same _ _ _ | (refine mr_lk ?_ (by first | assumption | decide); first | assumption | exact mr_up_same _ _ _))))) rfl ?_
      refine mr_iconst dX7_numbers_23 ?_
      refine mr_icmp_eq (tgt := 35) dX7_numbers_24 (by decide) ⟨by omega, by omega⟩ (by decide) (fun hc_24 => ?_) (fun hc_24 => ?_)
      · have hK3 : mr_tK sz g n = 3 := hkb.2.2.1.mp hc_24
        have hvv : mr_vv sz g n v = nb := by unfold mr_vv; rw [if_pos hK3]; exact (hTk.2.2.2.1 hK3).symm
        have hnb0 : 0 ≤ nb ∧ nb ≤ 99 := by rw [hTk.2.2.2.1 hK3]; exact (mr_tk_bd (g := g) hsz hn).2.2.2.2.1 hK3
        refine mr_aload_n dX7_numbers_35 rfl ?_
        refine mr_get dX7_numbers_36 fl_X7_41 (by first | assumption | exact mr_up_same _ _ _ | (refine mr_lk ?_ (by first | assumption | decide); first | assumption | exact mr_up_same _ _ _ | (refine mr_lk ?_ (by first | assumption | decide); first | assumption | exact mr_up_same _ _ _ | (refine mr_lk ?_ (by first | assumption | decide); first | assumption | exact mr_up_same _ _ _ | (refine mr_lk ?_ (by first | assumption | decide); first | assumption | exact mr_up_same _ _ _))))) rfl ?_
        refine mr_aload_n dX7_numbers_39 rfl ?_
        refine mr_iconst dX7_numbers_40 ?_
        refine mr_ialdK 0 dX7_numbers_41 (by first | assumption | exact mr_up_same _ _ _ | (refine mr_lk ?_ (by first | assumption | decide); first | assumption | exact mr_up_same _ _ _ | (refine mr_lk ?_ (by first | assumption | decide); first | assumption | exact mr_up_same _ _ _ | (refine mr_lk ?_ (by first | assumption | decide); first | assumption | exact mr_up_same _ _ _ | (refine mr_lk ?_ (by first | assumption | decide); first | assumption | exact mr_up_same _ _ _))))) (by decide) (by decide) ?_
        refine mr_icmp_lt (tgt := 53) dX7_numbers_42 (by decide) ⟨by omega, by omega⟩ ⟨by omega, by omega⟩ (fun hc_42 => ?_) (fun hc_42 => ?_)
        · refine mr_aload_n dX7_numbers_53 rfl ?_
          refine mr_get dX7_numbers_54 fl_X7_41 (by first | assumption | exact mr_up_same _ _ _ | (refine mr_lk ?_ (by first | assumption | decide); first | assumption | exact mr_up_same _ _ _ | (refine mr_lk ?_ (by first | assumption | decide); first | assumption | exact mr_up_same _ _ _ | (refine mr_lk ?_ (by first | assumption | decide); first | assumption | exact mr_up_same _ _ _ | (refine mr_lk ?_ (by first | assumption | decide); first | assumption | exact mr_up_same _ _ _))))) rfl ?_
          refine mr_istore dX7_numbers_57 rfl (by decide) ?_
          refine mr_aload_n dX7_numbers_59 rfl ?_
          refine mr_callV (as := []) dX7_numbers_60 (ok_X7_next l G) ml_X7_114 cl_X7_next cv_X7_next (by decide) rfl rfl (Nat.le_of_ble_eq_true rfl) (by first | assumption | exact mr_up_same _ _ _ | (refine mr_lk ?_ (by first | assumption | decide); first | assumption | exact mr_up_same _ _ _ | (refine mr_lk ?_ (by first | assumption | decide); first | assumption | exact mr_up_same _ _ _ | (refine mr_lk ?_ (by first | assumption | decide); first | assumption | exact mr_up_same _ _ _ | (refine mr_lk ?_ (by first | assumption | decide); first | assumption | exact mr_up_same _ _ _))))) ?_
          refine ⟨_, _, _, _, _, _, _, _, _, _, _, _, _, _, _, _, _, _, _, _, _, _, _, g, rfl, hM, hsz, hT, hTk.2.2.2.2.2.2.2, hTk.2.2.2.2.2.2.1, hTk.2.2.2.2.2.1, (fun w1 zo1 fr1 kd1 nb1 wd1 hTk1 hM1 hF1 => ?_)⟩
          obtain ⟨h18, h19, h20, h21, h22, h23, h24, h25, h26, h27, hs1, hs2, hik⟩ := id hM1
          have kb1 := mr_kdR hsz hTk.2.2.2.2.2.2.2 hTk1
          dsimp only [Option.toList_some, Option.toList_none, List.cons_append, List.nil_append]
          refine mr_aload_n dX7_numbers_63 rfl ?_
          refine mr_iconst dX7_numbers_64 ?_
          refine mr_ialdK 0 dX7_numbers_65 (by first | assumption | exact mr_up_same _ _ _ | (refine mr_lk ?_ (by first | assumption | decide); first | assumption | exact mr_up_same _ _ _ | (refine mr_lk ?_ (by first | assumption | decide); first | assumption | exact mr_up_same _ _ _ | (refine mr_lk ?_ (by first | assumption | decide); first | assumption | exact mr_up_same _ _ _ | (refine mr_lk ?_ (by first | assumption | decide); first | assumption | exact mr_up_same _ _ _))))) (by decide) (by decide) ?_
          refine mr_iload_n dX7_numbers_66 rfl ?_
          refine mr_imul dX7_numbers_67 ?_
          refine mr_iload dX7_numbers_68 rfl ?_
          refine mr_iadd dX7_numbers_70 ?_
          refine mr_istore_n dX7_numbers_71 rfl (by decide) ?_
          refine mr_iinc dX7_numbers_72 rfl (by decide) rfl ?_
          refine mr_goto (tgt := 4) dX7_numbers_75 (by decide) ?_
          have hat2 := mr_at_go hsz hn hat (by omega) (by omega) ((mr_tt_num (by omega) hsl).2.2 hK3 (by rw [hvv, hmst, hlst]; omega))
          have ez : zo = mr_tX sz g n := hTk.2.2.1 (by omega)
          have hlt := (mr_tk_bd (g := g) hsz hn).2.2.2.1 (by omega)
          rw [← ez, hns (by omega), hvv] at hat2
          refine mr_weak [some (vR 18 0), some (vR 21 0), some (vI (mr_pc (R 0) (mr_fs nm k nb) (k + 1))), some (vI ((k + 1 : Nat) : Int)), none] ⟨rfl, rfl, by show vI _ = vI _; rw [hvp]; show vI (R 0 * mr_pc (R 0) (mr_fs nm k nb) k + mr_fs nm k nb k) = vI (R 0 * mr_pc (R 0) nm k + nb); rw [mr_fs_same, mr_pc_cg k (fun j hj => mr_fs_ne nm nb (by omega))], rfl, trivial⟩ ?_
          refine ih (k + 1) zo _ _ (mr_fs nm k nb) zo1 fr1 kd1 nb1 wd1 w1 (by omega) hTk.2.2.2.2.2.2.2 (by omega) hTk1 (by rw [show min ((k + 1 : Nat) : Int) W = min (k : Int) W + 1 by omega]; exact hat2) (fun j hj => ?_) (fun j g1 g2 => ?_) (fun j g1 g2 => ?_) rfl hM1 (hFr.tr hF1)
          · by_cases e : j = k
            · subst e; rw [mr_fs_same]; omega
            · rw [mr_fs_ne _ _ e]; exact hbx j hj
          · rw [mr_fs_ne _ _ (by omega)]; exact hnz j (by omega) g2
          · rw [mr_fs_ne _ _ (by omega)]; exact hnw j g1 g2
        · refine mr_aload_n dX7_numbers_45 rfl ?_
          refine mr_iconst dX7_numbers_46 ?_
          refine mr_callV (as := [_]) dX7_numbers_47 (ok_X7_bad l G) ml_X7_111 cl_X7_bad cv_X7_bad (by decide) rfl rfl (Nat.le_of_ble_eq_true rfl) (by first | assumption | exact mr_up_same _ _ _ | (refine mr_lk ?_ (by first | assumption | decide); first | assumption | exact mr_up_same _ _ _ | (refine mr_lk ?_ (by first | assumption | decide); first | assumption | exact mr_up_same _ _ _ | (refine mr_lk ?_ (by first | assumption | decide); first | assumption | exact mr_up_same _ _ _ | (refine mr_lk ?_ (by first | assumption | decide); first | assumption | exact mr_up_same _ _ _))))) ?_
          refine ⟨_, _, _, _, _, _, _, _, _, _, _, _, _, _, _, _, _, _, _, _, _, _, _, _, rfl, hM, ⟨by omega, by omega⟩, (fun w2 hM2 hF2 => ?_)⟩
          dsimp only [Option.toList_some, Option.toList_none, List.cons_append, List.nil_append]
          refine mr_pop dX7_numbers_50 rfl ?_
          refine mr_iconst dX7_numbers_51 ?_
          refine mr_iret rfl dX7_numbers_52 ?_
          have h9 := hM2
          rw [if_neg (by omega), hTk.1] at h9
          exact hB w2 _ _ _ _ _ 2 _ (mr_at_bad hn hat (fun z => by omega) ((mr_tt_num (by omega) hsl).2.1 hK3 (Or.inr (by rw [hvv, hmst]; omega)))) hTk.2.2.2.2.2.2.1 hTk.2.2.2.2.2.1 h9 (hFr.tr hF2)
      · refine mr_aload_n dX7_numbers_27 rfl ?_
        refine mr_iconst dX7_numbers_28 ?_
        refine mr_callV (as := [_]) dX7_numbers_29 (ok_X7_bad l G) ml_X7_111 cl_X7_bad cv_X7_bad (by decide) rfl rfl (Nat.le_of_ble_eq_true rfl) (by first | assumption | exact mr_up_same _ _ _ | (refine mr_lk ?_ (by first | assumption | decide); first | assumption | exact mr_up_same _ _ _ | (refine mr_lk ?_ (by first | assumption | decide); first | assumption | exact mr_up_same _ _ _ | (refine mr_lk ?_ (by first | assumption | decide); first | assumption | exact mr_up_same _ _ _ | (refine mr_lk ?_ (by first | assumption | decide); first | assumption | exact mr_up_same _ _ _))))) ?_
        refine ⟨_, _, _, _, _, _, _, _, _, _, _, _, _, _, _, _, _, _, _, _, _, _, _, _, rfl, hM, ⟨by omega, by omega⟩, (fun w3 hM3 hF3 => ?_)⟩
        dsimp only [Option.toList_some, Option.toList_none, List.cons_append, List.nil_append]
        refine mr_pop dX7_numbers_32 rfl ?_
        refine mr_iconst dX7_numbers_33 ?_
        refine mr_iret rfl dX7_numbers_34 ?_
        have h9 := hM3
        rw [mr_if1, hTk.1] at h9
        exact hB w3 _ _ _ _ _ 1 _ (mr_at_bad hn hat (fun z => by omega) ((mr_tt_num (by omega) hsl).1 (fun z => hc_24 (hkb.2.2.1.mpr z)))) hTk.2.2.2.2.2.2.1 hTk.2.2.2.2.2.1 h9 (hFr.tr hF3)
def T_X7_numbers (a : List mr_AV) (w : mr_Wd) (Po : Option mr_AV → mr_Wd → Prop) : Prop := ∃ (th tp sz zo fr kd nb ft pl wd sm md li sd : Int) (T N R K Sn ik s1 s2 ls : Nat → Int) (g f nm : Nat → Int) (C : mr_Ct9) (op ln n v : Int) (W : Nat), a = [vR 18 0, vR 21 0] ∧ mr_MW w th tp sz zo fr kd nb ft pl wd sm md li sd T N R K Sn ik s1 s2 ls ∧ (0 ≤ sz ∧ sz ≤ 540) ∧ (∀ j : Nat, (j : Int) < sz → T j = mr_ba sz g j) ∧ (op = 3 ∨ op = 4) ∧ f 0 = R 0 ∧ f 1 = W ∧ R 1 = W ∧ (2 ≤ R 0 ∧ R 0 ≤ 30) ∧ (1 ≤ W ∧ W ≤ 3) ∧ (0 ≤ n ∧ n ≤ sz) ∧ mr_Tok sz g n fr kd nb wd zo ∧ mr_at sz g C n op 0 ln md f nm v ∧ (∀ j, j < 3 → nm j = 0) ∧ (∀ (w' : mr_Wd) (zo' fr' kd' nb' wd' a b : Int), C = .inl (a, b) → (-1000000 ≤ nb' ∧ nb' ≤ 1000000) → InL wd' → mr_MW w' th tp sz (zo') (fr') (kd') (nb') (a) (b) (wd') sm md li sd T N R K Sn ik s1 s2 ls → mr_FM w w' → Po (some (vI (-1))) w') ∧ ∀ (w' : mr_Wd) (zo' fr' kd' nb' wd' n' v' : Int) (nm' : Nat → Int), (n ≤ n' ∧ n' ≤ sz) → mr_Tok sz g n' fr' kd' nb' wd' zo' → mr_at sz g C n' op W ln md f nm' v' → mr_box (R 0) nm' → (∀ j, W ≤ j → j < 3 → nm' j = 0) → mr_MW w' th tp sz (zo') (fr') (kd') (nb') ft pl (wd') sm md li sd T N R K Sn ik s1 s2 ls → mr_FM w w' → Po (some (vI (mr_ec (R 0) nm'))) w'
set_option maxHeartbeats 4000000 in
set_option maxRecDepth 20000 in
theorem ok_X7_numbers (l : Launch) (G : mr_G) : mr_Ok l G yX7_numbers cX7_numbers 5 (some .int) 2 45 T_X7_numbers := by
  refine mr_Ok.of (by decide +kernel) ?_
  rintro a w Po ⟨th, tp, sz, zo, fr, kd, nb, ft, pl, wd, sm, md, li, sd, T, N, R, K, Sn, ik, s1, s2, ls, g, f, nm, C, op, ln, n, v, W, rfl, hM, hsz, hT, hop, hf0, hf1, hR1, hM0, hW, hn, hTk, hat, hnm, hB, hG⟩
  refine ⟨Nat.le_of_ble_eq_true rfl, ?_⟩
  show mr_J l G RX7 cX7_numbers 5 (some .int) 2 45 Po 0 [some (vR 18 0), some (vR 21 0), none, none, none] [] w
  obtain ⟨h18, h19, h20, h21, h22, h23, h24, h25, h26, h27, hs1, hs2, hik⟩ := id hM
  refine mr_iconst dX7_numbers_0 ?_
  refine mr_istore_n dX7_numbers_1 rfl (by decide) ?_
  refine mr_iconst dX7_numbers_2 ?_
  refine mr_istore_n dX7_numbers_3 rfl (by decide) ?_
  refine mr_weak [some (vR 18 0), some (vR 21 0), some (vI 0), some (vI ((0 : Nat) : Int)), none] ⟨rfl, rfl, rfl, rfl, trivial⟩ ?_
  exact lp_X7_numbers l G (w0 := w) hsz hT hop hf0 hf1 hR1 hM0 hW hn.1 hB hG 3 0 n 0 v nm zo fr kd nb wd w (by decide) hn (Int.le_refl n) hTk (by rw [show min ((0 : Nat) : Int) W = 0 by omega]; exact hat) (fun j hj => by rw [hnm j hj]; omega) (fun j _ hj => hnm j hj) (fun j _ hj => hnm j hj) rfl hM (mr_FM.rf w)
def T_X7_readModule (a : List mr_AV) (w : mr_Wd) (Po : Option mr_AV → mr_Wd → Prop) : Prop := ∃ (th tp sz zo fr kd nb ft pl wd sm md li sd : Int) (T N R K Sn ik s1 s2 ls : Nat → Int) (g f nm : Nat → Int) (C : mr_Ct9) (sl ln n v : Int), a = [vR 18 0] ∧ mr_MW w th tp sz zo fr kd nb ft pl wd sm md li sd T N R K Sn ik s1 s2 ls ∧ (0 ≤ sz ∧ sz ≤ 540) ∧ (∀ j : Nat, (j : Int) < sz → T j = mr_ba sz g j) ∧ (0 ≤ n ∧ n ≤ sz) ∧ mr_Tok sz g n fr kd nb wd zo ∧ mr_at sz g C n 0 sl ln md f nm v ∧ (0 ≤ md ∧ md ≤ 4) ∧ ln ≠ 0 ∧ mr_isw sz g (mr_tK sz g n) (mr_tS sz g n) (mr_tX sz g n) 1 ∧ (∃ (M : Int) (W : Nat) (L : Int → mr_V → Prop), mr_WB f M W L ∧ mr_Cq f R) ∧ (∀ (w' : mr_Wd) (zo' fr' kd' nb' wd' md' li' a b : Int) (R' s1' ls' : Nat → Int), C = .inl (a, b) → (-1000000 ≤ nb' ∧ nb' ≤ 1000000) → InL wd' → mr_MW w' th tp sz (zo') (fr') (kd') (nb') (a) (b) (wd') sm (md') (li') sd T N (R') K Sn ik (s1') s2 (ls') → mr_FM w w' → Po (some (vI 0)) w') ∧ (∀ (w' : mr_Wd) (zo' fr' kd' nb' wd' md' li' n' : Int) (R' s1' ls' : Nat → Int), (n < n' ∧ n' ≤ sz) → mr_Tok sz g n' fr' kd' nb' wd' zo' → mr_RL sz g C ln md f R' md' n' → mr_MW w' th tp sz (zo') (fr') (kd') (nb') ft pl (wd') sm (md') (li') sd T N (R') K Sn ik (s1') s2 (ls') → mr_FM w w' → Po (some (vI 1)) w')
set_option maxHeartbeats 4000000 in
set_option maxRecDepth 20000 in
theorem ok_X7_readModule (l : Launch) (G : mr_G) : mr_Ok l G yX7_readModule cX7_readModule 1 (some .boolean) 2 45 T_X7_readModule := by
  refine mr_Ok.of (by decide +kernel) ?_
  rintro a w Po ⟨th, tp, sz, zo, fr, kd, nb, ft, pl, wd, sm, md, li, sd, T, N, R, K, Sn, ik, s1, s2, ls, g, f, nm, C, sl, ln, n, v, rfl, hM, hsz, hT, hn, hTk, hat, hmd, hln, hw, ⟨M, W, L, hWB, hCq⟩, hB, hG⟩
  refine ⟨Nat.le_of_ble_eq_true rfl, ?_⟩
  show mr_J l G RX7 cX7_readModule 1 (some .boolean) 2 45 Po 0 [some (vR 18 0)] [] w
  obtain ⟨h18, h19, h20, h21, h22, h23, h24, h25, h26, h27, hs1, hs2, hik⟩ := id hM
  have hkb := mr_kdR hsz hn hTk
  have hK2 := hw.1
  refine mr_aload_n dX7_readModule_0 rfl ?_
  refine mr_get dX7_readModule_1 fl_X7_121 (by first | assumption | exact mr_up_same _ _ _ | (refine mr_lk ?_ (by first | assumption | decide); first | assumption | exact mr_up_same _ _ _ | (refine mr_lk ?_ (by first | assumption | decide); first | assumption | exact mr_up_same _ _ _ | (refine mr_lk ?_ (by first | assumption | decide); first | assumption | exact mr_up_same _ _ _ | (refine mr_lk ?_ (by first | assumption | decide); first | assumption | exact mr_up_same _ _ _))))) rfl ?_
  refine mr_iconst dX7_readModule_4 ?_
  refine mr_icmp_ne (tgt := 14) dX7_readModule_5 (by decide) ⟨by omega, by omega⟩ (by decide) (fun hc_5 => ?_) (fun hc_5 => ?_)
  · refine mr_aload_n dX7_readModule_14 rfl ?_
    refine mr_dup dX7_readModule_15 rfl ?_
    refine mr_get dX7_readModule_16 fl_X7_121 (by first | assumption | exact mr_up_same _ _ _ | (refine mr_lk ?_ (by first | assumption | decide); first | assumption | exact mr_up_same _ _ _ | (refine mr_lk ?_ (by first | assumption | decide); first | assumption | exact mr_up_same _ _ _ | (refine mr_lk ?_ (by first | assumption | decide); first | assumption | exact mr_up_same _ _ _ | (refine mr_lk ?_ (by first | assumption | decide); first | assumption | exact mr_up_same _ _ _))))) rfl ?_
    refine mr_iconst dX7_readModule_19 ?_
    refine mr_iadd dX7_readModule_20 ?_
    refine mr_put dX7_readModule_21 fl_X7_121 pf_X7_17 rfl rfl (by first | assumption | exact mr_up_same _ _ _ | (refine mr_lk ?_ (by first | assumption | decide); first | assumption | exact mr_up_same _ _ _ | (refine mr_lk ?_ (by first | assumption | decide); first | assumption | exact mr_up_same _ _ _ | (refine mr_lk ?_ (by first | assumption | decide); first | assumption | exact mr_up_same _ _ _ | (refine mr_lk ?_ (by first | assumption | decide); first | assumption | exact mr_up_same _ _ _))))) (Nat.le_of_ble_eq_true rfl) ?_
    refine mw_p17 hM (fun w1 hM1 hF1 => ?_)
    obtain ⟨h18, h19, h20, h21, h22, h23, h24, h25, h26, h27, hs1, hs2, hik⟩ := id hM1
    refine mr_aload_n dX7_readModule_24 rfl ?_
    refine mr_callV (as := []) dX7_readModule_25 (ok_X7_next l G) ml_X7_114 cl_X7_next cv_X7_next (by decide) rfl rfl (Nat.le_of_ble_eq_true rfl) (by first | assumption | exact mr_up_same _ _ _ | (refine mr_lk ?_ (by first | assumption | decide); first | assumption | exact mr_up_same _ _ _ | (refine mr_lk ?_ (by first | assumption | decide); first | assumption | exact mr_up_same _ _ _ | (refine mr_lk ?_ (by first | assumption | decide); first | assumption | exact mr_up_same _ _ _ | (refine mr_lk ?_ (by first | assumption | decide); first | assumption | exact mr_up_same _ _ _))))) ?_
    refine ⟨_, _, _, _, _, _, _, _, _, _, _, _, _, _, _, _, _, _, _, _, _, _, _, g, rfl, hM1, hsz, hT, hTk.2.2.2.2.2.2.2, hTk.2.2.2.2.2.2.1, hTk.2.2.2.2.2.1, (fun w2 zo2 fr2 kd2 nb2 wd2 hTk2 hM2 hF2 => ?_)⟩
    obtain ⟨h18, h19, h20, h21, h22, h23, h24, h25, h26, h27, hs1, hs2, hik⟩ := id hM2
    have kb2 := mr_kdR hsz hTk.2.2.2.2.2.2.2 hTk2
    dsimp only [Option.toList_some, Option.toList_none, List.cons_append, List.nil_append]
    refine mr_iconst dX7_readModule_28 ?_
    refine mr_zret rfl (Or.inr rfl) dX7_readModule_29 ?_
    have hat2 := mr_at_go hsz hn hat (by omega) (by omega) ((mr_tt_l1 hln).1 hw (by omega))
    have ez : zo = mr_tX sz g n := hTk.2.2.1 (by omega)
    have hlt := (mr_tk_bd (g := g) hsz hn).2.2.2.1 (by omega)
    rw [← ez] at hat2
    exact hG w2 _ _ _ _ _ _ _ zo _ _ _ ⟨by omega, hTk.2.2.2.2.2.2.2.2⟩ hTk2 ⟨2, 0, _, _, hat2, by decide, by unfold mr_due; rw [if_neg (by decide), if_pos rfl]; omega, by omega, rfl, ⟨by show 0 ≤ md + 1; omega, by show md + 1 ≤ 4; omega⟩, M, W, L, hWB, hCq⟩ hM2 (hF1.tr hF2)
  · refine mr_aload_n dX7_readModule_8 rfl ?_
    refine mr_iconst dX7_readModule_9 ?_
    refine mr_callV (as := [_]) dX7_readModule_10 (ok_X7_bad l G) ml_X7_111 cl_X7_bad cv_X7_bad (by decide) rfl rfl (Nat.le_of_ble_eq_true rfl) (by first | assumption | exact mr_up_same _ _ _ | (refine mr_lk ?_ (by first | assumption | decide); first | assumption | exact mr_up_same _ _ _ | (refine mr_lk ?_ (by first | assumption | decide); first | assumption | exact mr_up_same _ _ _ | (refine mr_lk ?_ (by first | assumption | decide); first | assumption | exact mr_up_same _ _ _ | (refine mr_lk ?_ (by first | assumption | decide); first | assumption | exact mr_up_same _ _ _))))) ?_
    refine ⟨_, _, _, _, _, _, _, _, _, _, _, _, _, _, _, _, _, _, _, _, _, _, _, _, rfl, hM, ⟨by omega, by omega⟩, (fun w3 hM3 hF3 => ?_)⟩
    dsimp only [Option.toList_some, Option.toList_none, List.cons_append, List.nil_append]
    refine mr_zret rfl (Or.inl rfl) dX7_readModule_13 ?_
    have h9 := hM3
    rw [if_neg (by omega), hTk.1] at h9
    exact hB w3 _ _ _ _ _ _ _ 3 _ _ _ _ (mr_at_bad hn hat (fun z => by omega) ((mr_tt_l1 hln).2.1 hw (by omega))) hTk.2.2.2.2.2.2.1 hTk.2.2.2.2.2.1 h9 hF3
def T_X7_readRow (a : List mr_AV) (w : mr_Wd) (Po : Option mr_AV → mr_Wd → Prop) : Prop := ∃ (th tp sz zo fr kd nb ft pl wd sm md li sd : Int) (T N R K Sn ik s1 s2 ls : Nat → Int) (g f nm : Nat → Int) (C : mr_Ct9) (sl ln n v : Int), a = [vR 18 0] ∧ mr_MW w th tp sz zo fr kd nb ft pl wd sm md li sd T N R K Sn ik s1 s2 ls ∧ (0 ≤ sz ∧ sz ≤ 540) ∧ (∀ j : Nat, (j : Int) < sz → T j = mr_ba sz g j) ∧ (0 ≤ n ∧ n ≤ sz) ∧ mr_Tok sz g n fr kd nb wd zo ∧ mr_at sz g C n 0 sl ln md f nm v ∧ (0 ≤ md ∧ md ≤ 4) ∧ ln ≠ 0 ∧ ¬ mr_isw sz g (mr_tK sz g n) (mr_tS sz g n) (mr_tX sz g n) 1 ∧ mr_isw sz g (mr_tK sz g n) (mr_tS sz g n) (mr_tX sz g n) 2 ∧ (∃ (M : Int) (W : Nat) (L : Int → mr_V → Prop), mr_WB f M W L ∧ mr_Cq f R) ∧ (∀ (w' : mr_Wd) (zo' fr' kd' nb' wd' md' li' a b : Int) (R' s1' ls' : Nat → Int), C = .inl (a, b) → (-1000000 ≤ nb' ∧ nb' ≤ 1000000) → InL wd' → mr_MW w' th tp sz (zo') (fr') (kd') (nb') (a) (b) (wd') sm (md') (li') sd T N (R') K Sn ik (s1') s2 (ls') → mr_FM w w' → Po (some (vI 0)) w') ∧ (∀ (w' : mr_Wd) (zo' fr' kd' nb' wd' md' li' n' : Int) (R' s1' ls' : Nat → Int), (n < n' ∧ n' ≤ sz) → mr_Tok sz g n' fr' kd' nb' wd' zo' → mr_RL sz g C ln md f R' md' n' → mr_MW w' th tp sz (zo') (fr') (kd') (nb') ft pl (wd') sm (md') (li') sd T N (R') K Sn ik (s1') s2 (ls') → mr_FM w w' → Po (some (vI 1)) w')
set_option maxHeartbeats 4000000 in
set_option maxRecDepth 20000 in
theorem ok_X7_readRow (l : Launch) (G : mr_G) : mr_Ok l G yX7_readRow cX7_readRow 2 (some .boolean) 3 73 T_X7_readRow := by
  refine mr_Ok.of (by decide +kernel) ?_
  rintro a w Po ⟨th, tp, sz, zo, fr, kd, nb, ft, pl, wd, sm, md, li, sd, T, N, R, K, Sn, ik, s1, s2, ls, g, f, nm, C, sl, ln, n, v, rfl, hM, hsz, hT, hn, hTk, hat, hmd, hln, hw1, hw, ⟨M, W, L, hWB, hCq⟩, hB, hG⟩
  refine ⟨Nat.le_of_ble_eq_true rfl, ?_⟩
  show mr_J l G RX7 cX7_readRow 2 (some .boolean) 3 73 Po 0 [some (vR 18 0), none] [] w
  obtain ⟨h18, h19, h20, h21, h22, h23, h24, h25, h26, h27, hs1, hs2, hik⟩ := id hM
  have hkb := mr_kdR hsz hn hTk
  have hK2 := hw.1
  obtain ⟨hf0, hf1, hM0, hW0, hf2, hfF, hfE⟩ := id hWB
  have hR0 : R 0 = M := by rw [hCq.1]; exact hf0
  have hfR : f 0 = R 0 := by omega
  have hR1 : R 1 = W := by rw [hCq.2.1]; exact hf1
  have hMR : 2 ≤ R 0 ∧ R 0 ≤ 30 := by omega
  have hMM : 1 ≤ R 0 ∧ R 0 ≤ 30 := by omega
  have hm3 := mr_m3 hMM
  refine mr_aload_n dX7_readRow_0 rfl ?_
  refine mr_get dX7_readRow_1 fl_X7_121 (by first | assumption | exact mr_up_same _ _ _ | (refine mr_lk ?_ (by first | assumption | decide); first | assumption | exact mr_up_same _ _ _ | (refine mr_lk ?_ (by first | assumption | decide); first | assumption | exact mr_up_same _ _ _ | (refine mr_lk ?_ (by first | assumption | decide); first | assumption | exact mr_up_same _ _ _ | (refine mr_lk ?_ (by first | assumption | decide); first | assumption | exact mr_up_same _ _ _))))) rfl ?_
  refine mr_if_ne (tgt := 13) dX7_readRow_4 (by decide) ⟨by omega, by omega⟩ (fun hc_4 => ?_) (fun hc_4 => ?_)
  · refine mr_aload_n dX7_readRow_13 rfl ?_
    refine mr_callV (as := []) dX7_readRow_14 (ok_X7_next l G) ml_X7_114 cl_X7_next cv_X7_next (by decide) rfl rfl (Nat.le_of_ble_eq_true rfl) (by first | assumption | exact mr_up_same _ _ _ | (refine mr_lk ?_ (by first | assumption | decide); first | assumption | exact mr_up_same _ _ _ | (refine mr_lk ?_ (by first | assumption | decide); first | assumption | exact mr_up_same _ _ _ | (refine mr_lk ?_ (by first | assumption | decide); first | assumption | exact mr_up_same _ _ _ | (refine mr_lk ?_ (by first | assumption | decide); first | assumption | exact mr_up_same _ _ _))))) ?_
    have hat2 := mr_at_go hsz hn hat (by omega) (by omega) ((mr_tt_l1 hln).2.2.1 hw1 hw (by omega))
    have ez : zo = mr_tX sz g n := hTk.2.2.1 (by omega)
    have hlt := (mr_tk_bd (g := g) hsz hn).2.2.2.1 (by omega)
    rw [← ez] at hat2
    refine ⟨_, _, _, _, _, _, _, _, _, _, _, _, _, _, _, _, _, _, _, _, _, _, _, g, rfl, hM, hsz, hT, hTk.2.2.2.2.2.2.2, hTk.2.2.2.2.2.2.1, hTk.2.2.2.2.2.1, (fun w1 zo1 fr1 kd1 nb1 wd1 hTk1 hM1 hF1 => ?_)⟩
    obtain ⟨h18, h19, h20, h21, h22, h23, h24, h25, h26, h27, hs1, hs2, hik⟩ := id hM1
    have kb1 := mr_kdR hsz hTk.2.2.2.2.2.2.2 hTk1
    dsimp only [Option.toList_some, Option.toList_none, List.cons_append, List.nil_append]
    refine mr_aload_n dX7_readRow_17 rfl ?_
    refine mr_aload_n dX7_readRow_18 rfl ?_
    refine mr_get dX7_readRow_19 fl_X7_89 (by first | assumption | exact mr_up_same _ _ _ | (refine mr_lk ?_ (by first | assumption | decide); first | assumption | exact mr_up_same _ _ _ | (refine mr_lk ?_ (by first | assumption | decide); first | assumption | exact mr_up_same _ _ _ | (refine mr_lk ?_ (by first | assumption | decide); first | assumption | exact mr_up_same _ _ _ | (refine mr_lk ?_ (by first | assumption | decide); first | assumption | exact mr_up_same _ _ _))))) rfl ?_
    refine mr_callV (as := [_]) dX7_readRow_22 (ok_X7_numbers l G) ml_X7_124 cl_X7_numbers cv_X7_numbers (by decide) rfl rfl (Nat.le_of_ble_eq_true rfl) (by first | assumption | exact mr_up_same _ _ _ | (refine mr_lk ?_ (by first | assumption | decide); first | assumption | exact mr_up_same _ _ _ | (refine mr_lk ?_ (by first | assumption | decide); first | assumption | exact mr_up_same _ _ _ | (refine mr_lk ?_ (by first | assumption | decide); first | assumption | exact mr_up_same _ _ _ | (refine mr_lk ?_ (by first | assumption | decide); first | assumption | exact mr_up_same _ _ _))))) ?_
    refine ⟨_, _, _, _, _, _, _, _, _, _, _, _, _, _, _, _, _, _, _, _, _, _, _, g, f, _, C, 3, ln, _, _, W, rfl, hM1, hsz, hT, (by decide), hfR, hWB.2.1, hR1, hMR, hWB.2.2.2.1, hTk.2.2.2.2.2.2.2, hTk1, hat2, (fun j _ => rfl), ?_, ?_⟩
    · intro w2 zo2 fr2 kd2 nb2 wd2 a2 b2 hC2 hnb2 hwd2 hM2 hF2
      obtain ⟨h18, h19, h20, h21, h22, h23, h24, h25, h26, h27, hs1, hs2, hik⟩ := id hM2
      dsimp only [Option.toList_some, Option.toList_none, List.cons_append, List.nil_append]
      refine mr_istore_n dX7_readRow_25 rfl (by decide) ?_
      refine mr_iload_n dX7_readRow_26 rfl ?_
      refine mr_iconst dX7_readRow_27 ?_
      refine mr_icmp_ne (tgt := 33) dX7_readRow_28 (by decide) ⟨by omega, by omega⟩ (by decide) (fun h => absurd h (by decide)) (fun _ => ?_)
      refine mr_iconst dX7_readRow_31 ?_
      refine mr_zret rfl (Or.inl rfl) dX7_readRow_32 ?_
      first
        | exact hB w2 _ _ _ _ _ _ _ _ _ _ _ _ hC2 hnb2 hwd2 hM2 (hF1.tr hF2)
        | (exfalso; omega)
    · intro w3 zo3 fr3 kd3 nb3 wd3 n3 v3 nm3 hn3 hTk3 hat3 hbx3 hnw3 hM3 hF3
      have hec3 := mr_ec_bd (M := R 0) (by omega) nm3
      obtain ⟨h18, h19, h20, h21, h22, h23, h24, h25, h26, h27, hs1, hs2, hik⟩ := id hM3
      have kb3 := mr_kdR hsz (show 0 ≤ n3 ∧ n3 ≤ sz from ⟨by have := hTk.2.2.2.2.2.2.2.1; omega, hn3.2⟩) hTk3
      dsimp only [Option.toList_some, Option.toList_none, List.cons_append, List.nil_append]
      refine mr_istore_n dX7_readRow_25 rfl (by decide) ?_
      refine mr_iload_n dX7_readRow_26 rfl ?_
      refine mr_iconst dX7_readRow_27 ?_
      refine mr_icmp_ne (tgt := 33) dX7_readRow_28 (by decide) ⟨by omega, by omega⟩ (by decide) (fun hc_28 => ?_) (fun hc_28 => ?_)
      · refine mr_aload_n dX7_readRow_33 rfl ?_
        refine mr_aload_n dX7_readRow_34 rfl ?_
        refine mr_get dX7_readRow_35 fl_X7_89 (by first | assumption | exact mr_up_same _ _ _ | (refine mr_lk ?_ (by first | assumption | decide); first | assumption | exact mr_up_same _ _ _ | (refine mr_lk ?_ (by first | assumption | decide); first | assumption | exact mr_up_same _ _ _ | (refine mr_lk ?_ (by first | assumption | decide); first | assumption | exact mr_up_same _ _ _ | (refine mr_lk ?_ (by first | assumption | decide); first | assumption | exact mr_up_same _ _ _))))) rfl ?_
        refine mr_aload_n dX7_readRow_38 rfl ?_
        refine mr_get dX7_readRow_39 fl_X7_121 (by first | assumption | exact mr_up_same _ _ _ | (refine mr_lk ?_ (by first | assumption | decide); first | assumption | exact mr_up_same _ _ _ | (refine mr_lk ?_ (by first | assumption | decide); first | assumption | exact mr_up_same _ _ _ | (refine mr_lk ?_ (by first | assumption | decide); first | assumption | exact mr_up_same _ _ _ | (refine mr_lk ?_ (by first | assumption | decide); first | assumption | exact mr_up_same _ _ _))))) rfl ?_
        refine mr_iconst dX7_readRow_42 ?_
        refine mr_isub dX7_readRow_43 ?_
        refine mr_aload_n dX7_readRow_44 rfl ?_
        refine mr_get dX7_readRow_45 fl_X7_102 (by first | assumption | exact mr_up_same _ _ _ | (refine mr_lk ?_ (by first | assumption | decide); first | assumption | exact mr_up_same _ _ _ | (refine mr_lk ?_ (by first | assumption | decide); first | assumption | exact mr_up_same _ _ _ | (refine mr_lk ?_ (by first | assumption | decide); first | assumption | exact mr_up_same _ _ _ | (refine mr_lk ?_ (by first | assumption | decide); first | assumption | exact mr_up_same _ _ _))))) rfl ?_
        refine mr_callV (as := [_, _, _]) dX7_readRow_48 (ok_X7_laysSet l G) ml_X7_128 cl_X7_laysSet cv_X7_laysSet (by decide) rfl rfl (Nat.le_of_ble_eq_true rfl) (by first | assumption | exact mr_up_same _ _ _ | (refine mr_lk ?_ (by first | assumption | decide); first | assumption | exact mr_up_same _ _ _ | (refine mr_lk ?_ (by first | assumption | decide); first | assumption | exact mr_up_same _ _ _ | (refine mr_lk ?_ (by first | assumption | decide); first | assumption | exact mr_up_same _ _ _ | (refine mr_lk ?_ (by first | assumption | decide); first | assumption | exact mr_up_same _ _ _))))) ?_
        have hFNr := mr_Cq_NW hWB hCq
        obtain ⟨-, -, -, -, hFNa, -⟩ := hFNr
        have hFNr : mr_FN (R 0) W R (md - 1) (L (md - 1)) := by rw [hR0]; exact hFNa (md - 1) (by omega) (by omega)
        have hWB2 := mr_WB_abs (r := nm3) hWB (p := md - 1) ⟨by omega, by omega⟩ (fun j g1 g2 => by rw [hnw3 j g1 g2]; exact mr_dvd_0 M)
        have hFoR : mr_Fo (R 0) W (mr_br (mr_abs f nm3 (md - 1) mr_Zz mr_Zz) (md - 1)) (mr_LA (L (md - 1)) (mr_dec (R 0) (mr_ec (R 0) nm3))) := by
          have h9 := hWB2.2.2.2.2.2.1 (md - 1) (by omega) (by omega)
          have eL : mr_Lup L (md - 1) (mr_LA (L (md - 1)) nm3) (md - 1) = mr_LA (L (md - 1)) nm3 := if_pos rfl
          rw [eL] at h9
          rw [hR0] at hbx3 ⊢
          exact mr_Fo_congr (fun y => mr_LA_cg (fun _ => Iff.rfl) (hfF (md - 1) (by omega) (by omega)).1 (fun j hj => (mr_dec_ec_box (by omega) hbx3 j hj).symm) y) h9
        refine mw_lays1R (M := R 0) (W := W) (L := L (md - 1)) hM3 rfl hMM ⟨by omega, by omega⟩ hFNr (fun w4 st4 li4 n4 hp4 hM4 hF4 => ?_)
        obtain ⟨h18, h19, h20, h21, h22, h23, h24, h25, h26, h27, hs1, hs2, hik⟩ := id hM4
        dsimp only [Option.toList_some, Option.toList_none, List.cons_append, List.nil_append]
        refine mr_aload_n dX7_readRow_51 rfl ?_
        refine mr_aload_n dX7_readRow_52 rfl ?_
        refine mr_get dX7_readRow_53 fl_X7_89 (by first | assumption | exact mr_up_same _ _ _ | (refine mr_lk ?_ (by first | assumption | decide); first | assumption | exact mr_up_same _ _ _ | (refine mr_lk ?_ (by first | assumption | decide); first | assumption | exact mr_up_same _ _ _ | (refine mr_lk ?_ (by first | assumption | decide); first | assumption | exact mr_up_same _ _ _ | (refine mr_lk ?_ (by first | assumption | decide); first | assumption | exact mr_up_same _ _ _))))) rfl ?_
        refine mr_aload_n dX7_readRow_56 rfl ?_
        refine mr_get dX7_readRow_57 fl_X7_102 (by first | assumption | exact mr_up_same _ _ _ | (refine mr_lk ?_ (by first | assumption | decide); first | assumption | exact mr_up_same _ _ _ | (refine mr_lk ?_ (by first | assumption | decide); first | assumption | exact mr_up_same _ _ _ | (refine mr_lk ?_ (by first | assumption | decide); first | assumption | exact mr_up_same _ _ _ | (refine mr_lk ?_ (by first | assumption | decide); first | assumption | exact mr_up_same _ _ _))))) rfl ?_
        refine mr_iload_n dX7_readRow_60 rfl ?_
        refine mr_callV (as := [_, _, _]) dX7_readRow_61 (ok_X7_adds l G) ml_X7_132 cl_X7_adds cv_X7_adds (by decide) rfl rfl (Nat.le_of_ble_eq_true rfl) (by first | assumption | exact mr_up_same _ _ _ | (refine mr_lk ?_ (by first | assumption | decide); first | assumption | exact mr_up_same _ _ _ | (refine mr_lk ?_ (by first | assumption | decide); first | assumption | exact mr_up_same _ _ _ | (refine mr_lk ?_ (by first | assumption | decide); first | assumption | exact mr_up_same _ _ _ | (refine mr_lk ?_ (by first | assumption | decide); first | assumption | exact mr_up_same _ _ _))))) ?_
        refine mw_addsR (li := 0) (M := R 0) (L := L (md - 1)) hM4 rfl hMM hec3 (mr_Fo_Li hFNr.1) hp4 (fun w5 st5 li5 n5 hp5 hM5 hF5 => ?_)
        obtain ⟨h18, h19, h20, h21, h22, h23, h24, h25, h26, h27, hs1, hs2, hik⟩ := id hM5
        dsimp only [Option.toList_some, Option.toList_none, List.cons_append, List.nil_append]
        refine mr_aload_n dX7_readRow_64 rfl ?_
        refine mr_get dX7_readRow_65 fl_X7_89 (by first | assumption | exact mr_up_same _ _ _ | (refine mr_lk ?_ (by first | assumption | decide); first | assumption | exact mr_up_same _ _ _ | (refine mr_lk ?_ (by first | assumption | decide); first | assumption | exact mr_up_same _ _ _ | (refine mr_lk ?_ (by first | assumption | decide); first | assumption | exact mr_up_same _ _ _ | (refine mr_lk ?_ (by first | assumption | decide); first | assumption | exact mr_up_same _ _ _))))) rfl ?_
        refine mr_aload_n dX7_readRow_68 rfl ?_
        refine mr_get dX7_readRow_69 fl_X7_102 (by first | assumption | exact mr_up_same _ _ _ | (refine mr_lk ?_ (by first | assumption | decide); first | assumption | exact mr_up_same _ _ _ | (refine mr_lk ?_ (by first | assumption | decide); first | assumption | exact mr_up_same _ _ _ | (refine mr_lk ?_ (by first | assumption | decide); first | assumption | exact mr_up_same _ _ _ | (refine mr_lk ?_ (by first | assumption | decide); first | assumption | exact mr_up_same _ _ _))))) rfl ?_
        refine mr_aload_n dX7_readRow_72 rfl ?_
        refine mr_get dX7_readRow_73 fl_X7_121 (by first | assumption | exact mr_up_same _ _ _ | (refine mr_lk ?_ (by first | assumption | decide); first | assumption | exact mr_up_same _ _ _ | (refine mr_lk ?_ (by first | assumption | decide); first | assumption | exact mr_up_same _ _ _ | (refine mr_lk ?_ (by first | assumption | decide); first | assumption | exact mr_up_same _ _ _ | (refine mr_lk ?_ (by first | assumption | decide); first | assumption | exact mr_up_same _ _ _))))) rfl ?_
        refine mr_iconst dX7_readRow_76 ?_
        refine mr_isub dX7_readRow_77 ?_
        refine mr_callS (as := [_, _, _]) dX7_readRow_78 (ok_X7_keeps l G) ml_X7_136 cl_X7_keeps cs_X7_keeps (by decide) rfl rfl (Nat.le_of_ble_eq_true rfl) ?_
        refine mw_keepsR (W := W) (F := mr_br (mr_abs f nm3 (md - 1) mr_Zz mr_Zz) (md - 1)) (L := mr_LA (L (md - 1)) (mr_dec (R 0) (mr_ec (R 0) nm3))) hM5 rfl hMM ⟨by omega, by omega⟩ hFoR (mr_Lp_St hp5) (fun w6 hM6 hF6 => ?_)
        obtain ⟨h18, h19, h20, h21, h22, h23, h24, h25, h26, h27, hs1, hs2, hik⟩ := id hM6
        dsimp only [Option.toList_some, Option.toList_none, List.cons_append, List.nil_append]
        refine mr_iconst dX7_readRow_81 ?_
        refine mr_zret rfl (Or.inr rfl) dX7_readRow_82 ?_
        first
          | (exfalso; omega)
          | exact hG w6 _ _ _ _ _ _ _ n3 _ _ _ ⟨by omega, hn3.2⟩ hTk3 ⟨3, W, _, _, hat3, by decide, by unfold mr_due; rw [if_neg (by decide), if_neg (by decide), hf1]; omega, by omega, rfl, hmd, M, W, _, hWB2, by rw [hR0]; exact mr_Cq_abs hWB hCq ⟨by omega, by omega⟩⟩ hM6 (hF1.tr (hF3.tr (hF4.tr (hF5.tr hF6))))
      · refine mr_iconst dX7_readRow_31 ?_
        refine mr_zret rfl (Or.inl rfl) dX7_readRow_32 ?_
        first
          | exact hB w3 _ _ _ _ _ _ _ _ _ _ _ _ hC3 hnb3 hwd3 hM3 (hF1.tr hF3)
          | (exfalso; omega)
  · refine mr_aload_n dX7_readRow_7 rfl ?_
    refine mr_iconst dX7_readRow_8 ?_
    refine mr_callV (as := [_]) dX7_readRow_9 (ok_X7_bad l G) ml_X7_111 cl_X7_bad cv_X7_bad (by decide) rfl rfl (Nat.le_of_ble_eq_true rfl) (by first | assumption | exact mr_up_same _ _ _ | (refine mr_lk ?_ (by first | assumption | decide); first | assumption | exact mr_up_same _ _ _ | (refine mr_lk ?_ (by first | assumption | decide); first | assumption | exact mr_up_same _ _ _ | (refine mr_lk ?_ (by first | assumption | decide); first | assumption | exact mr_up_same _ _ _ | (refine mr_lk ?_ (by first | assumption | decide); first | assumption | exact mr_up_same _ _ _))))) ?_
    refine ⟨_, _, _, _, _, _, _, _, _, _, _, _, _, _, _, _, _, _, _, _, _, _, _, _, rfl, hM, ⟨by omega, by omega⟩, (fun w7 hM7 hF7 => ?_)⟩
    dsimp only [Option.toList_some, Option.toList_none, List.cons_append, List.nil_append]
    refine mr_zret rfl (Or.inl rfl) dX7_readRow_12 ?_
    have h9 := hM7
    rw [mr_if1, hTk.1] at h9
    exact hB w7 _ _ _ _ _ _ _ 1 _ _ _ _ (mr_at_bad hn hat (fun z => by omega) ((mr_tt_l1 hln).2.2.2.1 hw1 hw (by omega))) hTk.2.2.2.2.2.2.1 hTk.2.2.2.2.2.1 h9 hF7
