/-- what has been read, on both sides -/
def mr_Rq (f R : Nat → Int) (ln : Int) : Prop := (ln = 0 ∧ (∀ j : Nat, j < 21 → R j = 0) ∧ ∀ j : Nat, f j = 0) ∨ (ln ≠ 0 ∧ ∃ (M : Int) (W : Nat) (L : Int → mr_V → Prop), mr_WB f M W L ∧ mr_Cq f R)
theorem mr_Rq_0 {f R : Nat → Int} {ln : Int} (h : mr_Rq f R ln) : (0 ≤ R 0 ∧ R 0 ≤ 30) ∧ (R 0 = 0 ↔ ln = 0) := by
  rcases h with ⟨h1, h2, h3⟩ | ⟨h1, M, W, L, h2, h3⟩
  · have := h2 0 (by decide); omega
  · have a := h3.1
    have b := h2.1
    have c := h2.2.2.1
    omega
theorem mr_Rq_1 {f R : Nat → Int} {ln : Int} (h : mr_Rq f R ln) (hl : ln ≠ 0) : ∃ (M : Int) (W : Nat) (L : Int → mr_V → Prop), mr_WB f M W L ∧ mr_Cq f R := by
  rcases h with ⟨h1, h2, h3⟩ | ⟨h1, h2⟩
  · exact absurd h1 hl
  · exact h2
theorem mr_Rq_z {f R : Nat → Int} {ln : Int} (h : mr_Rq f R ln) (hl : ln = 0) : ∀ j : Nat, j < 21 → R j = 0 := by
  rcases h with ⟨h1, h2, h3⟩ | ⟨h1, h2⟩
  · exact h2
  · exact absurd hl h1
def T_X7_readLine (a : List mr_AV) (w : mr_Wd) (Po : Option mr_AV → mr_Wd → Prop) : Prop := ∃ (th tp sz zo fr kd nb ft pl wd sm md li sd : Int) (T N R K Sn ik s1 s2 ls : Nat → Int) (g f nm : Nat → Int) (C : mr_Ct9) (sl ln n v : Int), a = [vR 18 0] ∧ mr_MW w th tp sz zo fr kd nb ft pl wd sm md li sd T N R K Sn ik s1 s2 ls ∧ (0 ≤ sz ∧ sz ≤ 540) ∧ (∀ j : Nat, (j : Int) < sz → T j = mr_ba sz g j) ∧ (0 ≤ n ∧ n ≤ sz) ∧ mr_Tok sz g n fr kd nb wd zo ∧ mr_at sz g C n 0 sl ln md f nm v ∧ (0 ≤ md ∧ md ≤ 4) ∧ kd ≠ 0 ∧ mr_Rq f R ln ∧ (∀ (w' : mr_Wd) (zo' fr' kd' nb' wd' md' li' a b : Int) (R' s1' ls' : Nat → Int), C = .inl (a, b) → (-1000000 ≤ nb' ∧ nb' ≤ 1000000) → InL wd' → mr_MW w' th tp sz (zo') (fr') (kd') (nb') (a) (b) (wd') sm (md') (li') sd T N (R') K Sn ik (s1') s2 (ls') → mr_FM w w' → Po (some (vI 0)) w') ∧ (∀ (w' : mr_Wd) (zo' fr' kd' nb' wd' md' li' n' : Int) (R' s1' ls' : Nat → Int), (n < n' ∧ n' ≤ sz) → mr_Tok sz g n' fr' kd' nb' wd' zo' → mr_RL sz g C ln md f R' md' n' → mr_MW w' th tp sz (zo') (fr') (kd') (nb') ft pl (wd') sm (md') (li') sd T N (R') K Sn ik (s1') s2 (ls') → mr_FM w w' → Po (some (vI 1)) w')
set_option maxHeartbeats 4000000 in
set_option maxRecDepth 20000 in
theorem ok_X7_readLine (l : Launch) (G : mr_G) : mr_Ok l G yX7_readLine cX7_readLine 1 (some .boolean) 4 94 T_X7_readLine := by
  refine mr_Ok.of (by decide +kernel) ?_
  rintro a w Po ⟨th, tp, sz, zo, fr, kd, nb, ft, pl, wd, sm, md, li, sd, T, N, R, K, Sn, ik, s1, s2, ls, g, f, nm, C, sl, ln, n, v, rfl, hM, hsz, hT, hn, hTk, hat, hmd, hkd0, hRq, hB, hG⟩
  refine ⟨Nat.le_of_ble_eq_true rfl, ?_⟩
  show mr_J l G RX7 cX7_readLine 1 (some .boolean) 4 94 Po 0 [some (vR 18 0)] [] w
  obtain ⟨h18, h19, h20, h21, h22, h23, h24, h25, h26, h27, hs1, hs2, hik⟩ := id hM
  have hkb := mr_kdR hsz hn hTk
  have hr0 := mr_Rq_0 hRq
  refine mr_aload_n dX7_readLine_0 rfl ?_
  refine mr_get dX7_readLine_1 fl_X7_89 (by first | assumption | exact mr_up_same _ _ _ | (refine mr_lk ?_ (by first | assumption | decide); first | assumption | exact mr_up_same _ _ _ | (refine mr_lk ?_ (by first | assumption | decide); first | assumption | exact mr_up_same _ _ _ | (refine mr_lk ?_ (by first | assumption | decide); first | assumption | exact mr_up_same _ _ _ | (refine mr_lk ?_ (by first | assumption | decide); first | assumption | exact mr_up_same _ _ _))))) rfl ?_
  refine mr_iconst dX7_readLine_4 ?_
  refine mr_ialdK 0 dX7_readLine_5 (by first | assumption | exact mr_up_same _ _ _ | (refine mr_lk ?_ (by first | assumption | decide); first | assumption | exact mr_up_same _ _ _ | (refine mr_lk ?_ (by first | assumption | decide); first | assumption | exact mr_up_same _ _ _ | (refine mr_lk ?_ (by first | assumption | decide); first | assumption | exact mr_up_same _ _ _ | (refine mr_lk ?_ (by first | assumption | decide); first | assumption | exact mr_up_same _ _ _))))) (by decide) (by decide) ?_
  refine mr_if_ne (tgt := 29) dX7_readLine_6 (by decide) ⟨by omega, by omega⟩ (fun hc_6 => ?_) (fun hc_6 => ?_)
  · have hl1 : ln ≠ 0 := fun z => hc_6 (hr0.2.mpr z)
    refine mr_aload_n dX7_readLine_29 rfl ?_
    refine mr_callV (as := []) dX7_readLine_30 (ok_X7_isModule l G) ml_X7_149 cl_X7_isModule cv_X7_isModule (by decide) rfl rfl (Nat.le_of_ble_eq_true rfl) (by first | assumption | exact mr_up_same _ _ _ | (refine mr_lk ?_ (by first | assumption | decide); first | assumption | exact mr_up_same _ _ _ | (refine mr_lk ?_ (by first | assumption | decide); first | assumption | exact mr_up_same _ _ _ | (refine mr_lk ?_ (by first | assumption | decide); first | assumption | exact mr_up_same _ _ _ | (refine mr_lk ?_ (by first | assumption | decide); first | assumption | exact mr_up_same _ _ _))))) ?_
    have hw1 := mr_isw_e hsz hn hTk (j := 1) (by decide)
    refine ⟨_, _, _, _, _, _, _, _, _, _, _, _, _, _, rfl, (by first | assumption | exact mr_up_same _ _ _ | (refine mr_lk ?_ (by first | assumption | decide); first | assumption | exact mr_up_same _ _ _ | (refine mr_lk ?_ (by first | assumption | decide); first | assumption | exact mr_up_same _ _ _ | (refine mr_lk ?_ (by first | assumption | decide); first | assumption | exact mr_up_same _ _ _ | (refine mr_lk ?_ (by first | assumption | decide); first | assumption | exact mr_up_same _ _ _))))), ⟨by omega, by omega⟩, hTk.2.2.2.2.2.1, ?_, ?_⟩
    · intro kb
      dsimp only [Option.toList_some, Option.toList_none, List.cons_append, List.nil_append]
      refine mr_if_eq (tgt := 41) dX7_readLine_33 (by decide) (by omega) (fun h => absurd h (by decide)) (fun _ => ?_)
      refine mr_aload_n dX7_readLine_36 rfl ?_
      refine mr_callV (as := []) dX7_readLine_37 (ok_X7_readModule l G) ml_X7_152 cl_X7_readModule cv_X7_readModule (by decide) rfl rfl (Nat.le_of_ble_eq_true rfl) (by first | assumption | exact mr_up_same _ _ _ | (refine mr_lk ?_ (by first | assumption | decide); first | assumption | exact mr_up_same _ _ _ | (refine mr_lk ?_ (by first | assumption | decide); first | assumption | exact mr_up_same _ _ _ | (refine mr_lk ?_ (by first | assumption | decide); first | assumption | exact mr_up_same _ _ _ | (refine mr_lk ?_ (by first | assumption | decide); first | assumption | exact mr_up_same _ _ _))))) ?_
      refine ⟨_, _, _, _, _, _, _, _, _, _, _, _, _, _, _, _, _, _, _, _, _, _, _, g, f, nm, C, sl, ln, n, v, rfl, hM, hsz, hT, hn, hTk, hat, hmd, hl1, hw1.mp kb, mr_Rq_1 hRq hl1, ?_, ?_⟩
      · intro w1 zo1 fr1 kd1 nb1 wd1 md1 li1 a1 b1 R1 s11 ls1 hC1 hnb1 hwd1 hM1 hF1
        obtain ⟨h18, h19, h20, h21, h22, h23, h24, h25, h26, h27, hs1, hs2, hik⟩ := id hM1
        dsimp only [Option.toList_some, Option.toList_none, List.cons_append, List.nil_append]
        refine mr_zret rfl (Or.inl rfl) dX7_readLine_40 ?_
        exact hB w1 _ _ _ _ _ _ _ _ _ _ _ _ hC1 hnb1 hwd1 hM1 hF1
      · intro w2 zo2 fr2 kd2 nb2 wd2 md2 li2 n2 R2 s12 ls2 hn2 hTk2 hRL2 hM2 hF2
        obtain ⟨h18, h19, h20, h21, h22, h23, h24, h25, h26, h27, hs1, hs2, hik⟩ := id hM2
        dsimp only [Option.toList_some, Option.toList_none, List.cons_append, List.nil_append]
        refine mr_zret rfl (Or.inr rfl) dX7_readLine_40 ?_
        exact hG w2 _ _ _ _ _ _ _ n2 _ _ _ hn2 hTk2 hRL2 hM2 hF2
    · intro kb
      dsimp only [Option.toList_some, Option.toList_none, List.cons_append, List.nil_append]
      refine mr_if_eq (tgt := 41) dX7_readLine_33 (by decide) (by omega) (fun _ => ?_) (fun h => absurd h (by decide))
      refine mr_aload_n dX7_readLine_41 rfl ?_
      refine mr_callV (as := []) dX7_readLine_42 (ok_X7_isRowWord l G) ml_X7_155 cl_X7_isRowWord cv_X7_isRowWord (by decide) rfl rfl (Nat.le_of_ble_eq_true rfl) (by first | assumption | exact mr_up_same _ _ _ | (refine mr_lk ?_ (by first | assumption | decide); first | assumption | exact mr_up_same _ _ _ | (refine mr_lk ?_ (by first | assumption | decide); first | assumption | exact mr_up_same _ _ _ | (refine mr_lk ?_ (by first | assumption | decide); first | assumption | exact mr_up_same _ _ _ | (refine mr_lk ?_ (by first | assumption | decide); first | assumption | exact mr_up_same _ _ _))))) ?_
      have hw2 := mr_isw_e hsz hn hTk (j := 2) (by decide)
      refine ⟨_, _, _, _, _, _, _, _, _, _, _, _, _, _, rfl, (by first | assumption | exact mr_up_same _ _ _ | (refine mr_lk ?_ (by first | assumption | decide); first | assumption | exact mr_up_same _ _ _ | (refine mr_lk ?_ (by first | assumption | decide); first | assumption | exact mr_up_same _ _ _ | (refine mr_lk ?_ (by first | assumption | decide); first | assumption | exact mr_up_same _ _ _ | (refine mr_lk ?_ (by first | assumption | decide); first | assumption | exact mr_up_same _ _ _))))), ⟨by omega, by omega⟩, hTk.2.2.2.2.2.1, ?_, ?_⟩
      · intro kc
        dsimp only [Option.toList_some, Option.toList_none, List.cons_append, List.nil_append]
        refine mr_if_eq (tgt := 53) dX7_readLine_45 (by decide) (by omega) (fun h => absurd h (by decide)) (fun _ => ?_)
        refine mr_aload_n dX7_readLine_48 rfl ?_
        refine mr_callV (as := []) dX7_readLine_49 (ok_X7_readRow l G) ml_X7_158 cl_X7_readRow cv_X7_readRow (by decide) rfl rfl (Nat.le_of_ble_eq_true rfl) (by first | assumption | exact mr_up_same _ _ _ | (refine mr_lk ?_ (by first | assumption | decide); first | assumption | exact mr_up_same _ _ _ | (refine mr_lk ?_ (by first | assumption | decide); first | assumption | exact mr_up_same _ _ _ | (refine mr_lk ?_ (by first | assumption | decide); first | assumption | exact mr_up_same _ _ _ | (refine mr_lk ?_ (by first | assumption | decide); first | assumption | exact mr_up_same _ _ _))))) ?_
        refine ⟨_, _, _, _, _, _, _, _, _, _, _, _, _, _, _, _, _, _, _, _, _, _, _, g, f, nm, C, sl, ln, n, v, rfl, hM, hsz, hT, hn, hTk, hat, hmd, hl1, (fun z => kb (hw1.mpr z)), hw2.mp kc, mr_Rq_1 hRq hl1, ?_, ?_⟩
        · intro w3 zo3 fr3 kd3 nb3 wd3 md3 li3 a3 b3 R3 s13 ls3 hC3 hnb3 hwd3 hM3 hF3
          obtain ⟨h18, h19, h20, h21, h22, h23, h24, h25, h26, h27, hs1, hs2, hik⟩ := id hM3
          dsimp only [Option.toList_some, Option.toList_none, List.cons_append, List.nil_append]
          refine mr_zret rfl (Or.inl rfl) dX7_readLine_52 ?_
          exact hB w3 _ _ _ _ _ _ _ _ _ _ _ _ hC3 hnb3 hwd3 hM3 hF3
        · intro w4 zo4 fr4 kd4 nb4 wd4 md4 li4 n4 R4 s14 ls4 hn4 hTk4 hRL4 hM4 hF4
          obtain ⟨h18, h19, h20, h21, h22, h23, h24, h25, h26, h27, hs1, hs2, hik⟩ := id hM4
          dsimp only [Option.toList_some, Option.toList_none, List.cons_append, List.nil_append]
          refine mr_zret rfl (Or.inr rfl) dX7_readLine_52 ?_
          exact hG w4 _ _ _ _ _ _ _ n4 _ _ _ hn4 hTk4 hRL4 hM4 hF4
      · intro kc
        dsimp only [Option.toList_some, Option.toList_none, List.cons_append, List.nil_append]
        refine mr_if_eq (tgt := 53) dX7_readLine_45 (by decide) (by omega) (fun _ => ?_) (fun h => absurd h (by decide))
        refine mr_aload_n dX7_readLine_53 rfl ?_
        refine mr_callV (as := []) dX7_readLine_54 (ok_X7_isEquation l G) ml_X7_161 cl_X7_isEquation cv_X7_isEquation (by decide) rfl rfl (Nat.le_of_ble_eq_true rfl) (by first | assumption | exact mr_up_same _ _ _ | (refine mr_lk ?_ (by first | assumption | decide); first | assumption | exact mr_up_same _ _ _ | (refine mr_lk ?_ (by first | assumption | decide); first | assumption | exact mr_up_same _ _ _ | (refine mr_lk ?_ (by first | assumption | decide); first | assumption | exact mr_up_same _ _ _ | (refine mr_lk ?_ (by first | assumption | decide); first | assumption | exact mr_up_same _ _ _))))) ?_
        have hw3 := mr_isw_e hsz hn hTk (j := 3) (by decide)
        refine ⟨_, _, _, _, _, _, _, _, _, _, _, _, _, _, rfl, (by first | assumption | exact mr_up_same _ _ _ | (refine mr_lk ?_ (by first | assumption | decide); first | assumption | exact mr_up_same _ _ _ | (refine mr_lk ?_ (by first | assumption | decide); first | assumption | exact mr_up_same _ _ _ | (refine mr_lk ?_ (by first | assumption | decide); first | assumption | exact mr_up_same _ _ _ | (refine mr_lk ?_ (by first | assumption | decide); first | assumption | exact mr_up_same _ _ _))))), ⟨by omega, by omega⟩, hTk.2.2.2.2.2.1, ?_, ?_⟩
        · intro kd9
          dsimp only [Option.toList_some, Option.toList_none, List.cons_append, List.nil_append]
          refine mr_if_eq (tgt := 67) dX7_readLine_57 (by decide) (by omega) (fun h => absurd h (by decide)) (fun _ => ?_)
          refine mr_aload_n dX7_readLine_60 rfl ?_
          refine mr_callV (as := []) dX7_readLine_61 (ok_X7_readEquation l G) ml_X7_164 cl_X7_readEquation cv_X7_readEquation (by decide) rfl rfl (Nat.le_of_ble_eq_true rfl) (by first | assumption | exact mr_up_same _ _ _ | (refine mr_lk ?_ (by first | assumption | decide); first | assumption | exact mr_up_same _ _ _ | (refine mr_lk ?_ (by first | assumption | decide); first | assumption | exact mr_up_same _ _ _ | (refine mr_lk ?_ (by first | assumption | decide); first | assumption | exact mr_up_same _ _ _ | (refine mr_lk ?_ (by first | assumption | decide); first | assumption | exact mr_up_same _ _ _))))) ?_
          refine ⟨_, _, _, _, _, _, _, _, _, _, _, _, _, _, _, _, _, _, _, _, _, _, _, g, f, nm, C, sl, ln, n, v, rfl, hM, hsz, hT, hn, hTk, hat, hmd, hl1, (fun z => kb (hw1.mpr z)), (fun z => kc (hw2.mpr z)), hw3.mp kd9, mr_Rq_1 hRq hl1, ?_, ?_⟩
          · intro w5 zo5 fr5 kd5 nb5 wd5 md5 li5 a5 b5 R5 s15 ls5 hC5 hnb5 hwd5 hM5 hF5
            obtain ⟨h18, h19, h20, h21, h22, h23, h24, h25, h26, h27, hs1, hs2, hik⟩ := id hM5
            dsimp only [Option.toList_some, Option.toList_none, List.cons_append, List.nil_append]
            refine mr_goto (tgt := 72) dX7_readLine_64 (by decide) ?_
            refine mr_zret rfl (Or.inl rfl) dX7_readLine_72 ?_
            exact hB w5 _ _ _ _ _ _ _ _ _ _ _ _ hC5 hnb5 hwd5 hM5 hF5
          · intro w6 zo6 fr6 kd6 nb6 wd6 md6 li6 n6 R6 s16 ls6 hn6 hTk6 hRL6 hM6 hF6
            obtain ⟨h18, h19, h20, h21, h22, h23, h24, h25, h26, h27, hs1, hs2, hik⟩ := id hM6
            dsimp only [Option.toList_some, Option.toList_none, List.cons_append, List.nil_append]
            refine mr_goto (tgt := 72) dX7_readLine_64 (by decide) ?_
            refine mr_zret rfl (Or.inr rfl) dX7_readLine_72 ?_
            exact hG w6 _ _ _ _ _ _ _ n6 _ _ _ hn6 hTk6 hRL6 hM6 hF6
        · intro kd9
          dsimp only [Option.toList_some, Option.toList_none, List.cons_append, List.nil_append]
          refine mr_if_eq (tgt := 67) dX7_readLine_57 (by decide) (by omega) (fun _ => ?_) (fun h => absurd h (by decide))
          refine mr_aload_n dX7_readLine_67 rfl ?_
          refine mr_iconst dX7_readLine_68 ?_
          refine mr_callV (as := [_]) dX7_readLine_69 (ok_X7_bad l G) ml_X7_111 cl_X7_bad cv_X7_bad (by decide) rfl rfl (Nat.le_of_ble_eq_true rfl) (by first | assumption | exact mr_up_same _ _ _ | (refine mr_lk ?_ (by first | assumption | decide); first | assumption | exact mr_up_same _ _ _ | (refine mr_lk ?_ (by first | assumption | decide); first | assumption | exact mr_up_same _ _ _ | (refine mr_lk ?_ (by first | assumption | decide); first | assumption | exact mr_up_same _ _ _ | (refine mr_lk ?_ (by first | assumption | decide); first | assumption | exact mr_up_same _ _ _))))) ?_
          refine ⟨_, _, _, _, _, _, _, _, _, _, _, _, _, _, _, _, _, _, _, _, _, _, _, _, rfl, hM, ⟨by omega, by omega⟩, (fun w7 hM7 hF7 => ?_)⟩
          dsimp only [Option.toList_some, Option.toList_none, List.cons_append, List.nil_append]
          refine mr_zret rfl (Or.inl rfl) dX7_readLine_72 ?_
          have h9 := hM7
          rw [mr_if1, hTk.1] at h9
          exact hB w7 _ _ _ _ _ _ _ 1 _ _ _ _ (mr_at_bad hn hat (fun z => hkd0 (hkb.2.2.2.2.mpr ⟨z.1, z.2.2⟩)) ((mr_tt_l1 hl1).2.2.2.2.2.2 (fun z => kb (hw1.mpr z)) (fun z => kc (hw2.mpr z)) (fun z => kd9 (hw3.mpr z)))) hTk.2.2.2.2.2.2.1 hTk.2.2.2.2.2.1 h9 hF7
  · have hl0 : ln = 0 := hr0.2.mp hc_6
    refine mr_aload_n dX7_readLine_9 rfl ?_
    refine mr_callV (as := []) dX7_readLine_10 (ok_X7_isModulo l G) ml_X7_143 cl_X7_isModulo cv_X7_isModulo (by decide) rfl rfl (Nat.le_of_ble_eq_true rfl) (by first | assumption | exact mr_up_same _ _ _ | (refine mr_lk ?_ (by first | assumption | decide); first | assumption | exact mr_up_same _ _ _ | (refine mr_lk ?_ (by first | assumption | decide); first | assumption | exact mr_up_same _ _ _ | (refine mr_lk ?_ (by first | assumption | decide); first | assumption | exact mr_up_same _ _ _ | (refine mr_lk ?_ (by first | assumption | decide); first | assumption | exact mr_up_same _ _ _))))) ?_
    have hw0 := mr_isw_e hsz hn hTk (j := 0) (by decide)
    refine ⟨_, _, _, _, _, _, _, _, _, _, _, _, _, _, rfl, (by first | assumption | exact mr_up_same _ _ _ | (refine mr_lk ?_ (by first | assumption | decide); first | assumption | exact mr_up_same _ _ _ | (refine mr_lk ?_ (by first | assumption | decide); first | assumption | exact mr_up_same _ _ _ | (refine mr_lk ?_ (by first | assumption | decide); first | assumption | exact mr_up_same _ _ _ | (refine mr_lk ?_ (by first | assumption | decide); first | assumption | exact mr_up_same _ _ _))))), ⟨by omega, by omega⟩, hTk.2.2.2.2.2.1, ?_, ?_⟩
    · intro ka
      dsimp only [Option.toList_some, Option.toList_none, List.cons_append, List.nil_append]
      refine mr_if_eq (tgt := 23) dX7_readLine_13 (by decide) (by omega) (fun h => absurd h (by decide)) (fun _ => ?_)
      refine mr_aload_n dX7_readLine_16 rfl ?_
      refine mr_callV (as := []) dX7_readLine_17 (ok_X7_readModulo l G) ml_X7_146 cl_X7_readModulo cv_X7_readModulo (by decide) rfl rfl (Nat.le_of_ble_eq_true rfl) (by first | assumption | exact mr_up_same _ _ _ | (refine mr_lk ?_ (by first | assumption | decide); first | assumption | exact mr_up_same _ _ _ | (refine mr_lk ?_ (by first | assumption | decide); first | assumption | exact mr_up_same _ _ _ | (refine mr_lk ?_ (by first | assumption | decide); first | assumption | exact mr_up_same _ _ _ | (refine mr_lk ?_ (by first | assumption | decide); first | assumption | exact mr_up_same _ _ _))))) ?_
      refine ⟨_, _, _, _, _, _, _, _, _, _, _, _, _, _, _, _, _, _, _, _, _, _, _, g, f, nm, C, sl, ln, n, v, rfl, hM, hsz, hT, hn, hTk, hat, hmd, hl0, hw0.mp ka, mr_Rq_z hRq hl0, ?_, ?_⟩
      · intro w8 zo8 fr8 kd8 nb8 wd8 md8 li8 a8 b8 R8 s18 ls8 hC8 hnb8 hwd8 hM8 hF8
        obtain ⟨h18, h19, h20, h21, h22, h23, h24, h25, h26, h27, hs1, hs2, hik⟩ := id hM8
        dsimp only [Option.toList_some, Option.toList_none, List.cons_append, List.nil_append]
        refine mr_goto (tgt := 28) dX7_readLine_20 (by decide) ?_
        refine mr_zret rfl (Or.inl rfl) dX7_readLine_28 ?_
        exact hB w8 _ _ _ _ _ _ _ _ _ _ _ _ hC8 hnb8 hwd8 hM8 hF8
      · intro w9 zo9 fr9 kd9 nb9 wd9 md9 li9 n9 R9 s19 ls9 hn9 hTk9 hRL9 hM9 hF9
        obtain ⟨h18, h19, h20, h21, h22, h23, h24, h25, h26, h27, hs1, hs2, hik⟩ := id hM9
        dsimp only [Option.toList_some, Option.toList_none, List.cons_append, List.nil_append]
        refine mr_goto (tgt := 28) dX7_readLine_20 (by decide) ?_
        refine mr_zret rfl (Or.inr rfl) dX7_readLine_28 ?_
        exact hG w9 _ _ _ _ _ _ _ n9 _ _ _ hn9 hTk9 hRL9 hM9 hF9
    · intro ka
      dsimp only [Option.toList_some, Option.toList_none, List.cons_append, List.nil_append]
      refine mr_if_eq (tgt := 23) dX7_readLine_13 (by decide) (by omega) (fun _ => ?_) (fun h => absurd h (by decide))
      refine mr_aload_n dX7_readLine_23 rfl ?_
      refine mr_iconst dX7_readLine_24 ?_
      refine mr_callV (as := [_]) dX7_readLine_25 (ok_X7_bad l G) ml_X7_111 cl_X7_bad cv_X7_bad (by decide) rfl rfl (Nat.le_of_ble_eq_true rfl) (by first | assumption | exact mr_up_same _ _ _ | (refine mr_lk ?_ (by first | assumption | decide); first | assumption | exact mr_up_same _ _ _ | (refine mr_lk ?_ (by first | assumption | decide); first | assumption | exact mr_up_same _ _ _ | (refine mr_lk ?_ (by first | assumption | decide); first | assumption | exact mr_up_same _ _ _ | (refine mr_lk ?_ (by first | assumption | decide); first | assumption | exact mr_up_same _ _ _))))) ?_
      refine ⟨_, _, _, _, _, _, _, _, _, _, _, _, _, _, _, _, _, _, _, _, _, _, _, _, rfl, hM, ⟨by omega, by omega⟩, (fun w10 hM10 hF10 => ?_)⟩
      dsimp only [Option.toList_some, Option.toList_none, List.cons_append, List.nil_append]
      refine mr_zret rfl (Or.inl rfl) dX7_readLine_28 ?_
      have h9 := hM10
      rw [mr_if1, hTk.1] at h9
      exact hB w10 _ _ _ _ _ _ _ 1 _ _ _ _ (mr_at_bad hn hat (fun z => hkd0 (hkb.2.2.2.2.mpr ⟨z.1, z.2.2⟩)) ((mr_tt_l0 hl0).2 (fun z => ka (hw0.mpr z)))) hTk.2.2.2.2.2.2.1 hTk.2.2.2.2.2.1 h9 hF10
def T_X7_readEnd (a : List mr_AV) (w : mr_Wd) (Po : Option mr_AV → mr_Wd → Prop) : Prop := ∃ (th tp sz zo fr kd nb ft pl wd sm md li sd : Int) (T N R K Sn ik s1 s2 ls : Nat → Int) (g f : Nat → Int) (C : mr_Ct9) (ln md0 n : Int), a = [vR 18 0] ∧ mr_MW w th tp sz zo fr kd nb ft pl wd sm md li sd T N R K Sn ik s1 s2 ls ∧ (0 ≤ sz ∧ sz ≤ 540) ∧ (∀ j : Nat, (j : Int) < sz → T j = mr_ba sz g j) ∧ (0 ≤ n ∧ n ≤ sz) ∧ mr_Tok sz g n fr kd nb wd zo ∧ mr_RL sz g C ln md0 f R md n ∧ (∀ (w' : mr_Wd) (a b : Int), C = .inl (a, b) → mr_MW w' th tp sz zo fr kd nb (a) (b) wd sm md li sd T N R K Sn ik s1 s2 ls → mr_FM w w' → Po (some (vI 0)) w') ∧ (∀ (w' : mr_Wd) (zo' fr' kd' nb' wd' n' sl' v' : Int) (f2 nm' : Nat → Int), (n < n' ∧ n' ≤ sz) → mr_Tok sz g n' fr' kd' nb' wd' zo' → mr_at sz g C n' 0 sl' (ln + 1) md f2 nm' v' → (∃ (M : Int) (W : Nat) (L : Int → mr_V → Prop), mr_WB f2 M W L ∧ mr_Cq f2 R) → mr_MW w' th tp sz (zo') (fr') (kd') (nb') ft pl (wd') sm md li sd T N R K Sn ik s1 s2 ls → mr_FM w w' → Po (some (vI 1)) w')
set_option maxHeartbeats 4000000 in
set_option maxRecDepth 20000 in
theorem ok_X7_readEnd (l : Launch) (G : mr_G) : mr_Ok l G yX7_readEnd cX7_readEnd 1 (some .boolean) 2 45 T_X7_readEnd := by
  refine mr_Ok.of (by decide +kernel) ?_
  rintro a w Po ⟨th, tp, sz, zo, fr, kd, nb, ft, pl, wd, sm, md, li, sd, T, N, R, K, Sn, ik, s1, s2, ls, g, f, C, ln, md0, n, rfl, hM, hsz, hT, hn, hTk, ⟨op, sl, v, nm, hat, h0, hs, h4, hmd, hmdb, hEx⟩, hB, hG⟩
  refine ⟨Nat.le_of_ble_eq_true rfl, ?_⟩
  show mr_J l G RX7 cX7_readEnd 1 (some .boolean) 2 45 Po 0 [some (vR 18 0)] [] w
  obtain ⟨h18, h19, h20, h21, h22, h23, h24, h25, h26, h27, hs1, hs2, hik⟩ := id hM
  have hkb := mr_kdR hsz hn hTk
  refine mr_aload_n dX7_readEnd_0 rfl ?_
  refine mr_get dX7_readEnd_1 fl_X7_27 (by first | assumption | exact mr_up_same _ _ _ | (refine mr_lk ?_ (by first | assumption | decide); first | assumption | exact mr_up_same _ _ _ | (refine mr_lk ?_ (by first | assumption | decide); first | assumption | exact mr_up_same _ _ _ | (refine mr_lk ?_ (by first | assumption | decide); first | assumption | exact mr_up_same _ _ _ | (refine mr_lk ?_ (by first | assumption | decide); first | assumption | exact mr_up_same _ _ _))))) rfl ?_
  refine mr_iconst dX7_readEnd_4 ?_
  refine mr_icmp_eq (tgt := 14) dX7_readEnd_5 (by decide) ⟨by omega, by omega⟩ (by decide) (fun hc_5 => ?_) (fun hc_5 => ?_)
  · refine mr_aload_n dX7_readEnd_14 rfl ?_
    refine mr_callV (as := []) dX7_readEnd_15 (ok_X7_next l G) ml_X7_114 cl_X7_next cv_X7_next (by decide) rfl rfl (Nat.le_of_ble_eq_true rfl) (by first | assumption | exact mr_up_same _ _ _ | (refine mr_lk ?_ (by first | assumption | decide); first | assumption | exact mr_up_same _ _ _ | (refine mr_lk ?_ (by first | assumption | decide); first | assumption | exact mr_up_same _ _ _ | (refine mr_lk ?_ (by first | assumption | decide); first | assumption | exact mr_up_same _ _ _ | (refine mr_lk ?_ (by first | assumption | decide); first | assumption | exact mr_up_same _ _ _))))) ?_
    refine ⟨_, _, _, _, _, _, _, _, _, _, _, _, _, _, _, _, _, _, _, _, _, _, _, g, rfl, hM, hsz, hT, hTk.2.2.2.2.2.2.2, hTk.2.2.2.2.2.2.1, hTk.2.2.2.2.2.1, (fun w1 zo1 fr1 kd1 nb1 wd1 hTk1 hM1 hF1 => ?_)⟩
    obtain ⟨h18, h19, h20, h21, h22, h23, h24, h25, h26, h27, hs1, hs2, hik⟩ := id hM1
    have kb1 := mr_kdR hsz hTk.2.2.2.2.2.2.2 hTk1
    dsimp only [Option.toList_some, Option.toList_none, List.cons_append, List.nil_append]
    refine mr_iconst dX7_readEnd_18 ?_
    refine mr_zret rfl (Or.inr rfl) dX7_readEnd_19 ?_
    have hK4 := hkb.2.2.2.1.mp hc_5
    have hat2 := mr_at_line hsz hn hat hK4 ((mr_tt_stop h0 hs h4).1 hK4)
    have hvv : mr_vv sz g n v = v := by unfold mr_vv; rw [if_neg (by omega)]
    have ez : zo = mr_tX sz g n := hTk.2.2.1 (by omega)
    have hlt := (mr_tk_bd (g := g) hsz hn).2.2.2.1 (by omega)
    rw [hvv, ← hmd, ← ez] at hat2
    exact hG w1 _ _ _ _ _ zo _ _ _ _ ⟨by omega, hTk.2.2.2.2.2.2.2.2⟩ hTk1 hat2 hEx hM1 hF1
  · refine mr_aload_n dX7_readEnd_8 rfl ?_
    refine mr_iconst dX7_readEnd_9 ?_
    refine mr_callV (as := [_]) dX7_readEnd_10 (ok_X7_bad l G) ml_X7_111 cl_X7_bad cv_X7_bad (by decide) rfl rfl (Nat.le_of_ble_eq_true rfl) (by first | assumption | exact mr_up_same _ _ _ | (refine mr_lk ?_ (by first | assumption | decide); first | assumption | exact mr_up_same _ _ _ | (refine mr_lk ?_ (by first | assumption | decide); first | assumption | exact mr_up_same _ _ _ | (refine mr_lk ?_ (by first | assumption | decide); first | assumption | exact mr_up_same _ _ _ | (refine mr_lk ?_ (by first | assumption | decide); first | assumption | exact mr_up_same _ _ _))))) ?_
    refine ⟨_, _, _, _, _, _, _, _, _, _, _, _, _, _, _, _, _, _, _, _, _, _, _, _, rfl, hM, ⟨by omega, by omega⟩, (fun w2 hM2 hF2 => ?_)⟩
    dsimp only [Option.toList_some, Option.toList_none, List.cons_append, List.nil_append]
    refine mr_zret rfl (Or.inl rfl) dX7_readEnd_13 ?_
    have h9 := hM2
    rw [mr_if1, hTk.1] at h9
    rw [← hTk.1] at h9
    exact hB w2 1 _ (mr_at_bad hn hat (fun z => h0 z.2.1) ((mr_tt_stop h0 hs h4).2 (fun z => hc_5 (hkb.2.2.2.1.mpr z)))) (by rw [← hTk.1]; exact h9) hF2
set_option maxHeartbeats 4000000 in
set_option maxRecDepth 20000 in
theorem lp0_X7_text (l : Launch) (G : mr_G) {Po : Option mr_AV → mr_Wd → Prop} {w0 : mr_Wd} {th tp sz zo fr kd nb ft pl wd sm md li sd : Int} {T N R K Sn ik s1 s2 ls : Nat → Int} (hK : ∀ (w' : mr_Wd) (R' : Nat → Int), (∀ j : Nat, j < 21 → R' j = 0) → mr_MW w' th tp sz zo fr kd nb ft pl wd sm md li sd T N (R') K Sn ik s1 s2 ls → mr_FM w0 w' → mr_J l G RX7 cX7_text 3 (some .int) 5 114 Po 56 [some (vR 18 0), some (vI 0), none] [] w') : ∀ (n : Nat) (c : Int) (R : Nat → Int) (w : mr_Wd), 0 ≤ c → c + n = 21 → (∀ j : Nat, (j : Int) < c → R j = 0) → mr_MW w th tp sz zo fr kd nb ft pl wd sm md li sd T N R K Sn ik s1 s2 ls → mr_FM w0 w → mr_J l G RX7 cX7_text 3 (some .int) 5 114 Po 37 [some (vR 18 0), some (vI 0), some (vI c)] [] w := by
  intro n
  induction n with
  | zero =>
    intro c R w h0 hn hz hM hFr
    obtain ⟨h18, h19, h20, h21, h22, h23, h24, h25, h26, h27, hs1, hs2, hik⟩ := id hM
    refine mr_iload_n dX7_text_37 rfl ?_
    refine mr_bipush dX7_text_38 rfl ?_
    refine mr_icmp_ge (tgt := 56) dX7_text_40 (by decide) ⟨by omega, by omega⟩ (by decide) (fun hc_40 => ?_) (fun hc_40 => absurd hc_40 (by omega))
    refine mr_weak [some (vR 18 0), some (vI 0), none] ⟨rfl, rfl, trivial⟩ ?_
    exact hK w R (fun j hj => hz j (by omega)) hM hFr
  | succ n ih =>
    intro c R w h0 hn hz hM hFr
    obtain ⟨h18, h19, h20, h21, h22, h23, h24, h25, h26, h27, hs1, hs2, hik⟩ := id hM
    refine mr_iload_n dX7_text_37 rfl ?_
    refine mr_bipush dX7_text_38 rfl ?_
    refine mr_icmp_ge (tgt := 56) dX7_text_40 (by decide) ⟨by omega, by omega⟩ (by decide) (fun hc_40 => absurd hc_40 (by omega)) (fun hc_40 => ?_)
    refine mr_aload_n dX7_text_43 rfl ?_
    refine mr_get dX7_text_44 fl_X7_89 (by first | assumption | exact mr_up_same _ _ _ | (refine mr_lk ?_ (by first | assumption | decide); first | assumption | exact mr_up_same _ _ _ | (refine mr_lk ?_ (by first | assumption | decide); first | assumption | exact mr_up_same _ _ _ | (refine mr_lk ?_ (by first | assumption | decide); first | assumption | exact mr_up_same _ _ _ | (refine mr_lk ?_ (by first | assumption | decide); first | assumption | exact mr_up_same _ _ _))))) rfl ?_
    refine mr_iload_n dX7_text_47 rfl ?_
    refine mr_iconst dX7_text_48 ?_
    refine mr_iast dX7_text_49 (by first | assumption | exact mr_up_same _ _ _ | (refine mr_lk ?_ (by first | assumption | decide); first | assumption | exact mr_up_same _ _ _ | (refine mr_lk ?_ (by first | assumption | decide); first | assumption | exact mr_up_same _ _ _ | (refine mr_lk ?_ (by first | assumption | decide); first | assumption | exact mr_up_same _ _ _ | (refine mr_lk ?_ (by first | assumption | decide); first | assumption | exact mr_up_same _ _ _))))) (by omega) (by omega) (by decide) ?_
    refine mw_a21 hM (fun w1 hM1 hF1 => ?_)
    obtain ⟨h18, h19, h20, h21, h22, h23, h24, h25, h26, h27, hs1, hs2, hik⟩ := id hM1
    refine mr_iinc dX7_text_50 rfl (by decide) rfl ?_
    refine mr_goto (tgt := 37) dX7_text_53 (by decide) ?_
    refine ih (c + 1) _ w1 (by omega) (by omega) (fun j hj => ?_) hM1 (hFr.tr hF1)
    by_cases e : j = c.toNat
    · rw [e, mr_fs_same]
    · rw [mr_fs_ne _ _ e]; exact hz j (by omega)
set_option maxHeartbeats 4000000 in
set_option maxRecDepth 20000 in
theorem lp_X7_text (l : Launch) (G : mr_G) {Po : Option mr_AV → mr_Wd → Prop} {w0 : mr_Wd} {th tp sz ft pl sm sd : Int} {T N K Sn ik s2 : Nat → Int} {g : Nat → Int} {C : mr_Ct9} (hsz : 0 ≤ sz ∧ sz ≤ 540) (hT : ∀ j : Nat, (j : Int) < sz → T j = mr_ba sz g j) (hB : ∀ (w' : mr_Wd) (zo' fr' kd' nb' wd' md' li' a b : Int) (R' s1' ls' : Nat → Int), C = .inl (a, b) → (-1000000 ≤ nb' ∧ nb' ≤ 1000000) → InL wd' → mr_MW w' th tp sz (zo') (fr') (kd') (nb') (a) (b) (wd') sm (md') (li') sd T N (R') K Sn ik (s1') s2 (ls') → mr_FM w0 w' → Po (some (vI (-1 - b))) w') (hG : ∀ (w' : mr_Wd) (zo' fr' kd' nb' wd' md' li' ln' : Int) (R' s1' ls' f' : Nat → Int), C = .inr (f', ln') → mr_Rq f' R' ln' → (-1000000 ≤ nb' ∧ nb' ≤ 1000000) → InL wd' → mr_MW w' th tp sz (zo') (fr') (kd') (nb') ft pl (wd') (0) (md') (li') sd T (mr_cp R' 0 N 0) (R') K Sn ik (s1') s2 (ls') → mr_FM w0 w' → Po (some (vI ln')) w') : ∀ (m : Nat) (n ln sl v md : Int) (f nm : Nat → Int) (zo fr kd nb wd li : Int) (R s1 ls : Nat → Int) (w : mr_Wd), sz - n < m → (0 ≤ n ∧ n ≤ sz) → mr_Tok sz g n fr kd nb wd zo → mr_at sz g C n 0 sl ln md f nm v → mr_Rq f R ln → (0 ≤ md ∧ md ≤ 4) → 0 ≤ ln → mr_MW w th tp sz zo fr kd nb ft pl wd sm md li sd T N R K Sn ik s1 s2 ls → mr_FM w0 w → mr_J l G RX7 cX7_text 3 (some .int) 5 114 Po 60 [some (vR 18 0), some (vI ln), none] [] w := by
  intro m
  induction m with
  | zero =>
    intro n ln sl v md f nm zo fr kd nb wd li R s1 ls w hm hn
    omega
  | succ m ih =>
    intro n ln sl v md f nm zo fr kd nb wd li R s1 ls w hm hn hTk hat hRq hmd hln hM hFr
    have hkb := mr_kdR hsz hn hTk
    obtain ⟨h18, h19, h20, h21, h22, h23, h24, h25, h26, h27, hs1, hs2, hik⟩ := id hM
    refine mr_aload_n dX7_text_60 rfl ?_
    refine mr_get dX7_text_61 fl_X7_27 (by first | assumption | exact mr_up_same _ _ _ | (refine mr_lk ?_ (by first | assumption | decide); first | assumption | exact mr_up_same _ _ _ | (refine mr_lk ?_ (by first | assumption | decide); first | assumption | exact mr_up_same _ _ _ | (refine mr_lk ?_ (by first | assumption | decide); first | assumption | exact mr_up_same _ _ _ | (refine mr_lk ?_ (by first | assumption | decide); first | assumption | exact mr_up_same _ _ _))))) rfl ?_
    refine mr_if_eq (tgt := 94) dX7_text_64 (by decide) ⟨by omega, by omega⟩ (fun hc_64 => ?_) (fun hc_64 => ?_)
    · refine mr_aload_n dX7_text_94 rfl ?_
      refine mr_get dX7_text_95 fl_X7_89 (by first | assumption | exact mr_up_same _ _ _ | (refine mr_lk ?_ (by first | assumption | decide); first | assumption | exact mr_up_same _ _ _ | (refine mr_lk ?_ (by first | assumption | decide); first | assumption | exact mr_up_same _ _ _ | (refine mr_lk ?_ (by first | assumption | decide); first | assumption | exact mr_up_same _ _ _ | (refine mr_lk ?_ (by first | assumption | decide); first | assumption | exact mr_up_same _ _ _))))) rfl ?_
      refine mr_iconst dX7_text_98 ?_
      refine mr_aload_n dX7_text_99 rfl ?_
      refine mr_get dX7_text_100 fl_X7_86 (by first | assumption | exact mr_up_same _ _ _ | (refine mr_lk ?_ (by first | assumption | decide); first | assumption | exact mr_up_same _ _ _ | (refine mr_lk ?_ (by first | assumption | decide); first | assumption | exact mr_up_same _ _ _ | (refine mr_lk ?_ (by first | assumption | decide); first | assumption | exact mr_up_same _ _ _ | (refine mr_lk ?_ (by first | assumption | decide); first | assumption | exact mr_up_same _ _ _))))) rfl ?_
      refine mr_iconst dX7_text_103 ?_
      refine mr_callS (as := [_, _, _, _]) dX7_text_104 (ok_X7_copy l G) ml_X7_173 cl_X7_copy cs_X7_copy (by decide) rfl rfl (Nat.le_of_ble_eq_true rfl) ?_
      refine ⟨21, 20, 21, 21, R, N, 0, 0, rfl, (by decide), (by first | assumption | exact mr_up_same _ _ _ | (refine mr_lk ?_ (by first | assumption | decide); first | assumption | exact mr_up_same _ _ _ | (refine mr_lk ?_ (by first | assumption | decide); first | assumption | exact mr_up_same _ _ _ | (refine mr_lk ?_ (by first | assumption | decide); first | assumption | exact mr_up_same _ _ _ | (refine mr_lk ?_ (by first | assumption | decide); first | assumption | exact mr_up_same _ _ _))))), (by first | assumption | exact mr_up_same _ _ _ | (refine mr_lk ?_ (by first | assumption | decide); first | assumption | exact mr_up_same _ _ _ | (refine mr_lk ?_ (by first | assumption | decide); first | assumption | exact mr_up_same _ _ _ | (refine mr_lk ?_ (by first | assumption | decide); first | assumption | exact mr_up_same _ _ _ | (refine mr_lk ?_ (by first | assumption | decide); first | assumption | exact mr_up_same _ _ _))))), ⟨by omega, by omega⟩, ⟨by omega, by omega⟩, (by decide), (by decide), ?_⟩
      refine mw_a20 hM (fun w1 hM1 hF1 => ?_)
      obtain ⟨h18, h19, h20, h21, h22, h23, h24, h25, h26, h27, hs1, hs2, hik⟩ := id hM1
      dsimp only [Option.toList_some, Option.toList_none, List.cons_append, List.nil_append]
      refine mr_aload_n dX7_text_107 rfl ?_
      refine mr_iconst dX7_text_108 ?_
      refine mr_put dX7_text_109 fl_X7_177 pf_X7_16 rfl rfl (by first | assumption | exact mr_up_same _ _ _ | (refine mr_lk ?_ (by first | assumption | decide); first | assumption | exact mr_up_same _ _ _ | (refine mr_lk ?_ (by first | assumption | decide); first | assumption | exact mr_up_same _ _ _ | (refine mr_lk ?_ (by first | assumption | decide); first | assumption | exact mr_up_same _ _ _ | (refine mr_lk ?_ (by first | assumption | decide); first | assumption | exact mr_up_same _ _ _))))) (Nat.le_of_ble_eq_true rfl) ?_
      refine mw_p16 hM1 (fun w2 hM2 hF2 => ?_)
      obtain ⟨h18, h19, h20, h21, h22, h23, h24, h25, h26, h27, hs1, hs2, hik⟩ := id hM2
      refine mr_iload_n dX7_text_112 rfl ?_
      refine mr_iret rfl dX7_text_113 ?_
      exact hG w2 _ _ _ _ _ _ _ ln _ _ _ f (mr_at_end hn hat ⟨(hkb.2.2.2.2.mp hc_64).1, rfl, (hkb.2.2.2.2.mp hc_64).2⟩) hRq hTk.2.2.2.2.2.2.1 hTk.2.2.2.2.2.1 hM2 (hFr.tr (hF1.tr hF2))
    · refine mr_aload_n dX7_text_67 rfl ?_
      refine mr_callV (as := []) dX7_text_68 (ok_X7_readLine l G) ml_X7_167 cl_X7_readLine cv_X7_readLine (by decide) rfl rfl (Nat.le_of_ble_eq_true rfl) (by first | assumption | exact mr_up_same _ _ _ | (refine mr_lk ?_ (by first | assumption | decide); first | assumption | exact mr_up_same _ _ _ | (refine mr_lk ?_ (by first | assumption | decide); first | assumption | exact mr_up_same _ _ _ | (refine mr_lk ?_ (by first | assumption | decide); first | assumption | exact mr_up_same _ _ _ | (refine mr_lk ?_ (by first | assumption | decide); first | assumption | exact mr_up_same _ _ _))))) ?_
      refine ⟨_, _, _, _, _, _, _, _, _, _, _, _, _, _, _, _, _, _, _, _, _, _, _, g, f, nm, C, sl, ln, n, v, rfl, hM, hsz, hT, hn, hTk, hat, hmd, hc_64, hRq, ?_, ?_⟩
      · intro w3 zo3 fr3 kd3 nb3 wd3 md3 li3 a3 b3 R3 s13 ls3 hC3 hnb3 hwd3 hM3 hF3
        obtain ⟨h18, h19, h20, h21, h22, h23, h24, h25, h26, h27, hs1, hs2, hik⟩ := id hM3
        dsimp only [Option.toList_some, Option.toList_none, List.cons_append, List.nil_append]
        refine mr_if_eq (tgt := 81) dX7_text_71 (by decide) (by omega) (fun _ => ?_) (fun h => absurd h (by decide))
        refine mr_iconst dX7_text_81 ?_
        refine mr_aload_n dX7_text_82 rfl ?_
        refine mr_get dX7_text_83 fl_X7_77 (by first | assumption | exact mr_up_same _ _ _ | (refine mr_lk ?_ (by first | assumption | decide); first | assumption | exact mr_up_same _ _ _ | (refine mr_lk ?_ (by first | assumption | decide); first | assumption | exact mr_up_same _ _ _ | (refine mr_lk ?_ (by first | assumption | decide); first | assumption | exact mr_up_same _ _ _ | (refine mr_lk ?_ (by first | assumption | decide); first | assumption | exact mr_up_same _ _ _))))) rfl ?_
        refine mr_isub dX7_text_86 ?_
        refine mr_iret rfl dX7_text_87 ?_
        exact hB w3 _ _ _ _ _ _ _ _ _ _ _ _ hC3 hnb3 hwd3 hM3 (hFr.tr hF3)
      · intro w4 zo4 fr4 kd4 nb4 wd4 md4 li4 n4 R4 s14 ls4 hn4 hTk4 hRL4 hM4 hF4
        obtain ⟨h18, h19, h20, h21, h22, h23, h24, h25, h26, h27, hs1, hs2, hik⟩ := id hM4
        dsimp only [Option.toList_some, Option.toList_none, List.cons_append, List.nil_append]
        refine mr_if_eq (tgt := 81) dX7_text_71 (by decide) (by omega) (fun h => absurd h (by decide)) (fun _ => ?_)
        refine mr_aload_n dX7_text_74 rfl ?_
        refine mr_callV (as := []) dX7_text_75 (ok_X7_readEnd l G) ml_X7_170 cl_X7_readEnd cv_X7_readEnd (by decide) rfl rfl (Nat.le_of_ble_eq_true rfl) (by first | assumption | exact mr_up_same _ _ _ | (refine mr_lk ?_ (by first | assumption | decide); first | assumption | exact mr_up_same _ _ _ | (refine mr_lk ?_ (by first | assumption | decide); first | assumption | exact mr_up_same _ _ _ | (refine mr_lk ?_ (by first | assumption | decide); first | assumption | exact mr_up_same _ _ _ | (refine mr_lk ?_ (by first | assumption | decide); first | assumption | exact mr_up_same _ _ _))))) ?_
        have hRL9 := hRL4
        refine ⟨_, _, _, _, _, _, _, _, _, _, _, _, _, _, _, _, _, _, _, _, _, _, _, g, f, C, ln, md, n4, rfl, hM4, hsz, hT, ⟨by omega, hn4.2⟩, hTk4, hRL4, ?_, ?_⟩
        · intro w5 a5 b5 hC5 hM5 hF5
          obtain ⟨h18, h19, h20, h21, h22, h23, h24, h25, h26, h27, hs1, hs2, hik⟩ := id hM5
          dsimp only [Option.toList_some, Option.toList_none, List.cons_append, List.nil_append]
          refine mr_if_ne (tgt := 88) dX7_text_78 (by decide) (by omega) (fun h => absurd h (by decide)) (fun _ => ?_)
          refine mr_iconst dX7_text_81 ?_
          refine mr_aload_n dX7_text_82 rfl ?_
          refine mr_get dX7_text_83 fl_X7_77 (by first | assumption | exact mr_up_same _ _ _ | (refine mr_lk ?_ (by first | assumption | decide); first | assumption | exact mr_up_same _ _ _ | (refine mr_lk ?_ (by first | assumption | decide); first | assumption | exact mr_up_same _ _ _ | (refine mr_lk ?_ (by first | assumption | decide); first | assumption | exact mr_up_same _ _ _ | (refine mr_lk ?_ (by first | assumption | decide); first | assumption | exact mr_up_same _ _ _))))) rfl ?_
          refine mr_isub dX7_text_86 ?_
          refine mr_iret rfl dX7_text_87 ?_
          exact hB w5 _ _ _ _ _ _ _ _ _ _ _ _ hC5 hTk4.2.2.2.2.2.2.1 hTk4.2.2.2.2.2.1 hM5 (hFr.tr (hF4.tr hF5))
        · intro w6 zo6 fr6 kd6 nb6 wd6 n6 sl6 v6 f6 nm6 hn6 hTk6 hat6 hEx6 hM6 hF6
          obtain ⟨h18, h19, h20, h21, h22, h23, h24, h25, h26, h27, hs1, hs2, hik⟩ := id hM6
          dsimp only [Option.toList_some, Option.toList_none, List.cons_append, List.nil_append]
          refine mr_if_ne (tgt := 88) dX7_text_78 (by decide) (by omega) (fun _ => ?_) (fun h => absurd h (by decide))
          refine mr_iinc dX7_text_88 rfl (by decide) rfl ?_
          refine mr_goto (tgt := 60) dX7_text_91 (by decide) ?_
          obtain ⟨op9, sl9, v9, nm9, hat9, q1, q2, q3, q4, hmd9, hE9⟩ := hRL9
          exact ih n6 (ln + 1) sl6 v6 _ f6 nm6 zo6 fr6 kd6 nb6 wd6 _ _ _ _ w6 (by omega) ⟨by omega, hn6.2⟩ hTk6 hat6 (Or.inr ⟨by omega, hEx6⟩) hmd9 (by omega) hM6 (hFr.tr (hF4.tr hF6))
def T_X7_text (a : List mr_AV) (w : mr_Wd) (Po : Option mr_AV → mr_Wd → Prop) : Prop := ∃ (th tp sz zo fr kd nb ft pl wd sm md li sd : Int) (T N R K Sn ik s1 s2 ls : Nat → Int) (g : Nat → Int), a = [vR 18 0] ∧ mr_MW w th tp sz zo fr kd nb ft pl wd sm md li sd T N R K Sn ik s1 s2 ls ∧ (0 ≤ tp ∧ tp ≤ 540) ∧ (∀ j : Nat, (j : Int) < tp → T j = mr_ba tp g j) ∧ (-1000000 ≤ nb ∧ nb ≤ 1000000) ∧ InL wd ∧ (∀ (w' : mr_Wd) (zo' fr' kd' nb' wd' md' li' a b : Int) (R' s1' ls' : Nat → Int), mr_ps tp g = .inl (a, b) → (-1000000 ≤ nb' ∧ nb' ≤ 1000000) → InL wd' → mr_MW w' (0) (0) (tp) (zo') (fr') (kd') (nb') (a) (b) (wd') sm (md') (li') sd T N (R') K Sn ik (s1') s2 (ls') → mr_FM w w' → Po (some (vI (-1 - b))) w') ∧ (∀ (w' : mr_Wd) (zo' fr' kd' nb' wd' md' li' ln' : Int) (R' s1' ls' f' : Nat → Int), mr_ps tp g = .inr (f', ln') → mr_Rq f' R' ln' → (-1000000 ≤ nb' ∧ nb' ≤ 1000000) → InL wd' → mr_MW w' (0) (0) (tp) (zo') (fr') (kd') (nb') (0) pl (wd') (0) (md') (li') sd T (mr_cp R' 0 N 0) (R') K Sn ik (s1') s2 (ls') → mr_FM w w' → Po (some (vI ln')) w')
set_option maxHeartbeats 4000000 in
set_option maxRecDepth 20000 in
theorem ok_X7_text (l : Launch) (G : mr_G) : mr_Ok l G yX7_text cX7_text 3 (some .int) 5 114 T_X7_text := by
  refine mr_Ok.of (by decide +kernel) ?_
  rintro a w Po ⟨th, tp, sz, zo, fr, kd, nb, ft, pl, wd, sm, md, li, sd, T, N, R, K, Sn, ik, s1, s2, ls, g, rfl, hM, hsz, hT, hnb, hwd, hB, hG⟩
  refine ⟨Nat.le_of_ble_eq_true rfl, ?_⟩
  show mr_J l G RX7 cX7_text 3 (some .int) 5 114 Po 0 [some (vR 18 0), none, none] [] w
  obtain ⟨h18, h19, h20, h21, h22, h23, h24, h25, h26, h27, hs1, hs2, hik⟩ := id hM
  refine mr_aload_n dX7_text_0 rfl ?_
  refine mr_iconst dX7_text_1 ?_
  refine mr_put dX7_text_2 fl_X7_1 pf_X7_0 rfl rfl (by first | assumption | exact mr_up_same _ _ _ | (refine mr_lk ?_ (by first | assumption | decide); first | assumption | exact mr_up_same _ _ _ | (refine mr_lk ?_ (by first | assumption | decide); first | assumption | exact mr_up_same _ _ _ | (refine mr_lk ?_ (by first | assumption | decide); first | assumption | exact mr_up_same _ _ _ | (refine mr_lk ?_ (by first | assumption | decide); first | assumption | exact mr_up_same _ _ _))))) (Nat.le_of_ble_eq_true rfl) ?_
  refine mw_p0 hM (fun w1 hM1 hF1 => ?_)
  obtain ⟨h18, h19, h20, h21, h22, h23, h24, h25, h26, h27, hs1, hs2, hik⟩ := id hM1
  refine mr_aload_n dX7_text_5 rfl ?_
  refine mr_aload_n dX7_text_6 rfl ?_
  refine mr_get dX7_text_7 fl_X7_11 (by first | assumption | exact mr_up_same _ _ _ | (refine mr_lk ?_ (by first | assumption | decide); first | assumption | exact mr_up_same _ _ _ | (refine mr_lk ?_ (by first | assumption | decide); first | assumption | exact mr_up_same _ _ _ | (refine mr_lk ?_ (by first | assumption | decide); first | assumption | exact mr_up_same _ _ _ | (refine mr_lk ?_ (by first | assumption | decide); first | assumption | exact mr_up_same _ _ _))))) rfl ?_
  refine mr_put dX7_text_10 fl_X7_18 pf_X7_3 rfl rfl (by first | assumption | exact mr_up_same _ _ _ | (refine mr_lk ?_ (by first | assumption | decide); first | assumption | exact mr_up_same _ _ _ | (refine mr_lk ?_ (by first | assumption | decide); first | assumption | exact mr_up_same _ _ _ | (refine mr_lk ?_ (by first | assumption | decide); first | assumption | exact mr_up_same _ _ _ | (refine mr_lk ?_ (by first | assumption | decide); first | assumption | exact mr_up_same _ _ _))))) (Nat.le_of_ble_eq_true rfl) ?_
  refine mw_p3 hM1 (fun w2 hM2 hF2 => ?_)
  obtain ⟨h18, h19, h20, h21, h22, h23, h24, h25, h26, h27, hs1, hs2, hik⟩ := id hM2
  refine mr_aload_n dX7_text_13 rfl ?_
  refine mr_iconst dX7_text_14 ?_
  refine mr_put dX7_text_15 fl_X7_11 pf_X7_2 rfl rfl (by first | assumption | exact mr_up_same _ _ _ | (refine mr_lk ?_ (by first | assumption | decide); first | assumption | exact mr_up_same _ _ _ | (refine mr_lk ?_ (by first | assumption | decide); first | assumption | exact mr_up_same _ _ _ | (refine mr_lk ?_ (by first | assumption | decide); first | assumption | exact mr_up_same _ _ _ | (refine mr_lk ?_ (by first | assumption | decide); first | assumption | exact mr_up_same _ _ _))))) (Nat.le_of_ble_eq_true rfl) ?_
  refine mw_p2 hM2 (fun w3 hM3 hF3 => ?_)
  obtain ⟨h18, h19, h20, h21, h22, h23, h24, h25, h26, h27, hs1, hs2, hik⟩ := id hM3
  refine mr_aload_n dX7_text_18 rfl ?_
  refine mr_iconst dX7_text_19 ?_
  refine mr_put dX7_text_20 fl_X7_74 pf_X7_8 rfl rfl (by first | assumption | exact mr_up_same _ _ _ | (refine mr_lk ?_ (by first | assumption | decide); first | assumption | exact mr_up_same _ _ _ | (refine mr_lk ?_ (by first | assumption | decide); first | assumption | exact mr_up_same _ _ _ | (refine mr_lk ?_ (by first | assumption | decide); first | assumption | exact mr_up_same _ _ _ | (refine mr_lk ?_ (by first | assumption | decide); first | assumption | exact mr_up_same _ _ _))))) (Nat.le_of_ble_eq_true rfl) ?_
  refine mw_p8 hM3 (fun w4 hM4 hF4 => ?_)
  obtain ⟨h18, h19, h20, h21, h22, h23, h24, h25, h26, h27, hs1, hs2, hik⟩ := id hM4
  refine mr_aload_n dX7_text_23 rfl ?_
  refine mr_iconst dX7_text_24 ?_
  refine mr_put dX7_text_25 fl_X7_21 pf_X7_4 rfl rfl (by first | assumption | exact mr_up_same _ _ _ | (refine mr_lk ?_ (by first | assumption | decide); first | assumption | exact mr_up_same _ _ _ | (refine mr_lk ?_ (by first | assumption | decide); first | assumption | exact mr_up_same _ _ _ | (refine mr_lk ?_ (by first | assumption | decide); first | assumption | exact mr_up_same _ _ _ | (refine mr_lk ?_ (by first | assumption | decide); first | assumption | exact mr_up_same _ _ _))))) (Nat.le_of_ble_eq_true rfl) ?_
  refine mw_p4 hM4 (fun w5 hM5 hF5 => ?_)
  obtain ⟨h18, h19, h20, h21, h22, h23, h24, h25, h26, h27, hs1, hs2, hik⟩ := id hM5
  refine mr_aload_n dX7_text_28 rfl ?_
  refine mr_iconst dX7_text_29 ?_
  refine mr_put dX7_text_30 fl_X7_121 pf_X7_17 rfl rfl (by first | assumption | exact mr_up_same _ _ _ | (refine mr_lk ?_ (by first | assumption | decide); first | assumption | exact mr_up_same _ _ _ | (refine mr_lk ?_ (by first | assumption | decide); first | assumption | exact mr_up_same _ _ _ | (refine mr_lk ?_ (by first | assumption | decide); first | assumption | exact mr_up_same _ _ _ | (refine mr_lk ?_ (by first | assumption | decide); first | assumption | exact mr_up_same _ _ _))))) (Nat.le_of_ble_eq_true rfl) ?_
  refine mw_p17 hM5 (fun w6 hM6 hF6 => ?_)
  obtain ⟨h18, h19, h20, h21, h22, h23, h24, h25, h26, h27, hs1, hs2, hik⟩ := id hM6
  refine mr_iconst dX7_text_33 ?_
  refine mr_istore_n dX7_text_34 rfl (by decide) ?_
  refine mr_iconst dX7_text_35 ?_
  refine mr_istore_n dX7_text_36 rfl (by decide) ?_
  refine lp0_X7_text l G (w0 := w) (R := R) (fun w55 R5 hR5 hM55 hF55 => ?_) 21 0 R w6 (by decide) (by decide) (fun j hj => by omega) hM6 (hF1.tr (hF2.tr (hF3.tr (hF4.tr (hF5.tr hF6)))))
  obtain ⟨h18, h19, h20, h21, h22, h23, h24, h25, h26, h27, hs1, hs2, hik⟩ := id hM55
  refine mr_aload_n dX7_text_56 rfl ?_
  refine mr_callV (as := []) dX7_text_57 (ok_X7_next l G) ml_X7_114 cl_X7_next cv_X7_next (by decide) rfl rfl (Nat.le_of_ble_eq_true rfl) (by first | assumption | exact mr_up_same _ _ _ | (refine mr_lk ?_ (by first | assumption | decide); first | assumption | exact mr_up_same _ _ _ | (refine mr_lk ?_ (by first | assumption | decide); first | assumption | exact mr_up_same _ _ _ | (refine mr_lk ?_ (by first | assumption | decide); first | assumption | exact mr_up_same _ _ _ | (refine mr_lk ?_ (by first | assumption | decide); first | assumption | exact mr_up_same _ _ _))))) ?_
  refine ⟨_, _, _, _, _, _, _, _, _, _, _, _, _, _, _, _, _, _, _, _, _, _, _, g, rfl, hM55, hsz, hT, ⟨by decide, hsz.1⟩, hnb, hwd, (fun w56 zo56 fr56 kd56 nb56 wd56 hTk56 hM56 hF56 => ?_)⟩
  dsimp only [Option.toList_some, Option.toList_none, List.cons_append, List.nil_append]
  refine mr_weak [some (vR 18 0), some (vI 0), none] ⟨rfl, rfl, trivial⟩ ?_
  exact lp_X7_text l G (w0 := w) (C := mr_ps tp g) hsz hT hB hG 541 0 0 0 0 0 (fun _ => 0) (fun _ => 0) _ _ _ _ _ _ _ _ _ w56 (by omega) ⟨by decide, hsz.1⟩ hTk56 ⟨541, by omega, rfl⟩ (Or.inl ⟨rfl, hR5, fun _ => rfl⟩) (by decide) (by decide) hM56 (hF55.tr hF56)
