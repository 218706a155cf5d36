/-- what a text's end owes -/
def mr_RP (w : mr_Wd) (Po : Option mr_AV → mr_Wd → Prop) (r : (Int × Int) ⊕ ((Nat → Int) × Int)) : Prop := match r with
  | .inl e => ∀ (v k s n op sl ln md : Int) (f nm : Nat → Int) (m cl ct : Int) (R F : Nat → Nat → Int), (0 ≤ v ∧ v ≤ 99) → (0 ≤ sl ∧ sl ≤ 20) → (1 ≤ e.1 ∧ e.1 ≤ 3) → mr_Rd nm → Po (some (vI 0)) (mr_wR w f nm (eRD v k s n op sl ln md e.1 e.2) m cl ct R F)
  | .inr q => ∀ (v k s n op sl md fp : Int) (nm : Nat → Int) (m cl ct : Int) (R F : Nat → Nat → Int), (0 ≤ v ∧ v ≤ 99) → (0 ≤ sl ∧ sl ≤ 20) → mr_Bd q.1 → mr_Rd nm → Po (some (vI 1)) (mr_wR w q.1 nm (eRD v k s n op sl q.2 md 0 fp) m cl ct R F)
set_option maxHeartbeats 4000000 in
set_option maxRecDepth 20000 in
theorem lpf_X2_readText (l : Launch) (G : mr_G) {Po : Option mr_AV → mr_Wd → Prop} {w : mr_Wd} {t v k s n op sl ln md fk fp : Int} {f nm : Nat → Int} {c0 cl ct : Int} {R F : Nat → Nat → Int} (ht : 0 ≤ t ∧ t ≤ 600) (hfk : InR fk) (hfk0 : fk ≠ 0) (hFIN : Po (some (vI 0)) (mr_wR w f nm (eRD v k s n op sl ln md fk fp) c0 cl ct R F)) : mr_J l G RX2 cX2_readText 2 (some .boolean) 7 148 Po 6 [some (vR 11 0), some (vI t)] [] (mr_wR w f nm (eRD v k s n op sl ln md fk fp) c0 cl ct R F) := by
  refine mr_iload_n dX2_readText_6 rfl ?_
  refine mr_sipush dX2_readText_7 rfl ?_
  refine mr_icmp_gt (tgt := 83) dX2_readText_10 (by decide) ⟨by omega, by omega⟩ (by decide) (fun hc_10 => ?_) (fun hc_10 => ?_)
  · refine mr_aload_n dX2_readText_83 rfl ?_
    refine mr_get dX2_readText_84 fl_X2_34 (by first | exact mr_wR_11 _ _ _ _ _ _ _ _ _ | exact mr_wR_13 _ _ _ _ _ _ _ _ _ | exact mr_wR_14 _ _ _ _ _ _ _ _ _ | exact mr_wR_8 _ _ _ _ _ _ _ _ _ | exact mr_wR_9 _ _ _ _ _ _ _ _ _ | exact mr_wR_10 _ _ _ _ _ _ _ _ _ | exact (mr_wR_ne _ _ _ _ _ _ _ _ _ (by decide)).trans (by assumption) | assumption) rfl ?_
    refine mr_if_ne (tgt := 94) dX2_readText_87 (by decide) hfk (fun hc_87 => ?_) (fun hc_87 => absurd hc_87 hfk0)
    refine mr_iconst dX2_readText_94 ?_
    refine mr_zret rfl (Or.inl rfl) dX2_readText_95 ?_
    exact hFIN
  · refine mr_aload_n dX2_readText_13 rfl ?_
    refine mr_get dX2_readText_14 fl_X2_34 (by first | exact mr_wR_11 _ _ _ _ _ _ _ _ _ | exact mr_wR_13 _ _ _ _ _ _ _ _ _ | exact mr_wR_14 _ _ _ _ _ _ _ _ _ | exact mr_wR_8 _ _ _ _ _ _ _ _ _ | exact mr_wR_9 _ _ _ _ _ _ _ _ _ | exact mr_wR_10 _ _ _ _ _ _ _ _ _ | exact (mr_wR_ne _ _ _ _ _ _ _ _ _ (by decide)).trans (by assumption) | assumption) rfl ?_
    refine mr_if_ne (tgt := 83) dX2_readText_17 (by decide) hfk (fun hc_17 => ?_) (fun hc_17 => absurd hc_17 hfk0)
    refine mr_aload_n dX2_readText_83 rfl ?_
    refine mr_get dX2_readText_84 fl_X2_34 (by first | exact mr_wR_11 _ _ _ _ _ _ _ _ _ | exact mr_wR_13 _ _ _ _ _ _ _ _ _ | exact mr_wR_14 _ _ _ _ _ _ _ _ _ | exact mr_wR_8 _ _ _ _ _ _ _ _ _ | exact mr_wR_9 _ _ _ _ _ _ _ _ _ | exact mr_wR_10 _ _ _ _ _ _ _ _ _ | exact (mr_wR_ne _ _ _ _ _ _ _ _ _ (by decide)).trans (by assumption) | assumption) rfl ?_
    refine mr_if_ne (tgt := 94) dX2_readText_87 (by decide) hfk (fun hc_87 => ?_) (fun hc_87 => absurd hc_87 hfk0)
    refine mr_iconst dX2_readText_94 ?_
    refine mr_zret rfl (Or.inl rfl) dX2_readText_95 ?_
    exact hFIN
theorem mr_tt_inl {n0 : Int} {g : Nat → Int} {op sl ln md : Int} {f nm : Nat → Int} {v k s n a b : Int} (h : mr_tt n0 g op sl ln md f nm v k s n = .inl (a, b)) : (1 ≤ a ∧ a ≤ 3) ∧ b = s := by
  unfold mr_tt at h
  have key : ∀ c : Int, (1 ≤ c ∧ c ≤ 3) → (Sum.inl (c, s) : (Int × Int) ⊕ (Int × Int × (Nat → Int))) = .inl (a, b) → (1 ≤ a ∧ a ≤ 3) ∧ b = s := fun c hc e => by cases e; exact ⟨hc, rfl⟩
  by_cases c0 : op = 0
  · rw [if_pos c0] at h
    by_cases c1 : ln = 0
    · rw [if_pos c1] at h
      by_cases c2 : mr_isw n0 g k s n 0
      · rw [mr_if_pos c2] at h; cases h
      · rw [mr_if_neg c2] at h; exact key 1 (by decide) h
    · rw [if_neg c1] at h
      by_cases c2 : mr_isw n0 g k s n 1
      · rw [mr_if_pos c2] at h
        split at h
        · cases h
        · exact key 3 (by decide) h
      · rw [mr_if_neg c2] at h
        by_cases c3 : mr_isw n0 g k s n 2
        · rw [mr_if_pos c3] at h
          split at h
          · cases h
          · exact key 1 (by decide) h
        · rw [mr_if_neg c3] at h
          by_cases c4 : mr_isw n0 g k s n 3
          · rw [mr_if_pos c4] at h
            split at h
            · cases h
            · exact key 3 (by decide) h
          · rw [mr_if_neg c4] at h; exact key 1 (by decide) h
  · rw [if_neg c0] at h
    split at h
    · split at h
      · split at h
        · exact key 2 (by decide) h
        · cases h
      · exact key 1 (by decide) h
    · split at h
      · by_cases c4 : mr_isw n0 g k s n 4
        · rw [mr_if_pos c4] at h; cases h
        · rw [mr_if_neg c4] at h; exact key 1 (by decide) h
      · split at h
        · cases h
        · exact key 1 (by decide) h
set_option maxHeartbeats 4000000 in
set_option maxRecDepth 20000 in
theorem lpb_X2_readText (l : Launch) (G : mr_G) {Po : Option mr_AV → mr_Wd → Prop} {w : mr_Wd} {n0 : Int} {g : Nat → Int} (h1 : w 1 = eO 5 [vR 2 0, vI n0]) (h2 : w 2 = eA 2 540 g) (h7 : w 7 = eO 3 [vR 8 0]) (h12 : w 12 = eO 0 [vR 13 0]) (hn0 : 0 ≤ n0 ∧ n0 ≤ 540) {m : Nat} (ih : (∀ (n t v k s op sl ln md fp : Int) (f nm : Nat → Int) (c0 cl ct : Int) (R F : Nat → Nat → Int), n0 - n < m → (0 ≤ t ∧ t ≤ n ∧ n ≤ n0) → mr_Iv op sl ln md f nm v n → mr_RP w Po (mr_rt n0 g m n op sl ln md f nm v) → mr_J l G RX2 cX2_readText 2 (some .boolean) 7 148 Po 6 [some (vR 11 0), some (vI t)] [] (mr_wR w f nm (eRD v k s n op sl ln md 0 fp) c0 cl ct R F))) {n t v op sl ln md fp : Int} {f nm : Nat → Int} {c0 cl ct : Int} {R F : Nat → Nat → Int} (hm : n0 - n < m + 1) (ht : 0 ≤ t ∧ t ≤ n ∧ n ≤ n0) (hI : mr_Iv op sl ln md f nm v n) (hne : ¬ (mr_tK n0 g n = 1 ∧ op = 0 ∧ n0 ≤ 500)) (hP : mr_RP w Po (mr_rt n0 g (m + 1) n op sl ln md f nm v)) (v1 : Int) (hv1 : v1 = (if mr_tK n0 g n = 3 then mr_tV n0 g n else v)) : mr_J l G RX2 cX2_readText 2 (some .boolean) 7 148 Po 54 [some (vR 11 0), some (vI t)] [] (mr_wR w f nm (eRD v1 (mr_tK n0 g n) (mr_tS n0 g n) (mr_tX n0 g n) op sl ln md 0 fp) c0 cl ct R F) := by
  have hb := mr_tk_bd (g := g) hn0 (show 0 ≤ n ∧ n ≤ n0 by omega)
  obtain ⟨b1, b2, b3, b4, b5, b6⟩ := hb
  have hI0 := hI
  obtain ⟨a1, a2, a3, a4, a5, a6, a7, a8, a9, a10, a11, a12, a13, a14⟩ := hI
  have hvb : 0 ≤ v1 ∧ v1 ≤ 99 := by
    rw [hv1]
    split
    · rename_i h3; exact b5 h3
    · exact a7
  have hv3 : mr_tK n0 g n ≠ 3 → v1 = v := fun z => by rw [hv1, if_neg z]
  unfold mr_rt at hP
  rw [if_neg hne, ← hv1] at hP
  refine mr_aload_n dX2_readText_54 rfl ?_
  refine mr_callV (as := []) dX2_readText_55 (ok_X2_takeToken l G) ml_X2_65 cl_X2_takeToken cv_X2_takeToken (by decide) rfl rfl (Nat.le_of_ble_eq_true rfl) (by first | exact mr_wR_11 _ _ _ _ _ _ _ _ _ | exact mr_wR_13 _ _ _ _ _ _ _ _ _ | exact mr_wR_14 _ _ _ _ _ _ _ _ _ | exact mr_wR_8 _ _ _ _ _ _ _ _ _ | exact mr_wR_9 _ _ _ _ _ _ _ _ _ | exact mr_wR_10 _ _ _ _ _ _ _ _ _ | exact (mr_wR_ne _ _ _ _ _ _ _ _ _ (by decide)).trans (by assumption) | assumption) ?_
  refine ⟨_, _, _, _, _, _, _, _, _, _, n0, g, f, nm, rfl, mr_wR_11 _ _ _ _ _ _ _ _ _, ⟨(by first | exact mr_wR_11 _ _ _ _ _ _ _ _ _ | exact mr_wR_13 _ _ _ _ _ _ _ _ _ | exact mr_wR_14 _ _ _ _ _ _ _ _ _ | exact mr_wR_8 _ _ _ _ _ _ _ _ _ | exact mr_wR_9 _ _ _ _ _ _ _ _ _ | exact mr_wR_10 _ _ _ _ _ _ _ _ _ | exact (mr_wR_ne _ _ _ _ _ _ _ _ _ (by decide)).trans (by assumption) | assumption), (by first | exact mr_wR_11 _ _ _ _ _ _ _ _ _ | exact mr_wR_13 _ _ _ _ _ _ _ _ _ | exact mr_wR_14 _ _ _ _ _ _ _ _ _ | exact mr_wR_8 _ _ _ _ _ _ _ _ _ | exact mr_wR_9 _ _ _ _ _ _ _ _ _ | exact mr_wR_10 _ _ _ _ _ _ _ _ _ | exact (mr_wR_ne _ _ _ _ _ _ _ _ _ (by decide)).trans (by assumption) | assumption)⟩, ⟨(mr_wR_ne _ _ _ _ _ _ _ _ _ (by decide)).trans h12, mr_wR_13 _ _ _ _ _ _ _ _ _⟩, mr_wR_14 _ _ _ _ _ _ _ _ _, a1, hn0, (by omega), (by omega), (by omega), (by omega), (by omega), (by omega), (by omega), (by omega), ?_⟩
  refine mr_ttc (Po := fun (r : Option mr_AV) (w2 : mr_Wd) => mr_J l G RX2 cX2_readText 2 (some .boolean) 7 148 Po (54 + 1 + 3) [some (vR 11 0), some (vI t)] (r.toList ++ []) w2) (w := mr_wR w f nm (eRD v1 (mr_tK n0 g n) (mr_tS n0 g n) (mr_tX n0 g n) op sl ln md 0 fp) c0 cl ct R F) (v := v1) (k := mr_tK n0 g n) (s := mr_tS n0 g n) (n := mr_tX n0 g n) (op := op) (sl := sl) (ln := ln) (md := md) (fk := 0) (fp := fp) (n0 := n0) (g := g) (f := f) (nm := nm) (mr_wR_14 _ _ _ _ _ _ _ _ _) (fun op1 sl1 nm1 e1 e2 hs1 hn1 he => ?_) (fun op1 sl1 nm1 he => ?_)
  · rw [he] at hP
    obtain ⟨q1, q2⟩ := mr_tt_inl he
    have hsl9 : 0 ≤ sl1 ∧ sl1 ≤ 20 := by
      have hd := mr_due_bd a1 op
      rcases hs1 with h | ⟨h, h'⟩
      · omega
      · have := a12 h; omega
    have hnm1 : mr_Rd nm1 := by
      rcases hn1 with z | z
      · rw [z]; exact mr_zRd
      · rw [z]; exact a2
    rw [mr_wR_u14, mr_wR_u11]
    dsimp only [Option.toList_some, Option.toList_none, List.cons_append, List.nil_append]
    have hgo : mr_J l G RX2 cX2_readText 2 (some .boolean) 7 148 Po 77 [some (vR 11 0), some (vI t)] [] (mr_wR w f nm1 (eRD v1 (mr_tK n0 g n) (mr_tS n0 g n) (mr_tX n0 g n) op1 sl1 ln md e1 e2) c0 cl ct R F) := by
      refine mr_iinc dX2_readText_77 rfl (by decide) rfl ?_
      refine mr_goto (tgt := 6) dX2_readText_80 (by decide) ?_
      exact lpf_X2_readText l G (by omega) ⟨by omega, by omega⟩ (by omega) (hP _ _ _ _ _ _ _ _ _ _ _ _ _ _ _ hvb hsl9 q1 hnm1)
    refine mr_aload_n dX2_readText_58 rfl ?_
    refine mr_get dX2_readText_59 fl_X2_55 (by first | exact mr_wR_11 _ _ _ _ _ _ _ _ _ | exact mr_wR_13 _ _ _ _ _ _ _ _ _ | exact mr_wR_14 _ _ _ _ _ _ _ _ _ | exact mr_wR_8 _ _ _ _ _ _ _ _ _ | exact mr_wR_9 _ _ _ _ _ _ _ _ _ | exact mr_wR_10 _ _ _ _ _ _ _ _ _ | exact (mr_wR_ne _ _ _ _ _ _ _ _ _ (by decide)).trans (by assumption) | assumption) rfl ?_
    refine mr_iconst dX2_readText_62 ?_
    refine mr_icmp_ne (tgt := 77) dX2_readText_63 (by decide) ⟨by omega, by omega⟩ (by decide) (fun hc_63 => ?_) (fun hc_63 => ?_)
    · exact hgo
    · refine mr_aload_n dX2_readText_66 rfl ?_
      refine mr_get dX2_readText_67 fl_X2_34 (by first | exact mr_wR_11 _ _ _ _ _ _ _ _ _ | exact mr_wR_13 _ _ _ _ _ _ _ _ _ | exact mr_wR_14 _ _ _ _ _ _ _ _ _ | exact mr_wR_8 _ _ _ _ _ _ _ _ _ | exact mr_wR_9 _ _ _ _ _ _ _ _ _ | exact mr_wR_10 _ _ _ _ _ _ _ _ _ | exact (mr_wR_ne _ _ _ _ _ _ _ _ _ (by decide)).trans (by assumption) | assumption) rfl ?_
      refine mr_if_ne (tgt := 77) dX2_readText_70 (by decide) ⟨by omega, by omega⟩ (fun hc_70 => ?_) (fun hc_70 => absurd hc_70 (by omega))
      exact hgo
  · rw [he] at hP
    have hIv := mr_Iv_tt hI0 b3.1 hvb hv3 he
    have hx1 : mr_tK n0 g n ≠ 1 := fun z => by
      -- the end takes no token
      have hk1 := z
      have hq : mr_tt n0 g op sl ln md f nm v1 (mr_tK n0 g n) (mr_tS n0 g n) (mr_tX n0 g n) = .inl (1, mr_tS n0 g n) := by
        have hw : ∀ j : Nat, ¬ mr_isw n0 g (mr_tK n0 g n) (mr_tS n0 g n) (mr_tX n0 g n) j := fun j y => by have := y.1; omega
        unfold mr_tt
        split
        · split
          · rw [mr_if_neg (hw 0)]
          · rw [mr_if_neg (hw 1), mr_if_neg (hw 2), mr_if_neg (hw 3)]
        · split
          · rw [if_neg (by omega)]
          · split
            · rw [mr_if_neg (hw 4)]
            · rw [if_neg (by omega)]
      rw [hq] at he
      cases he
    have hlt := b4 hx1
    rw [mr_wR_u14, mr_wR_u11]
    dsimp only [Option.toList_some, Option.toList_none, List.cons_append, List.nil_append]
    dsimp only at hP
    refine mr_aload_n dX2_readText_58 rfl ?_
    refine mr_get dX2_readText_59 fl_X2_55 (by first | exact mr_wR_11 _ _ _ _ _ _ _ _ _ | exact mr_wR_13 _ _ _ _ _ _ _ _ _ | exact mr_wR_14 _ _ _ _ _ _ _ _ _ | exact mr_wR_8 _ _ _ _ _ _ _ _ _ | exact mr_wR_9 _ _ _ _ _ _ _ _ _ | exact mr_wR_10 _ _ _ _ _ _ _ _ _ | exact (mr_wR_ne _ _ _ _ _ _ _ _ _ (by decide)).trans (by assumption) | assumption) rfl ?_
    refine mr_iconst dX2_readText_62 ?_
    refine mr_icmp_ne (tgt := 77) dX2_readText_63 (by decide) ⟨by omega, by omega⟩ (by decide) (fun hc_63 => ?_) (fun hc_63 => ?_)
    · rw [if_neg hc_63] at hP
      have hIn := hIv.1 hc_63
      refine mr_iinc dX2_readText_77 rfl (by decide) rfl ?_
      refine mr_goto (tgt := 6) dX2_readText_80 (by decide) ?_
      exact ih _ _ _ _ _ _ _ _ _ _ _ _ _ _ _ _ _ (by omega) (by omega) hIn hP
    · refine mr_aload_n dX2_readText_66 rfl ?_
      refine mr_get dX2_readText_67 fl_X2_34 (by first | exact mr_wR_11 _ _ _ _ _ _ _ _ _ | exact mr_wR_13 _ _ _ _ _ _ _ _ _ | exact mr_wR_14 _ _ _ _ _ _ _ _ _ | exact mr_wR_8 _ _ _ _ _ _ _ _ _ | exact mr_wR_9 _ _ _ _ _ _ _ _ _ | exact mr_wR_10 _ _ _ _ _ _ _ _ _ | exact (mr_wR_ne _ _ _ _ _ _ _ _ _ (by decide)).trans (by assumption) | assumption) rfl ?_
      refine mr_if_ne (tgt := 77) dX2_readText_70 (by decide) (by decide) (fun hc_70 => absurd rfl hc_70) (fun hc_70 => ?_)
      refine mr_aload_n dX2_readText_73 rfl ?_
      refine mr_callV (as := []) dX2_readText_74 (ok_X2_finishLine l G) ml_X2_68 cl_X2_finishLine cv_X2_finishLine (by decide) rfl rfl (Nat.le_of_ble_eq_true rfl) (by first | exact mr_wR_11 _ _ _ _ _ _ _ _ _ | exact mr_wR_13 _ _ _ _ _ _ _ _ _ | exact mr_wR_14 _ _ _ _ _ _ _ _ _ | exact mr_wR_8 _ _ _ _ _ _ _ _ _ | exact mr_wR_9 _ _ _ _ _ _ _ _ _ | exact mr_wR_10 _ _ _ _ _ _ _ _ _ | exact (mr_wR_ne _ _ _ _ _ _ _ _ _ (by decide)).trans (by assumption) | assumption) ?_
      obtain ⟨i1, i2, i3, i4, i5, i6⟩ := hIv.2 hc_63
      rw [if_pos hc_63] at hP
      subst i1
      subst i3
      subst i4
      have hv9 := hv3 (by omega)
      have hIf := mr_Iv_fin (v := v1) (n := n) (x := mr_tX n0 g n) (by rw [hv9]; exact hI0) hlt i2 i5 i6
      refine ⟨_, _, _, _, _, _, _, _, _, _, f, nm1, rfl, mr_wR_11 _ _ _ _ _ _ _ _ _, ⟨(mr_wR_ne _ _ _ _ _ _ _ _ _ (by decide)).trans h12, mr_wR_13 _ _ _ _ _ _ _ _ _⟩, mr_wR_14 _ _ _ _ _ _ _ _ _, a1, a2, (by omega), (by omega), (fun z => ?_), (fun z => ?_), (fun z => ?_), (fun z => ?_)⟩
      · rw [mr_wR_u13, mr_wR_u11]
        dsimp only [Option.toList_some, Option.toList_none, List.cons_append, List.nil_append]
        have ef : mr_fin op1 md f nm1 v1 = (mr_anew (nm1 0) (nm1 1), md) := by
          unfold mr_fin
          rw [if_pos z]
        rw [ef] at hP hIf
        refine mr_iinc dX2_readText_77 rfl (by decide) rfl ?_
        refine mr_goto (tgt := 6) dX2_readText_80 (by decide) ?_
        exact ih _ _ _ _ _ _ _ _ _ _ _ _ _ _ _ _ _ (by omega) (by omega) hIf hP
      · rw [mr_wR_u11]
        dsimp only [Option.toList_some, Option.toList_none, List.cons_append, List.nil_append]
        have ef : mr_fin op1 md f nm1 v1 = (f, md + 1) := by
          unfold mr_fin
          rw [if_neg (by omega), if_pos z]
        rw [ef] at hP hIf
        refine mr_iinc dX2_readText_77 rfl (by decide) rfl ?_
        refine mr_goto (tgt := 6) dX2_readText_80 (by decide) ?_
        exact ih _ _ _ _ _ _ _ _ _ _ _ _ _ _ _ _ _ (by omega) (by omega) hIf hP
      · have hl : 1 ≤ ln := by
          by_cases e : ln = 0
          · have := a8 e; omega
          · omega
        refine ⟨⟨⟨(mr_wR_ne _ _ _ _ _ _ _ _ _ (by decide)).trans h12, mr_wR_13 _ _ _ _ _ _ _ _ _⟩, Or.inr rfl, a1, (mr_wR_ne _ _ _ _ _ _ _ _ _ (by decide)).trans h7, ⟨_, _, _, _, _, rfl, rfl, rfl⟩, (a9 hl).1⟩, ⟨a10 z, a6.2⟩, (fun R1 F1 m_ cl_ ct_ R_ F_ => ?_)⟩
        rw [mr_abs_in (a1.1 1).1, mr_wR_u13, mr_wR_u11, mr_wR_wS]
        dsimp only [Option.toList_some, Option.toList_none, List.cons_append, List.nil_append]
        have ef : mr_fin op1 md f nm1 v1 = (mr_abs f nm1 (md - 1) mr_Zz mr_Zz, md) := by
          unfold mr_fin
          rw [if_neg (by omega), if_neg (by omega), if_pos z]
        rw [ef] at hP hIf
        refine mr_iinc dX2_readText_77 rfl (by decide) rfl ?_
        refine mr_goto (tgt := 6) dX2_readText_80 (by decide) ?_
        exact ih _ _ _ _ _ _ _ _ _ _ _ _ _ _ _ _ _ (by omega) (by omega) hIf hP
      · rw [mr_wR_u13, mr_wR_u11]
        dsimp only [Option.toList_some, Option.toList_none, List.cons_append, List.nil_append]
        have ef : mr_fin op1 md f nm1 v1 = (mr_eqn f nm1 v1, md) := by
          unfold mr_fin
          rw [if_neg (by omega), if_neg (by omega), if_neg (by omega)]
        rw [ef] at hP hIf
        refine mr_iinc dX2_readText_77 rfl (by decide) rfl ?_
        refine mr_goto (tgt := 6) dX2_readText_80 (by decide) ?_
        exact ih _ _ _ _ _ _ _ _ _ _ _ _ _ _ _ _ _ (by omega) (by omega) hIf hP
set_option maxHeartbeats 4000000 in
set_option maxRecDepth 20000 in
theorem lp_X2_readText (l : Launch) (G : mr_G) {Po : Option mr_AV → mr_Wd → Prop} {w : mr_Wd} {n0 : Int} {g : Nat → Int} (h1 : w 1 = eO 5 [vR 2 0, vI n0]) (h2 : w 2 = eA 2 540 g) (h7 : w 7 = eO 3 [vR 8 0]) (h12 : w 12 = eO 0 [vR 13 0]) (hn0 : 0 ≤ n0 ∧ n0 ≤ 540) : ∀ m : Nat, (∀ (n t v k s op sl ln md fp : Int) (f nm : Nat → Int) (c0 cl ct : Int) (R F : Nat → Nat → Int), n0 - n < m → (0 ≤ t ∧ t ≤ n ∧ n ≤ n0) → mr_Iv op sl ln md f nm v n → mr_RP w Po (mr_rt n0 g m n op sl ln md f nm v) → mr_J l G RX2 cX2_readText 2 (some .boolean) 7 148 Po 6 [some (vR 11 0), some (vI t)] [] (mr_wR w f nm (eRD v k s n op sl ln md 0 fp) c0 cl ct R F)) := by
  intro m
  induction m with
  | zero =>
    intro n t v k s op sl ln md fp f nm c0 cl ct R F hm ht
    omega
  | succ m ih =>
    intro n t v k s op sl ln md fp f nm c0 cl ct R F hm ht hI hP
    have hb := mr_tk_bd (g := g) hn0 (show 0 ≤ n ∧ n ≤ n0 by omega)
    obtain ⟨b1, b2, b3, b4, b5, b6⟩ := hb
    have hop := hI.2.2.1
    have hv7 := hI.2.2.2.2.2.2.1
    refine mr_iload_n dX2_readText_6 rfl ?_
    refine mr_sipush dX2_readText_7 rfl ?_
    refine mr_icmp_gt (tgt := 83) dX2_readText_10 (by decide) ⟨by omega, by omega⟩ (by decide) (fun hc_10 => absurd hc_10 (by omega)) (fun hc_10 => ?_)
    refine mr_aload_n dX2_readText_13 rfl ?_
    refine mr_get dX2_readText_14 fl_X2_34 (by first | exact mr_wR_11 _ _ _ _ _ _ _ _ _ | exact mr_wR_13 _ _ _ _ _ _ _ _ _ | exact mr_wR_14 _ _ _ _ _ _ _ _ _ | exact mr_wR_8 _ _ _ _ _ _ _ _ _ | exact mr_wR_9 _ _ _ _ _ _ _ _ _ | exact mr_wR_10 _ _ _ _ _ _ _ _ _ | exact (mr_wR_ne _ _ _ _ _ _ _ _ _ (by decide)).trans (by assumption) | assumption) rfl ?_
    refine mr_if_ne (tgt := 83) dX2_readText_17 (by decide) (by decide) (fun hc_17 => absurd rfl hc_17) (fun hc_17 => ?_)
    refine mr_aload_n dX2_readText_20 rfl ?_
    refine mr_callV (as := []) dX2_readText_21 (ok_X2_scan l G) ml_X2_52 cl_X2_scan cv_X2_scan (by decide) rfl rfl (Nat.le_of_ble_eq_true rfl) (by first | exact mr_wR_11 _ _ _ _ _ _ _ _ _ | exact mr_wR_13 _ _ _ _ _ _ _ _ _ | exact mr_wR_14 _ _ _ _ _ _ _ _ _ | exact mr_wR_8 _ _ _ _ _ _ _ _ _ | exact mr_wR_9 _ _ _ _ _ _ _ _ _ | exact mr_wR_10 _ _ _ _ _ _ _ _ _ | exact (mr_wR_ne _ _ _ _ _ _ _ _ _ (by decide)).trans (by assumption) | assumption) ?_
    refine ⟨_, _, _, _, _, _, _, _, _, _, n0, g, rfl, mr_wR_11 _ _ _ _ _ _ _ _ _, ⟨(by first | exact mr_wR_11 _ _ _ _ _ _ _ _ _ | exact mr_wR_13 _ _ _ _ _ _ _ _ _ | exact mr_wR_14 _ _ _ _ _ _ _ _ _ | exact mr_wR_8 _ _ _ _ _ _ _ _ _ | exact mr_wR_9 _ _ _ _ _ _ _ _ _ | exact mr_wR_10 _ _ _ _ _ _ _ _ _ | exact (mr_wR_ne _ _ _ _ _ _ _ _ _ (by decide)).trans (by assumption) | assumption), (by first | exact mr_wR_11 _ _ _ _ _ _ _ _ _ | exact mr_wR_13 _ _ _ _ _ _ _ _ _ | exact mr_wR_14 _ _ _ _ _ _ _ _ _ | exact mr_wR_8 _ _ _ _ _ _ _ _ _ | exact mr_wR_9 _ _ _ _ _ _ _ _ _ | exact mr_wR_10 _ _ _ _ _ _ _ _ _ | exact (mr_wR_ne _ _ _ _ _ _ _ _ _ (by decide)).trans (by assumption) | assumption)⟩, hn0, ⟨by omega, by omega⟩, mr_sct_of hn0 (by omega) ?_⟩
    rw [mr_wR_u11]
    dsimp only [Option.toList_some, Option.toList_none, List.cons_append, List.nil_append]
    refine mr_aload_n dX2_readText_24 rfl ?_
    refine mr_get dX2_readText_25 fl_X2_55 (by first | exact mr_wR_11 _ _ _ _ _ _ _ _ _ | exact mr_wR_13 _ _ _ _ _ _ _ _ _ | exact mr_wR_14 _ _ _ _ _ _ _ _ _ | exact mr_wR_8 _ _ _ _ _ _ _ _ _ | exact mr_wR_9 _ _ _ _ _ _ _ _ _ | exact mr_wR_10 _ _ _ _ _ _ _ _ _ | exact (mr_wR_ne _ _ _ _ _ _ _ _ _ (by decide)).trans (by assumption) | assumption) rfl ?_
    refine mr_iconst dX2_readText_28 ?_
    refine mr_icmp_ne (tgt := 54) dX2_readText_29 (by decide) ⟨by omega, by omega⟩ (by decide) (fun hc_29 => ?_) (fun hc_29 => ?_)
    · exact lpb_X2_readText l G h1 h2 h7 h12 hn0 ih (by omega) ht hI (fun z => by omega) hP _ rfl
    · refine mr_aload_n dX2_readText_32 rfl ?_
      refine mr_get dX2_readText_33 fl_X2_58 (by first | exact mr_wR_11 _ _ _ _ _ _ _ _ _ | exact mr_wR_13 _ _ _ _ _ _ _ _ _ | exact mr_wR_14 _ _ _ _ _ _ _ _ _ | exact mr_wR_8 _ _ _ _ _ _ _ _ _ | exact mr_wR_9 _ _ _ _ _ _ _ _ _ | exact mr_wR_10 _ _ _ _ _ _ _ _ _ | exact (mr_wR_ne _ _ _ _ _ _ _ _ _ (by decide)).trans (by assumption) | assumption) rfl ?_
      refine mr_if_ne (tgt := 54) dX2_readText_36 (by decide) ⟨by omega, by omega⟩ (fun hc_36 => ?_) (fun hc_36 => ?_)
      · exact lpb_X2_readText l G h1 h2 h7 h12 hn0 ih (by omega) ht hI (fun z => by omega) hP _ rfl
      · refine mr_aload_n dX2_readText_39 rfl ?_
        refine mr_get dX2_readText_40 fl_X2_22 (by first | exact mr_wR_11 _ _ _ _ _ _ _ _ _ | exact mr_wR_13 _ _ _ _ _ _ _ _ _ | exact mr_wR_14 _ _ _ _ _ _ _ _ _ | exact mr_wR_8 _ _ _ _ _ _ _ _ _ | exact mr_wR_9 _ _ _ _ _ _ _ _ _ | exact mr_wR_10 _ _ _ _ _ _ _ _ _ | exact (mr_wR_ne _ _ _ _ _ _ _ _ _ (by decide)).trans (by assumption) | assumption) rfl ?_
        refine mr_callV (as := []) dX2_readText_43 (ok_X5_length l G) ml_X2_61 cl_X5_length cv_X5_length (by decide) rfl rfl (Nat.le_of_ble_eq_true rfl) (by first | exact mr_wR_11 _ _ _ _ _ _ _ _ _ | exact mr_wR_13 _ _ _ _ _ _ _ _ _ | exact mr_wR_14 _ _ _ _ _ _ _ _ _ | exact mr_wR_8 _ _ _ _ _ _ _ _ _ | exact mr_wR_9 _ _ _ _ _ _ _ _ _ | exact mr_wR_10 _ _ _ _ _ _ _ _ _ | exact (mr_wR_ne _ _ _ _ _ _ _ _ _ (by decide)).trans (by assumption) | assumption) ?_
        refine ⟨_, _, rfl, ⟨(by first | exact mr_wR_11 _ _ _ _ _ _ _ _ _ | exact mr_wR_13 _ _ _ _ _ _ _ _ _ | exact mr_wR_14 _ _ _ _ _ _ _ _ _ | exact mr_wR_8 _ _ _ _ _ _ _ _ _ | exact mr_wR_9 _ _ _ _ _ _ _ _ _ | exact mr_wR_10 _ _ _ _ _ _ _ _ _ | exact (mr_wR_ne _ _ _ _ _ _ _ _ _ (by decide)).trans (by assumption) | assumption), (by first | exact mr_wR_11 _ _ _ _ _ _ _ _ _ | exact mr_wR_13 _ _ _ _ _ _ _ _ _ | exact mr_wR_14 _ _ _ _ _ _ _ _ _ | exact mr_wR_8 _ _ _ _ _ _ _ _ _ | exact mr_wR_9 _ _ _ _ _ _ _ _ _ | exact mr_wR_10 _ _ _ _ _ _ _ _ _ | exact (mr_wR_ne _ _ _ _ _ _ _ _ _ (by decide)).trans (by assumption) | assumption)⟩, ?_⟩
        dsimp only [Option.toList_some, Option.toList_none, List.cons_append, List.nil_append]
        refine mr_sipush dX2_readText_46 rfl ?_
        refine mr_icmp_gt (tgt := 54) dX2_readText_49 (by decide) ⟨by omega, by omega⟩ (by decide) (fun hc_49 => ?_) (fun hc_49 => ?_)
        · exact lpb_X2_readText l G h1 h2 h7 h12 hn0 ih (by omega) ht hI (fun z => by omega) hP _ rfl
        · refine mr_iconst dX2_readText_52 ?_
          refine mr_zret rfl (Or.inr rfl) dX2_readText_53 ?_
          unfold mr_rt at hP
          rw [if_pos ⟨hc_29, hc_36, hc_49⟩] at hP
          exact hP _ _ _ _ _ _ _ _ _ _ _ _ _ _ (by split; exact b5 (by assumption); exact hv7) hI.2.2.2.1 hI.1 hI.2.1
def T_X2_readText (a : List mr_AV) (w : mr_Wd) (Po : Option mr_AV → mr_Wd → Prop) : Prop := ∃ (v k s n op sl ln md fk fp n0 : Int) (g f nm : Nat → Int), a = [vR 11 0] ∧ w 11 = eRD v k s n op sl ln md fk fp ∧ mr_TP w n0 g ∧ mr_BK w 12 f ∧ w 14 = eA 0 3 nm ∧ w 7 = eO 3 [vR 8 0] ∧ (∃ (m cl ct : Int) (R F : Nat → Nat → Int), mr_SH w m cl ct R F) ∧ (0 ≤ n0 ∧ n0 ≤ 540) ∧ (0 ≤ v ∧ v ≤ 99) ∧ mr_Rd nm ∧ (0 ≤ sl ∧ sl ≤ 20) ∧ mr_RP w Po (mr_rt n0 g 541 0 0 sl 0 0 (fun _ => 0) nm v)
set_option maxHeartbeats 4000000 in
set_option maxRecDepth 20000 in
theorem ok_X2_readText (l : Launch) (G : mr_G) : mr_Ok l G yX2_readText cX2_readText 2 (some .boolean) 7 148 T_X2_readText := by
  refine mr_Ok.of (by decide +kernel) ?_
  rintro a w Po ⟨v, k, s, n, op, sl, ln, md, fk, fp, n0, g, f, nm, rfl, h11, ⟨h1, h2⟩, ⟨h12, h13⟩, h14, h7, ⟨m0, cl0, ct0, R0, F0, hS⟩, hn0, hv, hnm, hsl, hP⟩
  refine ⟨Nat.le_of_ble_eq_true rfl, ?_⟩
  show mr_J l G RX2 cX2_readText 2 (some .boolean) 7 148 Po 0 [some (vR 11 0), none] [] w
  refine mr_aload_n dX2_readText_0 rfl ?_
  refine mr_callV (as := []) dX2_readText_1 (ok_X2_startText l G) ml_X2_47 cl_X2_startText cv_X2_startText (by decide) rfl rfl (Nat.le_of_ble_eq_true rfl) h11 ?_
  refine ⟨_, _, _, _, _, _, _, _, _, _, f, rfl, h11, ⟨h12, h13⟩, ?_⟩
  dsimp only [Option.toList_some, Option.toList_none, List.cons_append, List.nil_append]
  refine mr_iconst dX2_readText_4 ?_
  refine mr_istore_n dX2_readText_5 rfl (by decide) ?_
  have hw : mr_up (mr_up w 13 (eA 0 51 (fun _ => 0))) 11 (eRD v k s 0 0 sl 0 0 0 0) = mr_wR w (fun _ => 0) nm (eRD v k s 0 0 sl 0 0 0 0) m0 cl0 ct0 R0 F0 := by
    refine mr_wR_ex ?_ ?_ ?_ rfl rfl ?_ (fun q hq => ?_)
    · exact hS.1
    · exact hS.2.1
    · exact hS.2.2
    · exact h14
    · rw [mr_up_ne _ _ hq.2.2.2.1, mr_up_ne _ _ hq.2.2.2.2.1, mr_wR_ne _ _ _ _ _ _ _ _ _ hq]
  refine mr_cw hw ?_
  refine lp_X2_readText l G h1 h2 h7 h12 hn0 541 0 0 v k s 0 sl 0 0 0 _ nm _ _ _ _ _ (by omega) (by omega) ?_ hP
  exact ⟨⟨fun j => ⟨Int.le_refl 0, by show (0 : Int) ≤ 30; decide⟩, by show (0 : Int) ≤ 3; decide, by show (0 : Int) ≤ 3; decide⟩, hnm, by decide, hsl, by decide, by decide, hv, fun _ => by decide, fun z => absurd z (by decide), fun z => absurd z (by decide), fun z => absurd z (by decide), fun z => absurd rfl z, fun z => absurd z (by decide), fun z => absurd z (by decide)⟩
