/-- numbers up to m -/
def mr_Rm (m : Int) (g : Nat → Int) : Prop := ∀ j : Nat, 0 ≤ g j ∧ g j ≤ m
def mr_Rn (n m : Int) (R : Nat → Nat → Int) : Prop := ∀ i : Nat, (i : Int) < n → mr_Rm m (R i)
theorem mr_Rm.rd {m : Int} {g : Nat → Int} (h : mr_Rm m g) (hm : m ≤ 30) : mr_Rd g := fun j => ⟨(h j).1, by have := (h j).2; omega⟩
theorem mr_emod_bm {m x : Int} (hm : 1 ≤ m) : 0 ≤ x % m ∧ x % m ≤ m := by
  have h1 := Int.emod_nonneg x (show m ≠ 0 by omega)
  have h2 := Int.emod_lt_of_pos x (show 0 < m by omega)
  omega
theorem mr_ft_bm {m c a : Int} {T L : Nat → Int} (hT : mr_Rm m T) (hL : mr_Rm m L) : mr_Rm m (mr_ft c a T L) := by
  intro j
  unfold mr_ft
  split
  · exact hL j
  · exact hT j
theorem mr_fl_bm {m c a q : Int} {T L : Nat → Int} (hm : 1 ≤ m) (hL : mr_Rm m L) : mr_Rm m (mr_fl m c a q T L) := by
  intro j
  unfold mr_fl
  split
  · exact mr_emod_bm hm
  · exact hL j
theorem mr_fol_bm {m c cl : Int} (hm : 1 ≤ m) : ∀ (k : Nat) {T L : Nat → Int}, mr_Rm m T → mr_Rm m L → mr_Rm m (mr_fol m c cl k T L).1 ∧ mr_Rm m (mr_fol m c cl k T L).2
  | 0, T, L, hT, hL => ⟨hT, hL⟩
  | k + 1, T, L, hT, hL => by
    unfold mr_fol
    split
    · exact mr_fol_bm hm k (mr_ft_bm hT hL) (mr_fl_bm hm hL)
    · exact ⟨hT, hL⟩
theorem mr_Rn_Rw {n m : Int} {R : Nat → Nat → Int} (hR : mr_Rn n m R) (r : Nat) {g : Nat → Int} (hg : mr_Rm m g) : mr_Rn n m (mr_Rw R r g) := by
  intro i hi
  by_cases h : i = r
  · subst h; rw [mr_Rw_same]; exact hg
  · rw [mr_Rw_ne _ _ h]; exact hR i hi
theorem mr_fi_bm {m c cl ct : Int} (hm : 1 ≤ m) : ∀ (n : Nat) (i : Int) {T : Nat → Int} {R : Nat → Nat → Int}, 0 ≤ i → i + n ≤ ct → mr_Rm m T → mr_Rn ct m R → mr_Rm m (mr_fi m c cl n i T R).1 ∧ mr_Rn ct m (mr_fi m c cl n i T R).2
  | 0, i, T, R, _, _, hT, hR => ⟨hT, hR⟩
  | n + 1, i, T, R, h0, h1, hT, hR => by
    unfold mr_fi
    have h := mr_fol_bm (c := c) (cl := cl) hm 40 hT (hR i.toNat (by omega))
    exact mr_fi_bm hm n (i + 1) (by omega) (by omega) h.1 (mr_Rn_Rw hR _ h.2)
theorem mr_fs_bm {m : Int} {g : Nat → Int} (hg : mr_Rm m g) (i : Nat) {x : Int} (hx : 0 ≤ x ∧ x ≤ m) : mr_Rm m (mr_fs g i x) := by
  intro j
  unfold mr_fs
  split
  · exact hx
  · exact hg j
theorem mr_s1c_bm {m cl ct c : Int} {R : Nat → Nat → Int} (hm : 1 ≤ m) (hct : 0 ≤ ct) (hR : mr_Rn ct m R) : mr_Rm m (mr_s1c m cl ct c R).1 ∧ mr_Rn ct m (mr_s1c m cl ct c R).2 :=
  mr_fi_bm hm _ _ (Int.le_refl 0) (by omega) (mr_fs_bm (fun j => ⟨Int.le_refl 0, by show (0 : Int) ≤ m; omega⟩) _ ⟨by omega, by omega⟩) hR
theorem mr_td_bm {m cl o : Int} {h g : Nat → Int} (hm : 1 ≤ m) (hg : mr_Rm m g) : mr_Rm m (mr_td m cl h o g) := by
  unfold mr_td
  split
  · intro j
    unfold mr_tu
    split
    · exact mr_emod_bm hm
    · exact hg j
  · exact hg
theorem mr_tl_bm {m cl : Int} {F : Nat → Nat → Int} (hm : 1 ≤ m) : ∀ (n : Nat) (o : Int) {g : Nat → Int}, mr_Rm m g → mr_Rm m (mr_tl m cl F n o g)
  | 0, o, g, hg => hg
  | n + 1, o, g, hg => mr_tl_bm hm n (o + 1) (mr_td_bm hm hg)
theorem mr_ty_bm {n m cl c : Int} {F : Nat → Nat → Int} (hm : 1 ≤ m) (hc : 0 ≤ c ∧ c < n) (hF : mr_Rn n m F) : mr_Rn n m (mr_ty m cl F c) := mr_Rn_Rw hF _ (mr_tl_bm hm _ _ (hF _ (by omega)))
set_option maxHeartbeats 4000000 in
set_option maxRecDepth 20000 in
theorem lpi_X4_tidy (l : Launch) (G : mr_G) {Po : Option mr_AV → mr_Wd → Prop} {w : mr_Wd} {m cl ct c o q : Int} {F : Nat → Nat → Int} {r : Nat} {g : Nat → Int} (h8 : w 8 = eO 4 [vR 9 0, vR 10 0, vI m, vI cl, vI ct]) (hm : 1 ≤ m ∧ m ≤ 30) (hcl : 0 ≤ cl ∧ cl ≤ 7) (ho : 0 ≤ o ∧ o < cl) (hr : r < 7) (hor : o.toNat ≠ r) (hg : mr_Rd g) (hF : mr_Rd (F o.toNat)) (hq : 0 ≤ q ∧ q ≤ 30) (hk : mr_J l G RX4 cX4_tidy 7 none 0 0 Po 99 [some (vR 8 0), some (vI c), some (vR 10 (r + 1)), some (vI o), none, none, none] [] (mr_up w 10 (eM 7 7 (mr_Rw F r (mr_tu m o cl q (F o.toNat) g))))) : ∀ (n : Nat) (a : Int), o ≤ a → a + n = cl → mr_J l G RX4 cX4_tidy 7 none 0 0 Po 58 [some (vR 8 0), some (vI c), some (vR 10 (r + 1)), some (vI o), none, some (vI q), some (vI a)] [] (mr_up w 10 (eM 7 7 (mr_Rw F r (mr_tu m o a q (F o.toNat) g)))) := by
  intro n
  induction n with
  | zero =>
    intro a ha hn
    have e : a = cl := by omega
    subst e
    refine mr_iload dX4_tidy_58 rfl ?_
    refine mr_aload_n dX4_tidy_60 rfl ?_
    refine mr_get dX4_tidy_61 fl_X4_32 (by first | assumption | exact mr_up_same _ _ _ | exact mr_lk (by assumption) (by first | assumption | decide) | exact mr_lk (mr_up_same _ _ _) (by first | assumption | decide) | exact mr_lk (mr_lk (by assumption) (by first | assumption | decide)) (by first | assumption | decide)) rfl ?_
    refine mr_icmp_ge (tgt := 99) dX4_tidy_64 (by decide) (by omega) (by omega) (fun hc_64 => ?_) (fun hc_64 => absurd hc_64 (by omega))
    refine mr_weak [some (vR 8 0), some (vI c), some (vR 10 (r + 1)), some (vI o), none, none, none] ⟨rfl, rfl, rfl, rfl, trivial⟩ ?_
    exact hk
  | succ n ih =>
    intro a ha hn
    have hga := hg a.toNat
    have hFa := hF a.toNat
    have e1 : mr_tu m o a q (F o.toNat) g a.toNat = g a.toNat := by
      unfold mr_tu
      rw [if_neg (fun z => by omega)]
    have hmu := mr_mul_bd (A := 30) (x := q) ⟨by omega, hq.2⟩ hFa (by decide)
    have hmu2 := Int.mul_nonneg hq.1 hFa.1
    have e3 : (g a.toNat + q * F o.toNat a.toNat).tmod m = (g a.toNat + q * F o.toNat a.toNat) % m := Int.tmod_eq_emod_of_nonneg (by omega)
    refine mr_iload dX4_tidy_58 rfl ?_
    refine mr_aload_n dX4_tidy_60 rfl ?_
    refine mr_get dX4_tidy_61 fl_X4_32 (by first | assumption | exact mr_up_same _ _ _ | exact mr_lk (by assumption) (by first | assumption | decide) | exact mr_lk (mr_up_same _ _ _) (by first | assumption | decide) | exact mr_lk (mr_lk (by assumption) (by first | assumption | decide)) (by first | assumption | decide)) rfl ?_
    refine mr_icmp_ge (tgt := 99) dX4_tidy_64 (by decide) (by omega) (by omega) (fun hc_64 => absurd hc_64 (by omega)) (fun hc_64 => ?_)
    refine mr_aload_n dX4_tidy_67 rfl ?_
    refine mr_iload dX4_tidy_68 rfl ?_
    refine mr_aload_n dX4_tidy_70 rfl ?_
    refine mr_iload dX4_tidy_71 rfl ?_
    refine mr_ialdM dX4_tidy_73 (by first | assumption | exact mr_up_same _ _ _ | exact mr_lk (by assumption) (by first | assumption | decide) | exact mr_lk (mr_up_same _ _ _) (by first | assumption | decide) | exact mr_lk (mr_lk (by assumption) (by first | assumption | decide)) (by first | assumption | decide)) hr (by omega) (by omega) (by decide) ?_
    rw [mr_Rw_same, e1]
    refine mr_iload dX4_tidy_74 rfl ?_
    refine mr_aload_n dX4_tidy_76 rfl ?_
    refine mr_get dX4_tidy_77 fl_X4_16 (by first | assumption | exact mr_up_same _ _ _ | exact mr_lk (by assumption) (by first | assumption | decide) | exact mr_lk (mr_up_same _ _ _) (by first | assumption | decide) | exact mr_lk (mr_lk (by assumption) (by first | assumption | decide)) (by first | assumption | decide)) rfl ?_
    refine mr_iload_n dX4_tidy_80 rfl ?_
    refine mr_aald dX4_tidy_81 (by first | assumption | exact mr_up_same _ _ _ | exact mr_lk (by assumption) (by first | assumption | decide) | exact mr_lk (mr_up_same _ _ _) (by first | assumption | decide) | exact mr_lk (mr_lk (by assumption) (by first | assumption | decide)) (by first | assumption | decide)) (by omega) (by omega) (by decide) ?_
    refine mr_iload dX4_tidy_82 rfl ?_
    refine mr_ialdM dX4_tidy_84 (by first | assumption | exact mr_up_same _ _ _ | exact mr_lk (by assumption) (by first | assumption | decide) | exact mr_lk (mr_up_same _ _ _) (by first | assumption | decide) | exact mr_lk (mr_lk (by assumption) (by first | assumption | decide)) (by first | assumption | decide)) (by omega) (by omega) (by omega) (by decide) ?_
    rw [mr_Rw_ne _ _ hor]
    refine mr_imul dX4_tidy_85 ?_
    refine mr_iadd dX4_tidy_86 ?_
    refine mr_aload_n dX4_tidy_87 rfl ?_
    refine mr_get dX4_tidy_88 fl_X4_19 (by first | assumption | exact mr_up_same _ _ _ | exact mr_lk (by assumption) (by first | assumption | decide) | exact mr_lk (mr_up_same _ _ _) (by first | assumption | decide) | exact mr_lk (mr_lk (by assumption) (by first | assumption | decide)) (by first | assumption | decide)) rfl ?_
    refine mr_irem dX4_tidy_91 (by omega) (by omega) (by omega) ?_
    rw [e3]
    refine mr_iastM dX4_tidy_92 (by first | assumption | exact mr_up_same _ _ _ | exact mr_lk (by assumption) (by first | assumption | decide) | exact mr_lk (mr_up_same _ _ _) (by first | assumption | decide) | exact mr_lk (mr_lk (by assumption) (by first | assumption | decide)) (by first | assumption | decide)) hr (by omega) (by omega) (by decide) ?_
    rw [mr_up_up, mr_Fs_Rw]
    refine mr_iinc dX4_tidy_93 rfl (by decide) rfl ?_
    refine mr_goto (tgt := 58) dX4_tidy_96 (by decide) ?_
    have e4 : mr_fs (mr_tu m o a q (F o.toNat) g) a.toNat ((g a.toNat + q * F o.toNat a.toNat) % m) = mr_tu m o (a + 1) q (F o.toNat) g := by
      funext j
      unfold mr_fs mr_tu
      by_cases hj : j = a.toNat
      · rw [if_pos hj, if_pos ⟨by omega, by omega⟩, hj]
      · rw [if_neg hj]
        by_cases h : o ≤ (j : Int) ∧ (j : Int) < a
        · rw [if_pos h, if_pos ⟨h.1, by omega⟩]
        · rw [if_neg h, if_neg (fun z => h ⟨z.1, by omega⟩)]
    rw [e4]
    exact ih (a + 1) (by omega) (by omega)
set_option maxHeartbeats 4000000 in
set_option maxRecDepth 20000 in
theorem lp_X4_tidy (l : Launch) (G : mr_G) {Po : Option mr_AV → mr_Wd → Prop} {w : mr_Wd} {m cl ct c : Int} {F : Nat → Nat → Int} {r : Nat} (h8 : w 8 = eO 4 [vR 9 0, vR 10 0, vI m, vI cl, vI ct]) (hm : 1 ≤ m ∧ m ≤ 30) (hcl : 0 ≤ cl ∧ cl ≤ 7) (hr : r < 7) (hF : mr_Rn cl m F) : ∀ (n : Nat) (o : Int) (g : Nat → Int), (r : Int) < o → o + n = cl → mr_Rm m g → Po none (mr_up w 10 (eM 7 7 (mr_Rw F r (mr_tl m cl F n o g)))) → mr_J l G RX4 cX4_tidy 7 none 0 0 Po 11 [some (vR 8 0), some (vI c), some (vR 10 (r + 1)), some (vI o), none, none, none] [] (mr_up w 10 (eM 7 7 (mr_Rw F r g))) := by
  intro n
  induction n with
  | zero =>
    intro o g ho hn hg hP
    refine mr_iload_n dX4_tidy_11 rfl ?_
    refine mr_aload_n dX4_tidy_12 rfl ?_
    refine mr_get dX4_tidy_13 fl_X4_32 (by first | assumption | exact mr_up_same _ _ _ | exact mr_lk (by assumption) (by first | assumption | decide) | exact mr_lk (mr_up_same _ _ _) (by first | assumption | decide) | exact mr_lk (mr_lk (by assumption) (by first | assumption | decide)) (by first | assumption | decide)) rfl ?_
    refine mr_icmp_ge (tgt := 105) dX4_tidy_16 (by decide) (by omega) (by omega) (fun hc_16 => ?_) (fun hc_16 => absurd hc_16 (by omega))
    refine mr_vret rfl dX4_tidy_105 ?_
    exact hP
  | succ n ih =>
    intro o g ho hn hg hP
    have hor : o.toNat ≠ r := by omega
    have hgo := hg o.toNat
    have hFo := hF o.toNat (by omega) o.toNat
    have e6 : (g o.toNat).tdiv (F o.toNat o.toNat) = g o.toNat / F o.toNat o.toNat := Int.tdiv_eq_ediv_of_nonneg hgo.1
    have hd1 := Int.ediv_le_self (F o.toNat o.toNat) hgo.1
    have hd2 := Int.ediv_nonneg hgo.1 hFo.1
    refine mr_iload_n dX4_tidy_11 rfl ?_
    refine mr_aload_n dX4_tidy_12 rfl ?_
    refine mr_get dX4_tidy_13 fl_X4_32 (by first | assumption | exact mr_up_same _ _ _ | exact mr_lk (by assumption) (by first | assumption | decide) | exact mr_lk (mr_up_same _ _ _) (by first | assumption | decide) | exact mr_lk (mr_lk (by assumption) (by first | assumption | decide)) (by first | assumption | decide)) rfl ?_
    refine mr_icmp_ge (tgt := 105) dX4_tidy_16 (by decide) (by omega) (by omega) (fun hc_16 => absurd hc_16 (by omega)) (fun hc_16 => ?_)
    refine mr_aload_n dX4_tidy_19 rfl ?_
    refine mr_get dX4_tidy_20 fl_X4_16 (by first | assumption | exact mr_up_same _ _ _ | exact mr_lk (by assumption) (by first | assumption | decide) | exact mr_lk (mr_up_same _ _ _) (by first | assumption | decide) | exact mr_lk (mr_lk (by assumption) (by first | assumption | decide)) (by first | assumption | decide)) rfl ?_
    refine mr_iload_n dX4_tidy_23 rfl ?_
    refine mr_aald dX4_tidy_24 (by first | assumption | exact mr_up_same _ _ _ | exact mr_lk (by assumption) (by first | assumption | decide) | exact mr_lk (mr_up_same _ _ _) (by first | assumption | decide) | exact mr_lk (mr_lk (by assumption) (by first | assumption | decide)) (by first | assumption | decide)) (by omega) (by omega) (by decide) ?_
    refine mr_iload_n dX4_tidy_25 rfl ?_
    refine mr_ialdM dX4_tidy_26 (by first | assumption | exact mr_up_same _ _ _ | exact mr_lk (by assumption) (by first | assumption | decide) | exact mr_lk (mr_up_same _ _ _) (by first | assumption | decide) | exact mr_lk (mr_lk (by assumption) (by first | assumption | decide)) (by first | assumption | decide)) (by omega) (by omega) (by omega) (by decide) ?_
    rw [mr_Rw_ne _ _ hor]
    refine mr_istore dX4_tidy_27 rfl (by decide) ?_
    refine mr_iload dX4_tidy_29 rfl ?_
    refine mr_if_le (tgt := 99) dX4_tidy_31 (by decide) (by omega) (fun hc_31 => ?_) (fun hc_31 => ?_)
    · refine mr_weak [some (vR 8 0), some (vI c), some (vR 10 (r + 1)), some (vI o), none, none, none] ⟨rfl, rfl, rfl, rfl, trivial⟩ ?_
      have e9 : mr_td m cl (F o.toNat) o g = g := by
        unfold mr_td
        rw [if_neg (fun z => by omega)]
      rw [mr_tl, e9] at hP
      refine mr_iinc dX4_tidy_99 rfl (by decide) rfl ?_
      refine mr_goto (tgt := 11) dX4_tidy_102 (by decide) ?_
      exact ih (o + 1) g (by omega) (by omega) hg hP
    · refine mr_aload_n dX4_tidy_34 rfl ?_
      refine mr_iload_n dX4_tidy_35 rfl ?_
      refine mr_ialdM dX4_tidy_36 (by first | assumption | exact mr_up_same _ _ _ | exact mr_lk (by assumption) (by first | assumption | decide) | exact mr_lk (mr_up_same _ _ _) (by first | assumption | decide) | exact mr_lk (mr_lk (by assumption) (by first | assumption | decide)) (by first | assumption | decide)) hr (by omega) (by omega) (by decide) ?_
      rw [mr_Rw_same]
      refine mr_iload dX4_tidy_37 rfl ?_
      refine mr_icmp_lt (tgt := 99) dX4_tidy_39 (by decide) (by omega) (by omega) (fun hc_39 => ?_) (fun hc_39 => ?_)
      · refine mr_weak [some (vR 8 0), some (vI c), some (vR 10 (r + 1)), some (vI o), none, none, none] ⟨rfl, rfl, rfl, rfl, trivial⟩ ?_
        have e9 : mr_td m cl (F o.toNat) o g = g := by
          unfold mr_td
          rw [if_neg (fun z => by omega)]
        rw [mr_tl, e9] at hP
        refine mr_iinc dX4_tidy_99 rfl (by decide) rfl ?_
        refine mr_goto (tgt := 11) dX4_tidy_102 (by decide) ?_
        exact ih (o + 1) g (by omega) (by omega) hg hP
      · refine mr_aload_n dX4_tidy_42 rfl ?_
        refine mr_get dX4_tidy_43 fl_X4_19 (by first | assumption | exact mr_up_same _ _ _ | exact mr_lk (by assumption) (by first | assumption | decide) | exact mr_lk (mr_up_same _ _ _) (by first | assumption | decide) | exact mr_lk (mr_lk (by assumption) (by first | assumption | decide)) (by first | assumption | decide)) rfl ?_
        refine mr_aload_n dX4_tidy_46 rfl ?_
        refine mr_iload_n dX4_tidy_47 rfl ?_
        refine mr_ialdM dX4_tidy_48 (by first | assumption | exact mr_up_same _ _ _ | exact mr_lk (by assumption) (by first | assumption | decide) | exact mr_lk (mr_up_same _ _ _) (by first | assumption | decide) | exact mr_lk (mr_lk (by assumption) (by first | assumption | decide)) (by first | assumption | decide)) hr (by omega) (by omega) (by decide) ?_
        rw [mr_Rw_same]
        refine mr_iload dX4_tidy_49 rfl ?_
        refine mr_idiv dX4_tidy_51 (by omega) (by omega) (by omega) ?_
        rw [e6]
        refine mr_isub dX4_tidy_52 ?_
        refine mr_istore dX4_tidy_53 rfl (by decide) ?_
        refine mr_iload_n dX4_tidy_55 rfl ?_
        refine mr_istore dX4_tidy_56 rfl (by decide) ?_
        have e9 : mr_td m cl (F o.toNat) o g = mr_tu m o cl (m - g o.toNat / F o.toNat o.toNat) (F o.toNat) g := by
          unfold mr_td
          rw [if_pos ⟨by omega, by omega⟩]
        rw [mr_tl, e9] at hP
        have e8 : mr_tu m o o (m - g o.toNat / F o.toNat o.toNat) (F o.toNat) g = g := by
          funext j
          unfold mr_tu
          rw [if_neg (fun z => by omega)]
        refine mr_weak [some (vR 8 0), some (vI c), some (vR 10 (r + 1)), some (vI o), none, some (vI (m - g o.toNat / F o.toNat o.toNat)), some (vI o)] ⟨rfl, rfl, rfl, rfl, rfl, rfl, trivial⟩ ?_
        have hqb : 0 ≤ m - g o.toNat / F o.toNat o.toNat ∧ m - g o.toNat / F o.toNat o.toNat ≤ 30 := ⟨by omega, by omega⟩
        have h9 := lpi_X4_tidy l G (Po := Po) (w := w) (ct := ct) (c := c) (q := m - g o.toNat / F o.toNat o.toNat) h8 hm hcl ⟨by omega, by omega⟩ hr hor (hg.rd hm.2) ((hF o.toNat (by omega)).rd hm.2) hqb ?_ (cl - o).toNat o (Int.le_refl o) (by omega)
        · rw [e8] at h9
          exact h9
        · refine mr_iinc dX4_tidy_99 rfl (by decide) rfl ?_
          refine mr_goto (tgt := 11) dX4_tidy_102 (by decide) ?_
          exact ih (o + 1) _ (by omega) (by omega) (fun j => by
            have := mr_td_bm (cl := cl) (o := o) (h := F o.toNat) hm.1 hg j
            rw [e9] at this
            exact this) hP
def T_X4_tidy (a : List mr_AV) (w : mr_Wd) (Po : Option mr_AV → mr_Wd → Prop) : Prop := ∃ (m cl ct c : Int) (R F : Nat → Nat → Int), a = [vR 8 0, vI c] ∧ mr_SH w m cl ct R F ∧ (1 ≤ m ∧ m ≤ 30) ∧ (0 ≤ cl ∧ cl ≤ 7) ∧ (0 ≤ c ∧ c < cl) ∧ mr_Rn cl m F ∧ Po none (mr_up w 10 (eM 7 7 (mr_ty m cl F c)))
set_option maxHeartbeats 4000000 in
set_option maxRecDepth 20000 in
theorem ok_X4_tidy (l : Launch) (G : mr_G) : mr_Ok l G yX4_tidy cX4_tidy 7 none 0 0 T_X4_tidy := by
  refine mr_Ok.of (by decide +kernel) ?_
  rintro a w Po ⟨m, cl, ct, c, R, F, rfl, ⟨h8, h9, h10⟩, hm, hcl, hc0, hF, hP⟩
  refine ⟨Nat.le_of_ble_eq_true rfl, ?_⟩
  show mr_J l G RX4 cX4_tidy 7 none 0 0 Po 0 [some (vR 8 0), some (vI c), none, none, none, none, none] [] w
  refine mr_aload_n dX4_tidy_0 rfl ?_
  refine mr_get dX4_tidy_1 fl_X4_16 (by first | assumption | exact mr_up_same _ _ _ | exact mr_lk (by assumption) (by first | assumption | decide) | exact mr_lk (mr_up_same _ _ _) (by first | assumption | decide) | exact mr_lk (mr_lk (by assumption) (by first | assumption | decide)) (by first | assumption | decide)) rfl ?_
  refine mr_iload_n dX4_tidy_4 rfl ?_
  refine mr_aald dX4_tidy_5 (by first | assumption | exact mr_up_same _ _ _ | exact mr_lk (by assumption) (by first | assumption | decide) | exact mr_lk (mr_up_same _ _ _) (by first | assumption | decide) | exact mr_lk (mr_lk (by assumption) (by first | assumption | decide)) (by first | assumption | decide)) (by omega) (by omega) (by decide) ?_
  refine mr_astore_n dX4_tidy_6 rfl (by decide) ?_
  refine mr_iload_n dX4_tidy_7 rfl ?_
  refine mr_iconst dX4_tidy_8 ?_
  refine mr_iadd dX4_tidy_9 ?_
  refine mr_istore_n dX4_tidy_10 rfl (by decide) ?_
  have h9b := lp_X4_tidy l G (c := c) (F := F) (r := c.toNat) h8 hm hcl (by omega) hF (cl - c - 1).toNat (c + 1) (F c.toNat) (by omega) (by omega) (hF c.toNat (by omega)) hP
  rw [mr_Rw_self, mr_up_self h10] at h9b
  exact h9b
set_option maxHeartbeats 4000000 in
set_option maxRecDepth 20000 in
theorem lpi_X4_shape (l : Launch) (G : mr_G) {Po : Option mr_AV → mr_Wd → Prop} {w : mr_Wd} {m cl ct c : Int} {F : Nat → Nat → Int} {r : Nat} (h8 : w 8 = eO 4 [vR 9 0, vR 10 0, vI m, vI cl, vI ct]) (hm : 1 ≤ m ∧ m ≤ 30) (hcl : 0 ≤ cl ∧ cl ≤ 7) (hct : 0 ≤ ct ∧ ct ≤ 6) (hc0 : 0 ≤ c ∧ c < cl) (hr : r < 7) : ∀ (n : Nat) (i : Int) (T : Nat → Int) (R : Nat → Nat → Int), 0 ≤ i → i + n = ct → mr_Rm m T → mr_Rn ct m R → (mr_J l G RX4 cX4_shape 4 none 1 27 Po 57 [some (vR 8 0), some (vI c), some (vR 10 (r + 1)), none] [] (mr_up (mr_up w 9 (eM 6 7 (mr_fi m c cl n i T R).2)) 10 (eM 7 7 (mr_Rw F r (mr_fi m c cl n i T R).1)))) → mr_J l G RX4 cX4_shape 4 none 1 27 Po 31 [some (vR 8 0), some (vI c), some (vR 10 (r + 1)), some (vI i)] [] (mr_up (mr_up w 9 (eM 6 7 R)) 10 (eM 7 7 (mr_Rw F r T))) := by
  intro n
  induction n with
  | zero =>
    intro i T R hi hn hT hR hk
    refine mr_iload_n dX4_shape_31 rfl ?_
    refine mr_aload_n dX4_shape_32 rfl ?_
    refine mr_get dX4_shape_33 fl_X4_35 (by first | assumption | exact mr_up_same _ _ _ | exact mr_lk (by assumption) (by first | assumption | decide) | exact mr_lk (mr_up_same _ _ _) (by first | assumption | decide) | exact mr_lk (mr_lk (by assumption) (by first | assumption | decide)) (by first | assumption | decide)) rfl ?_
    refine mr_icmp_ge (tgt := 57) dX4_shape_36 (by decide) (by omega) (by omega) (fun hc_36 => ?_) (fun hc_36 => absurd hc_36 (by omega))
    refine mr_weak [some (vR 8 0), some (vI c), some (vR 10 (r + 1)), none] ⟨rfl, rfl, rfl, trivial⟩ ?_
    exact hk
  | succ n ih =>
    intro i T R hi hn hT hR hk
    have h := mr_fol_bm (c := c) (cl := cl) hm.1 40 hT (hR i.toNat (by omega))
    refine mr_iload_n dX4_shape_31 rfl ?_
    refine mr_aload_n dX4_shape_32 rfl ?_
    refine mr_get dX4_shape_33 fl_X4_35 (by first | assumption | exact mr_up_same _ _ _ | exact mr_lk (by assumption) (by first | assumption | decide) | exact mr_lk (mr_up_same _ _ _) (by first | assumption | decide) | exact mr_lk (mr_lk (by assumption) (by first | assumption | decide)) (by first | assumption | decide)) rfl ?_
    refine mr_icmp_ge (tgt := 57) dX4_shape_36 (by decide) (by omega) (by omega) (fun hc_36 => absurd hc_36 (by omega)) (fun hc_36 => ?_)
    refine mr_aload_n dX4_shape_39 rfl ?_
    refine mr_aload_n dX4_shape_40 rfl ?_
    refine mr_aload_n dX4_shape_41 rfl ?_
    refine mr_get dX4_shape_42 fl_X4_13 (by first | assumption | exact mr_up_same _ _ _ | exact mr_lk (by assumption) (by first | assumption | decide) | exact mr_lk (mr_up_same _ _ _) (by first | assumption | decide) | exact mr_lk (mr_lk (by assumption) (by first | assumption | decide)) (by first | assumption | decide)) rfl ?_
    refine mr_iload_n dX4_shape_45 rfl ?_
    refine mr_aald dX4_shape_46 (by first | assumption | exact mr_up_same _ _ _ | exact mr_lk (by assumption) (by first | assumption | decide) | exact mr_lk (mr_up_same _ _ _) (by first | assumption | decide) | exact mr_lk (mr_lk (by assumption) (by first | assumption | decide)) (by first | assumption | decide)) (by omega) (by omega) (by decide) ?_
    refine mr_iload_n dX4_shape_47 rfl ?_
    refine mr_callV (as := [_, _, _]) dX4_shape_48 (ok_X4_fold l G) ml_X4_44 cl_X4_fold cv_X4_fold (by decide) rfl rfl (Nat.le_of_ble_eq_true rfl) (by first | assumption | exact mr_up_same _ _ _ | exact mr_lk (by assumption) (by first | assumption | decide) | exact mr_lk (mr_up_same _ _ _) (by first | assumption | decide) | exact mr_lk (mr_lk (by assumption) (by first | assumption | decide)) (by first | assumption | decide)) ?_
    refine ⟨_, _, _, _, _, _, _, _, rfl, ⟨(by first | assumption | exact mr_up_same _ _ _ | exact mr_lk (by assumption) (by first | assumption | decide) | exact mr_lk (mr_up_same _ _ _) (by first | assumption | decide) | exact mr_lk (mr_lk (by assumption) (by first | assumption | decide)) (by first | assumption | decide)), (by first | assumption | exact mr_up_same _ _ _ | exact mr_lk (by assumption) (by first | assumption | decide) | exact mr_lk (mr_up_same _ _ _) (by first | assumption | decide) | exact mr_lk (mr_lk (by assumption) (by first | assumption | decide)) (by first | assumption | decide)), (by first | assumption | exact mr_up_same _ _ _ | exact mr_lk (by assumption) (by first | assumption | decide) | exact mr_lk (mr_up_same _ _ _) (by first | assumption | decide) | exact mr_lk (mr_lk (by assumption) (by first | assumption | decide)) (by first | assumption | decide))⟩, hm, hcl, hc0, (by omega), hr, (by rw [mr_Rw_same]; exact hT.rd hm.2), (hR i.toNat (by omega)).rd hm.2, ?_⟩
    rw [mr_Rw_same, mr_up3 _ (by decide), mr_up3 _ (by decide), mr_Rw_Rw]
    dsimp only [Option.toList_some, Option.toList_none, List.cons_append, List.nil_append]
    refine mr_iinc dX4_shape_51 rfl (by decide) rfl ?_
    refine mr_goto (tgt := 31) dX4_shape_54 (by decide) ?_
    exact ih (i + 1) _ _ (by omega) (by omega) h.1 (mr_Rn_Rw hR _ h.2) hk
theorem mr_s1_bm {m cl ct : Int} (hm : 1 ≤ m) (hct : 0 ≤ ct) : ∀ (n : Nat) (c : Int) {R F : Nat → Nat → Int}, 0 ≤ c → mr_Rn ct m R → mr_Rn c m F → mr_Rn ct m (mr_s1 m cl ct n c R F).1 ∧ mr_Rn (c + n) m (mr_s1 m cl ct n c R F).2
  | 0, c, R, F, h0, hR, hF => ⟨hR, by rw [show c + ((0 : Nat) : Int) = c by omega]; exact hF⟩
  | n + 1, c, R, F, h0, hR, hF => by
    have h := mr_s1c_bm (cl := cl) (c := c) hm hct hR
    have h2 := mr_s1_bm (cl := cl) hm hct n (c + 1) (R := (mr_s1c m cl ct c R).2) (F := mr_Rw F c.toNat (mr_fs (mr_s1c m cl ct c R).1 c.toNat ((mr_s1c m cl ct c R).1 c.toNat % m))) (by omega) h.2 (fun i hi => by
      by_cases hic : i = c.toNat
      · subst hic
        rw [mr_Rw_same]
        exact mr_fs_bm h.1 _ (mr_emod_bm hm)
      · rw [mr_Rw_ne _ _ hic]
        exact hF i (by omega))
    rw [show c + ((n + 1 : Nat) : Int) = c + 1 + (n : Int) by omega]
    exact h2
set_option maxHeartbeats 4000000 in
set_option maxRecDepth 20000 in
theorem lp1_X4_shape (l : Launch) (G : mr_G) {Po : Option mr_AV → mr_Wd → Prop} {w : mr_Wd} {m cl ct : Int} (h8 : w 8 = eO 4 [vR 9 0, vR 10 0, vI m, vI cl, vI ct]) (hm : 1 ≤ m ∧ m ≤ 30) (hcl : 0 ≤ cl ∧ cl ≤ 7) (hct : 0 ≤ ct ∧ ct ≤ 6) : ∀ (n : Nat) (c : Int) (R F : Nat → Nat → Int), 0 ≤ c → c + n = cl → mr_Rn ct m R → (mr_J l G RX4 cX4_shape 4 none 1 27 Po 73 [some (vR 8 0), none, none, none] [] (mr_up (mr_up w 9 (eM 6 7 (mr_s1 m cl ct n c R F).1)) 10 (eM 7 7 (mr_s1 m cl ct n c R F).2))) → mr_J l G RX4 cX4_shape 4 none 1 27 Po 2 [some (vR 8 0), some (vI c), none, none] [] (mr_up (mr_up w 9 (eM 6 7 R)) 10 (eM 7 7 F)) := by
  intro n
  induction n with
  | zero =>
    intro c R F hc hn hR hk
    refine mr_iload_n dX4_shape_2 rfl ?_
    refine mr_aload_n dX4_shape_3 rfl ?_
    refine mr_get dX4_shape_4 fl_X4_32 (by first | assumption | exact mr_up_same _ _ _ | exact mr_lk (by assumption) (by first | assumption | decide) | exact mr_lk (mr_up_same _ _ _) (by first | assumption | decide) | exact mr_lk (mr_lk (by assumption) (by first | assumption | decide)) (by first | assumption | decide)) rfl ?_
    refine mr_icmp_ge (tgt := 73) dX4_shape_7 (by decide) (by omega) (by omega) (fun hc_7 => ?_) (fun hc_7 => absurd hc_7 (by omega))
    refine mr_weak [some (vR 8 0), none, none, none] ⟨rfl, trivial⟩ ?_
    exact hk
  | succ n ih =>
    intro c R F hc hn hR hk
    have h := mr_s1c_bm (cl := cl) (c := c) hm.1 hct.1 hR
    have hTc := h.1 c.toNat
    have e5 : ((mr_s1c m cl ct c R).1 c.toNat).tmod m = (mr_s1c m cl ct c R).1 c.toNat % m := Int.tmod_eq_emod_of_nonneg hTc.1
    have hT0 : mr_Rm m (mr_fs (fun _ => 0) c.toNat m) := mr_fs_bm (fun j => ⟨Int.le_refl 0, by show (0 : Int) ≤ m; omega⟩) _ ⟨by omega, by omega⟩
    refine mr_iload_n dX4_shape_2 rfl ?_
    refine mr_aload_n dX4_shape_3 rfl ?_
    refine mr_get dX4_shape_4 fl_X4_32 (by first | assumption | exact mr_up_same _ _ _ | exact mr_lk (by assumption) (by first | assumption | decide) | exact mr_lk (mr_up_same _ _ _) (by first | assumption | decide) | exact mr_lk (mr_lk (by assumption) (by first | assumption | decide)) (by first | assumption | decide)) rfl ?_
    refine mr_icmp_ge (tgt := 73) dX4_shape_7 (by decide) (by omega) (by omega) (fun hc_7 => absurd hc_7 (by omega)) (fun hc_7 => ?_)
    refine mr_aload_n dX4_shape_10 rfl ?_
    refine mr_get dX4_shape_11 fl_X4_16 (by first | assumption | exact mr_up_same _ _ _ | exact mr_lk (by assumption) (by first | assumption | decide) | exact mr_lk (mr_up_same _ _ _) (by first | assumption | decide) | exact mr_lk (mr_lk (by assumption) (by first | assumption | decide)) (by first | assumption | decide)) rfl ?_
    refine mr_iload_n dX4_shape_14 rfl ?_
    refine mr_aald dX4_shape_15 (by first | assumption | exact mr_up_same _ _ _ | exact mr_lk (by assumption) (by first | assumption | decide) | exact mr_lk (mr_up_same _ _ _) (by first | assumption | decide) | exact mr_lk (mr_lk (by assumption) (by first | assumption | decide)) (by first | assumption | decide)) (by omega) (by omega) (by decide) ?_
    refine mr_astore_n dX4_shape_16 rfl (by decide) ?_
    refine mr_aload_n dX4_shape_17 rfl ?_
    refine mr_iconst dX4_shape_18 ?_
    refine mr_callS (as := [_, _]) dX4_shape_19 (ok_J7_fill_53178 l G) ml_X4_38 cl_J7_fill_53178 cs_J7_fill_53178 (by decide) rfl rfl (Nat.le_of_ble_eq_true rfl) ?_
    refine Or.inr ⟨_, _, _, _, _, _, rfl, (by first | assumption | exact mr_up_same _ _ _ | exact mr_lk (by assumption) (by first | assumption | decide) | exact mr_lk (mr_up_same _ _ _) (by first | assumption | decide) | exact mr_lk (mr_lk (by assumption) (by first | assumption | decide)) (by first | assumption | decide)), (by omega), (by decide), ?_⟩
    rw [mr_up_up]
    have eR : (fun q => if q = c.toNat then (fun _ => (0 : Int)) else F q) = mr_Rw F c.toNat (fun _ => 0) := rfl
    rw [eR]
    dsimp only [Option.toList_some, Option.toList_none, List.cons_append, List.nil_append]
    refine mr_aload_n dX4_shape_22 rfl ?_
    refine mr_iload_n dX4_shape_23 rfl ?_
    refine mr_aload_n dX4_shape_24 rfl ?_
    refine mr_get dX4_shape_25 fl_X4_19 (by first | assumption | exact mr_up_same _ _ _ | exact mr_lk (by assumption) (by first | assumption | decide) | exact mr_lk (mr_up_same _ _ _) (by first | assumption | decide) | exact mr_lk (mr_lk (by assumption) (by first | assumption | decide)) (by first | assumption | decide)) rfl ?_
    refine mr_iastM dX4_shape_28 (by first | assumption | exact mr_up_same _ _ _ | exact mr_lk (by assumption) (by first | assumption | decide) | exact mr_lk (mr_up_same _ _ _) (by first | assumption | decide) | exact mr_lk (mr_lk (by assumption) (by first | assumption | decide)) (by first | assumption | decide)) (by omega) (by omega) (by omega) (by decide) ?_
    rw [mr_up_up, mr_Fs_Rw]
    refine mr_iconst dX4_shape_29 ?_
    refine mr_istore_n dX4_shape_30 rfl (by decide) ?_
    refine lpi_X4_shape l G (c := c) (F := F) (r := c.toNat) h8 hm hcl hct ⟨hc, by omega⟩ (by omega) ct.toNat 0 _ R (Int.le_refl 0) (by omega) hT0 hR ?_
    have hTc : 0 ≤ (mr_fi m c cl ct.toNat 0 (mr_fs (fun _ => 0) c.toNat m) R).1 c.toNat ∧ (mr_fi m c cl ct.toNat 0 (mr_fs (fun _ => 0) c.toNat m) R).1 c.toNat ≤ m := hTc
    refine mr_aload_n dX4_shape_57 rfl ?_
    refine mr_iload_n dX4_shape_58 rfl ?_
    refine mr_dup2 dX4_shape_59 rfl rfl ?_
    refine mr_ialdM dX4_shape_60 (by first | assumption | exact mr_up_same _ _ _ | exact mr_lk (by assumption) (by first | assumption | decide) | exact mr_lk (mr_up_same _ _ _) (by first | assumption | decide) | exact mr_lk (mr_lk (by assumption) (by first | assumption | decide)) (by first | assumption | decide)) (by omega) (by omega) (by omega) (by decide) ?_
    rw [mr_Rw_same]
    refine mr_aload_n dX4_shape_61 rfl ?_
    refine mr_get dX4_shape_62 fl_X4_19 (by first | assumption | exact mr_up_same _ _ _ | exact mr_lk (by assumption) (by first | assumption | decide) | exact mr_lk (mr_up_same _ _ _) (by first | assumption | decide) | exact mr_lk (mr_lk (by assumption) (by first | assumption | decide)) (by first | assumption | decide)) rfl ?_
    refine mr_irem dX4_shape_65 (by omega) (by omega) (by omega) ?_
    have e5 : ((mr_s1c m cl ct c R).1 c.toNat).tmod m = (mr_s1c m cl ct c R).1 c.toNat % m := e5
    unfold mr_s1c at e5
    rw [e5]
    refine mr_iastM dX4_shape_66 (by first | assumption | exact mr_up_same _ _ _ | exact mr_lk (by assumption) (by first | assumption | decide) | exact mr_lk (mr_up_same _ _ _) (by first | assumption | decide) | exact mr_lk (mr_lk (by assumption) (by first | assumption | decide)) (by first | assumption | decide)) (by omega) (by omega) (by omega) (by decide) ?_
    rw [mr_up_up, mr_Fs_Rw]
    refine mr_iinc dX4_shape_67 rfl (by decide) rfl ?_
    refine mr_goto (tgt := 2) dX4_shape_70 (by decide) ?_
    refine mr_weak [some (vR 8 0), some (vI (c + 1)), none, none] ⟨rfl, rfl, trivial⟩ ?_
    exact ih (c + 1) _ _ (by omega) (by omega) h.2 hk
set_option maxHeartbeats 4000000 in
set_option maxRecDepth 20000 in
theorem lp2_X4_shape (l : Launch) (G : mr_G) {Po : Option mr_AV → mr_Wd → Prop} {w : mr_Wd} {m cl ct : Int} {R : Nat → Nat → Int} (h8 : w 8 = eO 4 [vR 9 0, vR 10 0, vI m, vI cl, vI ct]) (hm : 1 ≤ m ∧ m ≤ 30) (hcl : 0 ≤ cl ∧ cl ≤ 7) (h9 : w 9 = eM 6 7 R) : ∀ (n : Nat) (c : Int) (F : Nat → Nat → Int), 0 ≤ c → c + n = cl → mr_Rn cl m F → Po none (mr_up w 10 (eM 7 7 (mr_t1 m cl n c F))) → mr_J l G RX4 cX4_shape 4 none 1 27 Po 75 [some (vR 8 0), some (vI c), none, none] [] (mr_up w 10 (eM 7 7 F)) := by
  intro n
  induction n with
  | zero =>
    intro c F hc hn hF hP
    refine mr_iload_n dX4_shape_75 rfl ?_
    refine mr_aload_n dX4_shape_76 rfl ?_
    refine mr_get dX4_shape_77 fl_X4_32 (by first | assumption | exact mr_up_same _ _ _ | exact mr_lk (by assumption) (by first | assumption | decide) | exact mr_lk (mr_up_same _ _ _) (by first | assumption | decide) | exact mr_lk (mr_lk (by assumption) (by first | assumption | decide)) (by first | assumption | decide)) rfl ?_
    refine mr_icmp_ge (tgt := 94) dX4_shape_80 (by decide) (by omega) (by omega) (fun hc_80 => ?_) (fun hc_80 => absurd hc_80 (by omega))
    refine mr_vret rfl dX4_shape_94 ?_
    exact hP
  | succ n ih =>
    intro c F hc hn hF hP
    refine mr_iload_n dX4_shape_75 rfl ?_
    refine mr_aload_n dX4_shape_76 rfl ?_
    refine mr_get dX4_shape_77 fl_X4_32 (by first | assumption | exact mr_up_same _ _ _ | exact mr_lk (by assumption) (by first | assumption | decide) | exact mr_lk (mr_up_same _ _ _) (by first | assumption | decide) | exact mr_lk (mr_lk (by assumption) (by first | assumption | decide)) (by first | assumption | decide)) rfl ?_
    refine mr_icmp_ge (tgt := 94) dX4_shape_80 (by decide) (by omega) (by omega) (fun hc_80 => absurd hc_80 (by omega)) (fun hc_80 => ?_)
    refine mr_aload_n dX4_shape_83 rfl ?_
    refine mr_iload_n dX4_shape_84 rfl ?_
    refine mr_callV (as := [_]) dX4_shape_85 (ok_X4_tidy l G) ml_X4_48 cl_X4_tidy cv_X4_tidy (by decide) rfl rfl (Nat.le_of_ble_eq_true rfl) (by first | assumption | exact mr_up_same _ _ _ | exact mr_lk (by assumption) (by first | assumption | decide) | exact mr_lk (mr_up_same _ _ _) (by first | assumption | decide) | exact mr_lk (mr_lk (by assumption) (by first | assumption | decide)) (by first | assumption | decide)) ?_
    refine ⟨_, _, _, _, _, _, rfl, ⟨(by first | assumption | exact mr_up_same _ _ _ | exact mr_lk (by assumption) (by first | assumption | decide) | exact mr_lk (mr_up_same _ _ _) (by first | assumption | decide) | exact mr_lk (mr_lk (by assumption) (by first | assumption | decide)) (by first | assumption | decide)), (by first | assumption | exact mr_up_same _ _ _ | exact mr_lk (by assumption) (by first | assumption | decide) | exact mr_lk (mr_up_same _ _ _) (by first | assumption | decide) | exact mr_lk (mr_lk (by assumption) (by first | assumption | decide)) (by first | assumption | decide)), (by first | assumption | exact mr_up_same _ _ _ | exact mr_lk (by assumption) (by first | assumption | decide) | exact mr_lk (mr_up_same _ _ _) (by first | assumption | decide) | exact mr_lk (mr_lk (by assumption) (by first | assumption | decide)) (by first | assumption | decide))⟩, hm, hcl, (by omega), hF, ?_⟩
    rw [mr_up_up]
    dsimp only [Option.toList_some, Option.toList_none, List.cons_append, List.nil_append]
    refine mr_iinc dX4_shape_88 rfl (by decide) rfl ?_
    refine mr_goto (tgt := 75) dX4_shape_91 (by decide) ?_
    exact ih (c + 1) _ (by omega) (by omega) (mr_ty_bm hm.1 ⟨hc, by omega⟩ hF) hP
def T_X4_shape (a : List mr_AV) (w : mr_Wd) (Po : Option mr_AV → mr_Wd → Prop) : Prop := ∃ (m cl ct : Int) (R F : Nat → Nat → Int), a = [vR 8 0] ∧ mr_SH w m cl ct R F ∧ (1 ≤ m ∧ m ≤ 30) ∧ (0 ≤ cl ∧ cl ≤ 7) ∧ (0 ≤ ct ∧ ct ≤ 6) ∧ mr_Rn ct m R ∧ (∀ R2 : Nat → Nat → Int, Po none (mr_up (mr_up w 9 (eM 6 7 R2)) 10 (eM 7 7 (mr_shp m cl ct R F))))
set_option maxHeartbeats 4000000 in
set_option maxRecDepth 20000 in
theorem ok_X4_shape (l : Launch) (G : mr_G) : mr_Ok l G yX4_shape cX4_shape 4 none 1 27 T_X4_shape := by
  refine mr_Ok.of (by decide +kernel) ?_
  rintro a w Po ⟨m, cl, ct, R, F, rfl, ⟨h8, h9, h10⟩, hm, hcl, hct, hR, hP⟩
  refine ⟨Nat.le_of_ble_eq_true rfl, ?_⟩
  show mr_J l G RX4 cX4_shape 4 none 1 27 Po 0 [some (vR 8 0), none, none, none] [] w
  refine mr_iconst dX4_shape_0 ?_
  refine mr_istore_n dX4_shape_1 rfl (by decide) ?_
  have hb1 := mr_s1_bm (cl := cl) hm.1 hct.1 cl.toNat 0 (R := R) (F := F) (Int.le_refl 0) hR (fun i hi => by omega)
  have h9b := lp1_X4_shape l G (Po := Po) h8 hm hcl hct cl.toNat 0 R F (Int.le_refl 0) (by omega) hR ?_
  · rw [mr_up_self h9, mr_up_self h10] at h9b
    exact mr_weak [some (vR 8 0), some (vI 0), none, none] ⟨rfl, rfl, trivial⟩ h9b
  · refine mr_iconst dX4_shape_73 ?_
    refine mr_istore_n dX4_shape_74 rfl (by decide) ?_
    refine mr_weak [some (vR 8 0), some (vI 0), none, none] ⟨rfl, rfl, trivial⟩ ?_
    have h7 := hP (mr_s1 m cl ct cl.toNat 0 R F).1
    refine lp2_X4_shape l G (R := (mr_s1 m cl ct cl.toNat 0 R F).1) (w := mr_up w 9 (eM 6 7 (mr_s1 m cl ct cl.toNat 0 R F).1)) (mr_lk h8 (by decide)) hm hcl (mr_up_same _ _ _) cl.toNat 0 _ (Int.le_refl 0) (by omega) ?_ h7
    rw [show (0 : Int) + (cl.toNat : Int) = cl by omega] at hb1
    exact hb1.2
set_option maxHeartbeats 4000000 in
set_option maxRecDepth 20000 in
theorem lp_X4_sizeBehind (l : Launch) (G : mr_G) {Po : Option mr_AV → mr_Wd → Prop} {w : mr_Wd} {m cl ct : Int} {F : Nat → Nat → Int} (h8 : w 8 = eO 4 [vR 9 0, vR 10 0, vI m, vI cl, vI ct]) (hm : 1 ≤ m ∧ m ≤ 30) (hcl : 0 ≤ cl ∧ cl ≤ 7) (h10 : w 10 = eM 7 7 F) (hF : mr_Rn cl m F) : ∀ (n : Nat) (c s : Int), 0 ≤ c → c + n = cl → Po (some (vI (mr_sbl m cl F n c s))) w → mr_J l G RX4 cX4_sizeBehind 5 (some .int) 1 21 Po 8 [some (vR 8 0), none, some (vI s), some (vI c), none] [] w := by
  intro n
  induction n with
  | zero =>
    intro c s hc hn hP
    refine mr_iload_n dX4_sizeBehind_8 rfl ?_
    refine mr_aload_n dX4_sizeBehind_9 rfl ?_
    refine mr_get dX4_sizeBehind_10 fl_X4_32 (by first | assumption | exact mr_up_same _ _ _ | exact mr_lk (by assumption) (by first | assumption | decide) | exact mr_lk (mr_up_same _ _ _) (by first | assumption | decide) | exact mr_lk (mr_lk (by assumption) (by first | assumption | decide)) (by first | assumption | decide)) rfl ?_
    refine mr_icmp_ge (tgt := 51) dX4_sizeBehind_13 (by decide) (by omega) (by omega) (fun hc_13 => ?_) (fun hc_13 => absurd hc_13 (by omega))
    refine mr_iload_n dX4_sizeBehind_51 rfl ?_
    refine mr_iret rfl dX4_sizeBehind_52 ?_
    exact hP
  | succ n ih =>
    intro c s hc hn hP
    have hl := hF c.toNat (by omega) c.toNat
    have e5 : m.tdiv (F c.toNat c.toNat) = m / F c.toNat c.toNat := Int.tdiv_eq_ediv_of_nonneg (by omega)
    refine mr_iload_n dX4_sizeBehind_8 rfl ?_
    refine mr_aload_n dX4_sizeBehind_9 rfl ?_
    refine mr_get dX4_sizeBehind_10 fl_X4_32 (by first | assumption | exact mr_up_same _ _ _ | exact mr_lk (by assumption) (by first | assumption | decide) | exact mr_lk (mr_up_same _ _ _) (by first | assumption | decide) | exact mr_lk (mr_lk (by assumption) (by first | assumption | decide)) (by first | assumption | decide)) rfl ?_
    refine mr_icmp_ge (tgt := 51) dX4_sizeBehind_13 (by decide) (by omega) (by omega) (fun hc_13 => absurd hc_13 (by omega)) (fun hc_13 => ?_)
    refine mr_aload_n dX4_sizeBehind_16 rfl ?_
    refine mr_get dX4_sizeBehind_17 fl_X4_16 (by first | assumption | exact mr_up_same _ _ _ | exact mr_lk (by assumption) (by first | assumption | decide) | exact mr_lk (mr_up_same _ _ _) (by first | assumption | decide) | exact mr_lk (mr_lk (by assumption) (by first | assumption | decide)) (by first | assumption | decide)) rfl ?_
    refine mr_iload_n dX4_sizeBehind_20 rfl ?_
    refine mr_aald dX4_sizeBehind_21 (by first | assumption | exact mr_up_same _ _ _ | exact mr_lk (by assumption) (by first | assumption | decide) | exact mr_lk (mr_up_same _ _ _) (by first | assumption | decide) | exact mr_lk (mr_lk (by assumption) (by first | assumption | decide)) (by first | assumption | decide)) (by omega) (by omega) (by decide) ?_
    refine mr_iload_n dX4_sizeBehind_22 rfl ?_
    refine mr_ialdM dX4_sizeBehind_23 (by first | assumption | exact mr_up_same _ _ _ | exact mr_lk (by assumption) (by first | assumption | decide) | exact mr_lk (mr_up_same _ _ _) (by first | assumption | decide) | exact mr_lk (mr_lk (by assumption) (by first | assumption | decide)) (by first | assumption | decide)) (by omega) (by omega) (by omega) (by decide) ?_
    refine mr_istore dX4_sizeBehind_24 rfl (by decide) ?_
    refine mr_iload_n dX4_sizeBehind_26 rfl ?_
    refine mr_iload dX4_sizeBehind_27 rfl ?_
    refine mr_if_le (tgt := 42) dX4_sizeBehind_29 (by decide) (by omega) (fun hc_29 => ?_) (fun hc_29 => ?_)
    · refine mr_iconst dX4_sizeBehind_42 ?_
      refine mr_imul dX4_sizeBehind_43 ?_
      refine mr_istore_n dX4_sizeBehind_44 rfl (by decide) ?_
      refine mr_iinc dX4_sizeBehind_45 rfl (by decide) rfl ?_
      refine mr_goto (tgt := 8) dX4_sizeBehind_48 (by decide) ?_
      refine mr_weak [some (vR 8 0), none, some (vI _), some (vI (c + 1)), none] ⟨rfl, rfl, rfl, trivial⟩ ?_
      rw [mr_sbl] at hP
      refine ih (c + 1) _ (by omega) (by omega) ?_
      first | (rw [if_neg (by omega)] at hP; exact hP) | (rw [if_pos (by omega)] at hP; exact hP)
    · refine mr_aload_n dX4_sizeBehind_32 rfl ?_
      refine mr_get dX4_sizeBehind_33 fl_X4_19 (by first | assumption | exact mr_up_same _ _ _ | exact mr_lk (by assumption) (by first | assumption | decide) | exact mr_lk (mr_up_same _ _ _) (by first | assumption | decide) | exact mr_lk (mr_lk (by assumption) (by first | assumption | decide)) (by first | assumption | decide)) rfl ?_
      refine mr_iload dX4_sizeBehind_36 rfl ?_
      refine mr_idiv dX4_sizeBehind_38 (by omega) (by omega) (by omega) ?_
      rw [e5]
      refine mr_goto (tgt := 43) dX4_sizeBehind_39 (by decide) ?_
      refine mr_imul dX4_sizeBehind_43 ?_
      refine mr_istore_n dX4_sizeBehind_44 rfl (by decide) ?_
      refine mr_iinc dX4_sizeBehind_45 rfl (by decide) rfl ?_
      refine mr_goto (tgt := 8) dX4_sizeBehind_48 (by decide) ?_
      refine mr_weak [some (vR 8 0), none, some (vI _), some (vI (c + 1)), none] ⟨rfl, rfl, rfl, trivial⟩ ?_
      rw [mr_sbl] at hP
      refine ih (c + 1) _ (by omega) (by omega) ?_
      first | (rw [if_neg (by omega)] at hP; exact hP) | (rw [if_pos (by omega)] at hP; exact hP)
theorem mr_sbl_end (m cl : Int) (F : Nat → Nat → Int) (c s : Int) : mr_sbl m cl F 0 c s = s := rfl
def T_X4_sizeBehind (a : List mr_AV) (w : mr_Wd) (Po : Option mr_AV → mr_Wd → Prop) : Prop := ∃ (m cl ct cut : Int) (R F : Nat → Nat → Int), a = [vR 8 0, vI cut] ∧ mr_SH w m cl ct R F ∧ (1 ≤ m ∧ m ≤ 30) ∧ (0 ≤ cl ∧ cl ≤ 7) ∧ (0 ≤ cut ∧ cut ≤ cl) ∧ mr_Rn cl m F ∧ Po (some (vI (mr_sbl m cl F (cl - cut).toNat cut 1))) w
set_option maxHeartbeats 4000000 in
set_option maxRecDepth 20000 in
theorem ok_X4_sizeBehind (l : Launch) (G : mr_G) : mr_Ok l G yX4_sizeBehind cX4_sizeBehind 5 (some .int) 1 21 T_X4_sizeBehind := by
  refine mr_Ok.of (by decide +kernel) ?_
  rintro a w Po ⟨m, cl, ct, cut, R, F, rfl, ⟨h8, h9, h10⟩, hm, hcl, hcut, hF, hP⟩
  refine ⟨Nat.le_of_ble_eq_true rfl, ?_⟩
  show mr_J l G RX4 cX4_sizeBehind 5 (some .int) 1 21 Po 0 [some (vR 8 0), some (vI cut), none, none, none] [] w
  refine mr_iconst dX4_sizeBehind_0 ?_
  refine mr_istore_n dX4_sizeBehind_1 rfl (by decide) ?_
  refine mr_iconst dX4_sizeBehind_2 ?_
  refine mr_iload_n dX4_sizeBehind_3 rfl ?_
  refine mr_callS (as := [_, _]) dX4_sizeBehind_4 (ok_J9_max_7cf53 l G) ml_X4_23 cl_J9_max_7cf53 cs_J9_max_7cf53 (by decide) rfl rfl (Nat.le_of_ble_eq_true rfl) ?_
  refine ⟨_, _, rfl, (by omega), (by omega), ?_⟩
  dsimp only [Option.toList_some, Option.toList_none, List.cons_append, List.nil_append]
  refine mr_istore_n dX4_sizeBehind_7 rfl (by decide) ?_
  rw [show max 0 cut = cut by omega]
  refine mr_weak [some (vR 8 0), none, some (vI 1), some (vI cut), none] ⟨rfl, rfl, rfl, trivial⟩ ?_
  exact lp_X4_sizeBehind l G h8 hm hcl h10 hF (cl - cut).toNat cut 1 hcut.1 (by omega) hP
