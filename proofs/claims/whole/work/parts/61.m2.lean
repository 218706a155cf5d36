/-- the first of a set from x on, ahead of y; 0: none -/
def mr_fo (st : Nat → Int) (x y r : Int) : Prop := (x ≤ r ∧ r < y ∧ st r.toNat = 1 ∧ ∀ i : Int, x ≤ i → i < r → st i.toNat = 0) ∨ (r = 0 ∧ ∀ i : Int, x ≤ i → i < y → st i.toNat = 0)
set_option maxHeartbeats 4000000 in
set_option maxRecDepth 20000 in
theorem lp_X7_firstOf (l : Launch) (G : mr_G) {Po : Option mr_AV → mr_Wd → Prop} {w : mr_Wd} {q : Nat} {st : Nat → Int} {x y : Int} (hq : w q = eA 1 27000 st) (h01 : ∀ r : Nat, st r = 0 ∨ st r = 1) (hx : 0 ≤ x) (hy : 0 ≤ y ∧ y ≤ 27000) (hP : ∀ r : Int, mr_fo st x y r → Po (some (vI r)) w) : ∀ (n : Nat) (r : Int), (x ≤ r ∧ r ≤ 27000) → y - r ≤ n → (∀ i : Int, x ≤ i → i < r → st i.toNat = 0) → mr_J l G RX7 cX7_firstOf 4 (some .int) 0 0 Po 2 [some (vR q 0), some (vI x), some (vI y), some (vI r)] [] w := by
  intro n
  induction n with
  | zero =>
    intro r hr hn hz
    refine mr_iload_n dX7_firstOf_2 rfl ?_
    refine mr_iload_n dX7_firstOf_3 rfl ?_
    refine mr_icmp_ge (tgt := 21) dX7_firstOf_4 (by decide) ⟨by omega, by omega⟩ ⟨by omega, by omega⟩ (fun hc_4 => ?_) (fun hc_4 => absurd hc_4 (by omega))
    refine mr_iconst dX7_firstOf_21 ?_
    refine mr_iret rfl dX7_firstOf_22 ?_
    exact hP 0 (Or.inr ⟨rfl, fun i h1 h2 => hz i h1 (by omega)⟩)
  | succ n ih =>
    intro r hr hn hz
    have h9 := h01 r.toNat
    refine mr_iload_n dX7_firstOf_2 rfl ?_
    refine mr_iload_n dX7_firstOf_3 rfl ?_
    refine mr_icmp_ge (tgt := 21) dX7_firstOf_4 (by decide) ⟨by omega, by omega⟩ ⟨by omega, by omega⟩ (fun hc_4 => ?_) (fun hc_4 => ?_)
    · refine mr_iconst dX7_firstOf_21 ?_
      refine mr_iret rfl dX7_firstOf_22 ?_
      exact hP 0 (Or.inr ⟨rfl, fun i h1 h2 => hz i h1 (by omega)⟩)
    · refine mr_aload_n dX7_firstOf_7 rfl ?_
      refine mr_iload_n dX7_firstOf_8 rfl ?_
      refine mr_zald dX7_firstOf_9 (by first | assumption | exact mr_up_same _ _ _ | (refine mr_lk ?_ (by first | assumption | decide); first | assumption | exact mr_up_same _ _ _ | (refine mr_lk ?_ (by first | assumption | decide); first | assumption | exact mr_up_same _ _ _ | (refine mr_lk ?_ (by first | assumption | decide); first | assumption | exact mr_up_same _ _ _ | (refine mr_lk ?_ (by first | assumption | decide); first | assumption | exact mr_up_same _ _ _))))) (by omega) (by omega) (by decide) ?_
      refine mr_if_eq (tgt := 15) dX7_firstOf_10 (by decide) ⟨by omega, by omega⟩ (fun hc_10 => ?_) (fun hc_10 => ?_)
      · refine mr_iinc dX7_firstOf_15 rfl (by decide) rfl ?_
        refine mr_goto (tgt := 2) dX7_firstOf_18 (by decide) ?_
        refine ih (r + 1) (by omega) (by omega) (fun i h1 h2 => ?_)
        by_cases e : i = r
        · subst e; exact hc_10
        · exact hz i h1 (by omega)
      · refine mr_iload_n dX7_firstOf_13 rfl ?_
        refine mr_iret rfl dX7_firstOf_14 ?_
        exact hP r (Or.inl ⟨hr.1, by omega, by omega, hz⟩)
def T_X7_firstOf (a : List mr_AV) (w : mr_Wd) (Po : Option mr_AV → mr_Wd → Prop) : Prop := ∃ (q : Nat) (st : Nat → Int) (x y : Int), a = [vR q 0, vI x, vI y] ∧ w q = eA 1 27000 st ∧ (∀ r : Nat, st r = 0 ∨ st r = 1) ∧ (0 ≤ x ∧ x ≤ 27000) ∧ (0 ≤ y ∧ y ≤ 27000) ∧ (∀ r : Int, mr_fo st x y r → Po (some (vI r)) w)
set_option maxHeartbeats 4000000 in
set_option maxRecDepth 20000 in
theorem ok_X7_firstOf (l : Launch) (G : mr_G) : mr_Ok l G yX7_firstOf cX7_firstOf 4 (some .int) 0 0 T_X7_firstOf := by
  refine mr_Ok.of (by decide +kernel) ?_
  rintro a w Po ⟨q, st, x, y, rfl, hq, h01, hx, hy, hP⟩
  refine ⟨Nat.le_of_ble_eq_true rfl, ?_⟩
  show mr_J l G RX7 cX7_firstOf 4 (some .int) 0 0 Po 0 [some (vR q 0), some (vI x), some (vI y), none] [] w
  refine mr_iload_n dX7_firstOf_0 rfl ?_
  refine mr_istore_n dX7_firstOf_1 rfl (by decide) ?_
  exact lp_X7_firstOf l G hq h01 hx.1 hy hP (y - x).toNat x ⟨Int.le_refl x, hx.2⟩ (by omega) (fun i h1 h2 => by omega)
def mr_cpk (fa : Nat → Int) (s : Int) (fb : Nat → Int) (t k : Int) : Nat → Int := fun j => if t ≤ (j : Int) ∧ (j : Int) < t + k then fa (s + ((j : Int) - t)).toNat else fb j
def mr_cp (fa : Nat → Int) (s : Int) (fb : Nat → Int) (t : Int) : Nat → Int := mr_cpk fa s fb t 21
theorem mr_cpk_0 (fa : Nat → Int) (s : Int) (fb : Nat → Int) (t : Int) : mr_cpk fa s fb t 0 = fb := by
  funext j
  unfold mr_cpk
  rw [if_neg (by omega)]
theorem mr_cpk_s {fa : Nat → Int} {s : Int} {fb : Nat → Int} {t k : Int} (ht : 0 ≤ t) (hk : 0 ≤ k) : mr_fs (mr_cpk fa s fb t k) (t + k).toNat (fa (s + k).toNat) = mr_cpk fa s fb t (k + 1) := by
  funext j
  unfold mr_fs mr_cpk
  by_cases e : j = (t + k).toNat
  · rw [if_pos e, if_pos ⟨by omega, by omega⟩, show (j : Int) - t = k by omega]
  · rw [if_neg e]
    by_cases e2 : t ≤ (j : Int) ∧ (j : Int) < t + k
    · rw [if_pos e2, if_pos ⟨by omega, by omega⟩]
    · rw [if_neg e2, if_neg (by omega)]
set_option maxHeartbeats 4000000 in
set_option maxRecDepth 20000 in
theorem lp_X7_copy (l : Launch) (G : mr_G) {Po : Option mr_AV → mr_Wd → Prop} {w : mr_Wd} {qa qb na nb : Nat} {fa fb : Nat → Int} {s t : Int} (hab : qa ≠ qb) (hqa : w qa = eA 0 na fa) (hqb : w qb = eA 0 nb fb) (hs : 0 ≤ s ∧ s + 21 ≤ na) (ht : 0 ≤ t ∧ t + 21 ≤ nb) (hna : na < 1000) (hnb : nb < 1000) (hP : Po none (mr_up w qb (eA 0 nb (mr_cpk fa s fb t 21)))) : ∀ (n : Nat) (c : Int), 0 ≤ c → c + n = 21 → mr_J l G RX7 cX7_copy 5 none 0 0 Po 3 [some (vR qa 0), some (vI s), some (vR qb 0), some (vI t), some (vI c)] [] (mr_up w qb (eA 0 nb (mr_cpk fa s fb t c))) := by
  intro n
  induction n with
  | zero =>
    intro c h0 hn
    refine mr_iload dX7_copy_3 rfl ?_
    refine mr_bipush dX7_copy_5 rfl ?_
    refine mr_icmp_ge (tgt := 28) dX7_copy_7 (by decide) ⟨by omega, by omega⟩ (by decide) (fun hc_7 => ?_) (fun hc_7 => absurd hc_7 (by omega))
    refine mr_vret rfl dX7_copy_28 ?_
    have e9 : c = 21 := by omega
    subst e9
    exact hP
  | succ n ih =>
    intro c h0 hn
    refine mr_iload dX7_copy_3 rfl ?_
    refine mr_bipush dX7_copy_5 rfl ?_
    refine mr_icmp_ge (tgt := 28) dX7_copy_7 (by decide) ⟨by omega, by omega⟩ (by decide) (fun hc_7 => absurd hc_7 (by omega)) (fun hc_7 => ?_)
    refine mr_aload_n dX7_copy_10 rfl ?_
    refine mr_iload_n dX7_copy_11 rfl ?_
    refine mr_iload dX7_copy_12 rfl ?_
    refine mr_iadd dX7_copy_14 ?_
    refine mr_aload_n dX7_copy_15 rfl ?_
    refine mr_iload_n dX7_copy_16 rfl ?_
    refine mr_iload dX7_copy_17 rfl ?_
    refine mr_iadd dX7_copy_19 ?_
    refine mr_iald dX7_copy_20 (mr_lk hqa hab) (by omega) (by omega) (by omega) ?_
    refine mr_iast dX7_copy_21 (mr_up_same _ _ _) (by omega) (by omega) (by omega) ?_
    refine mr_iinc dX7_copy_22 rfl (by decide) rfl ?_
    refine mr_goto (tgt := 3) dX7_copy_25 (by decide) ?_
    refine mr_cw (mr_up_up _ _ _ _) ?_
    rw [mr_cpk_s ht.1 (by omega)]
    exact ih (c + 1) (by omega) (by omega)
def T_X7_copy (a : List mr_AV) (w : mr_Wd) (Po : Option mr_AV → mr_Wd → Prop) : Prop := ∃ (qa qb na nb : Nat) (fa fb : Nat → Int) (s t : Int), a = [vR qa 0, vI s, vR qb 0, vI t] ∧ qa ≠ qb ∧ w qa = eA 0 na fa ∧ w qb = eA 0 nb fb ∧ (0 ≤ s ∧ s + 21 ≤ na) ∧ (0 ≤ t ∧ t + 21 ≤ nb) ∧ na < 1000 ∧ nb < 1000 ∧ Po none (mr_up w qb (eA 0 nb (mr_cp fa s fb t)))
set_option maxHeartbeats 4000000 in
set_option maxRecDepth 20000 in
theorem ok_X7_copy (l : Launch) (G : mr_G) : mr_Ok l G yX7_copy cX7_copy 5 none 0 0 T_X7_copy := by
  refine mr_Ok.of (by decide +kernel) ?_
  rintro a w Po ⟨qa, qb, na, nb, fa, fb, s, t, rfl, hab, hqa, hqb, hs, ht, hna, hnb, hP⟩
  refine ⟨Nat.le_of_ble_eq_true rfl, ?_⟩
  show mr_J l G RX7 cX7_copy 5 none 0 0 Po 0 [some (vR qa 0), some (vI s), some (vR qb 0), some (vI t), none] [] w
  refine mr_iconst dX7_copy_0 ?_
  refine mr_istore dX7_copy_1 rfl (by decide) ?_
  refine mr_cw (show w = (mr_up w qb (eA 0 nb (mr_cpk fa s fb t 0))) by rw [mr_cpk_0]; exact (mr_up_self hqb).symm) ?_
  exact lp_X7_copy l G hab hqa hqb hs ht hna hnb hP 21 0 (by decide) (by decide)
theorem mr_zk {st : Nat → Int} {c : Int} (hc : 0 ≤ c) : mr_fs (fun r : Nat => if (r : Int) < c then 0 else st r) c.toNat 0 = (fun r : Nat => if (r : Int) < (c + 1) then 0 else st r) := by
  funext j
  unfold mr_fs
  by_cases e : j = c.toNat
  · rw [if_pos e]; exact (if_pos (by omega)).symm
  · rw [if_neg e]
    by_cases e2 : (j : Int) < c
    · exact (if_pos e2).trans (if_pos (by omega)).symm
    · exact (if_neg e2).trans (if_neg (by omega)).symm
theorem mr_zk0 (st : Nat → Int) : (fun r : Nat => if (r : Int) < 0 then 0 else st r) = st := by
  funext j
  exact if_neg (by omega)
theorem mr_z1 (st : Nat → Int) : ∀ j : Nat, j < 27000 → mr_fs (fun r : Nat => if (r : Int) < 27000 then 0 else st r) (Int.toNat 0) 1 j = (fun r : Nat => if r = 0 then 1 else 0) j := fun j hj => by
  show (if j = 0 then (1 : Int) else if (j : Int) < 27000 then 0 else st j) = if j = 0 then 1 else 0
  by_cases e : j = 0
  · rw [if_pos e, if_pos e]
  · rw [if_neg e, if_neg e]
    exact if_pos (by omega)
set_option maxHeartbeats 4000000 in
set_option maxRecDepth 20000 in
theorem lp_X7_clears (l : Launch) (G : mr_G) {Po : Option mr_AV → mr_Wd → Prop} {w : mr_Wd} {th tp sz zo fr kd nb ft pl wd sm md li sd : Int} {st ls : Nat → Int} {q : Nat} (hq18 : q ≠ 18) (hq27 : q ≠ 27) (h18 : w 18 = eMo th tp sz zo fr kd nb ft pl wd sm md li sd) (h27 : w 27 = eA 0 27000 ls) (hP : Po none (mr_up (mr_up (mr_up w q (eA 1 27000 (fun r : Nat => if r = 0 then 1 else 0))) 27 (eA 0 27000 (mr_fs ls 0 0))) 18 (eMo th tp sz zo fr kd nb ft pl wd sm md (1) sd))) : ∀ (n : Nat) (c : Int), 0 ≤ c → c + n = 27000 → mr_J l G RX7 cX7_clears 3 none 0 0 Po 2 [some (vR 18 0), some (vR q 0), some (vI c)] [] (mr_up w q (eA 1 27000 (fun r : Nat => if (r : Int) < c then 0 else st r))) := by
  intro n
  induction n with
  | zero =>
    intro c h0 hn
    refine mr_iload_n dX7_clears_2 rfl ?_
    refine mr_sipush dX7_clears_3 rfl ?_
    refine mr_icmp_ge (tgt := 19) dX7_clears_6 (by decide) ⟨by omega, by omega⟩ (by decide) (fun hc_6 => ?_) (fun hc_6 => absurd hc_6 (by omega))
    have e9 : c = 27000 := by omega
    subst e9
    refine mr_aload_n dX7_clears_19 rfl ?_
    refine mr_iconst dX7_clears_20 ?_
    refine mr_iconst dX7_clears_21 ?_
    refine mr_zast dX7_clears_22 (mr_up_same _ _ _) (by omega) (by omega) (by decide) (Or.inr rfl) ?_
    refine mr_cw (mr_up_up _ _ _ _) ?_
    refine mr_extA (mr_up_same _ _ _) (mr_z1 st) ?_
    refine mr_cw (mr_up_up _ _ _ _) ?_
    refine mr_aload_n dX7_clears_23 rfl ?_
    refine mr_get dX7_clears_24 fl_X7_108 (mr_lk h18 hq18.symm) rfl ?_
    refine mr_iconst dX7_clears_27 ?_
    refine mr_iconst dX7_clears_28 ?_
    refine mr_iast dX7_clears_29 (mr_lk h27 hq27.symm) (by omega) (by omega) (by decide) ?_
    refine mr_aload_n dX7_clears_30 rfl ?_
    refine mr_iconst dX7_clears_31 ?_
    refine mr_put dX7_clears_32 fl_X7_180 pf_X7_21 rfl rfl (mr_lk (mr_lk h18 hq18.symm) (by decide)) (Nat.le_of_ble_eq_true rfl) ?_
    refine mr_vret rfl dX7_clears_35 ?_
    exact hP
  | succ n ih =>
    intro c h0 hn
    refine mr_iload_n dX7_clears_2 rfl ?_
    refine mr_sipush dX7_clears_3 rfl ?_
    refine mr_icmp_ge (tgt := 19) dX7_clears_6 (by decide) ⟨by omega, by omega⟩ (by decide) (fun hc_6 => absurd hc_6 (by omega)) (fun hc_6 => ?_)
    refine mr_aload_n dX7_clears_9 rfl ?_
    refine mr_iload_n dX7_clears_10 rfl ?_
    refine mr_iconst dX7_clears_11 ?_
    refine mr_zast dX7_clears_12 (mr_up_same _ _ _) (by omega) (by omega) (by decide) (Or.inl rfl) ?_
    refine mr_iinc dX7_clears_13 rfl (by decide) rfl ?_
    refine mr_goto (tgt := 2) dX7_clears_16 (by decide) ?_
    refine mr_cw (mr_up_up _ _ _ _) ?_
    rw [mr_zk h0]
    exact ih (c + 1) (by omega) (by omega)
def T_X7_clears (a : List mr_AV) (w : mr_Wd) (Po : Option mr_AV → mr_Wd → Prop) : Prop := ∃ (th tp sz zo fr kd nb ft pl wd sm md li sd : Int) (q : Nat) (st ls : Nat → Int), a = [vR 18 0, vR q 0] ∧ q ≠ 18 ∧ q ≠ 27 ∧ w 18 = eMo th tp sz zo fr kd nb ft pl wd sm md li sd ∧ w q = eA 1 27000 st ∧ w 27 = eA 0 27000 ls ∧ Po none (mr_up (mr_up (mr_up w q (eA 1 27000 (fun r : Nat => if r = 0 then 1 else 0))) 27 (eA 0 27000 (mr_fs ls 0 0))) 18 (eMo th tp sz zo fr kd nb ft pl wd sm md (1) sd))
set_option maxHeartbeats 4000000 in
set_option maxRecDepth 20000 in
theorem ok_X7_clears (l : Launch) (G : mr_G) : mr_Ok l G yX7_clears cX7_clears 3 none 0 0 T_X7_clears := by
  refine mr_Ok.of (by decide +kernel) ?_
  rintro a w Po ⟨th, tp, sz, zo, fr, kd, nb, ft, pl, wd, sm, md, li, sd, q, st, ls, rfl, hq18, hq27, h18, hq, h27, hP⟩
  refine ⟨Nat.le_of_ble_eq_true rfl, ?_⟩
  show mr_J l G RX7 cX7_clears 3 none 0 0 Po 0 [some (vR 18 0), some (vR q 0), none] [] w
  refine mr_iconst dX7_clears_0 ?_
  refine mr_istore_n dX7_clears_1 rfl (by decide) ?_
  refine mr_cw (show w = (mr_up w q (eA 1 27000 (fun r : Nat => if (r : Int) < 0 then 0 else st r))) by rw [mr_zk0]; exact (mr_up_self hq).symm) ?_
  exact lp_X7_clears l G hq18 hq27 h18 h27 hP 27000 0 (by decide) (by decide)
