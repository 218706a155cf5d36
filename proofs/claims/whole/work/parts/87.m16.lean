set_option maxHeartbeats 4000000 in
set_option maxRecDepth 20000 in
theorem lpa_X7_next (l : Launch) (G : mr_G) {Po : Option mr_AV → mr_Wd → Prop} {w0 : mr_Wd} {th tp sz zo fr kd nb ft pl wd sm md li sd : Int} {T N R K Sn ik s1 s2 ls : Nat → Int} {g : Nat → Int} {n : Int} (hsz : 0 ≤ sz ∧ sz ≤ 540) (hT : ∀ j : Nat, (j : Int) < sz → T j = mr_ba sz g j) (hn : 0 ≤ n) (hK : ∀ (w' : mr_Wd) (p : Int), mr_skq sz g n p → mr_MW w' th tp sz (p) fr kd nb ft pl wd sm md li sd T N R K Sn ik s1 s2 ls → mr_FM w0 w' → mr_J l G RX7 cX7_next 5 none 1 21 Po 52 [some (vR 18 0), none, none, none, none] [] w') : ∀ (m : Nat) (i : Int) (w : mr_Wd), n ≤ i → i + m = sz → (∀ x : Int, n ≤ x → x < i → mr_bla sz g x) → mr_MW w th tp sz (i) fr kd nb ft pl wd sm md li sd T N R K Sn ik s1 s2 ls → mr_FM w0 w → mr_J l G RX7 cX7_next 5 none 1 21 Po 0 [some (vR 18 0), none, none, none, none] [] w := by
  intro m
  induction m with
  | zero =>
    intro i w h0 hm hb hM hFr
    obtain ⟨h18, h19, h20, h21, h22, h23, h24, h25, h26, h27, hs1, hs2, hik⟩ := id hM
    refine mr_aload_n dX7_next_0 rfl ?_
    refine mr_get dX7_next_1 fl_X7_21 (by first | assumption | exact mr_up_same _ _ _ | (refine mr_lk ?_ (by first | assumption | decide); first | assumption | exact mr_up_same _ _ _ | (refine mr_lk ?_ (by first | assumption | decide); first | assumption | exact mr_up_same _ _ _ | (refine mr_lk ?_ (by first | assumption | decide); first | assumption | exact mr_up_same _ _ _ | (refine mr_lk ?_ (by first | assumption | decide); first | assumption | exact mr_up_same _ _ _))))) rfl ?_
    refine mr_aload_n dX7_next_4 rfl ?_
    refine mr_get dX7_next_5 fl_X7_18 (by first | assumption | exact mr_up_same _ _ _ | (refine mr_lk ?_ (by first | assumption | decide); first | assumption | exact mr_up_same _ _ _ | (refine mr_lk ?_ (by first | assumption | decide); first | assumption | exact mr_up_same _ _ _ | (refine mr_lk ?_ (by first | assumption | decide); first | assumption | exact mr_up_same _ _ _ | (refine mr_lk ?_ (by first | assumption | decide); first | assumption | exact mr_up_same _ _ _))))) rfl ?_
    refine mr_icmp_ge (tgt := 52) dX7_next_8 (by decide) ⟨by omega, by omega⟩ ⟨by omega, by omega⟩ (fun hc_8 => ?_) (fun hc_8 => absurd hc_8 (by omega))
    exact hK w i ⟨h0, by omega, hb, Or.inl (by omega)⟩ hM hFr
  | succ m ih =>
    intro i w h0 hm hb hM hFr
    have hTi : T i.toNat = mr_ba sz g i := by rw [hT i.toNat (by omega), Int.toNat_of_nonneg (by omega)]
    have hbi := mr_ba_in sz g i
    obtain ⟨h18, h19, h20, h21, h22, h23, h24, h25, h26, h27, hs1, hs2, hik⟩ := id hM
    refine mr_aload_n dX7_next_0 rfl ?_
    refine mr_get dX7_next_1 fl_X7_21 (by first | assumption | exact mr_up_same _ _ _ | (refine mr_lk ?_ (by first | assumption | decide); first | assumption | exact mr_up_same _ _ _ | (refine mr_lk ?_ (by first | assumption | decide); first | assumption | exact mr_up_same _ _ _ | (refine mr_lk ?_ (by first | assumption | decide); first | assumption | exact mr_up_same _ _ _ | (refine mr_lk ?_ (by first | assumption | decide); first | assumption | exact mr_up_same _ _ _))))) rfl ?_
    refine mr_aload_n dX7_next_4 rfl ?_
    refine mr_get dX7_next_5 fl_X7_18 (by first | assumption | exact mr_up_same _ _ _ | (refine mr_lk ?_ (by first | assumption | decide); first | assumption | exact mr_up_same _ _ _ | (refine mr_lk ?_ (by first | assumption | decide); first | assumption | exact mr_up_same _ _ _ | (refine mr_lk ?_ (by first | assumption | decide); first | assumption | exact mr_up_same _ _ _ | (refine mr_lk ?_ (by first | assumption | decide); first | assumption | exact mr_up_same _ _ _))))) rfl ?_
    refine mr_icmp_ge (tgt := 52) dX7_next_8 (by decide) ⟨by omega, by omega⟩ ⟨by omega, by omega⟩ (fun hc_8 => absurd hc_8 (by omega)) (fun hc_8 => ?_)
    refine mr_aload_n dX7_next_11 rfl ?_
    refine mr_get dX7_next_12 fl_X7_7 (by first | assumption | exact mr_up_same _ _ _ | (refine mr_lk ?_ (by first | assumption | decide); first | assumption | exact mr_up_same _ _ _ | (refine mr_lk ?_ (by first | assumption | decide); first | assumption | exact mr_up_same _ _ _ | (refine mr_lk ?_ (by first | assumption | decide); first | assumption | exact mr_up_same _ _ _ | (refine mr_lk ?_ (by first | assumption | decide); first | assumption | exact mr_up_same _ _ _))))) rfl ?_
    refine mr_aload_n dX7_next_15 rfl ?_
    refine mr_get dX7_next_16 fl_X7_21 (by first | assumption | exact mr_up_same _ _ _ | (refine mr_lk ?_ (by first | assumption | decide); first | assumption | exact mr_up_same _ _ _ | (refine mr_lk ?_ (by first | assumption | decide); first | assumption | exact mr_up_same _ _ _ | (refine mr_lk ?_ (by first | assumption | decide); first | assumption | exact mr_up_same _ _ _ | (refine mr_lk ?_ (by first | assumption | decide); first | assumption | exact mr_up_same _ _ _))))) rfl ?_
    refine mr_iald dX7_next_19 (by first | assumption | exact mr_up_same _ _ _ | (refine mr_lk ?_ (by first | assumption | decide); first | assumption | exact mr_up_same _ _ _ | (refine mr_lk ?_ (by first | assumption | decide); first | assumption | exact mr_up_same _ _ _ | (refine mr_lk ?_ (by first | assumption | decide); first | assumption | exact mr_up_same _ _ _ | (refine mr_lk ?_ (by first | assumption | decide); first | assumption | exact mr_up_same _ _ _))))) (by omega) (by omega) (by decide) ?_
    refine mr_bipush dX7_next_20 rfl ?_
    refine mr_icmp_eq (tgt := 39) dX7_next_22 (by decide) (by rw [hTi]; exact hbi) (by decide) (fun hc_22 => ?_) (fun hc_22 => ?_)
    · refine mr_aload_n dX7_next_39 rfl ?_
      refine mr_dup dX7_next_40 rfl ?_
      refine mr_get dX7_next_41 fl_X7_21 (by first | assumption | exact mr_up_same _ _ _ | (refine mr_lk ?_ (by first | assumption | decide); first | assumption | exact mr_up_same _ _ _ | (refine mr_lk ?_ (by first | assumption | decide); first | assumption | exact mr_up_same _ _ _ | (refine mr_lk ?_ (by first | assumption | decide); first | assumption | exact mr_up_same _ _ _ | (refine mr_lk ?_ (by first | assumption | decide); first | assumption | exact mr_up_same _ _ _))))) rfl ?_
      refine mr_iconst dX7_next_44 ?_
      refine mr_iadd dX7_next_45 ?_
      refine mr_put dX7_next_46 fl_X7_21 pf_X7_4 rfl rfl (by first | assumption | exact mr_up_same _ _ _ | (refine mr_lk ?_ (by first | assumption | decide); first | assumption | exact mr_up_same _ _ _ | (refine mr_lk ?_ (by first | assumption | decide); first | assumption | exact mr_up_same _ _ _ | (refine mr_lk ?_ (by first | assumption | decide); first | assumption | exact mr_up_same _ _ _ | (refine mr_lk ?_ (by first | assumption | decide); first | assumption | exact mr_up_same _ _ _))))) (Nat.le_of_ble_eq_true rfl) ?_
      refine mw_p4 hM (fun w1 hM1 hF1 => ?_)
      obtain ⟨h18, h19, h20, h21, h22, h23, h24, h25, h26, h27, hs1, hs2, hik⟩ := id hM1
      refine mr_goto (tgt := 0) dX7_next_49 (by decide) ?_
      refine ih (i + 1) w1 (by omega) (by omega) (fun x g1 g2 => ?_) hM1 (hFr.tr hF1)
      by_cases e : x = i
      · subst e; unfold mr_bla; first | (exact Or.inl (by omega)) | (exact Or.inr (by omega))
      · exact hb x g1 (by omega)
    · refine mr_aload_n dX7_next_25 rfl ?_
      refine mr_get dX7_next_26 fl_X7_7 (by first | assumption | exact mr_up_same _ _ _ | (refine mr_lk ?_ (by first | assumption | decide); first | assumption | exact mr_up_same _ _ _ | (refine mr_lk ?_ (by first | assumption | decide); first | assumption | exact mr_up_same _ _ _ | (refine mr_lk ?_ (by first | assumption | decide); first | assumption | exact mr_up_same _ _ _ | (refine mr_lk ?_ (by first | assumption | decide); first | assumption | exact mr_up_same _ _ _))))) rfl ?_
      refine mr_aload_n dX7_next_29 rfl ?_
      refine mr_get dX7_next_30 fl_X7_21 (by first | assumption | exact mr_up_same _ _ _ | (refine mr_lk ?_ (by first | assumption | decide); first | assumption | exact mr_up_same _ _ _ | (refine mr_lk ?_ (by first | assumption | decide); first | assumption | exact mr_up_same _ _ _ | (refine mr_lk ?_ (by first | assumption | decide); first | assumption | exact mr_up_same _ _ _ | (refine mr_lk ?_ (by first | assumption | decide); first | assumption | exact mr_up_same _ _ _))))) rfl ?_
      refine mr_iald dX7_next_33 (by first | assumption | exact mr_up_same _ _ _ | (refine mr_lk ?_ (by first | assumption | decide); first | assumption | exact mr_up_same _ _ _ | (refine mr_lk ?_ (by first | assumption | decide); first | assumption | exact mr_up_same _ _ _ | (refine mr_lk ?_ (by first | assumption | decide); first | assumption | exact mr_up_same _ _ _ | (refine mr_lk ?_ (by first | assumption | decide); first | assumption | exact mr_up_same _ _ _))))) (by omega) (by omega) (by decide) ?_
      refine mr_bipush dX7_next_34 rfl ?_
      refine mr_icmp_ne (tgt := 52) dX7_next_36 (by decide) (by rw [hTi]; exact hbi) (by decide) (fun hc_36 => ?_) (fun hc_36 => ?_)
      · exact hK w i ⟨h0, by omega, hb, Or.inr (fun z => by unfold mr_bla at z; omega)⟩ hM hFr
      · refine mr_aload_n dX7_next_39 rfl ?_
        refine mr_dup dX7_next_40 rfl ?_
        refine mr_get dX7_next_41 fl_X7_21 (by first | assumption | exact mr_up_same _ _ _ | (refine mr_lk ?_ (by first | assumption | decide); first | assumption | exact mr_up_same _ _ _ | (refine mr_lk ?_ (by first | assumption | decide); first | assumption | exact mr_up_same _ _ _ | (refine mr_lk ?_ (by first | assumption | decide); first | assumption | exact mr_up_same _ _ _ | (refine mr_lk ?_ (by first | assumption | decide); first | assumption | exact mr_up_same _ _ _))))) rfl ?_
        refine mr_iconst dX7_next_44 ?_
        refine mr_iadd dX7_next_45 ?_
        refine mr_put dX7_next_46 fl_X7_21 pf_X7_4 rfl rfl (by first | assumption | exact mr_up_same _ _ _ | (refine mr_lk ?_ (by first | assumption | decide); first | assumption | exact mr_up_same _ _ _ | (refine mr_lk ?_ (by first | assumption | decide); first | assumption | exact mr_up_same _ _ _ | (refine mr_lk ?_ (by first | assumption | decide); first | assumption | exact mr_up_same _ _ _ | (refine mr_lk ?_ (by first | assumption | decide); first | assumption | exact mr_up_same _ _ _))))) (Nat.le_of_ble_eq_true rfl) ?_
        refine mw_p4 hM (fun w2 hM2 hF2 => ?_)
        obtain ⟨h18, h19, h20, h21, h22, h23, h24, h25, h26, h27, hs1, hs2, hik⟩ := id hM2
        refine mr_goto (tgt := 0) dX7_next_49 (by decide) ?_
        refine ih (i + 1) w2 (by omega) (by omega) (fun x g1 g2 => ?_) hM2 (hFr.tr hF2)
        by_cases e : x = i
        · subst e; unfold mr_bla; first | (exact Or.inl (by omega)) | (exact Or.inr (by omega))
        · exact hb x g1 (by omega)
theorem mr_hs_s {n0 : Int} {g : Nat → Int} {p i : Int} (hp : p ≤ i) (h : i - p < 9) : mr_hs n0 g p (min (i + 1 - p) 9).toNat = 27 * mr_hs n0 g p (min (i - p) 9).toNat + mr_ba n0 g i - 96 := by
  have e1 : (min (i + 1 - p) 9).toNat = (min (i - p) 9).toNat + 1 := by omega
  rw [e1]
  show 27 * mr_hs n0 g p (min (i - p) 9).toNat + mr_ba n0 g (p + ((min (i - p) 9).toNat : Nat)) - 96 = _
  rw [show p + (((min (i - p) 9).toNat : Nat) : Int) = i by omega]
theorem mr_nv_s {n0 : Int} {g : Nat → Int} {p i : Int} (hp : p ≤ i) (h : i - p < 2) : mr_nv n0 g p (i + 1) = 10 * mr_nv n0 g p i + mr_ba n0 g i - 48 := by
  unfold mr_nv
  rcases (show i = p ∨ i = p + 1 by omega) with e | e
  · subst e; rw [if_neg (by omega), if_pos rfl, if_pos rfl]; omega
  · subst e; rw [if_neg (by omega), if_neg (by omega), if_neg (by omega), if_pos rfl]
theorem mr_nv_k {n0 : Int} {g : Nat → Int} {p i : Int} (h : 2 ≤ i - p) : mr_nv n0 g p (i + 1) = mr_nv n0 g p i := by
  unfold mr_nv
  rw [if_neg (by omega), if_neg (by omega), if_neg (by omega), if_neg (by omega)]
theorem mr_hs_k {n0 : Int} {g : Nat → Int} {p i : Int} (h : 9 ≤ i - p) : mr_hs n0 g p (min (i + 1 - p) 9).toNat = mr_hs n0 g p (min (i - p) 9).toNat := by
  rw [show (min (i + 1 - p) 9).toNat = (min (i - p) 9).toNat by omega]
theorem mr_hs_in {n0 : Int} {g : Nat → Int} {p i : Int} (h : ∀ x : Int, p ≤ x → x < i → mr_let n0 g x ∨ mr_dig n0 g x) : InL (mr_hs n0 g p (min (i - p) 9).toNat) := mr_hg_in (by omega) (fun j hj => by
  have := h (p + j) (by omega) (by omega)
  unfold mr_let mr_dig at this
  omega)
theorem mr_nv_bd {n0 : Int} {g : Nat → Int} (p i : Int) : -1000000 ≤ mr_nv n0 g p i ∧ mr_nv n0 g p i ≤ 1000000 := by
  have b : ∀ x : Int, -1 ≤ mr_ba n0 g x ∧ mr_ba n0 g x ≤ 255 := fun x => by unfold mr_ba; split <;> omega
  have b1 := b p
  have b2 := b (p + 1)
  unfold mr_nv
  split
  · omega
  · split <;> omega
set_option maxHeartbeats 4000000 in
set_option maxRecDepth 20000 in
theorem lpb_X7_next (l : Launch) (G : mr_G) {Po : Option mr_AV → mr_Wd → Prop} {w0 : mr_Wd} {th tp sz zo fr kd nb ft pl wd sm md li sd : Int} {T N R K Sn ik s1 s2 ls : Nat → Int} {g : Nat → Int} {p c le : Int} (hsz : 0 ≤ sz ∧ sz ≤ 540) (hT : ∀ j : Nat, (j : Int) < sz → T j = mr_ba sz g j) (hp : 0 ≤ p) (hle : le = 0 ∨ le = 1) (hfr : fr = p) (hK : ∀ (w' : mr_Wd) (i gd : Int), mr_run sz g p i → ((gd = 0 ∨ gd = 1) ∧ (gd = 1 ↔ ∀ x : Int, p ≤ x → x < i → (mr_let sz g x ↔ le = 1))) → mr_MW w' th tp sz (i) fr kd (mr_nv sz g p i) ft pl (mr_hs sz g p (min (i - p) 9).toNat) sm md li sd T N R K Sn ik s1 s2 ls → mr_FM w0 w' → mr_J l G RX7 cX7_next 5 none 1 21 Po 312 [some (vR 18 0), some (vI c), some (vI le), some (vI gd), none] [] w') : ∀ (m : Nat) (i gd : Int) (w : mr_Wd), ((p ≤ i ∧ i ≤ sz) ∧ (∀ x : Int, p ≤ x → x < i → mr_let sz g x ∨ mr_dig sz g x) ∧ ((gd = 0 ∨ gd = 1) ∧ (gd = 1 ↔ ∀ x : Int, p ≤ x → x < i → (mr_let sz g x ↔ le = 1)))) → i + m = sz → mr_MW w th tp sz (i) fr kd (mr_nv sz g p i) ft pl (mr_hs sz g p (min (i - p) 9).toNat) sm md li sd T N R K Sn ik s1 s2 ls → mr_FM w0 w → mr_J l G RX7 cX7_next 5 none 1 21 Po 177 [some (vR 18 0), some (vI c), some (vI le), some (vI gd), none] [] w := by
  intro m
  induction m with
  | zero =>
    intro i gd w hinv hm hM hFr
    obtain ⟨hi, hru, hgd⟩ := hinv
    have hei : ¬ i < sz := by omega
    obtain ⟨h18, h19, h20, h21, h22, h23, h24, h25, h26, h27, hs1, hs2, hik⟩ := id hM
    refine mr_aload_n dX7_next_177 rfl ?_
    refine mr_aload_n dX7_next_178 rfl ?_
    refine mr_get dX7_next_179 fl_X7_21 (by first | assumption | exact mr_up_same _ _ _ | (refine mr_lk ?_ (by first | assumption | decide); first | assumption | exact mr_up_same _ _ _ | (refine mr_lk ?_ (by first | assumption | decide); first | assumption | exact mr_up_same _ _ _ | (refine mr_lk ?_ (by first | assumption | decide); first | assumption | exact mr_up_same _ _ _ | (refine mr_lk ?_ (by first | assumption | decide); first | assumption | exact mr_up_same _ _ _))))) rfl ?_
    refine mr_callV (as := [_]) dX7_next_182 (ok_X7_tapeAt l G) ml_X7_44 cl_X7_tapeAt cv_X7_tapeAt (by decide) rfl rfl (Nat.le_of_ble_eq_true rfl) (by first | assumption | exact mr_up_same _ _ _ | (refine mr_lk ?_ (by first | assumption | decide); first | assumption | exact mr_up_same _ _ _ | (refine mr_lk ?_ (by first | assumption | decide); first | assumption | exact mr_up_same _ _ _ | (refine mr_lk ?_ (by first | assumption | decide); first | assumption | exact mr_up_same _ _ _ | (refine mr_lk ?_ (by first | assumption | decide); first | assumption | exact mr_up_same _ _ _))))) ?_
    refine ⟨_, _, _, _, _, _, _, _, _, _, _, _, _, _, _, _, rfl, (by assumption), (by assumption), hsz, ⟨by omega, by omega⟩, ?_⟩
    rw [if_neg hei]
    dsimp only [Option.toList_some, Option.toList_none, List.cons_append, List.nil_append]
    refine mr_callS (as := [_]) dX7_next_185 (ok_X7_isLetter l G) ml_X7_30 cl_X7_isLetter cs_X7_isLetter (by decide) rfl rfl (Nat.le_of_ble_eq_true rfl) ?_
    refine ⟨_, rfl, (by decide), ?_, ?_⟩
    · intro k1
      dsimp only [Option.toList_some, Option.toList_none, List.cons_append, List.nil_append]
      refine mr_if_ne (tgt := 205) dX7_next_188 (by decide) (by omega) (fun _ => ?_) (fun h => absurd h (by decide))
      first | exact absurd k1 (by decide) | exact absurd k2 (by decide)
    · intro k1
      dsimp only [Option.toList_some, Option.toList_none, List.cons_append, List.nil_append]
      refine mr_if_ne (tgt := 205) dX7_next_188 (by decide) (by omega) (fun h => absurd h (by decide)) (fun _ => ?_)
      refine mr_aload_n dX7_next_191 rfl ?_
      refine mr_aload_n dX7_next_192 rfl ?_
      refine mr_get dX7_next_193 fl_X7_21 (by first | assumption | exact mr_up_same _ _ _ | (refine mr_lk ?_ (by first | assumption | decide); first | assumption | exact mr_up_same _ _ _ | (refine mr_lk ?_ (by first | assumption | decide); first | assumption | exact mr_up_same _ _ _ | (refine mr_lk ?_ (by first | assumption | decide); first | assumption | exact mr_up_same _ _ _ | (refine mr_lk ?_ (by first | assumption | decide); first | assumption | exact mr_up_same _ _ _))))) rfl ?_
      refine mr_callV (as := [_]) dX7_next_196 (ok_X7_tapeAt l G) ml_X7_44 cl_X7_tapeAt cv_X7_tapeAt (by decide) rfl rfl (Nat.le_of_ble_eq_true rfl) (by first | assumption | exact mr_up_same _ _ _ | (refine mr_lk ?_ (by first | assumption | decide); first | assumption | exact mr_up_same _ _ _ | (refine mr_lk ?_ (by first | assumption | decide); first | assumption | exact mr_up_same _ _ _ | (refine mr_lk ?_ (by first | assumption | decide); first | assumption | exact mr_up_same _ _ _ | (refine mr_lk ?_ (by first | assumption | decide); first | assumption | exact mr_up_same _ _ _))))) ?_
      refine ⟨_, _, _, _, _, _, _, _, _, _, _, _, _, _, _, _, rfl, (by assumption), (by assumption), hsz, ⟨by omega, by omega⟩, ?_⟩
      rw [if_neg hei]
      dsimp only [Option.toList_some, Option.toList_none, List.cons_append, List.nil_append]
      refine mr_callS (as := [_]) dX7_next_199 (ok_X7_isDigit l G) ml_X7_34 cl_X7_isDigit cs_X7_isDigit (by decide) rfl rfl (Nat.le_of_ble_eq_true rfl) ?_
      refine ⟨_, rfl, (by decide), ?_, ?_⟩
      · intro k2
        dsimp only [Option.toList_some, Option.toList_none, List.cons_append, List.nil_append]
        refine mr_if_eq (tgt := 312) dX7_next_202 (by decide) (by omega) (fun h => absurd h (by decide)) (fun _ => ?_)
        first | exact absurd k1 (by decide) | exact absurd k2 (by decide)
      · intro k2
        dsimp only [Option.toList_some, Option.toList_none, List.cons_append, List.nil_append]
        refine mr_if_eq (tgt := 312) dX7_next_202 (by decide) (by omega) (fun _ => ?_) (fun h => absurd h (by decide))
        exact hK w i gd ⟨hi.1, hi.2, hru, Or.inl (by omega)⟩ hgd hM hFr
  | succ m ih =>
    intro i gd w hinv hm hM hFr
    obtain ⟨hi, hru, hgd⟩ := hinv
    have hlt : i < sz := by omega
    have hTi : T i.toNat = mr_ba sz g i := by rw [hT i.toNat (by omega), Int.toNat_of_nonneg (by omega)]
    have hbi := mr_ba_in sz g i
    have hlet : mr_let sz g i ↔ (97 ≤ T i.toNat ∧ T i.toNat ≤ 122) := by unfold mr_let; rw [hTi]
    have hdig : mr_dig sz g i ↔ (48 ≤ T i.toNat ∧ T i.toNat ≤ 57) := by unfold mr_dig; rw [hTi]
    have hTR : InR (T i.toNat) := by rw [hTi]; exact hbi
    have hrunI : mr_let sz g i ∨ mr_dig sz g i → ∀ x : Int, p ≤ x → x < i + 1 → mr_let sz g x ∨ mr_dig sz g x := fun z x g1 g2 => by
      by_cases e : x = i
      · subst e; exact z
      · exact hru x g1 (by omega)
    have h01 := hgd.1
    have hfin : ∀ (w9 : mr_Wd) {xw xn : Int}, mr_hs sz g p (min (i + 1 - p) 9).toNat = xw → mr_nv sz g p (i + 1) = xn → mr_MW w9 th tp sz ((i + 1)) fr kd (xn) ft pl (xw) sm md li sd T N R K Sn ik s1 s2 ls → mr_MW w9 th tp sz ((i + 1)) fr kd (mr_nv sz g p (i + 1)) ft pl (mr_hs sz g p (min (i + 1 - p) 9).toNat) sm md li sd T N R K Sn ik s1 s2 ls := fun w9 xw xn e1 e2 h9 => by rw [e1, e2]; exact h9
    obtain ⟨h18, h19, h20, h21, h22, h23, h24, h25, h26, h27, hs1, hs2, hik⟩ := id hM
    refine mr_aload_n dX7_next_177 rfl ?_
    refine mr_aload_n dX7_next_178 rfl ?_
    refine mr_get dX7_next_179 fl_X7_21 (by first | assumption | exact mr_up_same _ _ _ | (refine mr_lk ?_ (by first | assumption | decide); first | assumption | exact mr_up_same _ _ _ | (refine mr_lk ?_ (by first | assumption | decide); first | assumption | exact mr_up_same _ _ _ | (refine mr_lk ?_ (by first | assumption | decide); first | assumption | exact mr_up_same _ _ _ | (refine mr_lk ?_ (by first | assumption | decide); first | assumption | exact mr_up_same _ _ _))))) rfl ?_
    refine mr_callV (as := [_]) dX7_next_182 (ok_X7_tapeAt l G) ml_X7_44 cl_X7_tapeAt cv_X7_tapeAt (by decide) rfl rfl (Nat.le_of_ble_eq_true rfl) (by first | assumption | exact mr_up_same _ _ _ | (refine mr_lk ?_ (by first | assumption | decide); first | assumption | exact mr_up_same _ _ _ | (refine mr_lk ?_ (by first | assumption | decide); first | assumption | exact mr_up_same _ _ _ | (refine mr_lk ?_ (by first | assumption | decide); first | assumption | exact mr_up_same _ _ _ | (refine mr_lk ?_ (by first | assumption | decide); first | assumption | exact mr_up_same _ _ _))))) ?_
    refine ⟨_, _, _, _, _, _, _, _, _, _, _, _, _, _, _, _, rfl, (by assumption), (by assumption), hsz, ⟨by omega, by omega⟩, ?_⟩
    rw [if_pos hlt]
    dsimp only [Option.toList_some, Option.toList_none, List.cons_append, List.nil_append]
    refine mr_callS (as := [_]) dX7_next_185 (ok_X7_isLetter l G) ml_X7_30 cl_X7_isLetter cs_X7_isLetter (by decide) rfl rfl (Nat.le_of_ble_eq_true rfl) ?_
    refine ⟨_, rfl, hTR, ?_, ?_⟩
    · intro k1
      dsimp only [Option.toList_some, Option.toList_none, List.cons_append, List.nil_append]
      refine mr_if_ne (tgt := 205) dX7_next_188 (by decide) (by omega) (fun _ => ?_) (fun h => absurd h (by decide))
      have hrun' := hrunI (by first | exact Or.inl (hlet.mpr k1) | exact Or.inr (hdig.mpr k2))
      refine mr_aload_n dX7_next_205 rfl ?_
      refine mr_get dX7_next_206 fl_X7_7 (by first | assumption | exact mr_up_same _ _ _ | (refine mr_lk ?_ (by first | assumption | decide); first | assumption | exact mr_up_same _ _ _ | (refine mr_lk ?_ (by first | assumption | decide); first | assumption | exact mr_up_same _ _ _ | (refine mr_lk ?_ (by first | assumption | decide); first | assumption | exact mr_up_same _ _ _ | (refine mr_lk ?_ (by first | assumption | decide); first | assumption | exact mr_up_same _ _ _))))) rfl ?_
      refine mr_aload_n dX7_next_209 rfl ?_
      refine mr_get dX7_next_210 fl_X7_21 (by first | assumption | exact mr_up_same _ _ _ | (refine mr_lk ?_ (by first | assumption | decide); first | assumption | exact mr_up_same _ _ _ | (refine mr_lk ?_ (by first | assumption | decide); first | assumption | exact mr_up_same _ _ _ | (refine mr_lk ?_ (by first | assumption | decide); first | assumption | exact mr_up_same _ _ _ | (refine mr_lk ?_ (by first | assumption | decide); first | assumption | exact mr_up_same _ _ _))))) rfl ?_
      refine mr_iald dX7_next_213 (by first | assumption | exact mr_up_same _ _ _ | (refine mr_lk ?_ (by first | assumption | decide); first | assumption | exact mr_up_same _ _ _ | (refine mr_lk ?_ (by first | assumption | decide); first | assumption | exact mr_up_same _ _ _ | (refine mr_lk ?_ (by first | assumption | decide); first | assumption | exact mr_up_same _ _ _ | (refine mr_lk ?_ (by first | assumption | decide); first | assumption | exact mr_up_same _ _ _))))) (by omega) (by omega) (by decide) ?_
      refine mr_istore dX7_next_214 rfl (by decide) ?_
      refine mr_iload_n dX7_next_216 rfl ?_
      refine mr_if_eq (tgt := 233) dX7_next_217 (by decide) ⟨by omega, by omega⟩ (fun hc_217 => ?_) (fun hc_217 => ?_)
      · refine mr_iconst dX7_next_233 ?_
        refine mr_istore_n dX7_next_234 rfl (by decide) ?_
        refine mr_aload_n dX7_next_235 rfl ?_
        refine mr_get dX7_next_236 fl_X7_21 (by first | assumption | exact mr_up_same _ _ _ | (refine mr_lk ?_ (by first | assumption | decide); first | assumption | exact mr_up_same _ _ _ | (refine mr_lk ?_ (by first | assumption | decide); first | assumption | exact mr_up_same _ _ _ | (refine mr_lk ?_ (by first | assumption | decide); first | assumption | exact mr_up_same _ _ _ | (refine mr_lk ?_ (by first | assumption | decide); first | assumption | exact mr_up_same _ _ _))))) rfl ?_
        refine mr_aload_n dX7_next_239 rfl ?_
        refine mr_get dX7_next_240 fl_X7_24 (by first | assumption | exact mr_up_same _ _ _ | (refine mr_lk ?_ (by first | assumption | decide); first | assumption | exact mr_up_same _ _ _ | (refine mr_lk ?_ (by first | assumption | decide); first | assumption | exact mr_up_same _ _ _ | (refine mr_lk ?_ (by first | assumption | decide); first | assumption | exact mr_up_same _ _ _ | (refine mr_lk ?_ (by first | assumption | decide); first | assumption | exact mr_up_same _ _ _))))) rfl ?_
        refine mr_isub dX7_next_243 ?_
        refine mr_bipush dX7_next_244 rfl ?_
        refine mr_icmp_ge (tgt := 269) dX7_next_246 (by decide) ⟨by omega, by omega⟩ (by decide) (fun hc_246 => ?_) (fun hc_246 => ?_)
        · refine mr_aload_n dX7_next_269 rfl ?_
          refine mr_get dX7_next_270 fl_X7_21 (by first | assumption | exact mr_up_same _ _ _ | (refine mr_lk ?_ (by first | assumption | decide); first | assumption | exact mr_up_same _ _ _ | (refine mr_lk ?_ (by first | assumption | decide); first | assumption | exact mr_up_same _ _ _ | (refine mr_lk ?_ (by first | assumption | decide); first | assumption | exact mr_up_same _ _ _ | (refine mr_lk ?_ (by first | assumption | decide); first | assumption | exact mr_up_same _ _ _))))) rfl ?_
          refine mr_aload_n dX7_next_273 rfl ?_
          refine mr_get dX7_next_274 fl_X7_24 (by first | assumption | exact mr_up_same _ _ _ | (refine mr_lk ?_ (by first | assumption | decide); first | assumption | exact mr_up_same _ _ _ | (refine mr_lk ?_ (by first | assumption | decide); first | assumption | exact mr_up_same _ _ _ | (refine mr_lk ?_ (by first | assumption | decide); first | assumption | exact mr_up_same _ _ _ | (refine mr_lk ?_ (by first | assumption | decide); first | assumption | exact mr_up_same _ _ _))))) rfl ?_
          refine mr_isub dX7_next_277 ?_
          refine mr_iconst dX7_next_278 ?_
          refine mr_icmp_ge (tgt := 299) dX7_next_279 (by decide) ⟨by omega, by omega⟩ (by decide) (fun hc_279 => ?_) (fun hc_279 => ?_)
          · refine mr_aload_n dX7_next_299 rfl ?_
            refine mr_dup dX7_next_300 rfl ?_
            refine mr_get dX7_next_301 fl_X7_21 (by first | assumption | exact mr_up_same _ _ _ | (refine mr_lk ?_ (by first | assumption | decide); first | assumption | exact mr_up_same _ _ _ | (refine mr_lk ?_ (by first | assumption | decide); first | assumption | exact mr_up_same _ _ _ | (refine mr_lk ?_ (by first | assumption | decide); first | assumption | exact mr_up_same _ _ _ | (refine mr_lk ?_ (by first | assumption | decide); first | assumption | exact mr_up_same _ _ _))))) rfl ?_
            refine mr_iconst dX7_next_304 ?_
            refine mr_iadd dX7_next_305 ?_
            refine mr_put dX7_next_306 fl_X7_21 pf_X7_4 rfl rfl (by first | assumption | exact mr_up_same _ _ _ | (refine mr_lk ?_ (by first | assumption | decide); first | assumption | exact mr_up_same _ _ _ | (refine mr_lk ?_ (by first | assumption | decide); first | assumption | exact mr_up_same _ _ _ | (refine mr_lk ?_ (by first | assumption | decide); first | assumption | exact mr_up_same _ _ _ | (refine mr_lk ?_ (by first | assumption | decide); first | assumption | exact mr_up_same _ _ _))))) (Nat.le_of_ble_eq_true rfl) ?_
            refine mw_p4 hM (fun w1 hM1 hF1 => ?_)
            obtain ⟨h18, h19, h20, h21, h22, h23, h24, h25, h26, h27, hs1, hs2, hik⟩ := id hM1
            refine mr_goto (tgt := 177) dX7_next_309 (by decide) ?_
            refine mr_weak [some (vR 18 0), some (vI c), some (vI le), some (vI 0), none] ⟨rfl, rfl, rfl, rfl, trivial⟩ ?_
            refine ih (i + 1) 0 w1 ⟨⟨by omega, by omega⟩, hrun', ⟨by first | exact Or.inl rfl | exact Or.inr rfl | assumption, ?_⟩⟩ (by omega) (hfin _ (by first | exact (mr_hs_s hi.1 (by omega)).trans (by rw [hTi]) | exact mr_hs_k (by omega)) (by first | exact (mr_nv_s hi.1 (by omega)).trans (by rw [hTi]) | exact mr_nv_k (by omega)) hM1) (hFr.tr hF1)
            · first
                | exact ⟨fun _ x g1 g2 => by
                    by_cases e : x = i
                    · subst e; rw [hlet]; first | exact ⟨fun _ => by omega, fun _ => by omega⟩ | exact ⟨fun z => absurd z (by omega), fun z => absurd z (by omega)⟩
                    · exact (hgd.2.mp (by omega)) x g1 (by omega), fun _ => rfl⟩
                | exact ⟨fun z => absurd z (by decide), fun z => absurd (hgd.2.mpr (fun x g1 g2 => z x g1 (by omega))) (by omega)⟩
                | exact ⟨fun z => absurd z (by decide), fun z => by have z9 := z i (by omega) (by omega); rw [hlet] at z9; omega⟩
          · refine mr_aload_n dX7_next_282 rfl ?_
            refine mr_bipush dX7_next_283 rfl ?_
            refine mr_aload_n dX7_next_285 rfl ?_
            refine mr_get dX7_next_286 fl_X7_41 (by first | assumption | exact mr_up_same _ _ _ | (refine mr_lk ?_ (by first | assumption | decide); first | assumption | exact mr_up_same _ _ _ | (refine mr_lk ?_ (by first | assumption | decide); first | assumption | exact mr_up_same _ _ _ | (refine mr_lk ?_ (by first | assumption | decide); first | assumption | exact mr_up_same _ _ _ | (refine mr_lk ?_ (by first | assumption | decide); first | assumption | exact mr_up_same _ _ _))))) rfl ?_
            refine mr_imul dX7_next_289 ?_
            refine mr_iload dX7_next_290 rfl ?_
            refine mr_iadd dX7_next_292 ?_
            refine mr_bipush dX7_next_293 rfl ?_
            refine mr_isub dX7_next_295 ?_
            refine mr_put dX7_next_296 fl_X7_41 pf_X7_7 rfl rfl (by first | assumption | exact mr_up_same _ _ _ | (refine mr_lk ?_ (by first | assumption | decide); first | assumption | exact mr_up_same _ _ _ | (refine mr_lk ?_ (by first | assumption | decide); first | assumption | exact mr_up_same _ _ _ | (refine mr_lk ?_ (by first | assumption | decide); first | assumption | exact mr_up_same _ _ _ | (refine mr_lk ?_ (by first | assumption | decide); first | assumption | exact mr_up_same _ _ _))))) (Nat.le_of_ble_eq_true rfl) ?_
            refine mw_p7 hM (fun w2 hM2 hF2 => ?_)
            obtain ⟨h18, h19, h20, h21, h22, h23, h24, h25, h26, h27, hs1, hs2, hik⟩ := id hM2
            refine mr_aload_n dX7_next_299 rfl ?_
            refine mr_dup dX7_next_300 rfl ?_
            refine mr_get dX7_next_301 fl_X7_21 (by first | assumption | exact mr_up_same _ _ _ | (refine mr_lk ?_ (by first | assumption | decide); first | assumption | exact mr_up_same _ _ _ | (refine mr_lk ?_ (by first | assumption | decide); first | assumption | exact mr_up_same _ _ _ | (refine mr_lk ?_ (by first | assumption | decide); first | assumption | exact mr_up_same _ _ _ | (refine mr_lk ?_ (by first | assumption | decide); first | assumption | exact mr_up_same _ _ _))))) rfl ?_
            refine mr_iconst dX7_next_304 ?_
            refine mr_iadd dX7_next_305 ?_
            refine mr_put dX7_next_306 fl_X7_21 pf_X7_4 rfl rfl (by first | assumption | exact mr_up_same _ _ _ | (refine mr_lk ?_ (by first | assumption | decide); first | assumption | exact mr_up_same _ _ _ | (refine mr_lk ?_ (by first | assumption | decide); first | assumption | exact mr_up_same _ _ _ | (refine mr_lk ?_ (by first | assumption | decide); first | assumption | exact mr_up_same _ _ _ | (refine mr_lk ?_ (by first | assumption | decide); first | assumption | exact mr_up_same _ _ _))))) (Nat.le_of_ble_eq_true rfl) ?_
            refine mw_p4 hM2 (fun w3 hM3 hF3 => ?_)
            obtain ⟨h18, h19, h20, h21, h22, h23, h24, h25, h26, h27, hs1, hs2, hik⟩ := id hM3
            refine mr_goto (tgt := 177) dX7_next_309 (by decide) ?_
            refine mr_weak [some (vR 18 0), some (vI c), some (vI le), some (vI 0), none] ⟨rfl, rfl, rfl, rfl, trivial⟩ ?_
            refine ih (i + 1) 0 w3 ⟨⟨by omega, by omega⟩, hrun', ⟨by first | exact Or.inl rfl | exact Or.inr rfl | assumption, ?_⟩⟩ (by omega) (hfin _ (by first | exact (mr_hs_s hi.1 (by omega)).trans (by rw [hTi]) | exact mr_hs_k (by omega)) (by first | exact (mr_nv_s hi.1 (by omega)).trans (by rw [hTi]) | exact mr_nv_k (by omega)) hM3) (hFr.tr (hF2.tr hF3))
            · first
                | exact ⟨fun _ x g1 g2 => by
                    by_cases e : x = i
                    · subst e; rw [hlet]; first | exact ⟨fun _ => by omega, fun _ => by omega⟩ | exact ⟨fun z => absurd z (by omega), fun z => absurd z (by omega)⟩
                    · exact (hgd.2.mp (by omega)) x g1 (by omega), fun _ => rfl⟩
                | exact ⟨fun z => absurd z (by decide), fun z => absurd (hgd.2.mpr (fun x g1 g2 => z x g1 (by omega))) (by omega)⟩
                | exact ⟨fun z => absurd z (by decide), fun z => by have z9 := z i (by omega) (by omega); rw [hlet] at z9; omega⟩
        · refine mr_aload_n dX7_next_249 rfl ?_
          refine mr_ldc2 dX7_next_250 kc_X7_48 ?_
          refine mr_aload_n dX7_next_253 rfl ?_
          refine mr_get dX7_next_254 fl_X7_37 (by first | assumption | exact mr_up_same _ _ _ | (refine mr_lk ?_ (by first | assumption | decide); first | assumption | exact mr_up_same _ _ _ | (refine mr_lk ?_ (by first | assumption | decide); first | assumption | exact mr_up_same _ _ _ | (refine mr_lk ?_ (by first | assumption | decide); first | assumption | exact mr_up_same _ _ _ | (refine mr_lk ?_ (by first | assumption | decide); first | assumption | exact mr_up_same _ _ _))))) rfl ?_
          refine mr_lmul dX7_next_257 ?_
          refine mr_iload dX7_next_258 rfl ?_
          refine mr_i2l dX7_next_260 hTR ?_
          refine mr_ladd dX7_next_261 ?_
          refine mr_ldc2 dX7_next_262 kc_X7_50 ?_
          refine mr_lsub dX7_next_265 ?_
          refine mr_put dX7_next_266 fl_X7_37 pf_X7_10 rfl rfl (by first | assumption | exact mr_up_same _ _ _ | (refine mr_lk ?_ (by first | assumption | decide); first | assumption | exact mr_up_same _ _ _ | (refine mr_lk ?_ (by first | assumption | decide); first | assumption | exact mr_up_same _ _ _ | (refine mr_lk ?_ (by first | assumption | decide); first | assumption | exact mr_up_same _ _ _ | (refine mr_lk ?_ (by first | assumption | decide); first | assumption | exact mr_up_same _ _ _))))) (Nat.le_of_ble_eq_true rfl) ?_
          refine mw_p10 hM (fun w4 hM4 hF4 => ?_)
          obtain ⟨h18, h19, h20, h21, h22, h23, h24, h25, h26, h27, hs1, hs2, hik⟩ := id hM4
          refine mr_aload_n dX7_next_269 rfl ?_
          refine mr_get dX7_next_270 fl_X7_21 (by first | assumption | exact mr_up_same _ _ _ | (refine mr_lk ?_ (by first | assumption | decide); first | assumption | exact mr_up_same _ _ _ | (refine mr_lk ?_ (by first | assumption | decide); first | assumption | exact mr_up_same _ _ _ | (refine mr_lk ?_ (by first | assumption | decide); first | assumption | exact mr_up_same _ _ _ | (refine mr_lk ?_ (by first | assumption | decide); first | assumption | exact mr_up_same _ _ _))))) rfl ?_
          refine mr_aload_n dX7_next_273 rfl ?_
          refine mr_get dX7_next_274 fl_X7_24 (by first | assumption | exact mr_up_same _ _ _ | (refine mr_lk ?_ (by first | assumption | decide); first | assumption | exact mr_up_same _ _ _ | (refine mr_lk ?_ (by first | assumption | decide); first | assumption | exact mr_up_same _ _ _ | (refine mr_lk ?_ (by first | assumption | decide); first | assumption | exact mr_up_same _ _ _ | (refine mr_lk ?_ (by first | assumption | decide); first | assumption | exact mr_up_same _ _ _))))) rfl ?_
          refine mr_isub dX7_next_277 ?_
          refine mr_iconst dX7_next_278 ?_
          refine mr_icmp_ge (tgt := 299) dX7_next_279 (by decide) ⟨by omega, by omega⟩ (by decide) (fun hc_279 => ?_) (fun hc_279 => ?_)
          · refine mr_aload_n dX7_next_299 rfl ?_
            refine mr_dup dX7_next_300 rfl ?_
            refine mr_get dX7_next_301 fl_X7_21 (by first | assumption | exact mr_up_same _ _ _ | (refine mr_lk ?_ (by first | assumption | decide); first | assumption | exact mr_up_same _ _ _ | (refine mr_lk ?_ (by first | assumption | decide); first | assumption | exact mr_up_same _ _ _ | (refine mr_lk ?_ (by first | assumption | decide); first | assumption | exact mr_up_same _ _ _ | (refine mr_lk ?_ (by first | assumption | decide); first | assumption | exact mr_up_same _ _ _))))) rfl ?_
            refine mr_iconst dX7_next_304 ?_
            refine mr_iadd dX7_next_305 ?_
            refine mr_put dX7_next_306 fl_X7_21 pf_X7_4 rfl rfl (by first | assumption | exact mr_up_same _ _ _ | (refine mr_lk ?_ (by first | assumption | decide); first | assumption | exact mr_up_same _ _ _ | (refine mr_lk ?_ (by first | assumption | decide); first | assumption | exact mr_up_same _ _ _ | (refine mr_lk ?_ (by first | assumption | decide); first | assumption | exact mr_up_same _ _ _ | (refine mr_lk ?_ (by first | assumption | decide); first | assumption | exact mr_up_same _ _ _))))) (Nat.le_of_ble_eq_true rfl) ?_
            refine mw_p4 hM4 (fun w5 hM5 hF5 => ?_)
            obtain ⟨h18, h19, h20, h21, h22, h23, h24, h25, h26, h27, hs1, hs2, hik⟩ := id hM5
            refine mr_goto (tgt := 177) dX7_next_309 (by decide) ?_
            refine mr_weak [some (vR 18 0), some (vI c), some (vI le), some (vI 0), none] ⟨rfl, rfl, rfl, rfl, trivial⟩ ?_
            refine ih (i + 1) 0 w5 ⟨⟨by omega, by omega⟩, hrun', ⟨by first | exact Or.inl rfl | exact Or.inr rfl | assumption, ?_⟩⟩ (by omega) (hfin _ (by first | exact (mr_hs_s hi.1 (by omega)).trans (by rw [hTi]) | exact mr_hs_k (by omega)) (by first | exact (mr_nv_s hi.1 (by omega)).trans (by rw [hTi]) | exact mr_nv_k (by omega)) hM5) (hFr.tr (hF4.tr hF5))
            · first
                | exact ⟨fun _ x g1 g2 => by
                    by_cases e : x = i
                    · subst e; rw [hlet]; first | exact ⟨fun _ => by omega, fun _ => by omega⟩ | exact ⟨fun z => absurd z (by omega), fun z => absurd z (by omega)⟩
                    · exact (hgd.2.mp (by omega)) x g1 (by omega), fun _ => rfl⟩
                | exact ⟨fun z => absurd z (by decide), fun z => absurd (hgd.2.mpr (fun x g1 g2 => z x g1 (by omega))) (by omega)⟩
                | exact ⟨fun z => absurd z (by decide), fun z => by have z9 := z i (by omega) (by omega); rw [hlet] at z9; omega⟩
          · refine mr_aload_n dX7_next_282 rfl ?_
            refine mr_bipush dX7_next_283 rfl ?_
            refine mr_aload_n dX7_next_285 rfl ?_
            refine mr_get dX7_next_286 fl_X7_41 (by first | assumption | exact mr_up_same _ _ _ | (refine mr_lk ?_ (by first | assumption | decide); first | assumption | exact mr_up_same _ _ _ | (refine mr_lk ?_ (by first | assumption | decide); first | assumption | exact mr_up_same _ _ _ | (refine mr_lk ?_ (by first | assumption | decide); first | assumption | exact mr_up_same _ _ _ | (refine mr_lk ?_ (by first | assumption | decide); first | assumption | exact mr_up_same _ _ _))))) rfl ?_
            refine mr_imul dX7_next_289 ?_
            refine mr_iload dX7_next_290 rfl ?_
            refine mr_iadd dX7_next_292 ?_
            refine mr_bipush dX7_next_293 rfl ?_
            refine mr_isub dX7_next_295 ?_
            refine mr_put dX7_next_296 fl_X7_41 pf_X7_7 rfl rfl (by first | assumption | exact mr_up_same _ _ _ | (refine mr_lk ?_ (by first | assumption | decide); first | assumption | exact mr_up_same _ _ _ | (refine mr_lk ?_ (by first | assumption | decide); first | assumption | exact mr_up_same _ _ _ | (refine mr_lk ?_ (by first | assumption | decide); first | assumption | exact mr_up_same _ _ _ | (refine mr_lk ?_ (by first | assumption | decide); first | assumption | exact mr_up_same _ _ _))))) (Nat.le_of_ble_eq_true rfl) ?_
            refine mw_p7 hM4 (fun w6 hM6 hF6 => ?_)
            obtain ⟨h18, h19, h20, h21, h22, h23, h24, h25, h26, h27, hs1, hs2, hik⟩ := id hM6
            refine mr_aload_n dX7_next_299 rfl ?_
            refine mr_dup dX7_next_300 rfl ?_
            refine mr_get dX7_next_301 fl_X7_21 (by first | assumption | exact mr_up_same _ _ _ | (refine mr_lk ?_ (by first | assumption | decide); first | assumption | exact mr_up_same _ _ _ | (refine mr_lk ?_ (by first | assumption | decide); first | assumption | exact mr_up_same _ _ _ | (refine mr_lk ?_ (by first | assumption | decide); first | assumption | exact mr_up_same _ _ _ | (refine mr_lk ?_ (by first | assumption | decide); first | assumption | exact mr_up_same _ _ _))))) rfl ?_
            refine mr_iconst dX7_next_304 ?_
            refine mr_iadd dX7_next_305 ?_
            refine mr_put dX7_next_306 fl_X7_21 pf_X7_4 rfl rfl (by first | assumption | exact mr_up_same _ _ _ | (refine mr_lk ?_ (by first | assumption | decide); first | assumption | exact mr_up_same _ _ _ | (refine mr_lk ?_ (by first | assumption | decide); first | assumption | exact mr_up_same _ _ _ | (refine mr_lk ?_ (by first | assumption | decide); first | assumption | exact mr_up_same _ _ _ | (refine mr_lk ?_ (by first | assumption | decide); first | assumption | exact mr_up_same _ _ _))))) (Nat.le_of_ble_eq_true rfl) ?_
            refine mw_p4 hM6 (fun w7 hM7 hF7 => ?_)
            obtain ⟨h18, h19, h20, h21, h22, h23, h24, h25, h26, h27, hs1, hs2, hik⟩ := id hM7
            refine mr_goto (tgt := 177) dX7_next_309 (by decide) ?_
            refine mr_weak [some (vR 18 0), some (vI c), some (vI le), some (vI 0), none] ⟨rfl, rfl, rfl, rfl, trivial⟩ ?_
            refine ih (i + 1) 0 w7 ⟨⟨by omega, by omega⟩, hrun', ⟨by first | exact Or.inl rfl | exact Or.inr rfl | assumption, ?_⟩⟩ (by omega) (hfin _ (by first | exact (mr_hs_s hi.1 (by omega)).trans (by rw [hTi]) | exact mr_hs_k (by omega)) (by first | exact (mr_nv_s hi.1 (by omega)).trans (by rw [hTi]) | exact mr_nv_k (by omega)) hM7) (hFr.tr (hF4.tr (hF6.tr hF7)))
            · first
                | exact ⟨fun _ x g1 g2 => by
                    by_cases e : x = i
                    · subst e; rw [hlet]; first | exact ⟨fun _ => by omega, fun _ => by omega⟩ | exact ⟨fun z => absurd z (by omega), fun z => absurd z (by omega)⟩
                    · exact (hgd.2.mp (by omega)) x g1 (by omega), fun _ => rfl⟩
                | exact ⟨fun z => absurd z (by decide), fun z => absurd (hgd.2.mpr (fun x g1 g2 => z x g1 (by omega))) (by omega)⟩
                | exact ⟨fun z => absurd z (by decide), fun z => by have z9 := z i (by omega) (by omega); rw [hlet] at z9; omega⟩
      · refine mr_iload dX7_next_220 rfl ?_
        refine mr_callS (as := [_]) dX7_next_222 (ok_X7_isLetter l G) ml_X7_30 cl_X7_isLetter cs_X7_isLetter (by decide) rfl rfl (Nat.le_of_ble_eq_true rfl) ?_
        refine ⟨_, rfl, hTR, ?_, ?_⟩
        · intro k3
          dsimp only [Option.toList_some, Option.toList_none, List.cons_append, List.nil_append]
          refine mr_iload_n dX7_next_225 rfl ?_
          refine mr_icmp_ne (tgt := 233) dX7_next_226 (by decide) ⟨by omega, by omega⟩ ⟨by omega, by omega⟩ (fun hc_226 => ?_) (fun hc_226 => ?_)
          · refine mr_iconst dX7_next_233 ?_
            refine mr_istore_n dX7_next_234 rfl (by decide) ?_
            refine mr_aload_n dX7_next_235 rfl ?_
            refine mr_get dX7_next_236 fl_X7_21 (by first | assumption | exact mr_up_same _ _ _ | (refine mr_lk ?_ (by first | assumption | decide); first | assumption | exact mr_up_same _ _ _ | (refine mr_lk ?_ (by first | assumption | decide); first | assumption | exact mr_up_same _ _ _ | (refine mr_lk ?_ (by first | assumption | decide); first | assumption | exact mr_up_same _ _ _ | (refine mr_lk ?_ (by first | assumption | decide); first | assumption | exact mr_up_same _ _ _))))) rfl ?_
            refine mr_aload_n dX7_next_239 rfl ?_
            refine mr_get dX7_next_240 fl_X7_24 (by first | assumption | exact mr_up_same _ _ _ | (refine mr_lk ?_ (by first | assumption | decide); first | assumption | exact mr_up_same _ _ _ | (refine mr_lk ?_ (by first | assumption | decide); first | assumption | exact mr_up_same _ _ _ | (refine mr_lk ?_ (by first | assumption | decide); first | assumption | exact mr_up_same _ _ _ | (refine mr_lk ?_ (by first | assumption | decide); first | assumption | exact mr_up_same _ _ _))))) rfl ?_
            refine mr_isub dX7_next_243 ?_
            refine mr_bipush dX7_next_244 rfl ?_
            refine mr_icmp_ge (tgt := 269) dX7_next_246 (by decide) ⟨by omega, by omega⟩ (by decide) (fun hc_246 => ?_) (fun hc_246 => ?_)
            · refine mr_aload_n dX7_next_269 rfl ?_
              refine mr_get dX7_next_270 fl_X7_21 (by first | assumption | exact mr_up_same _ _ _ | (refine mr_lk ?_ (by first | assumption | decide); first | assumption | exact mr_up_same _ _ _ | (refine mr_lk ?_ (by first | assumption | decide); first | assumption | exact mr_up_same _ _ _ | (refine mr_lk ?_ (by first | assumption | decide); first | assumption | exact mr_up_same _ _ _ | (refine mr_lk ?_ (by first | assumption | decide); first | assumption | exact mr_up_same _ _ _))))) rfl ?_
              refine mr_aload_n dX7_next_273 rfl ?_
              refine mr_get dX7_next_274 fl_X7_24 (by first | assumption | exact mr_up_same _ _ _ | (refine mr_lk ?_ (by first | assumption | decide); first | assumption | exact mr_up_same _ _ _ | (refine mr_lk ?_ (by first | assumption | decide); first | assumption | exact mr_up_same _ _ _ | (refine mr_lk ?_ (by first | assumption | decide); first | assumption | exact mr_up_same _ _ _ | (refine mr_lk ?_ (by first | assumption | decide); first | assumption | exact mr_up_same _ _ _))))) rfl ?_
              refine mr_isub dX7_next_277 ?_
              refine mr_iconst dX7_next_278 ?_
              refine mr_icmp_ge (tgt := 299) dX7_next_279 (by decide) ⟨by omega, by omega⟩ (by decide) (fun hc_279 => ?_) (fun hc_279 => ?_)
              · refine mr_aload_n dX7_next_299 rfl ?_
                refine mr_dup dX7_next_300 rfl ?_
                refine mr_get dX7_next_301 fl_X7_21 (by first | assumption | exact mr_up_same _ _ _ | (refine mr_lk ?_ (by first | assumption | decide); first | assumption | exact mr_up_same _ _ _ | (refine mr_lk ?_ (by first | assumption | decide); first | assumption | exact mr_up_same _ _ _ | (refine mr_lk ?_ (by first | assumption | decide); first | assumption | exact mr_up_same _ _ _ | (refine mr_lk ?_ (by first | assumption | decide); first | assumption | exact mr_up_same _ _ _))))) rfl ?_
                refine mr_iconst dX7_next_304 ?_
                refine mr_iadd dX7_next_305 ?_
                refine mr_put dX7_next_306 fl_X7_21 pf_X7_4 rfl rfl (by first | assumption | exact mr_up_same _ _ _ | (refine mr_lk ?_ (by first | assumption | decide); first | assumption | exact mr_up_same _ _ _ | (refine mr_lk ?_ (by first | assumption | decide); first | assumption | exact mr_up_same _ _ _ | (refine mr_lk ?_ (by first | assumption | decide); first | assumption | exact mr_up_same _ _ _ | (refine mr_lk ?_ (by first | assumption | decide); first | assumption | exact mr_up_same _ _ _))))) (Nat.le_of_ble_eq_true rfl) ?_
                refine mw_p4 hM (fun w8 hM8 hF8 => ?_)
                obtain ⟨h18, h19, h20, h21, h22, h23, h24, h25, h26, h27, hs1, hs2, hik⟩ := id hM8
                refine mr_goto (tgt := 177) dX7_next_309 (by decide) ?_
                refine mr_weak [some (vR 18 0), some (vI c), some (vI le), some (vI 0), none] ⟨rfl, rfl, rfl, rfl, trivial⟩ ?_
                refine ih (i + 1) 0 w8 ⟨⟨by omega, by omega⟩, hrun', ⟨by first | exact Or.inl rfl | exact Or.inr rfl | assumption, ?_⟩⟩ (by omega) (hfin _ (by first | exact (mr_hs_s hi.1 (by omega)).trans (by rw [hTi]) | exact mr_hs_k (by omega)) (by first | exact (mr_nv_s hi.1 (by omega)).trans (by rw [hTi]) | exact mr_nv_k (by omega)) hM8) (hFr.tr hF8)
                · first
                    | exact ⟨fun _ x g1 g2 => by
                        by_cases e : x = i
                        · subst e; rw [hlet]; first | exact ⟨fun _ => by omega, fun _ => by omega⟩ | exact ⟨fun z => absurd z (by omega), fun z => absurd z (by omega)⟩
                        · exact (hgd.2.mp (by omega)) x g1 (by omega), fun _ => rfl⟩
                    | exact ⟨fun z => absurd z (by decide), fun z => absurd (hgd.2.mpr (fun x g1 g2 => z x g1 (by omega))) (by omega)⟩
                    | exact ⟨fun z => absurd z (by decide), fun z => by have z9 := z i (by omega) (by omega); rw [hlet] at z9; omega⟩
              · refine mr_aload_n dX7_next_282 rfl ?_
                refine mr_bipush dX7_next_283 rfl ?_
                refine mr_aload_n dX7_next_285 rfl ?_
                refine mr_get dX7_next_286 fl_X7_41 (by first | assumption | exact mr_up_same _ _ _ | (refine mr_lk ?_ (by first | assumption | decide); first | assumption | exact mr_up_same _ _ _ | (refine mr_lk ?_ (by first | assumption | decide); first | assumption | exact mr_up_same _ _ _ | (refine mr_lk ?_ (by first | assumption | decide); first | assumption | exact mr_up_same _ _ _ | (refine mr_lk ?_ (by first | assumption | decide); first | assumption | exact mr_up_same _ _ _))))) rfl ?_
                refine mr_imul dX7_next_289 ?_
                refine mr_iload dX7_next_290 rfl ?_
                refine mr_iadd dX7_next_292 ?_
                refine mr_bipush dX7_next_293 rfl ?_
                refine mr_isub dX7_next_295 ?_
                refine mr_put dX7_next_296 fl_X7_41 pf_X7_7 rfl rfl (by first | assumption | exact mr_up_same _ _ _ | (refine mr_lk ?_ (by first | assumption | decide); first | assumption | exact mr_up_same _ _ _ | (refine mr_lk ?_ (by first | assumption | decide); first | assumption | exact mr_up_same _ _ _ | (refine mr_lk ?_ (by first | assumption | decide); first | assumption | exact mr_up_same _ _ _ | (refine mr_lk ?_ (by first | assumption | decide); first | assumption | exact mr_up_same _ _ _))))) (Nat.le_of_ble_eq_true rfl) ?_
                refine mw_p7 hM (fun w9 hM9 hF9 => ?_)
                obtain ⟨h18, h19, h20, h21, h22, h23, h24, h25, h26, h27, hs1, hs2, hik⟩ := id hM9
                refine mr_aload_n dX7_next_299 rfl ?_
                refine mr_dup dX7_next_300 rfl ?_
                refine mr_get dX7_next_301 fl_X7_21 (by first | assumption | exact mr_up_same _ _ _ | (refine mr_lk ?_ (by first | assumption | decide); first | assumption | exact mr_up_same _ _ _ | (refine mr_lk ?_ (by first | assumption | decide); first | assumption | exact mr_up_same _ _ _ | (refine mr_lk ?_ (by first | assumption | decide); first | assumption | exact mr_up_same _ _ _ | (refine mr_lk ?_ (by first | assumption | decide); first | assumption | exact mr_up_same _ _ _))))) rfl ?_
                refine mr_iconst dX7_next_304 ?_
                refine mr_iadd dX7_next_305 ?_
                refine mr_put dX7_next_306 fl_X7_21 pf_X7_4 rfl rfl (by first | assumption | exact mr_up_same _ _ _ | (refine mr_lk ?_ (by first | assumption | decide); first | assumption | exact mr_up_same _ _ _ | (refine mr_lk ?_ (by first | assumption | decide); first | assumption | exact mr_up_same _ _ _ | (refine mr_lk ?_ (by first | assumption | decide); first | assumption | exact mr_up_same _ _ _ | (refine mr_lk ?_ (by first | assumption | decide); first | assumption | exact mr_up_same _ _ _))))) (Nat.le_of_ble_eq_true rfl) ?_
                refine mw_p4 hM9 (fun w10 hM10 hF10 => ?_)
                obtain ⟨h18, h19, h20, h21, h22, h23, h24, h25, h26, h27, hs1, hs2, hik⟩ := id hM10
                refine mr_goto (tgt := 177) dX7_next_309 (by decide) ?_
                refine mr_weak [some (vR 18 0), some (vI c), some (vI le), some (vI 0), none] ⟨rfl, rfl, rfl, rfl, trivial⟩ ?_
                refine ih (i + 1) 0 w10 ⟨⟨by omega, by omega⟩, hrun', ⟨by first | exact Or.inl rfl | exact Or.inr rfl | assumption, ?_⟩⟩ (by omega) (hfin _ (by first | exact (mr_hs_s hi.1 (by omega)).trans (by rw [hTi]) | exact mr_hs_k (by omega)) (by first | exact (mr_nv_s hi.1 (by omega)).trans (by rw [hTi]) | exact mr_nv_k (by omega)) hM10) (hFr.tr (hF9.tr hF10))
                · first
                    | exact ⟨fun _ x g1 g2 => by
                        by_cases e : x = i
                        · subst e; rw [hlet]; first | exact ⟨fun _ => by omega, fun _ => by omega⟩ | exact ⟨fun z => absurd z (by omega), fun z => absurd z (by omega)⟩
                        · exact (hgd.2.mp (by omega)) x g1 (by omega), fun _ => rfl⟩
                    | exact ⟨fun z => absurd z (by decide), fun z => absurd (hgd.2.mpr (fun x g1 g2 => z x g1 (by omega))) (by omega)⟩
                    | exact ⟨fun z => absurd z (by decide), fun z => by have z9 := z i (by omega) (by omega); rw [hlet] at z9; omega⟩
            · refine mr_aload_n dX7_next_249 rfl ?_
              refine mr_ldc2 dX7_next_250 kc_X7_48 ?_
              refine mr_aload_n dX7_next_253 rfl ?_
              refine mr_get dX7_next_254 fl_X7_37 (by first | assumption | exact mr_up_same _ _ _ | (refine mr_lk ?_ (by first | assumption | decide); first | assumption | exact mr_up_same _ _ _ | (refine mr_lk ?_ (by first | assumption | decide); first | assumption | exact mr_up_same _ _ _ | (refine mr_lk ?_ (by first | assumption | decide); first | assumption | exact mr_up_same _ _ _ | (refine mr_lk ?_ (by first | assumption | decide); first | assumption | exact mr_up_same _ _ _))))) rfl ?_
              refine mr_lmul dX7_next_257 ?_
              refine mr_iload dX7_next_258 rfl ?_
              refine mr_i2l dX7_next_260 hTR ?_
              refine mr_ladd dX7_next_261 ?_
              refine mr_ldc2 dX7_next_262 kc_X7_50 ?_
              refine mr_lsub dX7_next_265 ?_
              refine mr_put dX7_next_266 fl_X7_37 pf_X7_10 rfl rfl (by first | assumption | exact mr_up_same _ _ _ | (refine mr_lk ?_ (by first | assumption | decide); first | assumption | exact mr_up_same _ _ _ | (refine mr_lk ?_ (by first | assumption | decide); first | assumption | exact mr_up_same _ _ _ | (refine mr_lk ?_ (by first | assumption | decide); first | assumption | exact mr_up_same _ _ _ | (refine mr_lk ?_ (by first | assumption | decide); first | assumption | exact mr_up_same _ _ _))))) (Nat.le_of_ble_eq_true rfl) ?_
              refine mw_p10 hM (fun w11 hM11 hF11 => ?_)
              obtain ⟨h18, h19, h20, h21, h22, h23, h24, h25, h26, h27, hs1, hs2, hik⟩ := id hM11
              refine mr_aload_n dX7_next_269 rfl ?_
              refine mr_get dX7_next_270 fl_X7_21 (by first | assumption | exact mr_up_same _ _ _ | (refine mr_lk ?_ (by first | assumption | decide); first | assumption | exact mr_up_same _ _ _ | (refine mr_lk ?_ (by first | assumption | decide); first | assumption | exact mr_up_same _ _ _ | (refine mr_lk ?_ (by first | assumption | decide); first | assumption | exact mr_up_same _ _ _ | (refine mr_lk ?_ (by first | assumption | decide); first | assumption | exact mr_up_same _ _ _))))) rfl ?_
              refine mr_aload_n dX7_next_273 rfl ?_
              refine mr_get dX7_next_274 fl_X7_24 (by first | assumption | exact mr_up_same _ _ _ | (refine mr_lk ?_ (by first | assumption | decide); first | assumption | exact mr_up_same _ _ _ | (refine mr_lk ?_ (by first | assumption | decide); first | assumption | exact mr_up_same _ _ _ | (refine mr_lk ?_ (by first | assumption | decide); first | assumption | exact mr_up_same _ _ _ | (refine mr_lk ?_ (by first | assumption | decide); first | assumption | exact mr_up_same _ _ _))))) rfl ?_
              refine mr_isub dX7_next_277 ?_
              refine mr_iconst dX7_next_278 ?_
              refine mr_icmp_ge (tgt := 299) dX7_next_279 (by decide) ⟨by omega, by omega⟩ (by decide) (fun hc_279 => ?_) (fun hc_279 => ?_)
              · refine mr_aload_n dX7_next_299 rfl ?_
                refine mr_dup dX7_next_300 rfl ?_
                refine mr_get dX7_next_301 fl_X7_21 (by first | assumption | exact mr_up_same _ _ _ | (refine mr_lk ?_ (by first | assumption | decide); first | assumption | exact mr_up_same _ _ _ | (refine mr_lk ?_ (by first | assumption | decide); first | assumption | exact mr_up_same _ _ _ | (refine mr_lk ?_ (by first | assumption | decide); first | assumption | exact mr_up_same _ _ _ | (refine mr_lk ?_ (by first | assumption | decide); first | assumption | exact mr_up_same _ _ _))))) rfl ?_
                refine mr_iconst dX7_next_304 ?_
                refine mr_iadd dX7_next_305 ?_
                refine mr_put dX7_next_306 fl_X7_21 pf_X7_4 rfl rfl (by first | assumption | exact mr_up_same _ _ _ | (refine mr_lk ?_ (by first | assumption | decide); first | assumption | exact mr_up_same _ _ _ | (refine mr_lk ?_ (by first | assumption | decide); first | assumption | exact mr_up_same _ _ _ | (refine mr_lk ?_ (by first | assumption | decide); first | assumption | exact mr_up_same _ _ _ | (refine mr_lk ?_ (by first | assumption | decide); first | assumption | exact mr_up_same _ _ _))))) (Nat.le_of_ble_eq_true rfl) ?_
                refine mw_p4 hM11 (fun w12 hM12 hF12 => ?_)
                obtain ⟨h18, h19, h20, h21, h22, h23, h24, h25, h26, h27, hs1, hs2, hik⟩ := id hM12
                refine mr_goto (tgt := 177) dX7_next_309 (by decide) ?_
                refine mr_weak [some (vR 18 0), some (vI c), some (vI le), some (vI 0), none] ⟨rfl, rfl, rfl, rfl, trivial⟩ ?_
                refine ih (i + 1) 0 w12 ⟨⟨by omega, by omega⟩, hrun', ⟨by first | exact Or.inl rfl | exact Or.inr rfl | assumption, ?_⟩⟩ (by omega) (hfin _ (by first | exact (mr_hs_s hi.1 (by omega)).trans (by rw [hTi]) | exact mr_hs_k (by omega)) (by first | exact (mr_nv_s hi.1 (by omega)).trans (by rw [hTi]) | exact mr_nv_k (by omega)) hM12) (hFr.tr (hF11.tr hF12))
                · first
                    | exact ⟨fun _ x g1 g2 => by
                        by_cases e : x = i
                        · subst e; rw [hlet]; first | exact ⟨fun _ => by omega, fun _ => by omega⟩ | exact ⟨fun z => absurd z (by omega), fun z => absurd z (by omega)⟩
                        · exact (hgd.2.mp (by omega)) x g1 (by omega), fun _ => rfl⟩
                    | exact ⟨fun z => absurd z (by decide), fun z => absurd (hgd.2.mpr (fun x g1 g2 => z x g1 (by omega))) (by omega)⟩
                    | exact ⟨fun z => absurd z (by decide), fun z => by have z9 := z i (by omega) (by omega); rw [hlet] at z9; omega⟩
              · refine mr_aload_n dX7_next_282 rfl ?_
                refine mr_bipush dX7_next_283 rfl ?_
                refine mr_aload_n dX7_next_285 rfl ?_
                refine mr_get dX7_next_286 fl_X7_41 (by first | assumption | exact mr_up_same _ _ _ | (refine mr_lk ?_ (by first | assumption | decide); first | assumption | exact mr_up_same _ _ _ | (refine mr_lk ?_ (by first | assumption | decide); first | assumption | exact mr_up_same _ _ _ | (refine mr_lk ?_ (by first | assumption | decide); first | assumption | exact mr_up_same _ _ _ | (refine mr_lk ?_ (by first | assumption | decide); first | assumption | exact mr_up_same _ _ _))))) rfl ?_
                refine mr_imul dX7_next_289 ?_
                refine mr_iload dX7_next_290 rfl ?_
                refine mr_iadd dX7_next_292 ?_
                refine mr_bipush dX7_next_293 rfl ?_
                refine mr_isub dX7_next_295 ?_
                refine mr_put dX7_next_296 fl_X7_41 pf_X7_7 rfl rfl (by first | assumption | exact mr_up_same _ _ _ | (refine mr_lk ?_ (by first | assumption | decide); first | assumption | exact mr_up_same _ _ _ | (refine mr_lk ?_ (by first | assumption | decide); first | assumption | exact mr_up_same _ _ _ | (refine mr_lk ?_ (by first | assumption | decide); first | assumption | exact mr_up_same _ _ _ | (refine mr_lk ?_ (by first | assumption | decide); first | assumption | exact mr_up_same _ _ _))))) (Nat.le_of_ble_eq_true rfl) ?_
                refine mw_p7 hM11 (fun w13 hM13 hF13 => ?_)
                obtain ⟨h18, h19, h20, h21, h22, h23, h24, h25, h26, h27, hs1, hs2, hik⟩ := id hM13
                refine mr_aload_n dX7_next_299 rfl ?_
                refine mr_dup dX7_next_300 rfl ?_
                refine mr_get dX7_next_301 fl_X7_21 (by first | assumption | exact mr_up_same _ _ _ | (refine mr_lk ?_ (by first | assumption | decide); first | assumption | exact mr_up_same _ _ _ | (refine mr_lk ?_ (by first | assumption | decide); first | assumption | exact mr_up_same _ _ _ | (refine mr_lk ?_ (by first | assumption | decide); first | assumption | exact mr_up_same _ _ _ | (refine mr_lk ?_ (by first | assumption | decide); first | assumption | exact mr_up_same _ _ _))))) rfl ?_
                refine mr_iconst dX7_next_304 ?_
                refine mr_iadd dX7_next_305 ?_
                refine mr_put dX7_next_306 fl_X7_21 pf_X7_4 rfl rfl (by first | assumption | exact mr_up_same _ _ _ | (refine mr_lk ?_ (by first | assumption | decide); first | assumption | exact mr_up_same _ _ _ | (refine mr_lk ?_ (by first | assumption | decide); first | assumption | exact mr_up_same _ _ _ | (refine mr_lk ?_ (by first | assumption | decide); first | assumption | exact mr_up_same _ _ _ | (refine mr_lk ?_ (by first | assumption | decide); first | assumption | exact mr_up_same _ _ _))))) (Nat.le_of_ble_eq_true rfl) ?_
                refine mw_p4 hM13 (fun w14 hM14 hF14 => ?_)
                obtain ⟨h18, h19, h20, h21, h22, h23, h24, h25, h26, h27, hs1, hs2, hik⟩ := id hM14
                refine mr_goto (tgt := 177) dX7_next_309 (by decide) ?_
                refine mr_weak [some (vR 18 0), some (vI c), some (vI le), some (vI 0), none] ⟨rfl, rfl, rfl, rfl, trivial⟩ ?_
                refine ih (i + 1) 0 w14 ⟨⟨by omega, by omega⟩, hrun', ⟨by first | exact Or.inl rfl | exact Or.inr rfl | assumption, ?_⟩⟩ (by omega) (hfin _ (by first | exact (mr_hs_s hi.1 (by omega)).trans (by rw [hTi]) | exact mr_hs_k (by omega)) (by first | exact (mr_nv_s hi.1 (by omega)).trans (by rw [hTi]) | exact mr_nv_k (by omega)) hM14) (hFr.tr (hF11.tr (hF13.tr hF14)))
                · first
                    | exact ⟨fun _ x g1 g2 => by
                        by_cases e : x = i
                        · subst e; rw [hlet]; first | exact ⟨fun _ => by omega, fun _ => by omega⟩ | exact ⟨fun z => absurd z (by omega), fun z => absurd z (by omega)⟩
                        · exact (hgd.2.mp (by omega)) x g1 (by omega), fun _ => rfl⟩
                    | exact ⟨fun z => absurd z (by decide), fun z => absurd (hgd.2.mpr (fun x g1 g2 => z x g1 (by omega))) (by omega)⟩
                    | exact ⟨fun z => absurd z (by decide), fun z => by have z9 := z i (by omega) (by omega); rw [hlet] at z9; omega⟩
          · refine mr_iconst dX7_next_229 ?_
            refine mr_goto (tgt := 234) dX7_next_230 (by decide) ?_
            refine mr_istore_n dX7_next_234 rfl (by decide) ?_
            refine mr_aload_n dX7_next_235 rfl ?_
            refine mr_get dX7_next_236 fl_X7_21 (by first | assumption | exact mr_up_same _ _ _ | (refine mr_lk ?_ (by first | assumption | decide); first | assumption | exact mr_up_same _ _ _ | (refine mr_lk ?_ (by first | assumption | decide); first | assumption | exact mr_up_same _ _ _ | (refine mr_lk ?_ (by first | assumption | decide); first | assumption | exact mr_up_same _ _ _ | (refine mr_lk ?_ (by first | assumption | decide); first | assumption | exact mr_up_same _ _ _))))) rfl ?_
            refine mr_aload_n dX7_next_239 rfl ?_
            refine mr_get dX7_next_240 fl_X7_24 (by first | assumption | exact mr_up_same _ _ _ | (refine mr_lk ?_ (by first | assumption | decide); first | assumption | exact mr_up_same _ _ _ | (refine mr_lk ?_ (by first | assumption | decide); first | assumption | exact mr_up_same _ _ _ | (refine mr_lk ?_ (by first | assumption | decide); first | assumption | exact mr_up_same _ _ _ | (refine mr_lk ?_ (by first | assumption | decide); first | assumption | exact mr_up_same _ _ _))))) rfl ?_
            refine mr_isub dX7_next_243 ?_
            refine mr_bipush dX7_next_244 rfl ?_
            refine mr_icmp_ge (tgt := 269) dX7_next_246 (by decide) ⟨by omega, by omega⟩ (by decide) (fun hc_246 => ?_) (fun hc_246 => ?_)
            · refine mr_aload_n dX7_next_269 rfl ?_
              refine mr_get dX7_next_270 fl_X7_21 (by first | assumption | exact mr_up_same _ _ _ | (refine mr_lk ?_ (by first | assumption | decide); first | assumption | exact mr_up_same _ _ _ | (refine mr_lk ?_ (by first | assumption | decide); first | assumption | exact mr_up_same _ _ _ | (refine mr_lk ?_ (by first | assumption | decide); first | assumption | exact mr_up_same _ _ _ | (refine mr_lk ?_ (by first | assumption | decide); first | assumption | exact mr_up_same _ _ _))))) rfl ?_
              refine mr_aload_n dX7_next_273 rfl ?_
              refine mr_get dX7_next_274 fl_X7_24 (by first | assumption | exact mr_up_same _ _ _ | (refine mr_lk ?_ (by first | assumption | decide); first | assumption | exact mr_up_same _ _ _ | (refine mr_lk ?_ (by first | assumption | decide); first | assumption | exact mr_up_same _ _ _ | (refine mr_lk ?_ (by first | assumption | decide); first | assumption | exact mr_up_same _ _ _ | (refine mr_lk ?_ (by first | assumption | decide); first | assumption | exact mr_up_same _ _ _))))) rfl ?_
              refine mr_isub dX7_next_277 ?_
              refine mr_iconst dX7_next_278 ?_
              refine mr_icmp_ge (tgt := 299) dX7_next_279 (by decide) ⟨by omega, by omega⟩ (by decide) (fun hc_279 => ?_) (fun hc_279 => ?_)
              · refine mr_aload_n dX7_next_299 rfl ?_
                refine mr_dup dX7_next_300 rfl ?_
                refine mr_get dX7_next_301 fl_X7_21 (by first | assumption | exact mr_up_same _ _ _ | (refine mr_lk ?_ (by first | assumption | decide); first | assumption | exact mr_up_same _ _ _ | (refine mr_lk ?_ (by first | assumption | decide); first | assumption | exact mr_up_same _ _ _ | (refine mr_lk ?_ (by first | assumption | decide); first | assumption | exact mr_up_same _ _ _ | (refine mr_lk ?_ (by first | assumption | decide); first | assumption | exact mr_up_same _ _ _))))) rfl ?_
                refine mr_iconst dX7_next_304 ?_
                refine mr_iadd dX7_next_305 ?_
                refine mr_put dX7_next_306 fl_X7_21 pf_X7_4 rfl rfl (by first | assumption | exact mr_up_same _ _ _ | (refine mr_lk ?_ (by first | assumption | decide); first | assumption | exact mr_up_same _ _ _ | (refine mr_lk ?_ (by first | assumption | decide); first | assumption | exact mr_up_same _ _ _ | (refine mr_lk ?_ (by first | assumption | decide); first | assumption | exact mr_up_same _ _ _ | (refine mr_lk ?_ (by first | assumption | decide); first | assumption | exact mr_up_same _ _ _))))) (Nat.le_of_ble_eq_true rfl) ?_
                refine mw_p4 hM (fun w15 hM15 hF15 => ?_)
                obtain ⟨h18, h19, h20, h21, h22, h23, h24, h25, h26, h27, hs1, hs2, hik⟩ := id hM15
                refine mr_goto (tgt := 177) dX7_next_309 (by decide) ?_
                refine mr_weak [some (vR 18 0), some (vI c), some (vI le), some (vI 1), none] ⟨rfl, rfl, rfl, rfl, trivial⟩ ?_
                refine ih (i + 1) 1 w15 ⟨⟨by omega, by omega⟩, hrun', ⟨by first | exact Or.inl rfl | exact Or.inr rfl | assumption, ?_⟩⟩ (by omega) (hfin _ (by first | exact (mr_hs_s hi.1 (by omega)).trans (by rw [hTi]) | exact mr_hs_k (by omega)) (by first | exact (mr_nv_s hi.1 (by omega)).trans (by rw [hTi]) | exact mr_nv_k (by omega)) hM15) (hFr.tr hF15)
                · first
                    | exact ⟨fun _ x g1 g2 => by
                        by_cases e : x = i
                        · subst e; rw [hlet]; first | exact ⟨fun _ => by omega, fun _ => by omega⟩ | exact ⟨fun z => absurd z (by omega), fun z => absurd z (by omega)⟩
                        · exact (hgd.2.mp (by omega)) x g1 (by omega), fun _ => rfl⟩
                    | exact ⟨fun z => absurd z (by decide), fun z => absurd (hgd.2.mpr (fun x g1 g2 => z x g1 (by omega))) (by omega)⟩
                    | exact ⟨fun z => absurd z (by decide), fun z => by have z9 := z i (by omega) (by omega); rw [hlet] at z9; omega⟩
              · refine mr_aload_n dX7_next_282 rfl ?_
                refine mr_bipush dX7_next_283 rfl ?_
                refine mr_aload_n dX7_next_285 rfl ?_
                refine mr_get dX7_next_286 fl_X7_41 (by first | assumption | exact mr_up_same _ _ _ | (refine mr_lk ?_ (by first | assumption | decide); first | assumption | exact mr_up_same _ _ _ | (refine mr_lk ?_ (by first | assumption | decide); first | assumption | exact mr_up_same _ _ _ | (refine mr_lk ?_ (by first | assumption | decide); first | assumption | exact mr_up_same _ _ _ | (refine mr_lk ?_ (by first | assumption | decide); first | assumption | exact mr_up_same _ _ _))))) rfl ?_
                refine mr_imul dX7_next_289 ?_
                refine mr_iload dX7_next_290 rfl ?_
                refine mr_iadd dX7_next_292 ?_
                refine mr_bipush dX7_next_293 rfl ?_
                refine mr_isub dX7_next_295 ?_
                refine mr_put dX7_next_296 fl_X7_41 pf_X7_7 rfl rfl (by first | assumption | exact mr_up_same _ _ _ | (refine mr_lk ?_ (by first | assumption | decide); first | assumption | exact mr_up_same _ _ _ | (refine mr_lk ?_ (by first | assumption | decide); first | assumption | exact mr_up_same _ _ _ | (refine mr_lk ?_ (by first | assumption | decide); first | assumption | exact mr_up_same _ _ _ | (refine mr_lk ?_ (by first | assumption | decide); first | assumption | exact mr_up_same _ _ _))))) (Nat.le_of_ble_eq_true rfl) ?_
                refine mw_p7 hM (fun w16 hM16 hF16 => ?_)
                obtain ⟨h18, h19, h20, h21, h22, h23, h24, h25, h26, h27, hs1, hs2, hik⟩ := id hM16
                refine mr_aload_n dX7_next_299 rfl ?_
                refine mr_dup dX7_next_300 rfl ?_
                refine mr_get dX7_next_301 fl_X7_21 (by first | assumption | exact mr_up_same _ _ _ | (refine mr_lk ?_ (by first | assumption | decide); first | assumption | exact mr_up_same _ _ _ | (refine mr_lk ?_ (by first | assumption | decide); first | assumption | exact mr_up_same _ _ _ | (refine mr_lk ?_ (by first | assumption | decide); first | assumption | exact mr_up_same _ _ _ | (refine mr_lk ?_ (by first | assumption | decide); first | assumption | exact mr_up_same _ _ _))))) rfl ?_
                refine mr_iconst dX7_next_304 ?_
                refine mr_iadd dX7_next_305 ?_
                refine mr_put dX7_next_306 fl_X7_21 pf_X7_4 rfl rfl (by first | assumption | exact mr_up_same _ _ _ | (refine mr_lk ?_ (by first | assumption | decide); first | assumption | exact mr_up_same _ _ _ | (refine mr_lk ?_ (by first | assumption | decide); first | assumption | exact mr_up_same _ _ _ | (refine mr_lk ?_ (by first | assumption | decide); first | assumption | exact mr_up_same _ _ _ | (refine mr_lk ?_ (by first | assumption | decide); first | assumption | exact mr_up_same _ _ _))))) (Nat.le_of_ble_eq_true rfl) ?_
                refine mw_p4 hM16 (fun w17 hM17 hF17 => ?_)
                obtain ⟨h18, h19, h20, h21, h22, h23, h24, h25, h26, h27, hs1, hs2, hik⟩ := id hM17
                refine mr_goto (tgt := 177) dX7_next_309 (by decide) ?_
                refine mr_weak [some (vR 18 0), some (vI c), some (vI le), some (vI 1), none] ⟨rfl, rfl, rfl, rfl, trivial⟩ ?_
                refine ih (i + 1) 1 w17 ⟨⟨by omega, by omega⟩, hrun', ⟨by first | exact Or.inl rfl | exact Or.inr rfl | assumption, ?_⟩⟩ (by omega) (hfin _ (by first | exact (mr_hs_s hi.1 (by omega)).trans (by rw [hTi]) | exact mr_hs_k (by omega)) (by first | exact (mr_nv_s hi.1 (by omega)).trans (by rw [hTi]) | exact mr_nv_k (by omega)) hM17) (hFr.tr (hF16.tr hF17))
                · first
                    | exact ⟨fun _ x g1 g2 => by
                        by_cases e : x = i
                        · subst e; rw [hlet]; first | exact ⟨fun _ => by omega, fun _ => by omega⟩ | exact ⟨fun z => absurd z (by omega), fun z => absurd z (by omega)⟩
                        · exact (hgd.2.mp (by omega)) x g1 (by omega), fun _ => rfl⟩
                    | exact ⟨fun z => absurd z (by decide), fun z => absurd (hgd.2.mpr (fun x g1 g2 => z x g1 (by omega))) (by omega)⟩
                    | exact ⟨fun z => absurd z (by decide), fun z => by have z9 := z i (by omega) (by omega); rw [hlet] at z9; omega⟩
            · refine mr_aload_n dX7_next_249 rfl ?_
              refine mr_ldc2 dX7_next_250 kc_X7_48 ?_
              refine mr_aload_n dX7_next_253 rfl ?_
              refine mr_get dX7_next_254 fl_X7_37 (by first | assumption | exact mr_up_same _ _ _ | (refine mr_lk ?_ (by first | assumption | decide); first | assumption | exact mr_up_same _ _ _ | (refine mr_lk ?_ (by first | assumption | decide); first | assumption | exact mr_up_same _ _ _ | (refine mr_lk ?_ (by first | assumption | decide); first | assumption | exact mr_up_same _ _ _ | (refine mr_lk ?_ (by first | assumption | decide); first | assumption | exact mr_up_same _ _ _))))) rfl ?_
              refine mr_lmul dX7_next_257 ?_
              refine mr_iload dX7_next_258 rfl ?_
              refine mr_i2l dX7_next_260 hTR ?_
              refine mr_ladd dX7_next_261 ?_
              refine mr_ldc2 dX7_next_262 kc_X7_50 ?_
              refine mr_lsub dX7_next_265 ?_
              refine mr_put dX7_next_266 fl_X7_37 pf_X7_10 rfl rfl (by first | assumption | exact mr_up_same _ _ _ | (refine mr_lk ?_ (by first | assumption | decide); first | assumption | exact mr_up_same _ _ _ | (refine mr_lk ?_ (by first | assumption | decide); first | assumption | exact mr_up_same _ _ _ | (refine mr_lk ?_ (by first | assumption | decide); first | assumption | exact mr_up_same _ _ _ | (refine mr_lk ?_ (by first | assumption | decide); first | assumption | exact mr_up_same _ _ _))))) (Nat.le_of_ble_eq_true rfl) ?_
              refine mw_p10 hM (fun w18 hM18 hF18 => ?_)
              obtain ⟨h18, h19, h20, h21, h22, h23, h24, h25, h26, h27, hs1, hs2, hik⟩ := id hM18
              refine mr_aload_n dX7_next_269 rfl ?_
              refine mr_get dX7_next_270 fl_X7_21 (by first | assumption | exact mr_up_same _ _ _ | (refine mr_lk ?_ (by first | assumption | decide); first | assumption | exact mr_up_same _ _ _ | (refine mr_lk ?_ (by first | assumption | decide); first | assumption | exact mr_up_same _ _ _ | (refine mr_lk ?_ (by first | assumption | decide); first | assumption | exact mr_up_same _ _ _ | (refine mr_lk ?_ (by first | assumption | decide); first | assumption | exact mr_up_same _ _ _))))) rfl ?_
              refine mr_aload_n dX7_next_273 rfl ?_
              refine mr_get dX7_next_274 fl_X7_24 (by first | assumption | exact mr_up_same _ _ _ | (refine mr_lk ?_ (by first | assumption | decide); first | assumption | exact mr_up_same _ _ _ | (refine mr_lk ?_ (by first | assumption | decide); first | assumption | exact mr_up_same _ _ _ | (refine mr_lk ?_ (by first | assumption | decide); first | assumption | exact mr_up_same _ _ _ | (refine mr_lk ?_ (by first | assumption | decide); first | assumption | exact mr_up_same _ _ _))))) rfl ?_
              refine mr_isub dX7_next_277 ?_
              refine mr_iconst dX7_next_278 ?_
              refine mr_icmp_ge (tgt := 299) dX7_next_279 (by decide) ⟨by omega, by omega⟩ (by decide) (fun hc_279 => ?_) (fun hc_279 => ?_)
              · refine mr_aload_n dX7_next_299 rfl ?_
                refine mr_dup dX7_next_300 rfl ?_
                refine mr_get dX7_next_301 fl_X7_21 (by first | assumption | exact mr_up_same _ _ _ | (refine mr_lk ?_ (by first | assumption | decide); first | assumption | exact mr_up_same _ _ _ | (refine mr_lk ?_ (by first | assumption | decide); first | assumption | exact mr_up_same _ _ _ | (refine mr_lk ?_ (by first | assumption | decide); first | assumption | exact mr_up_same _ _ _ | (refine mr_lk ?_ (by first | assumption | decide); first | assumption | exact mr_up_same _ _ _))))) rfl ?_
                refine mr_iconst dX7_next_304 ?_
                refine mr_iadd dX7_next_305 ?_
                refine mr_put dX7_next_306 fl_X7_21 pf_X7_4 rfl rfl (by first | assumption | exact mr_up_same _ _ _ | (refine mr_lk ?_ (by first | assumption | decide); first | assumption | exact mr_up_same _ _ _ | (refine mr_lk ?_ (by first | assumption | decide); first | assumption | exact mr_up_same _ _ _ | (refine mr_lk ?_ (by first | assumption | decide); first | assumption | exact mr_up_same _ _ _ | (refine mr_lk ?_ (by first | assumption | decide); first | assumption | exact mr_up_same _ _ _))))) (Nat.le_of_ble_eq_true rfl) ?_
                refine mw_p4 hM18 (fun w19 hM19 hF19 => ?_)
                obtain ⟨h18, h19, h20, h21, h22, h23, h24, h25, h26, h27, hs1, hs2, hik⟩ := id hM19
                refine mr_goto (tgt := 177) dX7_next_309 (by decide) ?_
                refine mr_weak [some (vR 18 0), some (vI c), some (vI le), some (vI 1), none] ⟨rfl, rfl, rfl, rfl, trivial⟩ ?_
                refine ih (i + 1) 1 w19 ⟨⟨by omega, by omega⟩, hrun', ⟨by first | exact Or.inl rfl | exact Or.inr rfl | assumption, ?_⟩⟩ (by omega) (hfin _ (by first | exact (mr_hs_s hi.1 (by omega)).trans (by rw [hTi]) | exact mr_hs_k (by omega)) (by first | exact (mr_nv_s hi.1 (by omega)).trans (by rw [hTi]) | exact mr_nv_k (by omega)) hM19) (hFr.tr (hF18.tr hF19))
                · first
                    | exact ⟨fun _ x g1 g2 => by
                        by_cases e : x = i
                        · subst e; rw [hlet]; first | exact ⟨fun _ => by omega, fun _ => by omega⟩ | exact ⟨fun z => absurd z (by omega), fun z => absurd z (by omega)⟩
                        · exact (hgd.2.mp (by omega)) x g1 (by omega), fun _ => rfl⟩
                    | exact ⟨fun z => absurd z (by decide), fun z => absurd (hgd.2.mpr (fun x g1 g2 => z x g1 (by omega))) (by omega)⟩
                    | exact ⟨fun z => absurd z (by decide), fun z => by have z9 := z i (by omega) (by omega); rw [hlet] at z9; omega⟩
              · refine mr_aload_n dX7_next_282 rfl ?_
                refine mr_bipush dX7_next_283 rfl ?_
                refine mr_aload_n dX7_next_285 rfl ?_
                refine mr_get dX7_next_286 fl_X7_41 (by first | assumption | exact mr_up_same _ _ _ | (refine mr_lk ?_ (by first | assumption | decide); first | assumption | exact mr_up_same _ _ _ | (refine mr_lk ?_ (by first | assumption | decide); first | assumption | exact mr_up_same _ _ _ | (refine mr_lk ?_ (by first | assumption | decide); first | assumption | exact mr_up_same _ _ _ | (refine mr_lk ?_ (by first | assumption | decide); first | assumption | exact mr_up_same _ _ _))))) rfl ?_
                refine mr_imul dX7_next_289 ?_
                refine mr_iload dX7_next_290 rfl ?_
                refine mr_iadd dX7_next_292 ?_
                refine mr_bipush dX7_next_293 rfl ?_
                refine mr_isub dX7_next_295 ?_
                refine mr_put dX7_next_296 fl_X7_41 pf_X7_7 rfl rfl (by first | assumption | exact mr_up_same _ _ _ | (refine mr_lk ?_ (by first | assumption | decide); first | assumption | exact mr_up_same _ _ _ | (refine mr_lk ?_ (by first | assumption | decide); first | assumption | exact mr_up_same _ _ _ | (refine mr_lk ?_ (by first | assumption | decide); first | assumption | exact mr_up_same _ _ _ | (refine mr_lk ?_ (by first | assumption | decide); first | assumption | exact mr_up_same _ _ _))))) (Nat.le_of_ble_eq_true rfl) ?_
                refine mw_p7 hM18 (fun w20 hM20 hF20 => ?_)
                obtain ⟨h18, h19, h20, h21, h22, h23, h24, h25, h26, h27, hs1, hs2, hik⟩ := id hM20
                refine mr_aload_n dX7_next_299 rfl ?_
                refine mr_dup dX7_next_300 rfl ?_
                refine mr_get dX7_next_301 fl_X7_21 (by first | assumption | exact mr_up_same _ _ _ | (refine mr_lk ?_ (by first | assumption | decide); first | assumption | exact mr_up_same _ _ _ | (refine mr_lk ?_ (by first | assumption | decide); first | assumption | exact mr_up_same _ _ _ | (refine mr_lk ?_ (by first | assumption | decide); first | assumption | exact mr_up_same _ _ _ | (refine mr_lk ?_ (by first | assumption | decide); first | assumption | exact mr_up_same _ _ _))))) rfl ?_
                refine mr_iconst dX7_next_304 ?_
                refine mr_iadd dX7_next_305 ?_
                refine mr_put dX7_next_306 fl_X7_21 pf_X7_4 rfl rfl (by first | assumption | exact mr_up_same _ _ _ | (refine mr_lk ?_ (by first | assumption | decide); first | assumption | exact mr_up_same _ _ _ | (refine mr_lk ?_ (by first | assumption | decide); first | assumption | exact mr_up_same _ _ _ | (refine mr_lk ?_ (by first | assumption | decide); first | assumption | exact mr_up_same _ _ _ | (refine mr_lk ?_ (by first | assumption | decide); first | assumption | exact mr_up_same _ _ _))))) (Nat.le_of_ble_eq_true rfl) ?_
                refine mw_p4 hM20 (fun w21 hM21 hF21 => ?_)
                obtain ⟨h18, h19, h20, h21, h22, h23, h24, h25, h26, h27, hs1, hs2, hik⟩ := id hM21
                refine mr_goto (tgt := 177) dX7_next_309 (by decide) ?_
                refine mr_weak [some (vR 18 0), some (vI c), some (vI le), some (vI 1), none] ⟨rfl, rfl, rfl, rfl, trivial⟩ ?_
                refine ih (i + 1) 1 w21 ⟨⟨by omega, by omega⟩, hrun', ⟨by first | exact Or.inl rfl | exact Or.inr rfl | assumption, ?_⟩⟩ (by omega) (hfin _ (by first | exact (mr_hs_s hi.1 (by omega)).trans (by rw [hTi]) | exact mr_hs_k (by omega)) (by first | exact (mr_nv_s hi.1 (by omega)).trans (by rw [hTi]) | exact mr_nv_k (by omega)) hM21) (hFr.tr (hF18.tr (hF20.tr hF21)))
                · first
                    | exact ⟨fun _ x g1 g2 => by
                        by_cases e : x = i
                        · subst e; rw [hlet]; first | exact ⟨fun _ => by omega, fun _ => by omega⟩ | exact ⟨fun z => absurd z (by omega), fun z => absurd z (by omega)⟩
                        · exact (hgd.2.mp (by omega)) x g1 (by omega), fun _ => rfl⟩
                    | exact ⟨fun z => absurd z (by decide), fun z => absurd (hgd.2.mpr (fun x g1 g2 => z x g1 (by omega))) (by omega)⟩
                    | exact ⟨fun z => absurd z (by decide), fun z => by have z9 := z i (by omega) (by omega); rw [hlet] at z9; omega⟩
        · intro k3
          dsimp only [Option.toList_some, Option.toList_none, List.cons_append, List.nil_append]
          refine mr_iload_n dX7_next_225 rfl ?_
          refine mr_icmp_ne (tgt := 233) dX7_next_226 (by decide) ⟨by omega, by omega⟩ ⟨by omega, by omega⟩ (fun hc_226 => ?_) (fun hc_226 => ?_)
          · refine mr_iconst dX7_next_233 ?_
            refine mr_istore_n dX7_next_234 rfl (by decide) ?_
            refine mr_aload_n dX7_next_235 rfl ?_
            refine mr_get dX7_next_236 fl_X7_21 (by first | assumption | exact mr_up_same _ _ _ | (refine mr_lk ?_ (by first | assumption | decide); first | assumption | exact mr_up_same _ _ _ | (refine mr_lk ?_ (by first | assumption | decide); first | assumption | exact mr_up_same _ _ _ | (refine mr_lk ?_ (by first | assumption | decide); first | assumption | exact mr_up_same _ _ _ | (refine mr_lk ?_ (by first | assumption | decide); first | assumption | exact mr_up_same _ _ _))))) rfl ?_
            refine mr_aload_n dX7_next_239 rfl ?_
            refine mr_get dX7_next_240 fl_X7_24 (by first | assumption | exact mr_up_same _ _ _ | (refine mr_lk ?_ (by first | assumption | decide); first | assumption | exact mr_up_same _ _ _ | (refine mr_lk ?_ (by first | assumption | decide); first | assumption | exact mr_up_same _ _ _ | (refine mr_lk ?_ (by first | assumption | decide); first | assumption | exact mr_up_same _ _ _ | (refine mr_lk ?_ (by first | assumption | decide); first | assumption | exact mr_up_same _ _ _))))) rfl ?_
            refine mr_isub dX7_next_243 ?_
            refine mr_bipush dX7_next_244 rfl ?_
            refine mr_icmp_ge (tgt := 269) dX7_next_246 (by decide) ⟨by omega, by omega⟩ (by decide) (fun hc_246 => ?_) (fun hc_246 => ?_)
            · refine mr_aload_n dX7_next_269 rfl ?_
              refine mr_get dX7_next_270 fl_X7_21 (by first | assumption | exact mr_up_same _ _ _ | (refine mr_lk ?_ (by first | assumption | decide); first | assumption | exact mr_up_same _ _ _ | (refine mr_lk ?_ (by first | assumption | decide); first | assumption | exact mr_up_same _ _ _ | (refine mr_lk ?_ (by first | assumption | decide); first | assumption | exact mr_up_same _ _ _ | (refine mr_lk ?_ (by first | assumption | decide); first | assumption | exact mr_up_same _ _ _))))) rfl ?_
              refine mr_aload_n dX7_next_273 rfl ?_
              refine mr_get dX7_next_274 fl_X7_24 (by first | assumption | exact mr_up_same _ _ _ | (refine mr_lk ?_ (by first | assumption | decide); first | assumption | exact mr_up_same _ _ _ | (refine mr_lk ?_ (by first | assumption | decide); first | assumption | exact mr_up_same _ _ _ | (refine mr_lk ?_ (by first | assumption | decide); first | assumption | exact mr_up_same _ _ _ | (refine mr_lk ?_ (by first | assumption | decide); first | assumption | exact mr_up_same _ _ _))))) rfl ?_
              refine mr_isub dX7_next_277 ?_
              refine mr_iconst dX7_next_278 ?_
              refine mr_icmp_ge (tgt := 299) dX7_next_279 (by decide) ⟨by omega, by omega⟩ (by decide) (fun hc_279 => ?_) (fun hc_279 => ?_)
              · refine mr_aload_n dX7_next_299 rfl ?_
                refine mr_dup dX7_next_300 rfl ?_
                refine mr_get dX7_next_301 fl_X7_21 (by first | assumption | exact mr_up_same _ _ _ | (refine mr_lk ?_ (by first | assumption | decide); first | assumption | exact mr_up_same _ _ _ | (refine mr_lk ?_ (by first | assumption | decide); first | assumption | exact mr_up_same _ _ _ | (refine mr_lk ?_ (by first | assumption | decide); first | assumption | exact mr_up_same _ _ _ | (refine mr_lk ?_ (by first | assumption | decide); first | assumption | exact mr_up_same _ _ _))))) rfl ?_
                refine mr_iconst dX7_next_304 ?_
                refine mr_iadd dX7_next_305 ?_
                refine mr_put dX7_next_306 fl_X7_21 pf_X7_4 rfl rfl (by first | assumption | exact mr_up_same _ _ _ | (refine mr_lk ?_ (by first | assumption | decide); first | assumption | exact mr_up_same _ _ _ | (refine mr_lk ?_ (by first | assumption | decide); first | assumption | exact mr_up_same _ _ _ | (refine mr_lk ?_ (by first | assumption | decide); first | assumption | exact mr_up_same _ _ _ | (refine mr_lk ?_ (by first | assumption | decide); first | assumption | exact mr_up_same _ _ _))))) (Nat.le_of_ble_eq_true rfl) ?_
                refine mw_p4 hM (fun w22 hM22 hF22 => ?_)
                obtain ⟨h18, h19, h20, h21, h22, h23, h24, h25, h26, h27, hs1, hs2, hik⟩ := id hM22
                refine mr_goto (tgt := 177) dX7_next_309 (by decide) ?_
                refine mr_weak [some (vR 18 0), some (vI c), some (vI le), some (vI 0), none] ⟨rfl, rfl, rfl, rfl, trivial⟩ ?_
                refine ih (i + 1) 0 w22 ⟨⟨by omega, by omega⟩, hrun', ⟨by first | exact Or.inl rfl | exact Or.inr rfl | assumption, ?_⟩⟩ (by omega) (hfin _ (by first | exact (mr_hs_s hi.1 (by omega)).trans (by rw [hTi]) | exact mr_hs_k (by omega)) (by first | exact (mr_nv_s hi.1 (by omega)).trans (by rw [hTi]) | exact mr_nv_k (by omega)) hM22) (hFr.tr hF22)
                · first
                    | exact ⟨fun _ x g1 g2 => by
                        by_cases e : x = i
                        · subst e; rw [hlet]; first | exact ⟨fun _ => by omega, fun _ => by omega⟩ | exact ⟨fun z => absurd z (by omega), fun z => absurd z (by omega)⟩
                        · exact (hgd.2.mp (by omega)) x g1 (by omega), fun _ => rfl⟩
                    | exact ⟨fun z => absurd z (by decide), fun z => absurd (hgd.2.mpr (fun x g1 g2 => z x g1 (by omega))) (by omega)⟩
                    | exact ⟨fun z => absurd z (by decide), fun z => by have z9 := z i (by omega) (by omega); rw [hlet] at z9; omega⟩
              · refine mr_aload_n dX7_next_282 rfl ?_
                refine mr_bipush dX7_next_283 rfl ?_
                refine mr_aload_n dX7_next_285 rfl ?_
                refine mr_get dX7_next_286 fl_X7_41 (by first | assumption | exact mr_up_same _ _ _ | (refine mr_lk ?_ (by first | assumption | decide); first | assumption | exact mr_up_same _ _ _ | (refine mr_lk ?_ (by first | assumption | decide); first | assumption | exact mr_up_same _ _ _ | (refine mr_lk ?_ (by first | assumption | decide); first | assumption | exact mr_up_same _ _ _ | (refine mr_lk ?_ (by first | assumption | decide); first | assumption | exact mr_up_same _ _ _))))) rfl ?_
                refine mr_imul dX7_next_289 ?_
                refine mr_iload dX7_next_290 rfl ?_
                refine mr_iadd dX7_next_292 ?_
                refine mr_bipush dX7_next_293 rfl ?_
                refine mr_isub dX7_next_295 ?_
                refine mr_put dX7_next_296 fl_X7_41 pf_X7_7 rfl rfl (by first | assumption | exact mr_up_same _ _ _ | (refine mr_lk ?_ (by first | assumption | decide); first | assumption | exact mr_up_same _ _ _ | (refine mr_lk ?_ (by first | assumption | decide); first | assumption | exact mr_up_same _ _ _ | (refine mr_lk ?_ (by first | assumption | decide); first | assumption | exact mr_up_same _ _ _ | (refine mr_lk ?_ (by first | assumption | decide); first | assumption | exact mr_up_same _ _ _))))) (Nat.le_of_ble_eq_true rfl) ?_
                refine mw_p7 hM (fun w23 hM23 hF23 => ?_)
                obtain ⟨h18, h19, h20, h21, h22, h23, h24, h25, h26, h27, hs1, hs2, hik⟩ := id hM23
                refine mr_aload_n dX7_next_299 rfl ?_
                refine mr_dup dX7_next_300 rfl ?_
                refine mr_get dX7_next_301 fl_X7_21 (by first | assumption | exact mr_up_same _ _ _ | (refine mr_lk ?_ (by first | assumption | decide); first | assumption | exact mr_up_same _ _ _ | (refine mr_lk ?_ (by first | assumption | decide); first | assumption | exact mr_up_same _ _ _ | (refine mr_lk ?_ (by first | assumption | decide); first | assumption | exact mr_up_same _ _ _ | (refine mr_lk ?_ (by first | assumption | decide); first | assumption | exact mr_up_same _ _ _))))) rfl ?_
                refine mr_iconst dX7_next_304 ?_
                refine mr_iadd dX7_next_305 ?_
                refine mr_put dX7_next_306 fl_X7_21 pf_X7_4 rfl rfl (by first | assumption | exact mr_up_same _ _ _ | (refine mr_lk ?_ (by first | assumption | decide); first | assumption | exact mr_up_same _ _ _ | (refine mr_lk ?_ (by first | assumption | decide); first | assumption | exact mr_up_same _ _ _ | (refine mr_lk ?_ (by first | assumption | decide); first | assumption | exact mr_up_same _ _ _ | (refine mr_lk ?_ (by first | assumption | decide); first | assumption | exact mr_up_same _ _ _))))) (Nat.le_of_ble_eq_true rfl) ?_
                refine mw_p4 hM23 (fun w24 hM24 hF24 => ?_)
                obtain ⟨h18, h19, h20, h21, h22, h23, h24, h25, h26, h27, hs1, hs2, hik⟩ := id hM24
                refine mr_goto (tgt := 177) dX7_next_309 (by decide) ?_
                refine mr_weak [some (vR 18 0), some (vI c), some (vI le), some (vI 0), none] ⟨rfl, rfl, rfl, rfl, trivial⟩ ?_
                refine ih (i + 1) 0 w24 ⟨⟨by omega, by omega⟩, hrun', ⟨by first | exact Or.inl rfl | exact Or.inr rfl | assumption, ?_⟩⟩ (by omega) (hfin _ (by first | exact (mr_hs_s hi.1 (by omega)).trans (by rw [hTi]) | exact mr_hs_k (by omega)) (by first | exact (mr_nv_s hi.1 (by omega)).trans (by rw [hTi]) | exact mr_nv_k (by omega)) hM24) (hFr.tr (hF23.tr hF24))
                · first
                    | exact ⟨fun _ x g1 g2 => by
                        by_cases e : x = i
                        · subst e; rw [hlet]; first | exact ⟨fun _ => by omega, fun _ => by omega⟩ | exact ⟨fun z => absurd z (by omega), fun z => absurd z (by omega)⟩
                        · exact (hgd.2.mp (by omega)) x g1 (by omega), fun _ => rfl⟩
                    | exact ⟨fun z => absurd z (by decide), fun z => absurd (hgd.2.mpr (fun x g1 g2 => z x g1 (by omega))) (by omega)⟩
                    | exact ⟨fun z => absurd z (by decide), fun z => by have z9 := z i (by omega) (by omega); rw [hlet] at z9; omega⟩
            · refine mr_aload_n dX7_next_249 rfl ?_
              refine mr_ldc2 dX7_next_250 kc_X7_48 ?_
              refine mr_aload_n dX7_next_253 rfl ?_
              refine mr_get dX7_next_254 fl_X7_37 (by first | assumption | exact mr_up_same _ _ _ | (refine mr_lk ?_ (by first | assumption | decide); first | assumption | exact mr_up_same _ _ _ | (refine mr_lk ?_ (by first | assumption | decide); first | assumption | exact mr_up_same _ _ _ | (refine mr_lk ?_ (by first | assumption | decide); first | assumption | exact mr_up_same _ _ _ | (refine mr_lk ?_ (by first | assumption | decide); first | assumption | exact mr_up_same _ _ _))))) rfl ?_
              refine mr_lmul dX7_next_257 ?_
              refine mr_iload dX7_next_258 rfl ?_
              refine mr_i2l dX7_next_260 hTR ?_
              refine mr_ladd dX7_next_261 ?_
              refine mr_ldc2 dX7_next_262 kc_X7_50 ?_
              refine mr_lsub dX7_next_265 ?_
              refine mr_put dX7_next_266 fl_X7_37 pf_X7_10 rfl rfl (by first | assumption | exact mr_up_same _ _ _ | (refine mr_lk ?_ (by first | assumption | decide); first | assumption | exact mr_up_same _ _ _ | (refine mr_lk ?_ (by first | assumption | decide); first | assumption | exact mr_up_same _ _ _ | (refine mr_lk ?_ (by first | assumption | decide); first | assumption | exact mr_up_same _ _ _ | (refine mr_lk ?_ (by first | assumption | decide); first | assumption | exact mr_up_same _ _ _))))) (Nat.le_of_ble_eq_true rfl) ?_
              refine mw_p10 hM (fun w25 hM25 hF25 => ?_)
              obtain ⟨h18, h19, h20, h21, h22, h23, h24, h25, h26, h27, hs1, hs2, hik⟩ := id hM25
              refine mr_aload_n dX7_next_269 rfl ?_
              refine mr_get dX7_next_270 fl_X7_21 (by first | assumption | exact mr_up_same _ _ _ | (refine mr_lk ?_ (by first | assumption | decide); first | assumption | exact mr_up_same _ _ _ | (refine mr_lk ?_ (by first | assumption | decide); first | assumption | exact mr_up_same _ _ _ | (refine mr_lk ?_ (by first | assumption | decide); first | assumption | exact mr_up_same _ _ _ | (refine mr_lk ?_ (by first | assumption | decide); first | assumption | exact mr_up_same _ _ _))))) rfl ?_
              refine mr_aload_n dX7_next_273 rfl ?_
              refine mr_get dX7_next_274 fl_X7_24 (by first | assumption | exact mr_up_same _ _ _ | (refine mr_lk ?_ (by first | assumption | decide); first | assumption | exact mr_up_same _ _ _ | (refine mr_lk ?_ (by first | assumption | decide); first | assumption | exact mr_up_same _ _ _ | (refine mr_lk ?_ (by first | assumption | decide); first | assumption | exact mr_up_same _ _ _ | (refine mr_lk ?_ (by first | assumption | decide); first | assumption | exact mr_up_same _ _ _))))) rfl ?_
              refine mr_isub dX7_next_277 ?_
              refine mr_iconst dX7_next_278 ?_
              refine mr_icmp_ge (tgt := 299) dX7_next_279 (by decide) ⟨by omega, by omega⟩ (by decide) (fun hc_279 => ?_) (fun hc_279 => ?_)
              · refine mr_aload_n dX7_next_299 rfl ?_
                refine mr_dup dX7_next_300 rfl ?_
                refine mr_get dX7_next_301 fl_X7_21 (by first | assumption | exact mr_up_same _ _ _ | (refine mr_lk ?_ (by first | assumption | decide); first | assumption | exact mr_up_same _ _ _ | (refine mr_lk ?_ (by first | assumption | decide); first | assumption | exact mr_up_same _ _ _ | (refine mr_lk ?_ (by first | assumption | decide); first | assumption | exact mr_up_same _ _ _ | (refine mr_lk ?_ (by first | assumption | decide); first | assumption | exact mr_up_same _ _ _))))) rfl ?_
                refine mr_iconst dX7_next_304 ?_
                refine mr_iadd dX7_next_305 ?_
                refine mr_put dX7_next_306 fl_X7_21 pf_X7_4 rfl rfl (by first | assumption | exact mr_up_same _ _ _ | (refine mr_lk ?_ (by first | assumption | decide); first | assumption | exact mr_up_same _ _ _ | (refine mr_lk ?_ (by first | assumption | decide); first | assumption | exact mr_up_same _ _ _ | (refine mr_lk ?_ (by first | assumption | decide); first | assumption | exact mr_up_same _ _ _ | (refine mr_lk ?_ (by first | assumption | decide); first | assumption | exact mr_up_same _ _ _))))) (Nat.le_of_ble_eq_true rfl) ?_
                refine mw_p4 hM25 (fun w26 hM26 hF26 => ?_)
                obtain ⟨h18, h19, h20, h21, h22, h23, h24, h25, h26, h27, hs1, hs2, hik⟩ := id hM26
                refine mr_goto (tgt := 177) dX7_next_309 (by decide) ?_
                refine mr_weak [some (vR 18 0), some (vI c), some (vI le), some (vI 0), none] ⟨rfl, rfl, rfl, rfl, trivial⟩ ?_
                refine ih (i + 1) 0 w26 ⟨⟨by omega, by omega⟩, hrun', ⟨by first | exact Or.inl rfl | exact Or.inr rfl | assumption, ?_⟩⟩ (by omega) (hfin _ (by first | exact (mr_hs_s hi.1 (by omega)).trans (by rw [hTi]) | exact mr_hs_k (by omega)) (by first | exact (mr_nv_s hi.1 (by omega)).trans (by rw [hTi]) | exact mr_nv_k (by omega)) hM26) (hFr.tr (hF25.tr hF26))
                · first
                    | exact ⟨fun _ x g1 g2 => by
                        by_cases e : x = i
                        · subst e; rw [hlet]; first | exact ⟨fun _ => by omega, fun _ => by omega⟩ | exact ⟨fun z => absurd z (by omega), fun z => absurd z (by omega)⟩
                        · exact (hgd.2.mp (by omega)) x g1 (by omega), fun _ => rfl⟩
                    | exact ⟨fun z => absurd z (by decide), fun z => absurd (hgd.2.mpr (fun x g1 g2 => z x g1 (by omega))) (by omega)⟩
                    | exact ⟨fun z => absurd z (by decide), fun z => by have z9 := z i (by omega) (by omega); rw [hlet] at z9; omega⟩
              · refine mr_aload_n dX7_next_282 rfl ?_
                refine mr_bipush dX7_next_283 rfl ?_
                refine mr_aload_n dX7_next_285 rfl ?_
                refine mr_get dX7_next_286 fl_X7_41 (by first | assumption | exact mr_up_same _ _ _ | (refine mr_lk ?_ (by first | assumption | decide); first | assumption | exact mr_up_same _ _ _ | (refine mr_lk ?_ (by first | assumption | decide); first | assumption | exact mr_up_same _ _ _ | (refine mr_lk ?_ (by first | assumption | decide); first | assumption | exact mr_up_same _ _ _ | (refine mr_lk ?_ (by first | assumption | decide); first | assumption | exact mr_up_same _ _ _))))) rfl ?_
                refine mr_imul dX7_next_289 ?_
                refine mr_iload dX7_next_290 rfl ?_
                refine mr_iadd dX7_next_292 ?_
                refine mr_bipush dX7_next_293 rfl ?_
                refine mr_isub dX7_next_295 ?_
                refine mr_put dX7_next_296 fl_X7_41 pf_X7_7 rfl rfl (by first | assumption | exact mr_up_same _ _ _ | (refine mr_lk ?_ (by first | assumption | decide); first | assumption | exact mr_up_same _ _ _ | (refine mr_lk ?_ (by first | assumption | decide); first | assumption | exact mr_up_same _ _ _ | (refine mr_lk ?_ (by first | assumption | decide); first | assumption | exact mr_up_same _ _ _ | (refine mr_lk ?_ (by first | assumption | decide); first | assumption | exact mr_up_same _ _ _))))) (Nat.le_of_ble_eq_true rfl) ?_
                refine mw_p7 hM25 (fun w27 hM27 hF27 => ?_)
                obtain ⟨h18, h19, h20, h21, h22, h23, h24, h25, h26, h27, hs1, hs2, hik⟩ := id hM27
                refine mr_aload_n dX7_next_299 rfl ?_
                refine mr_dup dX7_next_300 rfl ?_
                refine mr_get dX7_next_301 fl_X7_21 (by first | assumption | exact mr_up_same _ _ _ | (refine mr_lk ?_ (by first | assumption | decide); first | assumption | exact mr_up_same _ _ _ | (refine mr_lk ?_ (by first | assumption | decide); first | assumption | exact mr_up_same _ _ _ | (refine mr_lk ?_ (by first | assumption | decide); first | assumption | exact mr_up_same _ _ _ | (refine mr_lk ?_ (by first | assumption | decide); first | assumption | exact mr_up_same _ _ _))))) rfl ?_
                refine mr_iconst dX7_next_304 ?_
                refine mr_iadd dX7_next_305 ?_
                refine mr_put dX7_next_306 fl_X7_21 pf_X7_4 rfl rfl (by first | assumption | exact mr_up_same _ _ _ | (refine mr_lk ?_ (by first | assumption | decide); first | assumption | exact mr_up_same _ _ _ | (refine mr_lk ?_ (by first | assumption | decide); first | assumption | exact mr_up_same _ _ _ | (refine mr_lk ?_ (by first | assumption | decide); first | assumption | exact mr_up_same _ _ _ | (refine mr_lk ?_ (by first | assumption | decide); first | assumption | exact mr_up_same _ _ _))))) (Nat.le_of_ble_eq_true rfl) ?_
                refine mw_p4 hM27 (fun w28 hM28 hF28 => ?_)
                obtain ⟨h18, h19, h20, h21, h22, h23, h24, h25, h26, h27, hs1, hs2, hik⟩ := id hM28
                refine mr_goto (tgt := 177) dX7_next_309 (by decide) ?_
                refine mr_weak [some (vR 18 0), some (vI c), some (vI le), some (vI 0), none] ⟨rfl, rfl, rfl, rfl, trivial⟩ ?_
                refine ih (i + 1) 0 w28 ⟨⟨by omega, by omega⟩, hrun', ⟨by first | exact Or.inl rfl | exact Or.inr rfl | assumption, ?_⟩⟩ (by omega) (hfin _ (by first | exact (mr_hs_s hi.1 (by omega)).trans (by rw [hTi]) | exact mr_hs_k (by omega)) (by first | exact (mr_nv_s hi.1 (by omega)).trans (by rw [hTi]) | exact mr_nv_k (by omega)) hM28) (hFr.tr (hF25.tr (hF27.tr hF28)))
                · first
                    | exact ⟨fun _ x g1 g2 => by
                        by_cases e : x = i
                        · subst e; rw [hlet]; first | exact ⟨fun _ => by omega, fun _ => by omega⟩ | exact ⟨fun z => absurd z (by omega), fun z => absurd z (by omega)⟩
                        · exact (hgd.2.mp (by omega)) x g1 (by omega), fun _ => rfl⟩
                    | exact ⟨fun z => absurd z (by decide), fun z => absurd (hgd.2.mpr (fun x g1 g2 => z x g1 (by omega))) (by omega)⟩
                    | exact ⟨fun z => absurd z (by decide), fun z => by have z9 := z i (by omega) (by omega); rw [hlet] at z9; omega⟩
          · refine mr_iconst dX7_next_229 ?_
            refine mr_goto (tgt := 234) dX7_next_230 (by decide) ?_
            refine mr_istore_n dX7_next_234 rfl (by decide) ?_
            refine mr_aload_n dX7_next_235 rfl ?_
            refine mr_get dX7_next_236 fl_X7_21 (by first | assumption | exact mr_up_same _ _ _ | (refine mr_lk ?_ (by first | assumption | decide); first | assumption | exact mr_up_same _ _ _ | (refine mr_lk ?_ (by first | assumption | decide); first | assumption | exact mr_up_same _ _ _ | (refine mr_lk ?_ (by first | assumption | decide); first | assumption | exact mr_up_same _ _ _ | (refine mr_lk ?_ (by first | assumption | decide); first | assumption | exact mr_up_same _ _ _))))) rfl ?_
            refine mr_aload_n dX7_next_239 rfl ?_
            refine mr_get dX7_next_240 fl_X7_24 (by first | assumption | exact mr_up_same _ _ _ | (refine mr_lk ?_ (by first | assumption | decide); first | assumption | exact mr_up_same _ _ _ | (refine mr_lk ?_ (by first | assumption | decide); first | assumption | exact mr_up_same _ _ _ | (refine mr_lk ?_ (by first | assumption | decide); first | assumption | exact mr_up_same _ _ _ | (refine mr_lk ?_ (by first | assumption | decide); first | assumption | exact mr_up_same _ _ _))))) rfl ?_
            refine mr_isub dX7_next_243 ?_
            refine mr_bipush dX7_next_244 rfl ?_
            refine mr_icmp_ge (tgt := 269) dX7_next_246 (by decide) ⟨by omega, by omega⟩ (by decide) (fun hc_246 => ?_) (fun hc_246 => ?_)
            · refine mr_aload_n dX7_next_269 rfl ?_
              refine mr_get dX7_next_270 fl_X7_21 (by first | assumption | exact mr_up_same _ _ _ | (refine mr_lk ?_ (by first | assumption | decide); first | assumption | exact mr_up_same _ _ _ | (refine mr_lk ?_ (by first | assumption | decide); first | assumption | exact mr_up_same _ _ _ | (refine mr_lk ?_ (by first | assumption | decide); first | assumption | exact mr_up_same _ _ _ | (refine mr_lk ?_ (by first | assumption | decide); first | assumption | exact mr_up_same _ _ _))))) rfl ?_
              refine mr_aload_n dX7_next_273 rfl ?_
              refine mr_get dX7_next_274 fl_X7_24 (by first | assumption | exact mr_up_same _ _ _ | (refine mr_lk ?_ (by first | assumption | decide); first | assumption | exact mr_up_same _ _ _ | (refine mr_lk ?_ (by first | assumption | decide); first | assumption | exact mr_up_same _ _ _ | (refine mr_lk ?_ (by first | assumption | decide); first | assumption | exact mr_up_same _ _ _ | (refine mr_lk ?_ (by first | assumption | decide); first | assumption | exact mr_up_same _ _ _))))) rfl ?_
              refine mr_isub dX7_next_277 ?_
              refine mr_iconst dX7_next_278 ?_
              refine mr_icmp_ge (tgt := 299) dX7_next_279 (by decide) ⟨by omega, by omega⟩ (by decide) (fun hc_279 => ?_) (fun hc_279 => ?_)
              · refine mr_aload_n dX7_next_299 rfl ?_
                refine mr_dup dX7_next_300 rfl ?_
                refine mr_get dX7_next_301 fl_X7_21 (by first | assumption | exact mr_up_same _ _ _ | (refine mr_lk ?_ (by first | assumption | decide); first | assumption | exact mr_up_same _ _ _ | (refine mr_lk ?_ (by first | assumption | decide); first | assumption | exact mr_up_same _ _ _ | (refine mr_lk ?_ (by first | assumption | decide); first | assumption | exact mr_up_same _ _ _ | (refine mr_lk ?_ (by first | assumption | decide); first | assumption | exact mr_up_same _ _ _))))) rfl ?_
                refine mr_iconst dX7_next_304 ?_
                refine mr_iadd dX7_next_305 ?_
                refine mr_put dX7_next_306 fl_X7_21 pf_X7_4 rfl rfl (by first | assumption | exact mr_up_same _ _ _ | (refine mr_lk ?_ (by first | assumption | decide); first | assumption | exact mr_up_same _ _ _ | (refine mr_lk ?_ (by first | assumption | decide); first | assumption | exact mr_up_same _ _ _ | (refine mr_lk ?_ (by first | assumption | decide); first | assumption | exact mr_up_same _ _ _ | (refine mr_lk ?_ (by first | assumption | decide); first | assumption | exact mr_up_same _ _ _))))) (Nat.le_of_ble_eq_true rfl) ?_
                refine mw_p4 hM (fun w29 hM29 hF29 => ?_)
                obtain ⟨h18, h19, h20, h21, h22, h23, h24, h25, h26, h27, hs1, hs2, hik⟩ := id hM29
                refine mr_goto (tgt := 177) dX7_next_309 (by decide) ?_
                refine mr_weak [some (vR 18 0), some (vI c), some (vI le), some (vI 1), none] ⟨rfl, rfl, rfl, rfl, trivial⟩ ?_
                refine ih (i + 1) 1 w29 ⟨⟨by omega, by omega⟩, hrun', ⟨by first | exact Or.inl rfl | exact Or.inr rfl | assumption, ?_⟩⟩ (by omega) (hfin _ (by first | exact (mr_hs_s hi.1 (by omega)).trans (by rw [hTi]) | exact mr_hs_k (by omega)) (by first | exact (mr_nv_s hi.1 (by omega)).trans (by rw [hTi]) | exact mr_nv_k (by omega)) hM29) (hFr.tr hF29)
                · first
                    | exact ⟨fun _ x g1 g2 => by
                        by_cases e : x = i
                        · subst e; rw [hlet]; first | exact ⟨fun _ => by omega, fun _ => by omega⟩ | exact ⟨fun z => absurd z (by omega), fun z => absurd z (by omega)⟩
                        · exact (hgd.2.mp (by omega)) x g1 (by omega), fun _ => rfl⟩
                    | exact ⟨fun z => absurd z (by decide), fun z => absurd (hgd.2.mpr (fun x g1 g2 => z x g1 (by omega))) (by omega)⟩
                    | exact ⟨fun z => absurd z (by decide), fun z => by have z9 := z i (by omega) (by omega); rw [hlet] at z9; omega⟩
              · refine mr_aload_n dX7_next_282 rfl ?_
                refine mr_bipush dX7_next_283 rfl ?_
                refine mr_aload_n dX7_next_285 rfl ?_
                refine mr_get dX7_next_286 fl_X7_41 (by first | assumption | exact mr_up_same _ _ _ | (refine mr_lk ?_ (by first | assumption | decide); first | assumption | exact mr_up_same _ _ _ | (refine mr_lk ?_ (by first | assumption | decide); first | assumption | exact mr_up_same _ _ _ | (refine mr_lk ?_ (by first | assumption | decide); first | assumption | exact mr_up_same _ _ _ | (refine mr_lk ?_ (by first | assumption | decide); first | assumption | exact mr_up_same _ _ _))))) rfl ?_
                refine mr_imul dX7_next_289 ?_
                refine mr_iload dX7_next_290 rfl ?_
                refine mr_iadd dX7_next_292 ?_
                refine mr_bipush dX7_next_293 rfl ?_
                refine mr_isub dX7_next_295 ?_
                refine mr_put dX7_next_296 fl_X7_41 pf_X7_7 rfl rfl (by first | assumption | exact mr_up_same _ _ _ | (refine mr_lk ?_ (by first | assumption | decide); first | assumption | exact mr_up_same _ _ _ | (refine mr_lk ?_ (by first | assumption | decide); first | assumption | exact mr_up_same _ _ _ | (refine mr_lk ?_ (by first | assumption | decide); first | assumption | exact mr_up_same _ _ _ | (refine mr_lk ?_ (by first | assumption | decide); first | assumption | exact mr_up_same _ _ _))))) (Nat.le_of_ble_eq_true rfl) ?_
                refine mw_p7 hM (fun w30 hM30 hF30 => ?_)
                obtain ⟨h18, h19, h20, h21, h22, h23, h24, h25, h26, h27, hs1, hs2, hik⟩ := id hM30
                refine mr_aload_n dX7_next_299 rfl ?_
                refine mr_dup dX7_next_300 rfl ?_
                refine mr_get dX7_next_301 fl_X7_21 (by first | assumption | exact mr_up_same _ _ _ | (refine mr_lk ?_ (by first | assumption | decide); first | assumption | exact mr_up_same _ _ _ | (refine mr_lk ?_ (by first | assumption | decide); first | assumption | exact mr_up_same _ _ _ | (refine mr_lk ?_ (by first | assumption | decide); first | assumption | exact mr_up_same _ _ _ | (refine mr_lk ?_ (by first | assumption | decide); first | assumption | exact mr_up_same _ _ _))))) rfl ?_
                refine mr_iconst dX7_next_304 ?_
                refine mr_iadd dX7_next_305 ?_
                refine mr_put dX7_next_306 fl_X7_21 pf_X7_4 rfl rfl (by first | assumption | exact mr_up_same _ _ _ | (refine mr_lk ?_ (by first | assumption | decide); first | assumption | exact mr_up_same _ _ _ | (refine mr_lk ?_ (by first | assumption | decide); first | assumption | exact mr_up_same _ _ _ | (refine mr_lk ?_ (by first | assumption | decide); first | assumption | exact mr_up_same _ _ _ | (refine mr_lk ?_ (by first | assumption | decide); first | assumption | exact mr_up_same _ _ _))))) (Nat.le_of_ble_eq_true rfl) ?_
                refine mw_p4 hM30 (fun w31 hM31 hF31 => ?_)
                obtain ⟨h18, h19, h20, h21, h22, h23, h24, h25, h26, h27, hs1, hs2, hik⟩ := id hM31
                refine mr_goto (tgt := 177) dX7_next_309 (by decide) ?_
                refine mr_weak [some (vR 18 0), some (vI c), some (vI le), some (vI 1), none] ⟨rfl, rfl, rfl, rfl, trivial⟩ ?_
                refine ih (i + 1) 1 w31 ⟨⟨by omega, by omega⟩, hrun', ⟨by first | exact Or.inl rfl | exact Or.inr rfl | assumption, ?_⟩⟩ (by omega) (hfin _ (by first | exact (mr_hs_s hi.1 (by omega)).trans (by rw [hTi]) | exact mr_hs_k (by omega)) (by first | exact (mr_nv_s hi.1 (by omega)).trans (by rw [hTi]) | exact mr_nv_k (by omega)) hM31) (hFr.tr (hF30.tr hF31))
                · first
                    | exact ⟨fun _ x g1 g2 => by
                        by_cases e : x = i
                        · subst e; rw [hlet]; first | exact ⟨fun _ => by omega, fun _ => by omega⟩ | exact ⟨fun z => absurd z (by omega), fun z => absurd z (by omega)⟩
                        · exact (hgd.2.mp (by omega)) x g1 (by omega), fun _ => rfl⟩
                    | exact ⟨fun z => absurd z (by decide), fun z => absurd (hgd.2.mpr (fun x g1 g2 => z x g1 (by omega))) (by omega)⟩
                    | exact ⟨fun z => absurd z (by decide), fun z => by have z9 := z i (by omega) (by omega); rw [hlet] at z9; omega⟩
            · refine mr_aload_n dX7_next_249 rfl ?_
              refine mr_ldc2 dX7_next_250 kc_X7_48 ?_
              refine mr_aload_n dX7_next_253 rfl ?_
              refine mr_get dX7_next_254 fl_X7_37 (by first | assumption | exact mr_up_same _ _ _ | (refine mr_lk ?_ (by first | assumption | decide); first | assumption | exact mr_up_same _ _ _ | (refine mr_lk ?_ (by first | assumption | decide); first | assumption | exact mr_up_same _ _ _ | (refine mr_lk ?_ (by first | assumption | decide); first | assumption | exact mr_up_same _ _ _ | (refine mr_lk ?_ (by first | assumption | decide); first | assumption | exact mr_up_same _ _ _))))) rfl ?_
              refine mr_lmul dX7_next_257 ?_
              refine mr_iload dX7_next_258 rfl ?_
              refine mr_i2l dX7_next_260 hTR ?_
              refine mr_ladd dX7_next_261 ?_
              refine mr_ldc2 dX7_next_262 kc_X7_50 ?_
              refine mr_lsub dX7_next_265 ?_
              refine mr_put dX7_next_266 fl_X7_37 pf_X7_10 rfl rfl (by first | assumption | exact mr_up_same _ _ _ | (refine mr_lk ?_ (by first | assumption | decide); first | assumption | exact mr_up_same _ _ _ | (refine mr_lk ?_ (by first | assumption | decide); first | assumption | exact mr_up_same _ _ _ | (refine mr_lk ?_ (by first | assumption | decide); first | assumption | exact mr_up_same _ _ _ | (refine mr_lk ?_ (by first | assumption | decide); first | assumption | exact mr_up_same _ _ _))))) (Nat.le_of_ble_eq_true rfl) ?_
              refine mw_p10 hM (fun w32 hM32 hF32 => ?_)
              obtain ⟨h18, h19, h20, h21, h22, h23, h24, h25, h26, h27, hs1, hs2, hik⟩ := id hM32
              refine mr_aload_n dX7_next_269 rfl ?_
              refine mr_get dX7_next_270 fl_X7_21 (by first | assumption | exact mr_up_same _ _ _ | (refine mr_lk ?_ (by first | assumption | decide); first | assumption | exact mr_up_same _ _ _ | (refine mr_lk ?_ (by first | assumption | decide); first | assumption | exact mr_up_same _ _ _ | (refine mr_lk ?_ (by first | assumption | decide); first | assumption | exact mr_up_same _ _ _ | (refine mr_lk ?_ (by first | assumption | decide); first | assumption | exact mr_up_same _ _ _))))) rfl ?_
              refine mr_aload_n dX7_next_273 rfl ?_
              refine mr_get dX7_next_274 fl_X7_24 (by first | assumption | exact mr_up_same _ _ _ | (refine mr_lk ?_ (by first | assumption | decide); first | assumption | exact mr_up_same _ _ _ | (refine mr_lk ?_ (by first | assumption | decide); first | assumption | exact mr_up_same _ _ _ | (refine mr_lk ?_ (by first | assumption | decide); first | assumption | exact mr_up_same _ _ _ | (refine mr_lk ?_ (by first | assumption | decide); first | assumption | exact mr_up_same _ _ _))))) rfl ?_
              refine mr_isub dX7_next_277 ?_
              refine mr_iconst dX7_next_278 ?_
              refine mr_icmp_ge (tgt := 299) dX7_next_279 (by decide) ⟨by omega, by omega⟩ (by decide) (fun hc_279 => ?_) (fun hc_279 => ?_)
              · refine mr_aload_n dX7_next_299 rfl ?_
                refine mr_dup dX7_next_300 rfl ?_
                refine mr_get dX7_next_301 fl_X7_21 (by first | assumption | exact mr_up_same _ _ _ | (refine mr_lk ?_ (by first | assumption | decide); first | assumption | exact mr_up_same _ _ _ | (refine mr_lk ?_ (by first | assumption | decide); first | assumption | exact mr_up_same _ _ _ | (refine mr_lk ?_ (by first | assumption | decide); first | assumption | exact mr_up_same _ _ _ | (refine mr_lk ?_ (by first | assumption | decide); first | assumption | exact mr_up_same _ _ _))))) rfl ?_
                refine mr_iconst dX7_next_304 ?_
                refine mr_iadd dX7_next_305 ?_
                refine mr_put dX7_next_306 fl_X7_21 pf_X7_4 rfl rfl (by first | assumption | exact mr_up_same _ _ _ | (refine mr_lk ?_ (by first | assumption | decide); first | assumption | exact mr_up_same _ _ _ | (refine mr_lk ?_ (by first | assumption | decide); first | assumption | exact mr_up_same _ _ _ | (refine mr_lk ?_ (by first | assumption | decide); first | assumption | exact mr_up_same _ _ _ | (refine mr_lk ?_ (by first | assumption | decide); first | assumption | exact mr_up_same _ _ _))))) (Nat.le_of_ble_eq_true rfl) ?_
                refine mw_p4 hM32 (fun w33 hM33 hF33 => ?_)
                obtain ⟨h18, h19, h20, h21, h22, h23, h24, h25, h26, h27, hs1, hs2, hik⟩ := id hM33
                refine mr_goto (tgt := 177) dX7_next_309 (by decide) ?_
                refine mr_weak [some (vR 18 0), some (vI c), some (vI le), some (vI 1), none] ⟨rfl, rfl, rfl, rfl, trivial⟩ ?_
                refine ih (i + 1) 1 w33 ⟨⟨by omega, by omega⟩, hrun', ⟨by first | exact Or.inl rfl | exact Or.inr rfl | assumption, ?_⟩⟩ (by omega) (hfin _ (by first | exact (mr_hs_s hi.1 (by omega)).trans (by rw [hTi]) | exact mr_hs_k (by omega)) (by first | exact (mr_nv_s hi.1 (by omega)).trans (by rw [hTi]) | exact mr_nv_k (by omega)) hM33) (hFr.tr (hF32.tr hF33))
                · first
                    | exact ⟨fun _ x g1 g2 => by
                        by_cases e : x = i
                        · subst e; rw [hlet]; first | exact ⟨fun _ => by omega, fun _ => by omega⟩ | exact ⟨fun z => absurd z (by omega), fun z => absurd z (by omega)⟩
                        · exact (hgd.2.mp (by omega)) x g1 (by omega), fun _ => rfl⟩
                    | exact ⟨fun z => absurd z (by decide), fun z => absurd (hgd.2.mpr (fun x g1 g2 => z x g1 (by omega))) (by omega)⟩
                    | exact ⟨fun z => absurd z (by decide), fun z => by have z9 := z i (by omega) (by omega); rw [hlet] at z9; omega⟩
              · refine mr_aload_n dX7_next_282 rfl ?_
                refine mr_bipush dX7_next_283 rfl ?_
                refine mr_aload_n dX7_next_285 rfl ?_
                refine mr_get dX7_next_286 fl_X7_41 (by first | assumption | exact mr_up_same _ _ _ | (refine mr_lk ?_ (by first | assumption | decide); first | assumption | exact mr_up_same _ _ _ | (refine mr_lk ?_ (by first | assumption | decide); first | assumption | exact mr_up_same _ _ _ | (refine mr_lk ?_ (by first | assumption | decide); first | assumption | exact mr_up_same _ _ _ | (refine mr_lk ?_ (by first | assumption | decide); first | assumption | exact mr_up_same _ _ _))))) rfl ?_
                refine mr_imul dX7_next_289 ?_
                refine mr_iload dX7_next_290 rfl ?_
                refine mr_iadd dX7_next_292 ?_
                refine mr_bipush dX7_next_293 rfl ?_
                refine mr_isub dX7_next_295 ?_
                refine mr_put dX7_next_296 fl_X7_41 pf_X7_7 rfl rfl (by first | assumption | exact mr_up_same _ _ _ | (refine mr_lk ?_ (by first | assumption | decide); first | assumption | exact mr_up_same _ _ _ | (refine mr_lk ?_ (by first | assumption | decide); first | assumption | exact mr_up_same _ _ _ | (refine mr_lk ?_ (by first | assumption | decide); first | assumption | exact mr_up_same _ _ _ | (refine mr_lk ?_ (by first | assumption | decide); first | assumption | exact mr_up_same _ _ _))))) (Nat.le_of_ble_eq_true rfl) ?_
                refine mw_p7 hM32 (fun w34 hM34 hF34 => ?_)
                obtain ⟨h18, h19, h20, h21, h22, h23, h24, h25, h26, h27, hs1, hs2, hik⟩ := id hM34
                refine mr_aload_n dX7_next_299 rfl ?_
                refine mr_dup dX7_next_300 rfl ?_
                refine mr_get dX7_next_301 fl_X7_21 (by first | assumption | exact mr_up_same _ _ _ | (refine mr_lk ?_ (by first | assumption | decide); first | assumption | exact mr_up_same _ _ _ | (refine mr_lk ?_ (by first | assumption | decide); first | assumption | exact mr_up_same _ _ _ | (refine mr_lk ?_ (by first | assumption | decide); first | assumption | exact mr_up_same _ _ _ | (refine mr_lk ?_ (by first | assumption | decide); first | assumption | exact mr_up_same _ _ _))))) rfl ?_
                refine mr_iconst dX7_next_304 ?_
                refine mr_iadd dX7_next_305 ?_
                refine mr_put dX7_next_306 fl_X7_21 pf_X7_4 rfl rfl (by first | assumption | exact mr_up_same _ _ _ | (refine mr_lk ?_ (by first | assumption | decide); first | assumption | exact mr_up_same _ _ _ | (refine mr_lk ?_ (by first | assumption | decide); first | assumption | exact mr_up_same _ _ _ | (refine mr_lk ?_ (by first | assumption | decide); first | assumption | exact mr_up_same _ _ _ | (refine mr_lk ?_ (by first | assumption | decide); first | assumption | exact mr_up_same _ _ _))))) (Nat.le_of_ble_eq_true rfl) ?_
                refine mw_p4 hM34 (fun w35 hM35 hF35 => ?_)
                obtain ⟨h18, h19, h20, h21, h22, h23, h24, h25, h26, h27, hs1, hs2, hik⟩ := id hM35
                refine mr_goto (tgt := 177) dX7_next_309 (by decide) ?_
                refine mr_weak [some (vR 18 0), some (vI c), some (vI le), some (vI 1), none] ⟨rfl, rfl, rfl, rfl, trivial⟩ ?_
                refine ih (i + 1) 1 w35 ⟨⟨by omega, by omega⟩, hrun', ⟨by first | exact Or.inl rfl | exact Or.inr rfl | assumption, ?_⟩⟩ (by omega) (hfin _ (by first | exact (mr_hs_s hi.1 (by omega)).trans (by rw [hTi]) | exact mr_hs_k (by omega)) (by first | exact (mr_nv_s hi.1 (by omega)).trans (by rw [hTi]) | exact mr_nv_k (by omega)) hM35) (hFr.tr (hF32.tr (hF34.tr hF35)))
                · first
                    | exact ⟨fun _ x g1 g2 => by
                        by_cases e : x = i
                        · subst e; rw [hlet]; first | exact ⟨fun _ => by omega, fun _ => by omega⟩ | exact ⟨fun z => absurd z (by omega), fun z => absurd z (by omega)⟩
                        · exact (hgd.2.mp (by omega)) x g1 (by omega), fun _ => rfl⟩
                    | exact ⟨fun z => absurd z (by decide), fun z => absurd (hgd.2.mpr (fun x g1 g2 => z x g1 (by omega))) (by omega)⟩
                    | exact ⟨fun z => absurd z (by decide), fun z => by have z9 := z i (by omega) (by omega); rw [hlet] at z9; omega⟩
    · intro k1
      dsimp only [Option.toList_some, Option.toList_none, List.cons_append, List.nil_append]
      refine mr_if_ne (tgt := 205) dX7_next_188 (by decide) (by omega) (fun h => absurd h (by decide)) (fun _ => ?_)
      refine mr_aload_n dX7_next_191 rfl ?_
      refine mr_aload_n dX7_next_192 rfl ?_
      refine mr_get dX7_next_193 fl_X7_21 (by first | assumption | exact mr_up_same _ _ _ | (refine mr_lk ?_ (by first | assumption | decide); first | assumption | exact mr_up_same _ _ _ | (refine mr_lk ?_ (by first | assumption | decide); first | assumption | exact mr_up_same _ _ _ | (refine mr_lk ?_ (by first | assumption | decide); first | assumption | exact mr_up_same _ _ _ | (refine mr_lk ?_ (by first | assumption | decide); first | assumption | exact mr_up_same _ _ _))))) rfl ?_
      refine mr_callV (as := [_]) dX7_next_196 (ok_X7_tapeAt l G) ml_X7_44 cl_X7_tapeAt cv_X7_tapeAt (by decide) rfl rfl (Nat.le_of_ble_eq_true rfl) (by first | assumption | exact mr_up_same _ _ _ | (refine mr_lk ?_ (by first | assumption | decide); first | assumption | exact mr_up_same _ _ _ | (refine mr_lk ?_ (by first | assumption | decide); first | assumption | exact mr_up_same _ _ _ | (refine mr_lk ?_ (by first | assumption | decide); first | assumption | exact mr_up_same _ _ _ | (refine mr_lk ?_ (by first | assumption | decide); first | assumption | exact mr_up_same _ _ _))))) ?_
      refine ⟨_, _, _, _, _, _, _, _, _, _, _, _, _, _, _, _, rfl, (by assumption), (by assumption), hsz, ⟨by omega, by omega⟩, ?_⟩
      rw [if_pos hlt]
      dsimp only [Option.toList_some, Option.toList_none, List.cons_append, List.nil_append]
      refine mr_callS (as := [_]) dX7_next_199 (ok_X7_isDigit l G) ml_X7_34 cl_X7_isDigit cs_X7_isDigit (by decide) rfl rfl (Nat.le_of_ble_eq_true rfl) ?_
      refine ⟨_, rfl, hTR, ?_, ?_⟩
      · intro k2
        dsimp only [Option.toList_some, Option.toList_none, List.cons_append, List.nil_append]
        refine mr_if_eq (tgt := 312) dX7_next_202 (by decide) (by omega) (fun h => absurd h (by decide)) (fun _ => ?_)
        have hrun' := hrunI (by first | exact Or.inl (hlet.mpr k1) | exact Or.inr (hdig.mpr k2))
        refine mr_aload_n dX7_next_205 rfl ?_
        refine mr_get dX7_next_206 fl_X7_7 (by first | assumption | exact mr_up_same _ _ _ | (refine mr_lk ?_ (by first | assumption | decide); first | assumption | exact mr_up_same _ _ _ | (refine mr_lk ?_ (by first | assumption | decide); first | assumption | exact mr_up_same _ _ _ | (refine mr_lk ?_ (by first | assumption | decide); first | assumption | exact mr_up_same _ _ _ | (refine mr_lk ?_ (by first | assumption | decide); first | assumption | exact mr_up_same _ _ _))))) rfl ?_
        refine mr_aload_n dX7_next_209 rfl ?_
        refine mr_get dX7_next_210 fl_X7_21 (by first | assumption | exact mr_up_same _ _ _ | (refine mr_lk ?_ (by first | assumption | decide); first | assumption | exact mr_up_same _ _ _ | (refine mr_lk ?_ (by first | assumption | decide); first | assumption | exact mr_up_same _ _ _ | (refine mr_lk ?_ (by first | assumption | decide); first | assumption | exact mr_up_same _ _ _ | (refine mr_lk ?_ (by first | assumption | decide); first | assumption | exact mr_up_same _ _ _))))) rfl ?_
        refine mr_iald dX7_next_213 (by first | assumption | exact mr_up_same _ _ _ | (refine mr_lk ?_ (by first | assumption | decide); first | assumption | exact mr_up_same _ _ _ | (refine mr_lk ?_ (by first | assumption | decide); first | assumption | exact mr_up_same _ _ _ | (refine mr_lk ?_ (by first | assumption | decide); first | assumption | exact mr_up_same _ _ _ | (refine mr_lk ?_ (by first | assumption | decide); first | assumption | exact mr_up_same _ _ _))))) (by omega) (by omega) (by decide) ?_
        refine mr_istore dX7_next_214 rfl (by decide) ?_
        refine mr_iload_n dX7_next_216 rfl ?_
        refine mr_if_eq (tgt := 233) dX7_next_217 (by decide) ⟨by omega, by omega⟩ (fun hc_217 => ?_) (fun hc_217 => ?_)
        · refine mr_iconst dX7_next_233 ?_
          refine mr_istore_n dX7_next_234 rfl (by decide) ?_
          refine mr_aload_n dX7_next_235 rfl ?_
          refine mr_get dX7_next_236 fl_X7_21 (by first | assumption | exact mr_up_same _ _ _ | (refine mr_lk ?_ (by first | assumption | decide); first | assumption | exact mr_up_same _ _ _ | (refine mr_lk ?_ (by first | assumption | decide); first | assumption | exact mr_up_same _ _ _ | (refine mr_lk ?_ (by first | assumption | decide); first | assumption | exact mr_up_same _ _ _ | (refine mr_lk ?_ (by first | assumption | decide); first | assumption | exact mr_up_same _ _ _))))) rfl ?_
          refine mr_aload_n dX7_next_239 rfl ?_
          refine mr_get dX7_next_240 fl_X7_24 (by first | assumption | exact mr_up_same _ _ _ | (refine mr_lk ?_ (by first | assumption | decide); first | assumption | exact mr_up_same _ _ _ | (refine mr_lk ?_ (by first | assumption | decide); first | assumption | exact mr_up_same _ _ _ | (refine mr_lk ?_ (by first | assumption | decide); first | assumption | exact mr_up_same _ _ _ | (refine mr_lk ?_ (by first | assumption | decide); first | assumption | exact mr_up_same _ _ _))))) rfl ?_
          refine mr_isub dX7_next_243 ?_
          refine mr_bipush dX7_next_244 rfl ?_
          refine mr_icmp_ge (tgt := 269) dX7_next_246 (by decide) ⟨by omega, by omega⟩ (by decide) (fun hc_246 => ?_) (fun hc_246 => ?_)
          · refine mr_aload_n dX7_next_269 rfl ?_
            refine mr_get dX7_next_270 fl_X7_21 (by first | assumption | exact mr_up_same _ _ _ | (refine mr_lk ?_ (by first | assumption | decide); first | assumption | exact mr_up_same _ _ _ | (refine mr_lk ?_ (by first | assumption | decide); first | assumption | exact mr_up_same _ _ _ | (refine mr_lk ?_ (by first | assumption | decide); first | assumption | exact mr_up_same _ _ _ | (refine mr_lk ?_ (by first | assumption | decide); first | assumption | exact mr_up_same _ _ _))))) rfl ?_
            refine mr_aload_n dX7_next_273 rfl ?_
            refine mr_get dX7_next_274 fl_X7_24 (by first | assumption | exact mr_up_same _ _ _ | (refine mr_lk ?_ (by first | assumption | decide); first | assumption | exact mr_up_same _ _ _ | (refine mr_lk ?_ (by first | assumption | decide); first | assumption | exact mr_up_same _ _ _ | (refine mr_lk ?_ (by first | assumption | decide); first | assumption | exact mr_up_same _ _ _ | (refine mr_lk ?_ (by first | assumption | decide); first | assumption | exact mr_up_same _ _ _))))) rfl ?_
            refine mr_isub dX7_next_277 ?_
            refine mr_iconst dX7_next_278 ?_
            refine mr_icmp_ge (tgt := 299) dX7_next_279 (by decide) ⟨by omega, by omega⟩ (by decide) (fun hc_279 => ?_) (fun hc_279 => ?_)
            · refine mr_aload_n dX7_next_299 rfl ?_
              refine mr_dup dX7_next_300 rfl ?_
              refine mr_get dX7_next_301 fl_X7_21 (by first | assumption | exact mr_up_same _ _ _ | (refine mr_lk ?_ (by first | assumption | decide); first | assumption | exact mr_up_same _ _ _ | (refine mr_lk ?_ (by first | assumption | decide); first | assumption | exact mr_up_same _ _ _ | (refine mr_lk ?_ (by first | assumption | decide); first | assumption | exact mr_up_same _ _ _ | (refine mr_lk ?_ (by first | assumption | decide); first | assumption | exact mr_up_same _ _ _))))) rfl ?_
              refine mr_iconst dX7_next_304 ?_
              refine mr_iadd dX7_next_305 ?_
              refine mr_put dX7_next_306 fl_X7_21 pf_X7_4 rfl rfl (by first | assumption | exact mr_up_same _ _ _ | (refine mr_lk ?_ (by first | assumption | decide); first | assumption | exact mr_up_same _ _ _ | (refine mr_lk ?_ (by first | assumption | decide); first | assumption | exact mr_up_same _ _ _ | (refine mr_lk ?_ (by first | assumption | decide); first | assumption | exact mr_up_same _ _ _ | (refine mr_lk ?_ (by first | assumption | decide); first | assumption | exact mr_up_same _ _ _))))) (Nat.le_of_ble_eq_true rfl) ?_
              refine mw_p4 hM (fun w36 hM36 hF36 => ?_)
              obtain ⟨h18, h19, h20, h21, h22, h23, h24, h25, h26, h27, hs1, hs2, hik⟩ := id hM36
              refine mr_goto (tgt := 177) dX7_next_309 (by decide) ?_
              refine mr_weak [some (vR 18 0), some (vI c), some (vI le), some (vI 0), none] ⟨rfl, rfl, rfl, rfl, trivial⟩ ?_
              refine ih (i + 1) 0 w36 ⟨⟨by omega, by omega⟩, hrun', ⟨by first | exact Or.inl rfl | exact Or.inr rfl | assumption, ?_⟩⟩ (by omega) (hfin _ (by first | exact (mr_hs_s hi.1 (by omega)).trans (by rw [hTi]) | exact mr_hs_k (by omega)) (by first | exact (mr_nv_s hi.1 (by omega)).trans (by rw [hTi]) | exact mr_nv_k (by omega)) hM36) (hFr.tr hF36)
              · first
                  | exact ⟨fun _ x g1 g2 => by
                      by_cases e : x = i
                      · subst e; rw [hlet]; first | exact ⟨fun _ => by omega, fun _ => by omega⟩ | exact ⟨fun z => absurd z (by omega), fun z => absurd z (by omega)⟩
                      · exact (hgd.2.mp (by omega)) x g1 (by omega), fun _ => rfl⟩
                  | exact ⟨fun z => absurd z (by decide), fun z => absurd (hgd.2.mpr (fun x g1 g2 => z x g1 (by omega))) (by omega)⟩
                  | exact ⟨fun z => absurd z (by decide), fun z => by have z9 := z i (by omega) (by omega); rw [hlet] at z9; omega⟩
            · refine mr_aload_n dX7_next_282 rfl ?_
              refine mr_bipush dX7_next_283 rfl ?_
              refine mr_aload_n dX7_next_285 rfl ?_
              refine mr_get dX7_next_286 fl_X7_41 (by first | assumption | exact mr_up_same _ _ _ | (refine mr_lk ?_ (by first | assumption | decide); first | assumption | exact mr_up_same _ _ _ | (refine mr_lk ?_ (by first | assumption | decide); first | assumption | exact mr_up_same _ _ _ | (refine mr_lk ?_ (by first | assumption | decide); first | assumption | exact mr_up_same _ _ _ | (refine mr_lk ?_ (by first | assumption | decide); first | assumption | exact mr_up_same _ _ _))))) rfl ?_
              refine mr_imul dX7_next_289 ?_
              refine mr_iload dX7_next_290 rfl ?_
              refine mr_iadd dX7_next_292 ?_
              refine mr_bipush dX7_next_293 rfl ?_
              refine mr_isub dX7_next_295 ?_
              refine mr_put dX7_next_296 fl_X7_41 pf_X7_7 rfl rfl (by first | assumption | exact mr_up_same _ _ _ | (refine mr_lk ?_ (by first | assumption | decide); first | assumption | exact mr_up_same _ _ _ | (refine mr_lk ?_ (by first | assumption | decide); first | assumption | exact mr_up_same _ _ _ | (refine mr_lk ?_ (by first | assumption | decide); first | assumption | exact mr_up_same _ _ _ | (refine mr_lk ?_ (by first | assumption | decide); first | assumption | exact mr_up_same _ _ _))))) (Nat.le_of_ble_eq_true rfl) ?_
              refine mw_p7 hM (fun w37 hM37 hF37 => ?_)
              obtain ⟨h18, h19, h20, h21, h22, h23, h24, h25, h26, h27, hs1, hs2, hik⟩ := id hM37
              refine mr_aload_n dX7_next_299 rfl ?_
              refine mr_dup dX7_next_300 rfl ?_
              refine mr_get dX7_next_301 fl_X7_21 (by first | assumption | exact mr_up_same _ _ _ | (refine mr_lk ?_ (by first | assumption | decide); first | assumption | exact mr_up_same _ _ _ | (refine mr_lk ?_ (by first | assumption | decide); first | assumption | exact mr_up_same _ _ _ | (refine mr_lk ?_ (by first | assumption | decide); first | assumption | exact mr_up_same _ _ _ | (refine mr_lk ?_ (by first | assumption | decide); first | assumption | exact mr_up_same _ _ _))))) rfl ?_
              refine mr_iconst dX7_next_304 ?_
              refine mr_iadd dX7_next_305 ?_
              refine mr_put dX7_next_306 fl_X7_21 pf_X7_4 rfl rfl (by first | assumption | exact mr_up_same _ _ _ | (refine mr_lk ?_ (by first | assumption | decide); first | assumption | exact mr_up_same _ _ _ | (refine mr_lk ?_ (by first | assumption | decide); first | assumption | exact mr_up_same _ _ _ | (refine mr_lk ?_ (by first | assumption | decide); first | assumption | exact mr_up_same _ _ _ | (refine mr_lk ?_ (by first | assumption | decide); first | assumption | exact mr_up_same _ _ _))))) (Nat.le_of_ble_eq_true rfl) ?_
              refine mw_p4 hM37 (fun w38 hM38 hF38 => ?_)
              obtain ⟨h18, h19, h20, h21, h22, h23, h24, h25, h26, h27, hs1, hs2, hik⟩ := id hM38
              refine mr_goto (tgt := 177) dX7_next_309 (by decide) ?_
              refine mr_weak [some (vR 18 0), some (vI c), some (vI le), some (vI 0), none] ⟨rfl, rfl, rfl, rfl, trivial⟩ ?_
              refine ih (i + 1) 0 w38 ⟨⟨by omega, by omega⟩, hrun', ⟨by first | exact Or.inl rfl | exact Or.inr rfl | assumption, ?_⟩⟩ (by omega) (hfin _ (by first | exact (mr_hs_s hi.1 (by omega)).trans (by rw [hTi]) | exact mr_hs_k (by omega)) (by first | exact (mr_nv_s hi.1 (by omega)).trans (by rw [hTi]) | exact mr_nv_k (by omega)) hM38) (hFr.tr (hF37.tr hF38))
              · first
                  | exact ⟨fun _ x g1 g2 => by
                      by_cases e : x = i
                      · subst e; rw [hlet]; first | exact ⟨fun _ => by omega, fun _ => by omega⟩ | exact ⟨fun z => absurd z (by omega), fun z => absurd z (by omega)⟩
                      · exact (hgd.2.mp (by omega)) x g1 (by omega), fun _ => rfl⟩
                  | exact ⟨fun z => absurd z (by decide), fun z => absurd (hgd.2.mpr (fun x g1 g2 => z x g1 (by omega))) (by omega)⟩
                  | exact ⟨fun z => absurd z (by decide), fun z => by have z9 := z i (by omega) (by omega); rw [hlet] at z9; omega⟩
          · refine mr_aload_n dX7_next_249 rfl ?_
            refine mr_ldc2 dX7_next_250 kc_X7_48 ?_
            refine mr_aload_n dX7_next_253 rfl ?_
            refine mr_get dX7_next_254 fl_X7_37 (by first | assumption | exact mr_up_same _ _ _ | (refine mr_lk ?_ (by first | assumption | decide); first | assumption | exact mr_up_same _ _ _ | (refine mr_lk ?_ (by first | assumption | decide); first | assumption | exact mr_up_same _ _ _ | (refine mr_lk ?_ (by first | assumption | decide); first | assumption | exact mr_up_same _ _ _ | (refine mr_lk ?_ (by first | assumption | decide); first | assumption | exact mr_up_same _ _ _))))) rfl ?_
            refine mr_lmul dX7_next_257 ?_
            refine mr_iload dX7_next_258 rfl ?_
            refine mr_i2l dX7_next_260 hTR ?_
            refine mr_ladd dX7_next_261 ?_
            refine mr_ldc2 dX7_next_262 kc_X7_50 ?_
            refine mr_lsub dX7_next_265 ?_
            refine mr_put dX7_next_266 fl_X7_37 pf_X7_10 rfl rfl (by first | assumption | exact mr_up_same _ _ _ | (refine mr_lk ?_ (by first | assumption | decide); first | assumption | exact mr_up_same _ _ _ | (refine mr_lk ?_ (by first | assumption | decide); first | assumption | exact mr_up_same _ _ _ | (refine mr_lk ?_ (by first | assumption | decide); first | assumption | exact mr_up_same _ _ _ | (refine mr_lk ?_ (by first | assumption | decide); first | assumption | exact mr_up_same _ _ _))))) (Nat.le_of_ble_eq_true rfl) ?_
            refine mw_p10 hM (fun w39 hM39 hF39 => ?_)
            obtain ⟨h18, h19, h20, h21, h22, h23, h24, h25, h26, h27, hs1, hs2, hik⟩ := id hM39
            refine mr_aload_n dX7_next_269 rfl ?_
            refine mr_get dX7_next_270 fl_X7_21 (by first | assumption | exact mr_up_same _ _ _ | (refine mr_lk ?_ (by first | assumption | decide); first | assumption | exact mr_up_same _ _ _ | (refine mr_lk ?_ (by first | assumption | decide); first | assumption | exact mr_up_same _ _ _ | (refine mr_lk ?_ (by first | assumption | decide); first | assumption | exact mr_up_same _ _ _ | (refine mr_lk ?_ (by first | assumption | decide); first | assumption | exact mr_up_same _ _ _))))) rfl ?_
            refine mr_aload_n dX7_next_273 rfl ?_
            refine mr_get dX7_next_274 fl_X7_24 (by first | assumption | exact mr_up_same _ _ _ | (refine mr_lk ?_ (by first | assumption | decide); first | assumption | exact mr_up_same _ _ _ | (refine mr_lk ?_ (by first | assumption | decide); first | assumption | exact mr_up_same _ _ _ | (refine mr_lk ?_ (by first | assumption | decide); first | assumption | exact mr_up_same _ _ _ | (refine mr_lk ?_ (by first | assumption | decide); first | assumption | exact mr_up_same _ _ _))))) rfl ?_
            refine mr_isub dX7_next_277 ?_
            refine mr_iconst dX7_next_278 ?_
            refine mr_icmp_ge (tgt := 299) dX7_next_279 (by decide) ⟨by omega, by omega⟩ (by decide) (fun hc_279 => ?_) (fun hc_279 => ?_)
            · refine mr_aload_n dX7_next_299 rfl ?_
              refine mr_dup dX7_next_300 rfl ?_
              refine mr_get dX7_next_301 fl_X7_21 (by first | assumption | exact mr_up_same _ _ _ | (refine mr_lk ?_ (by first | assumption | decide); first | assumption | exact mr_up_same _ _ _ | (refine mr_lk ?_ (by first | assumption | decide); first | assumption | exact mr_up_same _ _ _ | (refine mr_lk ?_ (by first | assumption | decide); first | assumption | exact mr_up_same _ _ _ | (refine mr_lk ?_ (by first | assumption | decide); first | assumption | exact mr_up_same _ _ _))))) rfl ?_
              refine mr_iconst dX7_next_304 ?_
              refine mr_iadd dX7_next_305 ?_
              refine mr_put dX7_next_306 fl_X7_21 pf_X7_4 rfl rfl (by first | assumption | exact mr_up_same _ _ _ | (refine mr_lk ?_ (by first | assumption | decide); first | assumption | exact mr_up_same _ _ _ | (refine mr_lk ?_ (by first | assumption | decide); first | assumption | exact mr_up_same _ _ _ | (refine mr_lk ?_ (by first | assumption | decide); first | assumption | exact mr_up_same _ _ _ | (refine mr_lk ?_ (by first | assumption | decide); first | assumption | exact mr_up_same _ _ _))))) (Nat.le_of_ble_eq_true rfl) ?_
              refine mw_p4 hM39 (fun w40 hM40 hF40 => ?_)
              obtain ⟨h18, h19, h20, h21, h22, h23, h24, h25, h26, h27, hs1, hs2, hik⟩ := id hM40
              refine mr_goto (tgt := 177) dX7_next_309 (by decide) ?_
              refine mr_weak [some (vR 18 0), some (vI c), some (vI le), some (vI 0), none] ⟨rfl, rfl, rfl, rfl, trivial⟩ ?_
              refine ih (i + 1) 0 w40 ⟨⟨by omega, by omega⟩, hrun', ⟨by first | exact Or.inl rfl | exact Or.inr rfl | assumption, ?_⟩⟩ (by omega) (hfin _ (by first | exact (mr_hs_s hi.1 (by omega)).trans (by rw [hTi]) | exact mr_hs_k (by omega)) (by first | exact (mr_nv_s hi.1 (by omega)).trans (by rw [hTi]) | exact mr_nv_k (by omega)) hM40) (hFr.tr (hF39.tr hF40))
              · first
                  | exact ⟨fun _ x g1 g2 => by
                      by_cases e : x = i
                      · subst e; rw [hlet]; first | exact ⟨fun _ => by omega, fun _ => by omega⟩ | exact ⟨fun z => absurd z (by omega), fun z => absurd z (by omega)⟩
                      · exact (hgd.2.mp (by omega)) x g1 (by omega), fun _ => rfl⟩
                  | exact ⟨fun z => absurd z (by decide), fun z => absurd (hgd.2.mpr (fun x g1 g2 => z x g1 (by omega))) (by omega)⟩
                  | exact ⟨fun z => absurd z (by decide), fun z => by have z9 := z i (by omega) (by omega); rw [hlet] at z9; omega⟩
            · refine mr_aload_n dX7_next_282 rfl ?_
              refine mr_bipush dX7_next_283 rfl ?_
              refine mr_aload_n dX7_next_285 rfl ?_
              refine mr_get dX7_next_286 fl_X7_41 (by first | assumption | exact mr_up_same _ _ _ | (refine mr_lk ?_ (by first | assumption | decide); first | assumption | exact mr_up_same _ _ _ | (refine mr_lk ?_ (by first | assumption | decide); first | assumption | exact mr_up_same _ _ _ | (refine mr_lk ?_ (by first | assumption | decide); first | assumption | exact mr_up_same _ _ _ | (refine mr_lk ?_ (by first | assumption | decide); first | assumption | exact mr_up_same _ _ _))))) rfl ?_
              refine mr_imul dX7_next_289 ?_
              refine mr_iload dX7_next_290 rfl ?_
              refine mr_iadd dX7_next_292 ?_
              refine mr_bipush dX7_next_293 rfl ?_
              refine mr_isub dX7_next_295 ?_
              refine mr_put dX7_next_296 fl_X7_41 pf_X7_7 rfl rfl (by first | assumption | exact mr_up_same _ _ _ | (refine mr_lk ?_ (by first | assumption | decide); first | assumption | exact mr_up_same _ _ _ | (refine mr_lk ?_ (by first | assumption | decide); first | assumption | exact mr_up_same _ _ _ | (refine mr_lk ?_ (by first | assumption | decide); first | assumption | exact mr_up_same _ _ _ | (refine mr_lk ?_ (by first | assumption | decide); first | assumption | exact mr_up_same _ _ _))))) (Nat.le_of_ble_eq_true rfl) ?_
              refine mw_p7 hM39 (fun w41 hM41 hF41 => ?_)
              obtain ⟨h18, h19, h20, h21, h22, h23, h24, h25, h26, h27, hs1, hs2, hik⟩ := id hM41
              refine mr_aload_n dX7_next_299 rfl ?_
              refine mr_dup dX7_next_300 rfl ?_
              refine mr_get dX7_next_301 fl_X7_21 (by first | assumption | exact mr_up_same _ _ _ | (refine mr_lk ?_ (by first | assumption | decide); first | assumption | exact mr_up_same _ _ _ | (refine mr_lk ?_ (by first | assumption | decide); first | assumption | exact mr_up_same _ _ _ | (refine mr_lk ?_ (by first | assumption | decide); first | assumption | exact mr_up_same _ _ _ | (refine mr_lk ?_ (by first | assumption | decide); first | assumption | exact mr_up_same _ _ _))))) rfl ?_
              refine mr_iconst dX7_next_304 ?_
              refine mr_iadd dX7_next_305 ?_
              refine mr_put dX7_next_306 fl_X7_21 pf_X7_4 rfl rfl (by first | assumption | exact mr_up_same _ _ _ | (refine mr_lk ?_ (by first | assumption | decide); first | assumption | exact mr_up_same _ _ _ | (refine mr_lk ?_ (by first | assumption | decide); first | assumption | exact mr_up_same _ _ _ | (refine mr_lk ?_ (by first | assumption | decide); first | assumption | exact mr_up_same _ _ _ | (refine mr_lk ?_ (by first | assumption | decide); first | assumption | exact mr_up_same _ _ _))))) (Nat.le_of_ble_eq_true rfl) ?_
              refine mw_p4 hM41 (fun w42 hM42 hF42 => ?_)
              obtain ⟨h18, h19, h20, h21, h22, h23, h24, h25, h26, h27, hs1, hs2, hik⟩ := id hM42
              refine mr_goto (tgt := 177) dX7_next_309 (by decide) ?_
              refine mr_weak [some (vR 18 0), some (vI c), some (vI le), some (vI 0), none] ⟨rfl, rfl, rfl, rfl, trivial⟩ ?_
              refine ih (i + 1) 0 w42 ⟨⟨by omega, by omega⟩, hrun', ⟨by first | exact Or.inl rfl | exact Or.inr rfl | assumption, ?_⟩⟩ (by omega) (hfin _ (by first | exact (mr_hs_s hi.1 (by omega)).trans (by rw [hTi]) | exact mr_hs_k (by omega)) (by first | exact (mr_nv_s hi.1 (by omega)).trans (by rw [hTi]) | exact mr_nv_k (by omega)) hM42) (hFr.tr (hF39.tr (hF41.tr hF42)))
              · first
                  | exact ⟨fun _ x g1 g2 => by
                      by_cases e : x = i
                      · subst e; rw [hlet]; first | exact ⟨fun _ => by omega, fun _ => by omega⟩ | exact ⟨fun z => absurd z (by omega), fun z => absurd z (by omega)⟩
                      · exact (hgd.2.mp (by omega)) x g1 (by omega), fun _ => rfl⟩
                  | exact ⟨fun z => absurd z (by decide), fun z => absurd (hgd.2.mpr (fun x g1 g2 => z x g1 (by omega))) (by omega)⟩
                  | exact ⟨fun z => absurd z (by decide), fun z => by have z9 := z i (by omega) (by omega); rw [hlet] at z9; omega⟩
        · refine mr_iload dX7_next_220 rfl ?_
          refine mr_callS (as := [_]) dX7_next_222 (ok_X7_isLetter l G) ml_X7_30 cl_X7_isLetter cs_X7_isLetter (by decide) rfl rfl (Nat.le_of_ble_eq_true rfl) ?_
          refine ⟨_, rfl, hTR, ?_, ?_⟩
          · intro k3
            dsimp only [Option.toList_some, Option.toList_none, List.cons_append, List.nil_append]
            refine mr_iload_n dX7_next_225 rfl ?_
            refine mr_icmp_ne (tgt := 233) dX7_next_226 (by decide) ⟨by omega, by omega⟩ ⟨by omega, by omega⟩ (fun hc_226 => ?_) (fun hc_226 => ?_)
            · refine mr_iconst dX7_next_233 ?_
              refine mr_istore_n dX7_next_234 rfl (by decide) ?_
              refine mr_aload_n dX7_next_235 rfl ?_
              refine mr_get dX7_next_236 fl_X7_21 (by first | assumption | exact mr_up_same _ _ _ | (refine mr_lk ?_ (by first | assumption | decide); first | assumption | exact mr_up_same _ _ _ | (refine mr_lk ?_ (by first | assumption | decide); first | assumption | exact mr_up_same _ _ _ | (refine mr_lk ?_ (by first | assumption | decide); first | assumption | exact mr_up_same _ _ _ | (refine mr_lk ?_ (by first | assumption | decide); first | assumption | exact mr_up_same _ _ _))))) rfl ?_
              refine mr_aload_n dX7_next_239 rfl ?_
              refine mr_get dX7_next_240 fl_X7_24 (by first | assumption | exact mr_up_same _ _ _ | (refine mr_lk ?_ (by first | assumption | decide); first | assumption | exact mr_up_same _ _ _ | (refine mr_lk ?_ (by first | assumption | decide); first | assumption | exact mr_up_same _ _ _ | (refine mr_lk ?_ (by first | assumption | decide); first | assumption | exact mr_up_same _ _ _ | (refine mr_lk ?_ (by first | assumption | decide); first | assumption | exact mr_up_same _ _ _))))) rfl ?_
              refine mr_isub dX7_next_243 ?_
              refine mr_bipush dX7_next_244 rfl ?_
              refine mr_icmp_ge (tgt := 269) dX7_next_246 (by decide) ⟨by omega, by omega⟩ (by decide) (fun hc_246 => ?_) (fun hc_246 => ?_)
              · refine mr_aload_n dX7_next_269 rfl ?_
                refine mr_get dX7_next_270 fl_X7_21 (by first | assumption | exact mr_up_same _ _ _ | (refine mr_lk ?_ (by first | assumption | decide); first | assumption | exact mr_up_same _ _ _ | (refine mr_lk ?_ (by first | assumption | decide); first | assumption | exact mr_up_same _ _ _ | (refine mr_lk ?_ (by first | assumption | decide); first | assumption | exact mr_up_same _ _ _ | (refine mr_lk ?_ (by first | assumption | decide); first | assumption | exact mr_up_same _ _ _))))) rfl ?_
                refine mr_aload_n dX7_next_273 rfl ?_
                refine mr_get dX7_next_274 fl_X7_24 (by first | assumption | exact mr_up_same _ _ _ | (refine mr_lk ?_ (by first | assumption | decide); first | assumption | exact mr_up_same _ _ _ | (refine mr_lk ?_ (by first | assumption | decide); first | assumption | exact mr_up_same _ _ _ | (refine mr_lk ?_ (by first | assumption | decide); first | assumption | exact mr_up_same _ _ _ | (refine mr_lk ?_ (by first | assumption | decide); first | assumption | exact mr_up_same _ _ _))))) rfl ?_
                refine mr_isub dX7_next_277 ?_
                refine mr_iconst dX7_next_278 ?_
                refine mr_icmp_ge (tgt := 299) dX7_next_279 (by decide) ⟨by omega, by omega⟩ (by decide) (fun hc_279 => ?_) (fun hc_279 => ?_)
                · refine mr_aload_n dX7_next_299 rfl ?_
                  refine mr_dup dX7_next_300 rfl ?_
                  refine mr_get dX7_next_301 fl_X7_21 (by first | assumption | exact mr_up_same _ _ _ | (refine mr_lk ?_ (by first | assumption | decide); first | assumption | exact mr_up_same _ _ _ | (refine mr_lk ?_ (by first | assumption | decide); first | assumption | exact mr_up_same _ _ _ | (refine mr_lk ?_ (by first | assumption | decide); first | assumption | exact mr_up_same _ _ _ | (refine mr_lk ?_ (by first | assumption | decide); first | assumption | exact mr_up_same _ _ _))))) rfl ?_
                  refine mr_iconst dX7_next_304 ?_
                  refine mr_iadd dX7_next_305 ?_
                  refine mr_put dX7_next_306 fl_X7_21 pf_X7_4 rfl rfl (by first | assumption | exact mr_up_same _ _ _ | (refine mr_lk ?_ (by first | assumption | decide); first | assumption | exact mr_up_same _ _ _ | (refine mr_lk ?_ (by first | assumption | decide); first | assumption | exact mr_up_same _ _ _ | (refine mr_lk ?_ (by first | assumption | decide); first | assumption | exact mr_up_same _ _ _ | (refine mr_lk ?_ (by first | assumption | decide); first | assumption | exact mr_up_same _ _ _))))) (Nat.le_of_ble_eq_true rfl) ?_
                  refine mw_p4 hM (fun w43 hM43 hF43 => ?_)
                  obtain ⟨h18, h19, h20, h21, h22, h23, h24, h25, h26, h27, hs1, hs2, hik⟩ := id hM43
                  refine mr_goto (tgt := 177) dX7_next_309 (by decide) ?_
                  refine mr_weak [some (vR 18 0), some (vI c), some (vI le), some (vI 0), none] ⟨rfl, rfl, rfl, rfl, trivial⟩ ?_
                  refine ih (i + 1) 0 w43 ⟨⟨by omega, by omega⟩, hrun', ⟨by first | exact Or.inl rfl | exact Or.inr rfl | assumption, ?_⟩⟩ (by omega) (hfin _ (by first | exact (mr_hs_s hi.1 (by omega)).trans (by rw [hTi]) | exact mr_hs_k (by omega)) (by first | exact (mr_nv_s hi.1 (by omega)).trans (by rw [hTi]) | exact mr_nv_k (by omega)) hM43) (hFr.tr hF43)
                  · first
                      | exact ⟨fun _ x g1 g2 => by
                          by_cases e : x = i
                          · subst e; rw [hlet]; first | exact ⟨fun _ => by omega, fun _ => by omega⟩ | exact ⟨fun z => absurd z (by omega), fun z => absurd z (by omega)⟩
                          · exact (hgd.2.mp (by omega)) x g1 (by omega), fun _ => rfl⟩
                      | exact ⟨fun z => absurd z (by decide), fun z => absurd (hgd.2.mpr (fun x g1 g2 => z x g1 (by omega))) (by omega)⟩
                      | exact ⟨fun z => absurd z (by decide), fun z => by have z9 := z i (by omega) (by omega); rw [hlet] at z9; omega⟩
                · refine mr_aload_n dX7_next_282 rfl ?_
                  refine mr_bipush dX7_next_283 rfl ?_
                  refine mr_aload_n dX7_next_285 rfl ?_
                  refine mr_get dX7_next_286 fl_X7_41 (by first | assumption | exact mr_up_same _ _ _ | (refine mr_lk ?_ (by first | assumption | decide); first | assumption | exact mr_up_same _ _ _ | (refine mr_lk ?_ (by first | assumption | decide); first | assumption | exact mr_up_same _ _ _ | (refine mr_lk ?_ (by first | assumption | decide); first | assumption | exact mr_up_same _ _ _ | (refine mr_lk ?_ (by first | assumption | decide); first | assumption | exact mr_up_same _ _ _))))) rfl ?_
                  refine mr_imul dX7_next_289 ?_
                  refine mr_iload dX7_next_290 rfl ?_
                  refine mr_iadd dX7_next_292 ?_
                  refine mr_bipush dX7_next_293 rfl ?_
                  refine mr_isub dX7_next_295 ?_
                  refine mr_put dX7_next_296 fl_X7_41 pf_X7_7 rfl rfl (by first | assumption | exact mr_up_same _ _ _ | (refine mr_lk ?_ (by first | assumption | decide); first | assumption | exact mr_up_same _ _ _ | (refine mr_lk ?_ (by first | assumption | decide); first | assumption | exact mr_up_same _ _ _ | (refine mr_lk ?_ (by first | assumption | decide); first | assumption | exact mr_up_same _ _ _ | (refine mr_lk ?_ (by first | assumption | decide); first | assumption | exact mr_up_same _ _ _))))) (Nat.le_of_ble_eq_true rfl) ?_
                  refine mw_p7 hM (fun w44 hM44 hF44 => ?_)
                  obtain ⟨h18, h19, h20, h21, h22, h23, h24, h25, h26, h27, hs1, hs2, hik⟩ := id hM44
                  refine mr_aload_n dX7_next_299 rfl ?_
                  refine mr_dup dX7_next_300 rfl ?_
                  refine mr_get dX7_next_301 fl_X7_21 (by first | assumption | exact mr_up_same _ _ _ | (refine mr_lk ?_ (by first | assumption | decide); first | assumption | exact mr_up_same _ _ _ | (refine mr_lk ?_ (by first | assumption | decide); first | assumption | exact mr_up_same _ _ _ | (refine mr_lk ?_ (by first | assumption | decide); first | assumption | exact mr_up_same _ _ _ | (refine mr_lk ?_ (by first | assumption | decide); first | assumption | exact mr_up_same _ _ _))))) rfl ?_
                  refine mr_iconst dX7_next_304 ?_
                  refine mr_iadd dX7_next_305 ?_
                  refine mr_put dX7_next_306 fl_X7_21 pf_X7_4 rfl rfl (by first | assumption | exact mr_up_same _ _ _ | (refine mr_lk ?_ (by first | assumption | decide); first | assumption | exact mr_up_same _ _ _ | (refine mr_lk ?_ (by first | assumption | decide); first | assumption | exact mr_up_same _ _ _ | (refine mr_lk ?_ (by first | assumption | decide); first | assumption | exact mr_up_same _ _ _ | (refine mr_lk ?_ (by first | assumption | decide); first | assumption | exact mr_up_same _ _ _))))) (Nat.le_of_ble_eq_true rfl) ?_
                  refine mw_p4 hM44 (fun w45 hM45 hF45 => ?_)
                  obtain ⟨h18, h19, h20, h21, h22, h23, h24, h25, h26, h27, hs1, hs2, hik⟩ := id hM45
                  refine mr_goto (tgt := 177) dX7_next_309 (by decide) ?_
                  refine mr_weak [some (vR 18 0), some (vI c), some (vI le), some (vI 0), none] ⟨rfl, rfl, rfl, rfl, trivial⟩ ?_
                  refine ih (i + 1) 0 w45 ⟨⟨by omega, by omega⟩, hrun', ⟨by first | exact Or.inl rfl | exact Or.inr rfl | assumption, ?_⟩⟩ (by omega) (hfin _ (by first | exact (mr_hs_s hi.1 (by omega)).trans (by rw [hTi]) | exact mr_hs_k (by omega)) (by first | exact (mr_nv_s hi.1 (by omega)).trans (by rw [hTi]) | exact mr_nv_k (by omega)) hM45) (hFr.tr (hF44.tr hF45))
                  · first
                      | exact ⟨fun _ x g1 g2 => by
                          by_cases e : x = i
                          · subst e; rw [hlet]; first | exact ⟨fun _ => by omega, fun _ => by omega⟩ | exact ⟨fun z => absurd z (by omega), fun z => absurd z (by omega)⟩
                          · exact (hgd.2.mp (by omega)) x g1 (by omega), fun _ => rfl⟩
                      | exact ⟨fun z => absurd z (by decide), fun z => absurd (hgd.2.mpr (fun x g1 g2 => z x g1 (by omega))) (by omega)⟩
                      | exact ⟨fun z => absurd z (by decide), fun z => by have z9 := z i (by omega) (by omega); rw [hlet] at z9; omega⟩
              · refine mr_aload_n dX7_next_249 rfl ?_
                refine mr_ldc2 dX7_next_250 kc_X7_48 ?_
                refine mr_aload_n dX7_next_253 rfl ?_
                refine mr_get dX7_next_254 fl_X7_37 (by first | assumption | exact mr_up_same _ _ _ | (refine mr_lk ?_ (by first | assumption | decide); first | assumption | exact mr_up_same _ _ _ | (refine mr_lk ?_ (by first | assumption | decide); first | assumption | exact mr_up_same _ _ _ | (refine mr_lk ?_ (by first | assumption | decide); first | assumption | exact mr_up_same _ _ _ | (refine mr_lk ?_ (by first | assumption | decide); first | assumption | exact mr_up_same _ _ _))))) rfl ?_
                refine mr_lmul dX7_next_257 ?_
                refine mr_iload dX7_next_258 rfl ?_
                refine mr_i2l dX7_next_260 hTR ?_
                refine mr_ladd dX7_next_261 ?_
                refine mr_ldc2 dX7_next_262 kc_X7_50 ?_
                refine mr_lsub dX7_next_265 ?_
                refine mr_put dX7_next_266 fl_X7_37 pf_X7_10 rfl rfl (by first | assumption | exact mr_up_same _ _ _ | (refine mr_lk ?_ (by first | assumption | decide); first | assumption | exact mr_up_same _ _ _ | (refine mr_lk ?_ (by first | assumption | decide); first | assumption | exact mr_up_same _ _ _ | (refine mr_lk ?_ (by first | assumption | decide); first | assumption | exact mr_up_same _ _ _ | (refine mr_lk ?_ (by first | assumption | decide); first | assumption | exact mr_up_same _ _ _))))) (Nat.le_of_ble_eq_true rfl) ?_
                refine mw_p10 hM (fun w46 hM46 hF46 => ?_)
                obtain ⟨h18, h19, h20, h21, h22, h23, h24, h25, h26, h27, hs1, hs2, hik⟩ := id hM46
                refine mr_aload_n dX7_next_269 rfl ?_
                refine mr_get dX7_next_270 fl_X7_21 (by first | assumption | exact mr_up_same _ _ _ | (refine mr_lk ?_ (by first | assumption | decide); first | assumption | exact mr_up_same _ _ _ | (refine mr_lk ?_ (by first | assumption | decide); first | assumption | exact mr_up_same _ _ _ | (refine mr_lk ?_ (by first | assumption | decide); first | assumption | exact mr_up_same _ _ _ | (refine mr_lk ?_ (by first | assumption | decide); first | assumption | exact mr_up_same _ _ _))))) rfl ?_
                refine mr_aload_n dX7_next_273 rfl ?_
                refine mr_get dX7_next_274 fl_X7_24 (by first | assumption | exact mr_up_same _ _ _ | (refine mr_lk ?_ (by first | assumption | decide); first | assumption | exact mr_up_same _ _ _ | (refine mr_lk ?_ (by first | assumption | decide); first | assumption | exact mr_up_same _ _ _ | (refine mr_lk ?_ (by first | assumption | decide); first | assumption | exact mr_up_same _ _ _ | (refine mr_lk ?_ (by first | assumption | decide); first | assumption | exact mr_up_same _ _ _))))) rfl ?_
                refine mr_isub dX7_next_277 ?_
                refine mr_iconst dX7_next_278 ?_
                refine mr_icmp_ge (tgt := 299) dX7_next_279 (by decide) ⟨by omega, by omega⟩ (by decide) (fun hc_279 => ?_) (fun hc_279 => ?_)
                · refine mr_aload_n dX7_next_299 rfl ?_
                  refine mr_dup dX7_next_300 rfl ?_
                  refine mr_get dX7_next_301 fl_X7_21 (by first | assumption | exact mr_up_same _ _ _ | (refine mr_lk ?_ (by first | assumption | decide); first | assumption | exact mr_up_same _ _ _ | (refine mr_lk ?_ (by first | assumption | decide); first | assumption | exact mr_up_same _ _ _ | (refine mr_lk ?_ (by first | assumption | decide); first | assumption | exact mr_up_same _ _ _ | (refine mr_lk ?_ (by first | assumption | decide); first | assumption | exact mr_up_same _ _ _))))) rfl ?_
                  refine mr_iconst dX7_next_304 ?_
                  refine mr_iadd dX7_next_305 ?_
                  refine mr_put dX7_next_306 fl_X7_21 pf_X7_4 rfl rfl (by first | assumption | exact mr_up_same _ _ _ | (refine mr_lk ?_ (by first | assumption | decide); first | assumption | exact mr_up_same _ _ _ | (refine mr_lk ?_ (by first | assumption | decide); first | assumption | exact mr_up_same _ _ _ | (refine mr_lk ?_ (by first | assumption | decide); first | assumption | exact mr_up_same _ _ _ | (refine mr_lk ?_ (by first | assumption | decide); first | assumption | exact mr_up_same _ _ _))))) (Nat.le_of_ble_eq_true rfl) ?_
                  refine mw_p4 hM46 (fun w47 hM47 hF47 => ?_)
                  obtain ⟨h18, h19, h20, h21, h22, h23, h24, h25, h26, h27, hs1, hs2, hik⟩ := id hM47
                  refine mr_goto (tgt := 177) dX7_next_309 (by decide) ?_
                  refine mr_weak [some (vR 18 0), some (vI c), some (vI le), some (vI 0), none] ⟨rfl, rfl, rfl, rfl, trivial⟩ ?_
                  refine ih (i + 1) 0 w47 ⟨⟨by omega, by omega⟩, hrun', ⟨by first | exact Or.inl rfl | exact Or.inr rfl | assumption, ?_⟩⟩ (by omega) (hfin _ (by first | exact (mr_hs_s hi.1 (by omega)).trans (by rw [hTi]) | exact mr_hs_k (by omega)) (by first | exact (mr_nv_s hi.1 (by omega)).trans (by rw [hTi]) | exact mr_nv_k (by omega)) hM47) (hFr.tr (hF46.tr hF47))
                  · first
                      | exact ⟨fun _ x g1 g2 => by
                          by_cases e : x = i
                          · subst e; rw [hlet]; first | exact ⟨fun _ => by omega, fun _ => by omega⟩ | exact ⟨fun z => absurd z (by omega), fun z => absurd z (by omega)⟩
                          · exact (hgd.2.mp (by omega)) x g1 (by omega), fun _ => rfl⟩
                      | exact ⟨fun z => absurd z (by decide), fun z => absurd (hgd.2.mpr (fun x g1 g2 => z x g1 (by omega))) (by omega)⟩
                      | exact ⟨fun z => absurd z (by decide), fun z => by have z9 := z i (by omega) (by omega); rw [hlet] at z9; omega⟩
                · refine mr_aload_n dX7_next_282 rfl ?_
                  refine mr_bipush dX7_next_283 rfl ?_
                  refine mr_aload_n dX7_next_285 rfl ?_
                  refine mr_get dX7_next_286 fl_X7_41 (by first | assumption | exact mr_up_same _ _ _ | (refine mr_lk ?_ (by first | assumption | decide); first | assumption | exact mr_up_same _ _ _ | (refine mr_lk ?_ (by first | assumption | decide); first | assumption | exact mr_up_same _ _ _ | (refine mr_lk ?_ (by first | assumption | decide); first | assumption | exact mr_up_same _ _ _ | (refine mr_lk ?_ (by first | assumption | decide); first | assumption | exact mr_up_same _ _ _))))) rfl ?_
                  refine mr_imul dX7_next_289 ?_
                  refine mr_iload dX7_next_290 rfl ?_
                  refine mr_iadd dX7_next_292 ?_
                  refine mr_bipush dX7_next_293 rfl ?_
                  refine mr_isub dX7_next_295 ?_
                  refine mr_put dX7_next_296 fl_X7_41 pf_X7_7 rfl rfl (by first | assumption | exact mr_up_same _ _ _ | (refine mr_lk ?_ (by first | assumption | decide); first | assumption | exact mr_up_same _ _ _ | (refine mr_lk ?_ (by first | assumption | decide); first | assumption | exact mr_up_same _ _ _ | (refine mr_lk ?_ (by first | assumption | decide); first | assumption | exact mr_up_same _ _ _ | (refine mr_lk ?_ (by first | assumption | decide); first | assumption | exact mr_up_same _ _ _))))) (Nat.le_of_ble_eq_true rfl) ?_
                  refine mw_p7 hM46 (fun w48 hM48 hF48 => ?_)
                  obtain ⟨h18, h19, h20, h21, h22, h23, h24, h25, h26, h27, hs1, hs2, hik⟩ := id hM48
                  refine mr_aload_n dX7_next_299 rfl ?_
                  refine mr_dup dX7_next_300 rfl ?_
                  refine mr_get dX7_next_301 fl_X7_21 (by first | assumption | exact mr_up_same _ _ _ | (refine mr_lk ?_ (by first | assumption | decide); first | assumption | exact mr_up_same _ _ _ | (refine mr_lk ?_ (by first | assumption | decide); first | assumption | exact mr_up_same _ _ _ | (refine mr_lk ?_ (by first | assumption | decide); first | assumption | exact mr_up_same _ _ _ | (refine mr_lk ?_ (by first | assumption | decide); first | assumption | exact mr_up_same _ _ _))))) rfl ?_
                  refine mr_iconst dX7_next_304 ?_
                  refine mr_iadd dX7_next_305 ?_
                  refine mr_put dX7_next_306 fl_X7_21 pf_X7_4 rfl rfl (by first | assumption | exact mr_up_same _ _ _ | (refine mr_lk ?_ (by first | assumption | decide); first | assumption | exact mr_up_same _ _ _ | (refine mr_lk ?_ (by first | assumption | decide); first | assumption | exact mr_up_same _ _ _ | (refine mr_lk ?_ (by first | assumption | decide); first | assumption | exact mr_up_same _ _ _ | (refine mr_lk ?_ (by first | assumption | decide); first | assumption | exact mr_up_same _ _ _))))) (Nat.le_of_ble_eq_true rfl) ?_
                  refine mw_p4 hM48 (fun w49 hM49 hF49 => ?_)
                  obtain ⟨h18, h19, h20, h21, h22, h23, h24, h25, h26, h27, hs1, hs2, hik⟩ := id hM49
                  refine mr_goto (tgt := 177) dX7_next_309 (by decide) ?_
                  refine mr_weak [some (vR 18 0), some (vI c), some (vI le), some (vI 0), none] ⟨rfl, rfl, rfl, rfl, trivial⟩ ?_
                  refine ih (i + 1) 0 w49 ⟨⟨by omega, by omega⟩, hrun', ⟨by first | exact Or.inl rfl | exact Or.inr rfl | assumption, ?_⟩⟩ (by omega) (hfin _ (by first | exact (mr_hs_s hi.1 (by omega)).trans (by rw [hTi]) | exact mr_hs_k (by omega)) (by first | exact (mr_nv_s hi.1 (by omega)).trans (by rw [hTi]) | exact mr_nv_k (by omega)) hM49) (hFr.tr (hF46.tr (hF48.tr hF49)))
                  · first
                      | exact ⟨fun _ x g1 g2 => by
                          by_cases e : x = i
                          · subst e; rw [hlet]; first | exact ⟨fun _ => by omega, fun _ => by omega⟩ | exact ⟨fun z => absurd z (by omega), fun z => absurd z (by omega)⟩
                          · exact (hgd.2.mp (by omega)) x g1 (by omega), fun _ => rfl⟩
                      | exact ⟨fun z => absurd z (by decide), fun z => absurd (hgd.2.mpr (fun x g1 g2 => z x g1 (by omega))) (by omega)⟩
                      | exact ⟨fun z => absurd z (by decide), fun z => by have z9 := z i (by omega) (by omega); rw [hlet] at z9; omega⟩
            · refine mr_iconst dX7_next_229 ?_
              refine mr_goto (tgt := 234) dX7_next_230 (by decide) ?_
              refine mr_istore_n dX7_next_234 rfl (by decide) ?_
              refine mr_aload_n dX7_next_235 rfl ?_
              refine mr_get dX7_next_236 fl_X7_21 (by first | assumption | exact mr_up_same _ _ _ | (refine mr_lk ?_ (by first | assumption | decide); first | assumption | exact mr_up_same _ _ _ | (refine mr_lk ?_ (by first | assumption | decide); first | assumption | exact mr_up_same _ _ _ | (refine mr_lk ?_ (by first | assumption | decide); first | assumption | exact mr_up_same _ _ _ | (refine mr_lk ?_ (by first | assumption | decide); first | assumption | exact mr_up_same _ _ _))))) rfl ?_
              refine mr_aload_n dX7_next_239 rfl ?_
              refine mr_get dX7_next_240 fl_X7_24 (by first | assumption | exact mr_up_same _ _ _ | (refine mr_lk ?_ (by first | assumption | decide); first | assumption | exact mr_up_same _ _ _ | (refine mr_lk ?_ (by first | assumption | decide); first | assumption | exact mr_up_same _ _ _ | (refine mr_lk ?_ (by first | assumption | decide); first | assumption | exact mr_up_same _ _ _ | (refine mr_lk ?_ (by first | assumption | decide); first | assumption | exact mr_up_same _ _ _))))) rfl ?_
              refine mr_isub dX7_next_243 ?_
              refine mr_bipush dX7_next_244 rfl ?_
              refine mr_icmp_ge (tgt := 269) dX7_next_246 (by decide) ⟨by omega, by omega⟩ (by decide) (fun hc_246 => ?_) (fun hc_246 => ?_)
              · refine mr_aload_n dX7_next_269 rfl ?_
                refine mr_get dX7_next_270 fl_X7_21 (by first | assumption | exact mr_up_same _ _ _ | (refine mr_lk ?_ (by first | assumption | decide); first | assumption | exact mr_up_same _ _ _ | (refine mr_lk ?_ (by first | assumption | decide); first | assumption | exact mr_up_same _ _ _ | (refine mr_lk ?_ (by first | assumption | decide); first | assumption | exact mr_up_same _ _ _ | (refine mr_lk ?_ (by first | assumption | decide); first | assumption | exact mr_up_same _ _ _))))) rfl ?_
                refine mr_aload_n dX7_next_273 rfl ?_
                refine mr_get dX7_next_274 fl_X7_24 (by first | assumption | exact mr_up_same _ _ _ | (refine mr_lk ?_ (by first | assumption | decide); first | assumption | exact mr_up_same _ _ _ | (refine mr_lk ?_ (by first | assumption | decide); first | assumption | exact mr_up_same _ _ _ | (refine mr_lk ?_ (by first | assumption | decide); first | assumption | exact mr_up_same _ _ _ | (refine mr_lk ?_ (by first | assumption | decide); first | assumption | exact mr_up_same _ _ _))))) rfl ?_
                refine mr_isub dX7_next_277 ?_
                refine mr_iconst dX7_next_278 ?_
                refine mr_icmp_ge (tgt := 299) dX7_next_279 (by decide) ⟨by omega, by omega⟩ (by decide) (fun hc_279 => ?_) (fun hc_279 => ?_)
                · refine mr_aload_n dX7_next_299 rfl ?_
                  refine mr_dup dX7_next_300 rfl ?_
                  refine mr_get dX7_next_301 fl_X7_21 (by first | assumption | exact mr_up_same _ _ _ | (refine mr_lk ?_ (by first | assumption | decide); first | assumption | exact mr_up_same _ _ _ | (refine mr_lk ?_ (by first | assumption | decide); first | assumption | exact mr_up_same _ _ _ | (refine mr_lk ?_ (by first | assumption | decide); first | assumption | exact mr_up_same _ _ _ | (refine mr_lk ?_ (by first | assumption | decide); first | assumption | exact mr_up_same _ _ _))))) rfl ?_
                  refine mr_iconst dX7_next_304 ?_
                  refine mr_iadd dX7_next_305 ?_
                  refine mr_put dX7_next_306 fl_X7_21 pf_X7_4 rfl rfl (by first | assumption | exact mr_up_same _ _ _ | (refine mr_lk ?_ (by first | assumption | decide); first | assumption | exact mr_up_same _ _ _ | (refine mr_lk ?_ (by first | assumption | decide); first | assumption | exact mr_up_same _ _ _ | (refine mr_lk ?_ (by first | assumption | decide); first | assumption | exact mr_up_same _ _ _ | (refine mr_lk ?_ (by first | assumption | decide); first | assumption | exact mr_up_same _ _ _))))) (Nat.le_of_ble_eq_true rfl) ?_
                  refine mw_p4 hM (fun w50 hM50 hF50 => ?_)
                  obtain ⟨h18, h19, h20, h21, h22, h23, h24, h25, h26, h27, hs1, hs2, hik⟩ := id hM50
                  refine mr_goto (tgt := 177) dX7_next_309 (by decide) ?_
                  refine mr_weak [some (vR 18 0), some (vI c), some (vI le), some (vI 1), none] ⟨rfl, rfl, rfl, rfl, trivial⟩ ?_
                  refine ih (i + 1) 1 w50 ⟨⟨by omega, by omega⟩, hrun', ⟨by first | exact Or.inl rfl | exact Or.inr rfl | assumption, ?_⟩⟩ (by omega) (hfin _ (by first | exact (mr_hs_s hi.1 (by omega)).trans (by rw [hTi]) | exact mr_hs_k (by omega)) (by first | exact (mr_nv_s hi.1 (by omega)).trans (by rw [hTi]) | exact mr_nv_k (by omega)) hM50) (hFr.tr hF50)
                  · first
                      | exact ⟨fun _ x g1 g2 => by
                          by_cases e : x = i
                          · subst e; rw [hlet]; first | exact ⟨fun _ => by omega, fun _ => by omega⟩ | exact ⟨fun z => absurd z (by omega), fun z => absurd z (by omega)⟩
                          · exact (hgd.2.mp (by omega)) x g1 (by omega), fun _ => rfl⟩
                      | exact ⟨fun z => absurd z (by decide), fun z => absurd (hgd.2.mpr (fun x g1 g2 => z x g1 (by omega))) (by omega)⟩
                      | exact ⟨fun z => absurd z (by decide), fun z => by have z9 := z i (by omega) (by omega); rw [hlet] at z9; omega⟩
                · refine mr_aload_n dX7_next_282 rfl ?_
                  refine mr_bipush dX7_next_283 rfl ?_
                  refine mr_aload_n dX7_next_285 rfl ?_
                  refine mr_get dX7_next_286 fl_X7_41 (by first | assumption | exact mr_up_same _ _ _ | (refine mr_lk ?_ (by first | assumption | decide); first | assumption | exact mr_up_same _ _ _ | (refine mr_lk ?_ (by first | assumption | decide); first | assumption | exact mr_up_same _ _ _ | (refine mr_lk ?_ (by first | assumption | decide); first | assumption | exact mr_up_same _ _ _ | (refine mr_lk ?_ (by first | assumption | decide); first | assumption | exact mr_up_same _ _ _))))) rfl ?_
                  refine mr_imul dX7_next_289 ?_
                  refine mr_iload dX7_next_290 rfl ?_
                  refine mr_iadd dX7_next_292 ?_
                  refine mr_bipush dX7_next_293 rfl ?_
                  refine mr_isub dX7_next_295 ?_
                  refine mr_put dX7_next_296 fl_X7_41 pf_X7_7 rfl rfl (by first | assumption | exact mr_up_same _ _ _ | (refine mr_lk ?_ (by first | assumption | decide); first | assumption | exact mr_up_same _ _ _ | (refine mr_lk ?_ (by first | assumption | decide); first | assumption | exact mr_up_same _ _ _ | (refine mr_lk ?_ (by first | assumption | decide); first | assumption | exact mr_up_same _ _ _ | (refine mr_lk ?_ (by first | assumption | decide); first | assumption | exact mr_up_same _ _ _))))) (Nat.le_of_ble_eq_true rfl) ?_
                  refine mw_p7 hM (fun w51 hM51 hF51 => ?_)
                  obtain ⟨h18, h19, h20, h21, h22, h23, h24, h25, h26, h27, hs1, hs2, hik⟩ := id hM51
                  refine mr_aload_n dX7_next_299 rfl ?_
                  refine mr_dup dX7_next_300 rfl ?_
                  refine mr_get dX7_next_301 fl_X7_21 (by first | assumption | exact mr_up_same _ _ _ | (refine mr_lk ?_ (by first | assumption | decide); first | assumption | exact mr_up_same _ _ _ | (refine mr_lk ?_ (by first | assumption | decide); first | assumption | exact mr_up_same _ _ _ | (refine mr_lk ?_ (by first | assumption | decide); first | assumption | exact mr_up_same _ _ _ | (refine mr_lk ?_ (by first | assumption | decide); first | assumption | exact mr_up_same _ _ _))))) rfl ?_
                  refine mr_iconst dX7_next_304 ?_
                  refine mr_iadd dX7_next_305 ?_
                  refine mr_put dX7_next_306 fl_X7_21 pf_X7_4 rfl rfl (by first | assumption | exact mr_up_same _ _ _ | (refine mr_lk ?_ (by first | assumption | decide); first | assumption | exact mr_up_same _ _ _ | (refine mr_lk ?_ (by first | assumption | decide); first | assumption | exact mr_up_same _ _ _ | (refine mr_lk ?_ (by first | assumption | decide); first | assumption | exact mr_up_same _ _ _ | (refine mr_lk ?_ (by first | assumption | decide); first | assumption | exact mr_up_same _ _ _))))) (Nat.le_of_ble_eq_true rfl) ?_
                  refine mw_p4 hM51 (fun w52 hM52 hF52 => ?_)
                  obtain ⟨h18, h19, h20, h21, h22, h23, h24, h25, h26, h27, hs1, hs2, hik⟩ := id hM52
                  refine mr_goto (tgt := 177) dX7_next_309 (by decide) ?_
                  refine mr_weak [some (vR 18 0), some (vI c), some (vI le), some (vI 1), none] ⟨rfl, rfl, rfl, rfl, trivial⟩ ?_
                  refine ih (i + 1) 1 w52 ⟨⟨by omega, by omega⟩, hrun', ⟨by first | exact Or.inl rfl | exact Or.inr rfl | assumption, ?_⟩⟩ (by omega) (hfin _ (by first | exact (mr_hs_s hi.1 (by omega)).trans (by rw [hTi]) | exact mr_hs_k (by omega)) (by first | exact (mr_nv_s hi.1 (by omega)).trans (by rw [hTi]) | exact mr_nv_k (by omega)) hM52) (hFr.tr (hF51.tr hF52))
                  · first
                      | exact ⟨fun _ x g1 g2 => by
                          by_cases e : x = i
                          · subst e; rw [hlet]; first | exact ⟨fun _ => by omega, fun _ => by omega⟩ | exact ⟨fun z => absurd z (by omega), fun z => absurd z (by omega)⟩
                          · exact (hgd.2.mp (by omega)) x g1 (by omega), fun _ => rfl⟩
                      | exact ⟨fun z => absurd z (by decide), fun z => absurd (hgd.2.mpr (fun x g1 g2 => z x g1 (by omega))) (by omega)⟩
                      | exact ⟨fun z => absurd z (by decide), fun z => by have z9 := z i (by omega) (by omega); rw [hlet] at z9; omega⟩
              · refine mr_aload_n dX7_next_249 rfl ?_
                refine mr_ldc2 dX7_next_250 kc_X7_48 ?_
                refine mr_aload_n dX7_next_253 rfl ?_
                refine mr_get dX7_next_254 fl_X7_37 (by first | assumption | exact mr_up_same _ _ _ | (refine mr_lk ?_ (by first | assumption | decide); first | assumption | exact mr_up_same _ _ _ | (refine mr_lk ?_ (by first | assumption | decide); first | assumption | exact mr_up_same _ _ _ | (refine mr_lk ?_ (by first | assumption | decide); first | assumption | exact mr_up_same _ _ _ | (refine mr_lk ?_ (by first | assumption | decide); first | assumption | exact mr_up_same _ _ _))))) rfl ?_
                refine mr_lmul dX7_next_257 ?_
                refine mr_iload dX7_next_258 rfl ?_
                refine mr_i2l dX7_next_260 hTR ?_
                refine mr_ladd dX7_next_261 ?_
                refine mr_ldc2 dX7_next_262 kc_X7_50 ?_
                refine mr_lsub dX7_next_265 ?_
                refine mr_put dX7_next_266 fl_X7_37 pf_X7_10 rfl rfl (by first | assumption | exact mr_up_same _ _ _ | (refine mr_lk ?_ (by first | assumption | decide); first | assumption | exact mr_up_same _ _ _ | (refine mr_lk ?_ (by first | assumption | decide); first | assumption | exact mr_up_same _ _ _ | (refine mr_lk ?_ (by first | assumption | decide); first | assumption | exact mr_up_same _ _ _ | (refine mr_lk ?_ (by first | assumption | decide); first | assumption | exact mr_up_same _ _ _))))) (Nat.le_of_ble_eq_true rfl) ?_
                refine mw_p10 hM (fun w53 hM53 hF53 => ?_)
                obtain ⟨h18, h19, h20, h21, h22, h23, h24, h25, h26, h27, hs1, hs2, hik⟩ := id hM53
                refine mr_aload_n dX7_next_269 rfl ?_
                refine mr_get dX7_next_270 fl_X7_21 (by first | assumption | exact mr_up_same _ _ _ | (refine mr_lk ?_ (by first | assumption | decide); first | assumption | exact mr_up_same _ _ _ | (refine mr_lk ?_ (by first | assumption | decide); first | assumption | exact mr_up_same _ _ _ | (refine mr_lk ?_ (by first | assumption | decide); first | assumption | exact mr_up_same _ _ _ | (refine mr_lk ?_ (by first | assumption | decide); first | assumption | exact mr_up_same _ _ _))))) rfl ?_
                refine mr_aload_n dX7_next_273 rfl ?_
                refine mr_get dX7_next_274 fl_X7_24 (by first | assumption | exact mr_up_same _ _ _ | (refine mr_lk ?_ (by first | assumption | decide); first | assumption | exact mr_up_same _ _ _ | (refine mr_lk ?_ (by first | assumption | decide); first | assumption | exact mr_up_same _ _ _ | (refine mr_lk ?_ (by first | assumption | decide); first | assumption | exact mr_up_same _ _ _ | (refine mr_lk ?_ (by first | assumption | decide); first | assumption | exact mr_up_same _ _ _))))) rfl ?_
                refine mr_isub dX7_next_277 ?_
                refine mr_iconst dX7_next_278 ?_
                refine mr_icmp_ge (tgt := 299) dX7_next_279 (by decide) ⟨by omega, by omega⟩ (by decide) (fun hc_279 => ?_) (fun hc_279 => ?_)
                · refine mr_aload_n dX7_next_299 rfl ?_
                  refine mr_dup dX7_next_300 rfl ?_
                  refine mr_get dX7_next_301 fl_X7_21 (by first | assumption | exact mr_up_same _ _ _ | (refine mr_lk ?_ (by first | assumption | decide); first | assumption | exact mr_up_same _ _ _ | (refine mr_lk ?_ (by first | assumption | decide); first | assumption | exact mr_up_same _ _ _ | (refine mr_lk ?_ (by first | assumption | decide); first | assumption | exact mr_up_same _ _ _ | (refine mr_lk ?_ (by first | assumption | decide); first | assumption | exact mr_up_same _ _ _))))) rfl ?_
                  refine mr_iconst dX7_next_304 ?_
                  refine mr_iadd dX7_next_305 ?_
                  refine mr_put dX7_next_306 fl_X7_21 pf_X7_4 rfl rfl (by first | assumption | exact mr_up_same _ _ _ | (refine mr_lk ?_ (by first | assumption | decide); first | assumption | exact mr_up_same _ _ _ | (refine mr_lk ?_ (by first | assumption | decide); first | assumption | exact mr_up_same _ _ _ | (refine mr_lk ?_ (by first | assumption | decide); first | assumption | exact mr_up_same _ _ _ | (refine mr_lk ?_ (by first | assumption | decide); first | assumption | exact mr_up_same _ _ _))))) (Nat.le_of_ble_eq_true rfl) ?_
                  refine mw_p4 hM53 (fun w54 hM54 hF54 => ?_)
                  obtain ⟨h18, h19, h20, h21, h22, h23, h24, h25, h26, h27, hs1, hs2, hik⟩ := id hM54
                  refine mr_goto (tgt := 177) dX7_next_309 (by decide) ?_
                  refine mr_weak [some (vR 18 0), some (vI c), some (vI le), some (vI 1), none] ⟨rfl, rfl, rfl, rfl, trivial⟩ ?_
                  refine ih (i + 1) 1 w54 ⟨⟨by omega, by omega⟩, hrun', ⟨by first | exact Or.inl rfl | exact Or.inr rfl | assumption, ?_⟩⟩ (by omega) (hfin _ (by first | exact (mr_hs_s hi.1 (by omega)).trans (by rw [hTi]) | exact mr_hs_k (by omega)) (by first | exact (mr_nv_s hi.1 (by omega)).trans (by rw [hTi]) | exact mr_nv_k (by omega)) hM54) (hFr.tr (hF53.tr hF54))
                  · first
                      | exact ⟨fun _ x g1 g2 => by
                          by_cases e : x = i
                          · subst e; rw [hlet]; first | exact ⟨fun _ => by omega, fun _ => by omega⟩ | exact ⟨fun z => absurd z (by omega), fun z => absurd z (by omega)⟩
                          · exact (hgd.2.mp (by omega)) x g1 (by omega), fun _ => rfl⟩
                      | exact ⟨fun z => absurd z (by decide), fun z => absurd (hgd.2.mpr (fun x g1 g2 => z x g1 (by omega))) (by omega)⟩
                      | exact ⟨fun z => absurd z (by decide), fun z => by have z9 := z i (by omega) (by omega); rw [hlet] at z9; omega⟩
                · refine mr_aload_n dX7_next_282 rfl ?_
                  refine mr_bipush dX7_next_283 rfl ?_
                  refine mr_aload_n dX7_next_285 rfl ?_
                  refine mr_get dX7_next_286 fl_X7_41 (by first | assumption | exact mr_up_same _ _ _ | (refine mr_lk ?_ (by first | assumption | decide); first | assumption | exact mr_up_same _ _ _ | (refine mr_lk ?_ (by first | assumption | decide); first | assumption | exact mr_up_same _ _ _ | (refine mr_lk ?_ (by first | assumption | decide); first | assumption | exact mr_up_same _ _ _ | (refine mr_lk ?_ (by first | assumption | decide); first | assumption | exact mr_up_same _ _ _))))) rfl ?_
                  refine mr_imul dX7_next_289 ?_
                  refine mr_iload dX7_next_290 rfl ?_
                  refine mr_iadd dX7_next_292 ?_
                  refine mr_bipush dX7_next_293 rfl ?_
                  refine mr_isub dX7_next_295 ?_
                  refine mr_put dX7_next_296 fl_X7_41 pf_X7_7 rfl rfl (by first | assumption | exact mr_up_same _ _ _ | (refine mr_lk ?_ (by first | assumption | decide); first | assumption | exact mr_up_same _ _ _ | (refine mr_lk ?_ (by first | assumption | decide); first | assumption | exact mr_up_same _ _ _ | (refine mr_lk ?_ (by first | assumption | decide); first | assumption | exact mr_up_same _ _ _ | (refine mr_lk ?_ (by first | assumption | decide); first | assumption | exact mr_up_same _ _ _))))) (Nat.le_of_ble_eq_true rfl) ?_
                  refine mw_p7 hM53 (fun w55 hM55 hF55 => ?_)
                  obtain ⟨h18, h19, h20, h21, h22, h23, h24, h25, h26, h27, hs1, hs2, hik⟩ := id hM55
                  refine mr_aload_n dX7_next_299 rfl ?_
                  refine mr_dup dX7_next_300 rfl ?_
                  refine mr_get dX7_next_301 fl_X7_21 (by first | assumption | exact mr_up_same _ _ _ | (refine mr_lk ?_ (by first | assumption | decide); first | assumption | exact mr_up_same _ _ _ | (refine mr_lk ?_ (by first | assumption | decide); first | assumption | exact mr_up_same _ _ _ | (refine mr_lk ?_ (by first | assumption | decide); first | assumption | exact mr_up_same _ _ _ | (refine mr_lk ?_ (by first | assumption | decide); first | assumption | exact mr_up_same _ _ _))))) rfl ?_
                  refine mr_iconst dX7_next_304 ?_
                  refine mr_iadd dX7_next_305 ?_
                  refine mr_put dX7_next_306 fl_X7_21 pf_X7_4 rfl rfl (by first | assumption | exact mr_up_same _ _ _ | (refine mr_lk ?_ (by first | assumption | decide); first | assumption | exact mr_up_same _ _ _ | (refine mr_lk ?_ (by first | assumption | decide); first | assumption | exact mr_up_same _ _ _ | (refine mr_lk ?_ (by first | assumption | decide); first | assumption | exact mr_up_same _ _ _ | (refine mr_lk ?_ (by first | assumption | decide); first | assumption | exact mr_up_same _ _ _))))) (Nat.le_of_ble_eq_true rfl) ?_
                  refine mw_p4 hM55 (fun w56 hM56 hF56 => ?_)
                  obtain ⟨h18, h19, h20, h21, h22, h23, h24, h25, h26, h27, hs1, hs2, hik⟩ := id hM56
                  refine mr_goto (tgt := 177) dX7_next_309 (by decide) ?_
                  refine mr_weak [some (vR 18 0), some (vI c), some (vI le), some (vI 1), none] ⟨rfl, rfl, rfl, rfl, trivial⟩ ?_
                  refine ih (i + 1) 1 w56 ⟨⟨by omega, by omega⟩, hrun', ⟨by first | exact Or.inl rfl | exact Or.inr rfl | assumption, ?_⟩⟩ (by omega) (hfin _ (by first | exact (mr_hs_s hi.1 (by omega)).trans (by rw [hTi]) | exact mr_hs_k (by omega)) (by first | exact (mr_nv_s hi.1 (by omega)).trans (by rw [hTi]) | exact mr_nv_k (by omega)) hM56) (hFr.tr (hF53.tr (hF55.tr hF56)))
                  · first
                      | exact ⟨fun _ x g1 g2 => by
                          by_cases e : x = i
                          · subst e; rw [hlet]; first | exact ⟨fun _ => by omega, fun _ => by omega⟩ | exact ⟨fun z => absurd z (by omega), fun z => absurd z (by omega)⟩
                          · exact (hgd.2.mp (by omega)) x g1 (by omega), fun _ => rfl⟩
                      | exact ⟨fun z => absurd z (by decide), fun z => absurd (hgd.2.mpr (fun x g1 g2 => z x g1 (by omega))) (by omega)⟩
                      | exact ⟨fun z => absurd z (by decide), fun z => by have z9 := z i (by omega) (by omega); rw [hlet] at z9; omega⟩
          · intro k3
            dsimp only [Option.toList_some, Option.toList_none, List.cons_append, List.nil_append]
            refine mr_iload_n dX7_next_225 rfl ?_
            refine mr_icmp_ne (tgt := 233) dX7_next_226 (by decide) ⟨by omega, by omega⟩ ⟨by omega, by omega⟩ (fun hc_226 => ?_) (fun hc_226 => ?_)
            · refine mr_iconst dX7_next_233 ?_
              refine mr_istore_n dX7_next_234 rfl (by decide) ?_
              refine mr_aload_n dX7_next_235 rfl ?_
              refine mr_get dX7_next_236 fl_X7_21 (by first | assumption | exact mr_up_same _ _ _ | (refine mr_lk ?_ (by first | assumption | decide); first | assumption | exact mr_up_same _ _ _ | (refine mr_lk ?_ (by first | assumption | decide); first | assumption | exact mr_up_same _ _ _ | (refine mr_lk ?_ (by first | assumption | decide); first | assumption | exact mr_up_same _ _ _ | (refine mr_lk ?_ (by first | assumption | decide); first | assumption | exact mr_up_same _ _ _))))) rfl ?_
              refine mr_aload_n dX7_next_239 rfl ?_
              refine mr_get dX7_next_240 fl_X7_24 (by first | assumption | exact mr_up_same _ _ _ | (refine mr_lk ?_ (by first | assumption | decide); first | assumption | exact mr_up_same _ _ _ | (refine mr_lk ?_ (by first | assumption | decide); first | assumption | exact mr_up_same _ _ _ | (refine mr_lk ?_ (by first | assumption | decide); first | assumption | exact mr_up_same _ _ _ | (refine mr_lk ?_ (by first | assumption | decide); first | assumption | exact mr_up_same _ _ _))))) rfl ?_
              refine mr_isub dX7_next_243 ?_
              refine mr_bipush dX7_next_244 rfl ?_
              refine mr_icmp_ge (tgt := 269) dX7_next_246 (by decide) ⟨by omega, by omega⟩ (by decide) (fun hc_246 => ?_) (fun hc_246 => ?_)
              · refine mr_aload_n dX7_next_269 rfl ?_
                refine mr_get dX7_next_270 fl_X7_21 (by first | assumption | exact mr_up_same _ _ _ | (refine mr_lk ?_ (by first | assumption | decide); first | assumption | exact mr_up_same _ _ _ | (refine mr_lk ?_ (by first | assumption | decide); first | assumption | exact mr_up_same _ _ _ | (refine mr_lk ?_ (by first | assumption | decide); first | assumption | exact mr_up_same _ _ _ | (refine mr_lk ?_ (by first | assumption | decide); first | assumption | exact mr_up_same _ _ _))))) rfl ?_
                refine mr_aload_n dX7_next_273 rfl ?_
                refine mr_get dX7_next_274 fl_X7_24 (by first | assumption | exact mr_up_same _ _ _ | (refine mr_lk ?_ (by first | assumption | decide); first | assumption | exact mr_up_same _ _ _ | (refine mr_lk ?_ (by first | assumption | decide); first | assumption | exact mr_up_same _ _ _ | (refine mr_lk ?_ (by first | assumption | decide); first | assumption | exact mr_up_same _ _ _ | (refine mr_lk ?_ (by first | assumption | decide); first | assumption | exact mr_up_same _ _ _))))) rfl ?_
                refine mr_isub dX7_next_277 ?_
                refine mr_iconst dX7_next_278 ?_
                refine mr_icmp_ge (tgt := 299) dX7_next_279 (by decide) ⟨by omega, by omega⟩ (by decide) (fun hc_279 => ?_) (fun hc_279 => ?_)
                · refine mr_aload_n dX7_next_299 rfl ?_
                  refine mr_dup dX7_next_300 rfl ?_
                  refine mr_get dX7_next_301 fl_X7_21 (by first | assumption | exact mr_up_same _ _ _ | (refine mr_lk ?_ (by first | assumption | decide); first | assumption | exact mr_up_same _ _ _ | (refine mr_lk ?_ (by first | assumption | decide); first | assumption | exact mr_up_same _ _ _ | (refine mr_lk ?_ (by first | assumption | decide); first | assumption | exact mr_up_same _ _ _ | (refine mr_lk ?_ (by first | assumption | decide); first | assumption | exact mr_up_same _ _ _))))) rfl ?_
                  refine mr_iconst dX7_next_304 ?_
                  refine mr_iadd dX7_next_305 ?_
                  refine mr_put dX7_next_306 fl_X7_21 pf_X7_4 rfl rfl (by first | assumption | exact mr_up_same _ _ _ | (refine mr_lk ?_ (by first | assumption | decide); first | assumption | exact mr_up_same _ _ _ | (refine mr_lk ?_ (by first | assumption | decide); first | assumption | exact mr_up_same _ _ _ | (refine mr_lk ?_ (by first | assumption | decide); first | assumption | exact mr_up_same _ _ _ | (refine mr_lk ?_ (by first | assumption | decide); first | assumption | exact mr_up_same _ _ _))))) (Nat.le_of_ble_eq_true rfl) ?_
                  refine mw_p4 hM (fun w57 hM57 hF57 => ?_)
                  obtain ⟨h18, h19, h20, h21, h22, h23, h24, h25, h26, h27, hs1, hs2, hik⟩ := id hM57
                  refine mr_goto (tgt := 177) dX7_next_309 (by decide) ?_
                  refine mr_weak [some (vR 18 0), some (vI c), some (vI le), some (vI 0), none] ⟨rfl, rfl, rfl, rfl, trivial⟩ ?_
                  refine ih (i + 1) 0 w57 ⟨⟨by omega, by omega⟩, hrun', ⟨by first | exact Or.inl rfl | exact Or.inr rfl | assumption, ?_⟩⟩ (by omega) (hfin _ (by first | exact (mr_hs_s hi.1 (by omega)).trans (by rw [hTi]) | exact mr_hs_k (by omega)) (by first | exact (mr_nv_s hi.1 (by omega)).trans (by rw [hTi]) | exact mr_nv_k (by omega)) hM57) (hFr.tr hF57)
                  · first
                      | exact ⟨fun _ x g1 g2 => by
                          by_cases e : x = i
                          · subst e; rw [hlet]; first | exact ⟨fun _ => by omega, fun _ => by omega⟩ | exact ⟨fun z => absurd z (by omega), fun z => absurd z (by omega)⟩
                          · exact (hgd.2.mp (by omega)) x g1 (by omega), fun _ => rfl⟩
                      | exact ⟨fun z => absurd z (by decide), fun z => absurd (hgd.2.mpr (fun x g1 g2 => z x g1 (by omega))) (by omega)⟩
                      | exact ⟨fun z => absurd z (by decide), fun z => by have z9 := z i (by omega) (by omega); rw [hlet] at z9; omega⟩
                · refine mr_aload_n dX7_next_282 rfl ?_
                  refine mr_bipush dX7_next_283 rfl ?_
                  refine mr_aload_n dX7_next_285 rfl ?_
                  refine mr_get dX7_next_286 fl_X7_41 (by first | assumption | exact mr_up_same _ _ _ | (refine mr_lk ?_ (by first | assumption | decide); first | assumption | exact mr_up_same _ _ _ | (refine mr_lk ?_ (by first | assumption | decide); first | assumption | exact mr_up_same _ _ _ | (refine mr_lk ?_ (by first | assumption | decide); first | assumption | exact mr_up_same _ _ _ | (refine mr_lk ?_ (by first | assumption | decide); first | assumption | exact mr_up_same _ _ _))))) rfl ?_
                  refine mr_imul dX7_next_289 ?_
                  refine mr_iload dX7_next_290 rfl ?_
                  refine mr_iadd dX7_next_292 ?_
                  refine mr_bipush dX7_next_293 rfl ?_
                  refine mr_isub dX7_next_295 ?_
                  refine mr_put dX7_next_296 fl_X7_41 pf_X7_7 rfl rfl (by first | assumption | exact mr_up_same _ _ _ | (refine mr_lk ?_ (by first | assumption | decide); first | assumption | exact mr_up_same _ _ _ | (refine mr_lk ?_ (by first | assumption | decide); first | assumption | exact mr_up_same _ _ _ | (refine mr_lk ?_ (by first | assumption | decide); first | assumption | exact mr_up_same _ _ _ | (refine mr_lk ?_ (by first | assumption | decide); first | assumption | exact mr_up_same _ _ _))))) (Nat.le_of_ble_eq_true rfl) ?_
                  refine mw_p7 hM (fun w58 hM58 hF58 => ?_)
                  obtain ⟨h18, h19, h20, h21, h22, h23, h24, h25, h26, h27, hs1, hs2, hik⟩ := id hM58
                  refine mr_aload_n dX7_next_299 rfl ?_
                  refine mr_dup dX7_next_300 rfl ?_
                  refine mr_get dX7_next_301 fl_X7_21 (by first | assumption | exact mr_up_same _ _ _ | (refine mr_lk ?_ (by first | assumption | decide); first | assumption | exact mr_up_same _ _ _ | (refine mr_lk ?_ (by first | assumption | decide); first | assumption | exact mr_up_same _ _ _ | (refine mr_lk ?_ (by first | assumption | decide); first | assumption | exact mr_up_same _ _ _ | (refine mr_lk ?_ (by first | assumption | decide); first | assumption | exact mr_up_same _ _ _))))) rfl ?_
                  refine mr_iconst dX7_next_304 ?_
                  refine mr_iadd dX7_next_305 ?_
                  refine mr_put dX7_next_306 fl_X7_21 pf_X7_4 rfl rfl (by first | assumption | exact mr_up_same _ _ _ | (refine mr_lk ?_ (by first | assumption | decide); first | assumption | exact mr_up_same _ _ _ | (refine mr_lk ?_ (by first | assumption | decide); first | assumption | exact mr_up_same _ _ _ | (refine mr_lk ?_ (by first | assumption | decide); first | assumption | exact mr_up_same _ _ _ | (refine mr_lk ?_ (by first | assumption | decide); first | assumption | exact mr_up_same _ _ _))))) (Nat.le_of_ble_eq_true rfl) ?_
                  refine mw_p4 hM58 (fun w59 hM59 hF59 => ?_)
                  obtain ⟨h18, h19, h20, h21, h22, h23, h24, h25, h26, h27, hs1, hs2, hik⟩ := id hM59
                  refine mr_goto (tgt := 177) dX7_next_309 (by decide) ?_
                  refine mr_weak [some (vR 18 0), some (vI c), some (vI le), some (vI 0), none] ⟨rfl, rfl, rfl, rfl, trivial⟩ ?_
                  refine ih (i + 1) 0 w59 ⟨⟨by omega, by omega⟩, hrun', ⟨by first | exact Or.inl rfl | exact Or.inr rfl | assumption, ?_⟩⟩ (by omega) (hfin _ (by first | exact (mr_hs_s hi.1 (by omega)).trans (by rw [hTi]) | exact mr_hs_k (by omega)) (by first | exact (mr_nv_s hi.1 (by omega)).trans (by rw [hTi]) | exact mr_nv_k (by omega)) hM59) (hFr.tr (hF58.tr hF59))
                  · first
                      | exact ⟨fun _ x g1 g2 => by
                          by_cases e : x = i
                          · subst e; rw [hlet]; first | exact ⟨fun _ => by omega, fun _ => by omega⟩ | exact ⟨fun z => absurd z (by omega), fun z => absurd z (by omega)⟩
                          · exact (hgd.2.mp (by omega)) x g1 (by omega), fun _ => rfl⟩
                      | exact ⟨fun z => absurd z (by decide), fun z => absurd (hgd.2.mpr (fun x g1 g2 => z x g1 (by omega))) (by omega)⟩
                      | exact ⟨fun z => absurd z (by decide), fun z => by have z9 := z i (by omega) (by omega); rw [hlet] at z9; omega⟩
              · refine mr_aload_n dX7_next_249 rfl ?_
                refine mr_ldc2 dX7_next_250 kc_X7_48 ?_
                refine mr_aload_n dX7_next_253 rfl ?_
                refine mr_get dX7_next_254 fl_X7_37 (by first | assumption | exact mr_up_same _ _ _ | (refine mr_lk ?_ (by first | assumption | decide); first | assumption | exact mr_up_same _ _ _ | (refine mr_lk ?_ (by first | assumption | decide); first | assumption | exact mr_up_same _ _ _ | (refine mr_lk ?_ (by first | assumption | decide); first | assumption | exact mr_up_same _ _ _ | (refine mr_lk ?_ (by first | assumption | decide); first | assumption | exact mr_up_same _ _ _))))) rfl ?_
                refine mr_lmul dX7_next_257 ?_
                refine mr_iload dX7_next_258 rfl ?_
                refine mr_i2l dX7_next_260 hTR ?_
                refine mr_ladd dX7_next_261 ?_
                refine mr_ldc2 dX7_next_262 kc_X7_50 ?_
                refine mr_lsub dX7_next_265 ?_
                refine mr_put dX7_next_266 fl_X7_37 pf_X7_10 rfl rfl (by first | assumption | exact mr_up_same _ _ _ | (refine mr_lk ?_ (by first | assumption | decide); first | assumption | exact mr_up_same _ _ _ | (refine mr_lk ?_ (by first | assumption | decide); first | assumption | exact mr_up_same _ _ _ | (refine mr_lk ?_ (by first | assumption | decide); first | assumption | exact mr_up_same _ _ _ | (refine mr_lk ?_ (by first | assumption | decide); first | assumption | exact mr_up_same _ _ _))))) (Nat.le_of_ble_eq_true rfl) ?_
                refine mw_p10 hM (fun w60 hM60 hF60 => ?_)
                obtain ⟨h18, h19, h20, h21, h22, h23, h24, h25, h26, h27, hs1, hs2, hik⟩ := id hM60
                refine mr_aload_n dX7_next_269 rfl ?_
                refine mr_get dX7_next_270 fl_X7_21 (by first | assumption | exact mr_up_same _ _ _ | (refine mr_lk ?_ (by first | assumption | decide); first | assumption | exact mr_up_same _ _ _ | (refine mr_lk ?_ (by first | assumption | decide); first | assumption | exact mr_up_same _ _ _ | (refine mr_lk ?_ (by first | assumption | decide); first | assumption | exact mr_up_same _ _ _ | (refine mr_lk ?_ (by first | assumption | decide); first | assumption | exact mr_up_same _ _ _))))) rfl ?_
                refine mr_aload_n dX7_next_273 rfl ?_
                refine mr_get dX7_next_274 fl_X7_24 (by first | assumption | exact mr_up_same _ _ _ | (refine mr_lk ?_ (by first | assumption | decide); first | assumption | exact mr_up_same _ _ _ | (refine mr_lk ?_ (by first | assumption | decide); first | assumption | exact mr_up_same _ _ _ | (refine mr_lk ?_ (by first | assumption | decide); first | assumption | exact mr_up_same _ _ _ | (refine mr_lk ?_ (by first | assumption | decide); first | assumption | exact mr_up_same _ _ _))))) rfl ?_
                refine mr_isub dX7_next_277 ?_
                refine mr_iconst dX7_next_278 ?_
                refine mr_icmp_ge (tgt := 299) dX7_next_279 (by decide) ⟨by omega, by omega⟩ (by decide) (fun hc_279 => ?_) (fun hc_279 => ?_)
                · refine mr_aload_n dX7_next_299 rfl ?_
                  refine mr_dup dX7_next_300 rfl ?_
                  refine mr_get dX7_next_301 fl_X7_21 (by first | assumption | exact mr_up_same _ _ _ | (refine mr_lk ?_ (by first | assumption | decide); first | assumption | exact mr_up_same _ _ _ | (refine mr_lk ?_ (by first | assumption | decide); first | assumption | exact mr_up_same _ _ _ | (refine mr_lk ?_ (by first | assumption | decide); first | assumption | exact mr_up_same _ _ _ | (refine mr_lk ?_ (by first | assumption | decide); first | assumption | exact mr_up_same _ _ _))))) rfl ?_
                  refine mr_iconst dX7_next_304 ?_
                  refine mr_iadd dX7_next_305 ?_
                  refine mr_put dX7_next_306 fl_X7_21 pf_X7_4 rfl rfl (by first | assumption | exact mr_up_same _ _ _ | (refine mr_lk ?_ (by first | assumption | decide); first | assumption | exact mr_up_same _ _ _ | (refine mr_lk ?_ (by first | assumption | decide); first | assumption | exact mr_up_same _ _ _ | (refine mr_lk ?_ (by first | assumption | decide); first | assumption | exact mr_up_same _ _ _ | (refine mr_lk ?_ (by first | assumption | decide); first | assumption | exact mr_up_same _ _ _))))) (Nat.le_of_ble_eq_true rfl) ?_
                  refine mw_p4 hM60 (fun w61 hM61 hF61 => ?_)
                  obtain ⟨h18, h19, h20, h21, h22, h23, h24, h25, h26, h27, hs1, hs2, hik⟩ := id hM61
                  refine mr_goto (tgt := 177) dX7_next_309 (by decide) ?_
                  refine mr_weak [some (vR 18 0), some (vI c), some (vI le), some (vI 0), none] ⟨rfl, rfl, rfl, rfl, trivial⟩ ?_
                  refine ih (i + 1) 0 w61 ⟨⟨by omega, by omega⟩, hrun', ⟨by first | exact Or.inl rfl | exact Or.inr rfl | assumption, ?_⟩⟩ (by omega) (hfin _ (by first | exact (mr_hs_s hi.1 (by omega)).trans (by rw [hTi]) | exact mr_hs_k (by omega)) (by first | exact (mr_nv_s hi.1 (by omega)).trans (by rw [hTi]) | exact mr_nv_k (by omega)) hM61) (hFr.tr (hF60.tr hF61))
                  · first
                      | exact ⟨fun _ x g1 g2 => by
                          by_cases e : x = i
                          · subst e; rw [hlet]; first | exact ⟨fun _ => by omega, fun _ => by omega⟩ | exact ⟨fun z => absurd z (by omega), fun z => absurd z (by omega)⟩
                          · exact (hgd.2.mp (by omega)) x g1 (by omega), fun _ => rfl⟩
                      | exact ⟨fun z => absurd z (by decide), fun z => absurd (hgd.2.mpr (fun x g1 g2 => z x g1 (by omega))) (by omega)⟩
                      | exact ⟨fun z => absurd z (by decide), fun z => by have z9 := z i (by omega) (by omega); rw [hlet] at z9; omega⟩
                · refine mr_aload_n dX7_next_282 rfl ?_
                  refine mr_bipush dX7_next_283 rfl ?_
                  refine mr_aload_n dX7_next_285 rfl ?_
                  refine mr_get dX7_next_286 fl_X7_41 (by first | assumption | exact mr_up_same _ _ _ | (refine mr_lk ?_ (by first | assumption | decide); first | assumption | exact mr_up_same _ _ _ | (refine mr_lk ?_ (by first | assumption | decide); first | assumption | exact mr_up_same _ _ _ | (refine mr_lk ?_ (by first | assumption | decide); first | assumption | exact mr_up_same _ _ _ | (refine mr_lk ?_ (by first | assumption | decide); first | assumption | exact mr_up_same _ _ _))))) rfl ?_
                  refine mr_imul dX7_next_289 ?_
                  refine mr_iload dX7_next_290 rfl ?_
                  refine mr_iadd dX7_next_292 ?_
                  refine mr_bipush dX7_next_293 rfl ?_
                  refine mr_isub dX7_next_295 ?_
                  refine mr_put dX7_next_296 fl_X7_41 pf_X7_7 rfl rfl (by first | assumption | exact mr_up_same _ _ _ | (refine mr_lk ?_ (by first | assumption | decide); first | assumption | exact mr_up_same _ _ _ | (refine mr_lk ?_ (by first | assumption | decide); first | assumption | exact mr_up_same _ _ _ | (refine mr_lk ?_ (by first | assumption | decide); first | assumption | exact mr_up_same _ _ _ | (refine mr_lk ?_ (by first | assumption | decide); first | assumption | exact mr_up_same _ _ _))))) (Nat.le_of_ble_eq_true rfl) ?_
                  refine mw_p7 hM60 (fun w62 hM62 hF62 => ?_)
                  obtain ⟨h18, h19, h20, h21, h22, h23, h24, h25, h26, h27, hs1, hs2, hik⟩ := id hM62
                  refine mr_aload_n dX7_next_299 rfl ?_
                  refine mr_dup dX7_next_300 rfl ?_
                  refine mr_get dX7_next_301 fl_X7_21 (by first | assumption | exact mr_up_same _ _ _ | (refine mr_lk ?_ (by first | assumption | decide); first | assumption | exact mr_up_same _ _ _ | (refine mr_lk ?_ (by first | assumption | decide); first | assumption | exact mr_up_same _ _ _ | (refine mr_lk ?_ (by first | assumption | decide); first | assumption | exact mr_up_same _ _ _ | (refine mr_lk ?_ (by first | assumption | decide); first | assumption | exact mr_up_same _ _ _))))) rfl ?_
                  refine mr_iconst dX7_next_304 ?_
                  refine mr_iadd dX7_next_305 ?_
                  refine mr_put dX7_next_306 fl_X7_21 pf_X7_4 rfl rfl (by first | assumption | exact mr_up_same _ _ _ | (refine mr_lk ?_ (by first | assumption | decide); first | assumption | exact mr_up_same _ _ _ | (refine mr_lk ?_ (by first | assumption | decide); first | assumption | exact mr_up_same _ _ _ | (refine mr_lk ?_ (by first | assumption | decide); first | assumption | exact mr_up_same _ _ _ | (refine mr_lk ?_ (by first | assumption | decide); first | assumption | exact mr_up_same _ _ _))))) (Nat.le_of_ble_eq_true rfl) ?_
                  refine mw_p4 hM62 (fun w63 hM63 hF63 => ?_)
                  obtain ⟨h18, h19, h20, h21, h22, h23, h24, h25, h26, h27, hs1, hs2, hik⟩ := id hM63
                  refine mr_goto (tgt := 177) dX7_next_309 (by decide) ?_
                  refine mr_weak [some (vR 18 0), some (vI c), some (vI le), some (vI 0), none] ⟨rfl, rfl, rfl, rfl, trivial⟩ ?_
                  refine ih (i + 1) 0 w63 ⟨⟨by omega, by omega⟩, hrun', ⟨by first | exact Or.inl rfl | exact Or.inr rfl | assumption, ?_⟩⟩ (by omega) (hfin _ (by first | exact (mr_hs_s hi.1 (by omega)).trans (by rw [hTi]) | exact mr_hs_k (by omega)) (by first | exact (mr_nv_s hi.1 (by omega)).trans (by rw [hTi]) | exact mr_nv_k (by omega)) hM63) (hFr.tr (hF60.tr (hF62.tr hF63)))
                  · first
                      | exact ⟨fun _ x g1 g2 => by
                          by_cases e : x = i
                          · subst e; rw [hlet]; first | exact ⟨fun _ => by omega, fun _ => by omega⟩ | exact ⟨fun z => absurd z (by omega), fun z => absurd z (by omega)⟩
                          · exact (hgd.2.mp (by omega)) x g1 (by omega), fun _ => rfl⟩
                      | exact ⟨fun z => absurd z (by decide), fun z => absurd (hgd.2.mpr (fun x g1 g2 => z x g1 (by omega))) (by omega)⟩
                      | exact ⟨fun z => absurd z (by decide), fun z => by have z9 := z i (by omega) (by omega); rw [hlet] at z9; omega⟩
            · refine mr_iconst dX7_next_229 ?_
              refine mr_goto (tgt := 234) dX7_next_230 (by decide) ?_
              refine mr_istore_n dX7_next_234 rfl (by decide) ?_
              refine mr_aload_n dX7_next_235 rfl ?_
              refine mr_get dX7_next_236 fl_X7_21 (by first | assumption | exact mr_up_same _ _ _ | (refine mr_lk ?_ (by first | assumption | decide); first | assumption | exact mr_up_same _ _ _ | (refine mr_lk ?_ (by first | assumption | decide); first | assumption | exact mr_up_same _ _ _ | (refine mr_lk ?_ (by first | assumption | decide); first | assumption | exact mr_up_same _ _ _ | (refine mr_lk ?_ (by first | assumption | decide); first | assumption | exact mr_up_same _ _ _))))) rfl ?_
              refine mr_aload_n dX7_next_239 rfl ?_
              refine mr_get dX7_next_240 fl_X7_24 (by first | assumption | exact mr_up_same _ _ _ | (refine mr_lk ?_ (by first | assumption | decide); first | assumption | exact mr_up_same _ _ _ | (refine mr_lk ?_ (by first | assumption | decide); first | assumption | exact mr_up_same _ _ _ | (refine mr_lk ?_ (by first | assumption | decide); first | assumption | exact mr_up_same _ _ _ | (refine mr_lk ?_ (by first | assumption | decide); first | assumption | exact mr_up_same _ _ _))))) rfl ?_
              refine mr_isub dX7_next_243 ?_
              refine mr_bipush dX7_next_244 rfl ?_
              refine mr_icmp_ge (tgt := 269) dX7_next_246 (by decide) ⟨by omega, by omega⟩ (by decide) (fun hc_246 => ?_) (fun hc_246 => ?_)
              · refine mr_aload_n dX7_next_269 rfl ?_
                refine mr_get dX7_next_270 fl_X7_21 (by first | assumption | exact mr_up_same _ _ _ | (refine mr_lk ?_ (by first | assumption | decide); first | assumption | exact mr_up_same _ _ _ | (refine mr_lk ?_ (by first | assumption | decide); first | assumption | exact mr_up_same _ _ _ | (refine mr_lk ?_ (by first | assumption | decide); first | assumption | exact mr_up_same _ _ _ | (refine mr_lk ?_ (by first | assumption | decide); first | assumption | exact mr_up_same _ _ _))))) rfl ?_
                refine mr_aload_n dX7_next_273 rfl ?_
                refine mr_get dX7_next_274 fl_X7_24 (by first | assumption | exact mr_up_same _ _ _ | (refine mr_lk ?_ (by first | assumption | decide); first | assumption | exact mr_up_same _ _ _ | (refine mr_lk ?_ (by first | assumption | decide); first | assumption | exact mr_up_same _ _ _ | (refine mr_lk ?_ (by first | assumption | decide); first | assumption | exact mr_up_same _ _ _ | (refine mr_lk ?_ (by first | assumption | decide); first | assumption | exact mr_up_same _ _ _))))) rfl ?_
                refine mr_isub dX7_next_277 ?_
                refine mr_iconst dX7_next_278 ?_
                refine mr_icmp_ge (tgt := 299) dX7_next_279 (by decide) ⟨by omega, by omega⟩ (by decide) (fun hc_279 => ?_) (fun hc_279 => ?_)
                · refine mr_aload_n dX7_next_299 rfl ?_
                  refine mr_dup dX7_next_300 rfl ?_
                  refine mr_get dX7_next_301 fl_X7_21 (by first | assumption | exact mr_up_same _ _ _ | (refine mr_lk ?_ (by first | assumption | decide); first | assumption | exact mr_up_same _ _ _ | (refine mr_lk ?_ (by first | assumption | decide); first | assumption | exact mr_up_same _ _ _ | (refine mr_lk ?_ (by first | assumption | decide); first | assumption | exact mr_up_same _ _ _ | (refine mr_lk ?_ (by first | assumption | decide); first | assumption | exact mr_up_same _ _ _))))) rfl ?_
                  refine mr_iconst dX7_next_304 ?_
                  refine mr_iadd dX7_next_305 ?_
                  refine mr_put dX7_next_306 fl_X7_21 pf_X7_4 rfl rfl (by first | assumption | exact mr_up_same _ _ _ | (refine mr_lk ?_ (by first | assumption | decide); first | assumption | exact mr_up_same _ _ _ | (refine mr_lk ?_ (by first | assumption | decide); first | assumption | exact mr_up_same _ _ _ | (refine mr_lk ?_ (by first | assumption | decide); first | assumption | exact mr_up_same _ _ _ | (refine mr_lk ?_ (by first | assumption | decide); first | assumption | exact mr_up_same _ _ _))))) (Nat.le_of_ble_eq_true rfl) ?_
                  refine mw_p4 hM (fun w64 hM64 hF64 => ?_)
                  obtain ⟨h18, h19, h20, h21, h22, h23, h24, h25, h26, h27, hs1, hs2, hik⟩ := id hM64
                  refine mr_goto (tgt := 177) dX7_next_309 (by decide) ?_
                  refine mr_weak [some (vR 18 0), some (vI c), some (vI le), some (vI 1), none] ⟨rfl, rfl, rfl, rfl, trivial⟩ ?_
                  refine ih (i + 1) 1 w64 ⟨⟨by omega, by omega⟩, hrun', ⟨by first | exact Or.inl rfl | exact Or.inr rfl | assumption, ?_⟩⟩ (by omega) (hfin _ (by first | exact (mr_hs_s hi.1 (by omega)).trans (by rw [hTi]) | exact mr_hs_k (by omega)) (by first | exact (mr_nv_s hi.1 (by omega)).trans (by rw [hTi]) | exact mr_nv_k (by omega)) hM64) (hFr.tr hF64)
                  · first
                      | exact ⟨fun _ x g1 g2 => by
                          by_cases e : x = i
                          · subst e; rw [hlet]; first | exact ⟨fun _ => by omega, fun _ => by omega⟩ | exact ⟨fun z => absurd z (by omega), fun z => absurd z (by omega)⟩
                          · exact (hgd.2.mp (by omega)) x g1 (by omega), fun _ => rfl⟩
                      | exact ⟨fun z => absurd z (by decide), fun z => absurd (hgd.2.mpr (fun x g1 g2 => z x g1 (by omega))) (by omega)⟩
                      | exact ⟨fun z => absurd z (by decide), fun z => by have z9 := z i (by omega) (by omega); rw [hlet] at z9; omega⟩
                · refine mr_aload_n dX7_next_282 rfl ?_
                  refine mr_bipush dX7_next_283 rfl ?_
                  refine mr_aload_n dX7_next_285 rfl ?_
                  refine mr_get dX7_next_286 fl_X7_41 (by first | assumption | exact mr_up_same _ _ _ | (refine mr_lk ?_ (by first | assumption | decide); first | assumption | exact mr_up_same _ _ _ | (refine mr_lk ?_ (by first | assumption | decide); first | assumption | exact mr_up_same _ _ _ | (refine mr_lk ?_ (by first | assumption | decide); first | assumption | exact mr_up_same _ _ _ | (refine mr_lk ?_ (by first | assumption | decide); first | assumption | exact mr_up_same _ _ _))))) rfl ?_
                  refine mr_imul dX7_next_289 ?_
                  refine mr_iload dX7_next_290 rfl ?_
                  refine mr_iadd dX7_next_292 ?_
                  refine mr_bipush dX7_next_293 rfl ?_
                  refine mr_isub dX7_next_295 ?_
                  refine mr_put dX7_next_296 fl_X7_41 pf_X7_7 rfl rfl (by first | assumption | exact mr_up_same _ _ _ | (refine mr_lk ?_ (by first | assumption | decide); first | assumption | exact mr_up_same _ _ _ | (refine mr_lk ?_ (by first | assumption | decide); first | assumption | exact mr_up_same _ _ _ | (refine mr_lk ?_ (by first | assumption | decide); first | assumption | exact mr_up_same _ _ _ | (refine mr_lk ?_ (by first | assumption | decide); first | assumption | exact mr_up_same _ _ _))))) (Nat.le_of_ble_eq_true rfl) ?_
                  refine mw_p7 hM (fun w65 hM65 hF65 => ?_)
                  obtain ⟨h18, h19, h20, h21, h22, h23, h24, h25, h26, h27, hs1, hs2, hik⟩ := id hM65
                  refine mr_aload_n dX7_next_299 rfl ?_
                  refine mr_dup dX7_next_300 rfl ?_
                  refine mr_get dX7_next_301 fl_X7_21 (by first | assumption | exact mr_up_same _ _ _ | (refine mr_lk ?_ (by first | assumption | decide); first | assumption | exact mr_up_same _ _ _ | (refine mr_lk ?_ (by first | assumption | decide); first | assumption | exact mr_up_same _ _ _ | (refine mr_lk ?_ (by first | assumption | decide); first | assumption | exact mr_up_same _ _ _ | (refine mr_lk ?_ (by first | assumption | decide); first | assumption | exact mr_up_same _ _ _))))) rfl ?_
                  refine mr_iconst dX7_next_304 ?_
                  refine mr_iadd dX7_next_305 ?_
                  refine mr_put dX7_next_306 fl_X7_21 pf_X7_4 rfl rfl (by first | assumption | exact mr_up_same _ _ _ | (refine mr_lk ?_ (by first | assumption | decide); first | assumption | exact mr_up_same _ _ _ | (refine mr_lk ?_ (by first | assumption | decide); first | assumption | exact mr_up_same _ _ _ | (refine mr_lk ?_ (by first | assumption | decide); first | assumption | exact mr_up_same _ _ _ | (refine mr_lk ?_ (by first | assumption | decide); first | assumption | exact mr_up_same _ _ _))))) (Nat.le_of_ble_eq_true rfl) ?_
                  refine mw_p4 hM65 (fun w66 hM66 hF66 => ?_)
                  obtain ⟨h18, h19, h20, h21, h22, h23, h24, h25, h26, h27, hs1, hs2, hik⟩ := id hM66
                  refine mr_goto (tgt := 177) dX7_next_309 (by decide) ?_
                  refine mr_weak [some (vR 18 0), some (vI c), some (vI le), some (vI 1), none] ⟨rfl, rfl, rfl, rfl, trivial⟩ ?_
                  refine ih (i + 1) 1 w66 ⟨⟨by omega, by omega⟩, hrun', ⟨by first | exact Or.inl rfl | exact Or.inr rfl | assumption, ?_⟩⟩ (by omega) (hfin _ (by first | exact (mr_hs_s hi.1 (by omega)).trans (by rw [hTi]) | exact mr_hs_k (by omega)) (by first | exact (mr_nv_s hi.1 (by omega)).trans (by rw [hTi]) | exact mr_nv_k (by omega)) hM66) (hFr.tr (hF65.tr hF66))
                  · first
                      | exact ⟨fun _ x g1 g2 => by
                          by_cases e : x = i
                          · subst e; rw [hlet]; first | exact ⟨fun _ => by omega, fun _ => by omega⟩ | exact ⟨fun z => absurd z (by omega), fun z => absurd z (by omega)⟩
                          · exact (hgd.2.mp (by omega)) x g1 (by omega), fun _ => rfl⟩
                      | exact ⟨fun z => absurd z (by decide), fun z => absurd (hgd.2.mpr (fun x g1 g2 => z x g1 (by omega))) (by omega)⟩
                      | exact ⟨fun z => absurd z (by decide), fun z => by have z9 := z i (by omega) (by omega); rw [hlet] at z9; omega⟩
              · refine mr_aload_n dX7_next_249 rfl ?_
                refine mr_ldc2 dX7_next_250 kc_X7_48 ?_
                refine mr_aload_n dX7_next_253 rfl ?_
                refine mr_get dX7_next_254 fl_X7_37 (by first | assumption | exact mr_up_same _ _ _ | (refine mr_lk ?_ (by first | assumption | decide); first | assumption | exact mr_up_same _ _ _ | (refine mr_lk ?_ (by first | assumption | decide); first | assumption | exact mr_up_same _ _ _ | (refine mr_lk ?_ (by first | assumption | decide); first | assumption | exact mr_up_same _ _ _ | (refine mr_lk ?_ (by first | assumption | decide); first | assumption | exact mr_up_same _ _ _))))) rfl ?_
                refine mr_lmul dX7_next_257 ?_
                refine mr_iload dX7_next_258 rfl ?_
                refine mr_i2l dX7_next_260 hTR ?_
                refine mr_ladd dX7_next_261 ?_
                refine mr_ldc2 dX7_next_262 kc_X7_50 ?_
                refine mr_lsub dX7_next_265 ?_
                refine mr_put dX7_next_266 fl_X7_37 pf_X7_10 rfl rfl (by first | assumption | exact mr_up_same _ _ _ | (refine mr_lk ?_ (by first | assumption | decide); first | assumption | exact mr_up_same _ _ _ | (refine mr_lk ?_ (by first | assumption | decide); first | assumption | exact mr_up_same _ _ _ | (refine mr_lk ?_ (by first | assumption | decide); first | assumption | exact mr_up_same _ _ _ | (refine mr_lk ?_ (by first | assumption | decide); first | assumption | exact mr_up_same _ _ _))))) (Nat.le_of_ble_eq_true rfl) ?_
                refine mw_p10 hM (fun w67 hM67 hF67 => ?_)
                obtain ⟨h18, h19, h20, h21, h22, h23, h24, h25, h26, h27, hs1, hs2, hik⟩ := id hM67
                refine mr_aload_n dX7_next_269 rfl ?_
                refine mr_get dX7_next_270 fl_X7_21 (by first | assumption | exact mr_up_same _ _ _ | (refine mr_lk ?_ (by first | assumption | decide); first | assumption | exact mr_up_same _ _ _ | (refine mr_lk ?_ (by first | assumption | decide); first | assumption | exact mr_up_same _ _ _ | (refine mr_lk ?_ (by first | assumption | decide); first | assumption | exact mr_up_same _ _ _ | (refine mr_lk ?_ (by first | assumption | decide); first | assumption | exact mr_up_same _ _ _))))) rfl ?_
                refine mr_aload_n dX7_next_273 rfl ?_
                refine mr_get dX7_next_274 fl_X7_24 (by first | assumption | exact mr_up_same _ _ _ | (refine mr_lk ?_ (by first | assumption | decide); first | assumption | exact mr_up_same _ _ _ | (refine mr_lk ?_ (by first | assumption | decide); first | assumption | exact mr_up_same _ _ _ | (refine mr_lk ?_ (by first | assumption | decide); first | assumption | exact mr_up_same _ _ _ | (refine mr_lk ?_ (by first | assumption | decide); first | assumption | exact mr_up_same _ _ _))))) rfl ?_
                refine mr_isub dX7_next_277 ?_
                refine mr_iconst dX7_next_278 ?_
                refine mr_icmp_ge (tgt := 299) dX7_next_279 (by decide) ⟨by omega, by omega⟩ (by decide) (fun hc_279 => ?_) (fun hc_279 => ?_)
                · refine mr_aload_n dX7_next_299 rfl ?_
                  refine mr_dup dX7_next_300 rfl ?_
                  refine mr_get dX7_next_301 fl_X7_21 (by first | assumption | exact mr_up_same _ _ _ | (refine mr_lk ?_ (by first | assumption | decide); first | assumption | exact mr_up_same _ _ _ | (refine mr_lk ?_ (by first | assumption | decide); first | assumption | exact mr_up_same _ _ _ | (refine mr_lk ?_ (by first | assumption | decide); first | assumption | exact mr_up_same _ _ _ | (refine mr_lk ?_ (by first | assumption | decide); first | assumption | exact mr_up_same _ _ _))))) rfl ?_
                  refine mr_iconst dX7_next_304 ?_
                  refine mr_iadd dX7_next_305 ?_
                  refine mr_put dX7_next_306 fl_X7_21 pf_X7_4 rfl rfl (by first | assumption | exact mr_up_same _ _ _ | (refine mr_lk ?_ (by first | assumption | decide); first | assumption | exact mr_up_same _ _ _ | (refine mr_lk ?_ (by first | assumption | decide); first | assumption | exact mr_up_same _ _ _ | (refine mr_lk ?_ (by first | assumption | decide); first | assumption | exact mr_up_same _ _ _ | (refine mr_lk ?_ (by first | assumption | decide); first | assumption | exact mr_up_same _ _ _))))) (Nat.le_of_ble_eq_true rfl) ?_
                  refine mw_p4 hM67 (fun w68 hM68 hF68 => ?_)
                  obtain ⟨h18, h19, h20, h21, h22, h23, h24, h25, h26, h27, hs1, hs2, hik⟩ := id hM68
                  refine mr_goto (tgt := 177) dX7_next_309 (by decide) ?_
                  refine mr_weak [some (vR 18 0), some (vI c), some (vI le), some (vI 1), none] ⟨rfl, rfl, rfl, rfl, trivial⟩ ?_
                  refine ih (i + 1) 1 w68 ⟨⟨by omega, by omega⟩, hrun', ⟨by first | exact Or.inl rfl | exact Or.inr rfl | assumption, ?_⟩⟩ (by omega) (hfin _ (by first | exact (mr_hs_s hi.1 (by omega)).trans (by rw [hTi]) | exact mr_hs_k (by omega)) (by first | exact (mr_nv_s hi.1 (by omega)).trans (by rw [hTi]) | exact mr_nv_k (by omega)) hM68) (hFr.tr (hF67.tr hF68))
                  · first
                      | exact ⟨fun _ x g1 g2 => by
                          by_cases e : x = i
                          · subst e; rw [hlet]; first | exact ⟨fun _ => by omega, fun _ => by omega⟩ | exact ⟨fun z => absurd z (by omega), fun z => absurd z (by omega)⟩
                          · exact (hgd.2.mp (by omega)) x g1 (by omega), fun _ => rfl⟩
                      | exact ⟨fun z => absurd z (by decide), fun z => absurd (hgd.2.mpr (fun x g1 g2 => z x g1 (by omega))) (by omega)⟩
                      | exact ⟨fun z => absurd z (by decide), fun z => by have z9 := z i (by omega) (by omega); rw [hlet] at z9; omega⟩
                · refine mr_aload_n dX7_next_282 rfl ?_
                  refine mr_bipush dX7_next_283 rfl ?_
                  refine mr_aload_n dX7_next_285 rfl ?_
                  refine mr_get dX7_next_286 fl_X7_41 (by first | assumption | exact mr_up_same _ _ _ | (refine mr_lk ?_ (by first | assumption | decide); first | assumption | exact mr_up_same _ _ _ | (refine mr_lk ?_ (by first | assumption | decide); first | assumption | exact mr_up_same _ _ _ | (refine mr_lk ?_ (by first | assumption | decide); first | assumption | exact mr_up_same _ _ _ | (refine mr_lk ?_ (by first | assumption | decide); first | assumption | exact mr_up_same _ _ _))))) rfl ?_
                  refine mr_imul dX7_next_289 ?_
                  refine mr_iload dX7_next_290 rfl ?_
                  refine mr_iadd dX7_next_292 ?_
                  refine mr_bipush dX7_next_293 rfl ?_
                  refine mr_isub dX7_next_295 ?_
                  refine mr_put dX7_next_296 fl_X7_41 pf_X7_7 rfl rfl (by first | assumption | exact mr_up_same _ _ _ | (refine mr_lk ?_ (by first | assumption | decide); first | assumption | exact mr_up_same _ _ _ | (refine mr_lk ?_ (by first | assumption | decide); first | assumption | exact mr_up_same _ _ _ | (refine mr_lk ?_ (by first | assumption | decide); first | assumption | exact mr_up_same _ _ _ | (refine mr_lk ?_ (by first | assumption | decide); first | assumption | exact mr_up_same _ _ _))))) (Nat.le_of_ble_eq_true rfl) ?_
                  refine mw_p7 hM67 (fun w69 hM69 hF69 => ?_)
                  obtain ⟨h18, h19, h20, h21, h22, h23, h24, h25, h26, h27, hs1, hs2, hik⟩ := id hM69
                  refine mr_aload_n dX7_next_299 rfl ?_
                  refine mr_dup dX7_next_300 rfl ?_
                  refine mr_get dX7_next_301 fl_X7_21 (by first | assumption | exact mr_up_same _ _ _ | (refine mr_lk ?_ (by first | assumption | decide); first | assumption | exact mr_up_same _ _ _ | (refine mr_lk ?_ (by first | assumption | decide); first | assumption | exact mr_up_same _ _ _ | (refine mr_lk ?_ (by first | assumption | decide); first | assumption | exact mr_up_same _ _ _ | (refine mr_lk ?_ (by first | assumption | decide); first | assumption | exact mr_up_same _ _ _))))) rfl ?_
                  refine mr_iconst dX7_next_304 ?_
                  refine mr_iadd dX7_next_305 ?_
                  refine mr_put dX7_next_306 fl_X7_21 pf_X7_4 rfl rfl (by first | assumption | exact mr_up_same _ _ _ | (refine mr_lk ?_ (by first | assumption | decide); first | assumption | exact mr_up_same _ _ _ | (refine mr_lk ?_ (by first | assumption | decide); first | assumption | exact mr_up_same _ _ _ | (refine mr_lk ?_ (by first | assumption | decide); first | assumption | exact mr_up_same _ _ _ | (refine mr_lk ?_ (by first | assumption | decide); first | assumption | exact mr_up_same _ _ _))))) (Nat.le_of_ble_eq_true rfl) ?_
                  refine mw_p4 hM69 (fun w70 hM70 hF70 => ?_)
                  obtain ⟨h18, h19, h20, h21, h22, h23, h24, h25, h26, h27, hs1, hs2, hik⟩ := id hM70
                  refine mr_goto (tgt := 177) dX7_next_309 (by decide) ?_
                  refine mr_weak [some (vR 18 0), some (vI c), some (vI le), some (vI 1), none] ⟨rfl, rfl, rfl, rfl, trivial⟩ ?_
                  refine ih (i + 1) 1 w70 ⟨⟨by omega, by omega⟩, hrun', ⟨by first | exact Or.inl rfl | exact Or.inr rfl | assumption, ?_⟩⟩ (by omega) (hfin _ (by first | exact (mr_hs_s hi.1 (by omega)).trans (by rw [hTi]) | exact mr_hs_k (by omega)) (by first | exact (mr_nv_s hi.1 (by omega)).trans (by rw [hTi]) | exact mr_nv_k (by omega)) hM70) (hFr.tr (hF67.tr (hF69.tr hF70)))
                  · first
                      | exact ⟨fun _ x g1 g2 => by
                          by_cases e : x = i
                          · subst e; rw [hlet]; first | exact ⟨fun _ => by omega, fun _ => by omega⟩ | exact ⟨fun z => absurd z (by omega), fun z => absurd z (by omega)⟩
                          · exact (hgd.2.mp (by omega)) x g1 (by omega), fun _ => rfl⟩
                      | exact ⟨fun z => absurd z (by decide), fun z => absurd (hgd.2.mpr (fun x g1 g2 => z x g1 (by omega))) (by omega)⟩
                      | exact ⟨fun z => absurd z (by decide), fun z => by have z9 := z i (by omega) (by omega); rw [hlet] at z9; omega⟩
      · intro k2
        dsimp only [Option.toList_some, Option.toList_none, List.cons_append, List.nil_append]
        refine mr_if_eq (tgt := 312) dX7_next_202 (by decide) (by omega) (fun _ => ?_) (fun h => absurd h (by decide))
        exact hK w i gd ⟨hi.1, hi.2, hru, Or.inr (fun z => z.elim (fun q => k1 (hlet.mp q)) (fun q => k2 (hdig.mp q)))⟩ hgd hM hFr
theorem mr_tk_end {n0 n p fr kd nb wd zo : Int} {g : Nat → Int} (hn0 : 0 ≤ n0 ∧ n0 ≤ 540) (hn : 0 ≤ n) (h : mr_skq n0 g n p) (hp : min n0 500 ≤ p) (hnb : -1000000 ≤ nb ∧ nb ≤ 1000000) (hwd : InL wd) (hk : kd = mr_mk n0 (mr_tK n0 g n)) (hz : 0 ≤ zo ∧ zo ≤ n0) (hf : fr = min n0 500) : mr_Tok n0 g n fr kd nb wd zo := by
  obtain ⟨e1, e2⟩ := mr_skq_hi hn0 hn h hp
  exact ⟨by rw [e2]; exact hf, hk, fun z => absurd e1 z, fun z => by rw [e1] at z; exact absurd z (by decide), fun z => by rw [e1] at z; exact absurd z (by decide), hwd, hnb, hz⟩
theorem mr_tk_sgn {n0 n p kd nb wd : Int} {g : Nat → Int} (hn0 : 0 ≤ n0 ∧ n0 ≤ 540) (hn : 0 ≤ n) (h : mr_skq n0 g n p) (hp : p < min n0 500) (hl : ¬ mr_let n0 g p) (hd : ¬ mr_dig n0 g p) (hnb : -1000000 ≤ nb ∧ nb ≤ 1000000) (hwd : InL wd) (hp0 : 0 ≤ p) (hk : (mr_ba n0 g p = 59 ∧ kd = 4) ∨ (mr_ba n0 g p ≠ 59 ∧ kd = 1)) : mr_Tok n0 g n p kd nb wd (p + 1) := by
  obtain ⟨e1, e2, e3⟩ := mr_tok_sign hn0 hn h hp hl hd
  have e4 : mr_tK n0 g n = 4 ∨ mr_tK n0 g n = 0 := by rw [e1]; split <;> omega
  refine ⟨e2.symm, ?_, fun _ => e3.symm, fun z => by omega, fun z => by omega, hwd, hnb, by omega, by omega⟩
  unfold mr_mk
  rcases hk with ⟨q1, q2⟩ | ⟨q1, q2⟩
  · rw [if_pos q1] at e1
    rw [e1, if_neg (by decide), if_neg (by decide)]; exact q2
  · rw [if_neg q1] at e1
    rw [e1, if_neg (by decide), if_pos rfl]; exact q2
set_option maxHeartbeats 4000000 in
set_option maxRecDepth 20000 in
theorem fin_X7_next (l : Launch) (G : mr_G) {Po : Option mr_AV → mr_Wd → Prop} {w : mr_Wd} {th tp sz zo fr kd nb ft pl wd sm md li sd : Int} {T N R K Sn ik s1 s2 ls : Nat → Int} {g : Nat → Int} {n p i c le gd : Int} (hsz : 0 ≤ sz ∧ sz ≤ 540) (hn : 0 ≤ n) (hq : mr_skq sz g n p) (hp : p < min sz 500) (hrun : mr_run sz g p i) (hle : le = 0 ∨ le = 1) (h01 : gd = 0 ∨ gd = 1) (hgd : gd = 1 ↔ ∀ x : Int, p ≤ x → x < i → (mr_let sz g x ↔ le = 1)) (hlp : le = 1 ↔ mr_let sz g p) (hld : mr_let sz g p ∨ mr_dig sz g p) (hM : mr_MW w th tp sz (i) (p) kd (mr_nv sz g p i) ft pl (mr_hs sz g p (min (i - p) 9).toNat) sm md li sd T N R K Sn ik s1 s2 ls) (hP : ∀ (w' : mr_Wd) (zo' fr' kd' nb' wd' : Int), mr_Tok sz g n fr' kd' nb' wd' zo' → mr_MW w' th tp sz (zo') (fr') (kd') (nb') ft pl (wd') sm md li sd T N R K Sn ik s1 s2 ls → mr_FM w w' → Po none w') : mr_J l G RX7 cX7_next 5 none 1 21 Po 312 [some (vR 18 0), some (vI c), some (vI le), some (vI gd), none] [] w := by
  obtain ⟨t1, t2, t3, t4, t5, t6⟩ := mr_tok_run hsz hn hq hp hld hrun
  have hp0 : 0 ≤ p := by have := hq.1; omega
  have hlt := mr_run_lt hrun (by omega) hld
  have hisz := hrun.2.1
  have hnv := mr_nv_bd (n0 := sz) (g := g) p i
  have hhs := mr_hs_in (n0 := sz) (g := g) (p := p) (i := i) hrun.2.2.1
  have nld : ∀ x : Int, mr_let sz g x → mr_dig sz g x → False := fun x a b => by unfold mr_let at a; unfold mr_dig at b; omega
  have mk1 : gd = 1 ∧ le = 1 → ∀ kd' : Int, kd' = 2 → mr_Tok sz g n p kd' (mr_nv sz g p i) (mr_hs sz g p (min (i - p) 9).toNat) i := fun hh kd' hk => by
    have al : ∀ x : Int, p ≤ x → x < i → mr_let sz g x := fun x g1 g2 => (hgd.mp hh.1 x g1 g2).mpr hh.2
    have K := t4 al
    refine ⟨t1.symm, by rw [K]; exact hk, fun _ => t2.symm, fun z => by omega, fun _ => ⟨by rw [t1, t2], by rw [t1, t2]; exact al⟩, hhs, hnv, by omega, hisz⟩
  have mk2 : gd = 1 ∧ le = 0 ∧ i - p ≤ 2 → ∀ kd' : Int, kd' = 3 → mr_Tok sz g n p kd' (mr_nv sz g p i) (mr_hs sz g p (min (i - p) 9).toNat) i := fun hh kd' hk => by
    have nl : ∀ x : Int, p ≤ x → x < i → ¬ mr_let sz g x := fun x g1 g2 z => by have := (hgd.mp hh.1 x g1 g2).mp z; omega
    have K := t5 (fun z => nl p (Int.le_refl p) hlt (z p (Int.le_refl p) hlt)) (fun x g1 g2 => (hrun.2.2.1 x g1 g2).resolve_left (nl x g1 g2)) hh.2.2
    refine ⟨t1.symm, by rw [K]; exact hk, fun _ => t2.symm, fun _ => t3.symm, fun z => by omega, hhs, hnv, by omega, hisz⟩
  have mk3 : gd = 0 ∨ (gd = 1 ∧ le = 0 ∧ 2 < i - p) → ∀ kd' : Int, kd' = 1 → mr_Tok sz g n p kd' (mr_nv sz g p i) (mr_hs sz g p (min (i - p) 9).toNat) i := fun hh kd' hk => by
    have K : mr_tK sz g n = 0 := by
      rcases hh with q | ⟨q1, q2, q3⟩
      · have ng : ¬ ∀ x : Int, p ≤ x → x < i → (mr_let sz g x ↔ le = 1) := fun z => by have := hgd.mpr z; omega
        refine t6 (fun z => ng (fun x g1 g2 => ⟨fun _ => hlp.mpr (z p (Int.le_refl p) hlt), fun _ => z x g1 g2⟩)) (fun z => ng (fun x g1 g2 => ⟨fun y => (nld x y (z.1 x g1 g2)).elim, fun y => (nld p (hlp.mp y) (z.1 p (Int.le_refl p) hlt)).elim⟩))
      · refine t6 (fun z => by have := hlp.mpr (z p (Int.le_refl p) hlt); omega) (fun z => by omega)
    refine ⟨t1.symm, by rw [K]; exact hk, fun _ => t2.symm, fun z => by omega, fun z => by omega, hhs, hnv, by omega, hisz⟩
  obtain ⟨h18, h19, h20, h21, h22, h23, h24, h25, h26, h27, hs1, hs2, hik⟩ := id hM
  refine mr_aload_n dX7_next_312 rfl ?_
  refine mr_iload_n dX7_next_313 rfl ?_
  refine mr_if_eq (tgt := 334) dX7_next_314 (by decide) ⟨by omega, by omega⟩ (fun hc_314 => ?_) (fun hc_314 => ?_)
  · refine mr_iconst dX7_next_334 ?_
    refine mr_goto (tgt := 347) dX7_next_335 (by decide) ?_
    refine mr_put dX7_next_347 fl_X7_27 pf_X7_6 rfl rfl (by first | assumption | exact mr_up_same _ _ _ | (refine mr_lk ?_ (by first | assumption | decide); first | assumption | exact mr_up_same _ _ _ | (refine mr_lk ?_ (by first | assumption | decide); first | assumption | exact mr_up_same _ _ _ | (refine mr_lk ?_ (by first | assumption | decide); first | assumption | exact mr_up_same _ _ _ | (refine mr_lk ?_ (by first | assumption | decide); first | assumption | exact mr_up_same _ _ _))))) (Nat.le_of_ble_eq_true rfl) ?_
    refine mw_p6 hM (fun w1 hM1 hF1 => ?_)
    obtain ⟨h18, h19, h20, h21, h22, h23, h24, h25, h26, h27, hs1, hs2, hik⟩ := id hM1
    refine mr_vret rfl dX7_next_350 ?_
    first
      | (exfalso; omega)
      | exact hP w1 _ _ _ _ _ (mk1 ⟨by omega, by omega⟩ _ rfl) hM1 hF1
      | exact hP w1 _ _ _ _ _ (mk2 ⟨by omega, by omega, by omega⟩ _ rfl) hM1 hF1
      | exact hP w1 _ _ _ _ _ (mk3 (by first | exact Or.inl (by omega) | exact Or.inr ⟨by omega, by omega, by omega⟩) _ rfl) hM1 hF1
  · refine mr_iload_n dX7_next_317 rfl ?_
    refine mr_if_ne (tgt := 338) dX7_next_318 (by decide) ⟨by omega, by omega⟩ (fun hc_318 => ?_) (fun hc_318 => ?_)
    · refine mr_iload_n dX7_next_338 rfl ?_
      refine mr_if_eq (tgt := 346) dX7_next_339 (by decide) ⟨by omega, by omega⟩ (fun hc_339 => ?_) (fun hc_339 => ?_)
      · refine mr_iconst dX7_next_346 ?_
        refine mr_put dX7_next_347 fl_X7_27 pf_X7_6 rfl rfl (by first | assumption | exact mr_up_same _ _ _ | (refine mr_lk ?_ (by first | assumption | decide); first | assumption | exact mr_up_same _ _ _ | (refine mr_lk ?_ (by first | assumption | decide); first | assumption | exact mr_up_same _ _ _ | (refine mr_lk ?_ (by first | assumption | decide); first | assumption | exact mr_up_same _ _ _ | (refine mr_lk ?_ (by first | assumption | decide); first | assumption | exact mr_up_same _ _ _))))) (Nat.le_of_ble_eq_true rfl) ?_
        refine mw_p6 hM (fun w2 hM2 hF2 => ?_)
        obtain ⟨h18, h19, h20, h21, h22, h23, h24, h25, h26, h27, hs1, hs2, hik⟩ := id hM2
        refine mr_vret rfl dX7_next_350 ?_
        first
          | (exfalso; omega)
          | exact hP w2 _ _ _ _ _ (mk1 ⟨by omega, by omega⟩ _ rfl) hM2 hF2
          | exact hP w2 _ _ _ _ _ (mk2 ⟨by omega, by omega, by omega⟩ _ rfl) hM2 hF2
          | exact hP w2 _ _ _ _ _ (mk3 (by first | exact Or.inl (by omega) | exact Or.inr ⟨by omega, by omega, by omega⟩) _ rfl) hM2 hF2
      · refine mr_iconst dX7_next_342 ?_
        refine mr_goto (tgt := 347) dX7_next_343 (by decide) ?_
        refine mr_put dX7_next_347 fl_X7_27 pf_X7_6 rfl rfl (by first | assumption | exact mr_up_same _ _ _ | (refine mr_lk ?_ (by first | assumption | decide); first | assumption | exact mr_up_same _ _ _ | (refine mr_lk ?_ (by first | assumption | decide); first | assumption | exact mr_up_same _ _ _ | (refine mr_lk ?_ (by first | assumption | decide); first | assumption | exact mr_up_same _ _ _ | (refine mr_lk ?_ (by first | assumption | decide); first | assumption | exact mr_up_same _ _ _))))) (Nat.le_of_ble_eq_true rfl) ?_
        refine mw_p6 hM (fun w3 hM3 hF3 => ?_)
        obtain ⟨h18, h19, h20, h21, h22, h23, h24, h25, h26, h27, hs1, hs2, hik⟩ := id hM3
        refine mr_vret rfl dX7_next_350 ?_
        first
          | (exfalso; omega)
          | exact hP w3 _ _ _ _ _ (mk1 ⟨by omega, by omega⟩ _ rfl) hM3 hF3
          | exact hP w3 _ _ _ _ _ (mk2 ⟨by omega, by omega, by omega⟩ _ rfl) hM3 hF3
          | exact hP w3 _ _ _ _ _ (mk3 (by first | exact Or.inl (by omega) | exact Or.inr ⟨by omega, by omega, by omega⟩) _ rfl) hM3 hF3
    · refine mr_aload_n dX7_next_321 rfl ?_
      refine mr_get dX7_next_322 fl_X7_21 (by first | assumption | exact mr_up_same _ _ _ | (refine mr_lk ?_ (by first | assumption | decide); first | assumption | exact mr_up_same _ _ _ | (refine mr_lk ?_ (by first | assumption | decide); first | assumption | exact mr_up_same _ _ _ | (refine mr_lk ?_ (by first | assumption | decide); first | assumption | exact mr_up_same _ _ _ | (refine mr_lk ?_ (by first | assumption | decide); first | assumption | exact mr_up_same _ _ _))))) rfl ?_
      refine mr_aload_n dX7_next_325 rfl ?_
      refine mr_get dX7_next_326 fl_X7_24 (by first | assumption | exact mr_up_same _ _ _ | (refine mr_lk ?_ (by first | assumption | decide); first | assumption | exact mr_up_same _ _ _ | (refine mr_lk ?_ (by first | assumption | decide); first | assumption | exact mr_up_same _ _ _ | (refine mr_lk ?_ (by first | assumption | decide); first | assumption | exact mr_up_same _ _ _ | (refine mr_lk ?_ (by first | assumption | decide); first | assumption | exact mr_up_same _ _ _))))) rfl ?_
      refine mr_isub dX7_next_329 ?_
      refine mr_iconst dX7_next_330 ?_
      refine mr_icmp_le (tgt := 338) dX7_next_331 (by decide) ⟨by omega, by omega⟩ (by decide) (fun hc_331 => ?_) (fun hc_331 => ?_)
      · refine mr_iload_n dX7_next_338 rfl ?_
        refine mr_if_eq (tgt := 346) dX7_next_339 (by decide) ⟨by omega, by omega⟩ (fun hc_339 => ?_) (fun hc_339 => ?_)
        · refine mr_iconst dX7_next_346 ?_
          refine mr_put dX7_next_347 fl_X7_27 pf_X7_6 rfl rfl (by first | assumption | exact mr_up_same _ _ _ | (refine mr_lk ?_ (by first | assumption | decide); first | assumption | exact mr_up_same _ _ _ | (refine mr_lk ?_ (by first | assumption | decide); first | assumption | exact mr_up_same _ _ _ | (refine mr_lk ?_ (by first | assumption | decide); first | assumption | exact mr_up_same _ _ _ | (refine mr_lk ?_ (by first | assumption | decide); first | assumption | exact mr_up_same _ _ _))))) (Nat.le_of_ble_eq_true rfl) ?_
          refine mw_p6 hM (fun w4 hM4 hF4 => ?_)
          obtain ⟨h18, h19, h20, h21, h22, h23, h24, h25, h26, h27, hs1, hs2, hik⟩ := id hM4
          refine mr_vret rfl dX7_next_350 ?_
          first
            | (exfalso; omega)
            | exact hP w4 _ _ _ _ _ (mk1 ⟨by omega, by omega⟩ _ rfl) hM4 hF4
            | exact hP w4 _ _ _ _ _ (mk2 ⟨by omega, by omega, by omega⟩ _ rfl) hM4 hF4
            | exact hP w4 _ _ _ _ _ (mk3 (by first | exact Or.inl (by omega) | exact Or.inr ⟨by omega, by omega, by omega⟩) _ rfl) hM4 hF4
        · refine mr_iconst dX7_next_342 ?_
          refine mr_goto (tgt := 347) dX7_next_343 (by decide) ?_
          refine mr_put dX7_next_347 fl_X7_27 pf_X7_6 rfl rfl (by first | assumption | exact mr_up_same _ _ _ | (refine mr_lk ?_ (by first | assumption | decide); first | assumption | exact mr_up_same _ _ _ | (refine mr_lk ?_ (by first | assumption | decide); first | assumption | exact mr_up_same _ _ _ | (refine mr_lk ?_ (by first | assumption | decide); first | assumption | exact mr_up_same _ _ _ | (refine mr_lk ?_ (by first | assumption | decide); first | assumption | exact mr_up_same _ _ _))))) (Nat.le_of_ble_eq_true rfl) ?_
          refine mw_p6 hM (fun w5 hM5 hF5 => ?_)
          obtain ⟨h18, h19, h20, h21, h22, h23, h24, h25, h26, h27, hs1, hs2, hik⟩ := id hM5
          refine mr_vret rfl dX7_next_350 ?_
          first
            | (exfalso; omega)
            | exact hP w5 _ _ _ _ _ (mk1 ⟨by omega, by omega⟩ _ rfl) hM5 hF5
            | exact hP w5 _ _ _ _ _ (mk2 ⟨by omega, by omega, by omega⟩ _ rfl) hM5 hF5
            | exact hP w5 _ _ _ _ _ (mk3 (by first | exact Or.inl (by omega) | exact Or.inr ⟨by omega, by omega, by omega⟩) _ rfl) hM5 hF5
      · refine mr_iconst dX7_next_334 ?_
        refine mr_goto (tgt := 347) dX7_next_335 (by decide) ?_
        refine mr_put dX7_next_347 fl_X7_27 pf_X7_6 rfl rfl (by first | assumption | exact mr_up_same _ _ _ | (refine mr_lk ?_ (by first | assumption | decide); first | assumption | exact mr_up_same _ _ _ | (refine mr_lk ?_ (by first | assumption | decide); first | assumption | exact mr_up_same _ _ _ | (refine mr_lk ?_ (by first | assumption | decide); first | assumption | exact mr_up_same _ _ _ | (refine mr_lk ?_ (by first | assumption | decide); first | assumption | exact mr_up_same _ _ _))))) (Nat.le_of_ble_eq_true rfl) ?_
        refine mw_p6 hM (fun w6 hM6 hF6 => ?_)
        obtain ⟨h18, h19, h20, h21, h22, h23, h24, h25, h26, h27, hs1, hs2, hik⟩ := id hM6
        refine mr_vret rfl dX7_next_350 ?_
        first
          | (exfalso; omega)
          | exact hP w6 _ _ _ _ _ (mk1 ⟨by omega, by omega⟩ _ rfl) hM6 hF6
          | exact hP w6 _ _ _ _ _ (mk2 ⟨by omega, by omega, by omega⟩ _ rfl) hM6 hF6
          | exact hP w6 _ _ _ _ _ (mk3 (by first | exact Or.inl (by omega) | exact Or.inr ⟨by omega, by omega, by omega⟩) _ rfl) hM6 hF6
def T_X7_next (a : List mr_AV) (w : mr_Wd) (Po : Option mr_AV → mr_Wd → Prop) : Prop := ∃ (th tp sz zo fr kd nb ft pl wd sm md li sd : Int) (T N R K Sn ik s1 s2 ls : Nat → Int) (g : Nat → Int), a = [vR 18 0] ∧ mr_MW w th tp sz zo fr kd nb ft pl wd sm md li sd T N R K Sn ik s1 s2 ls ∧ (0 ≤ sz ∧ sz ≤ 540) ∧ (∀ j : Nat, (j : Int) < sz → T j = mr_ba sz g j) ∧ (0 ≤ zo ∧ zo ≤ sz) ∧ (-1000000 ≤ nb ∧ nb ≤ 1000000) ∧ InL wd ∧ (∀ (w' : mr_Wd) (zo' fr' kd' nb' wd' : Int), mr_Tok sz g zo fr' kd' nb' wd' zo' → mr_MW w' th tp sz (zo') (fr') (kd') (nb') ft pl (wd') sm md li sd T N R K Sn ik s1 s2 ls → mr_FM w w' → Po none w')
set_option maxHeartbeats 4000000 in
set_option maxRecDepth 20000 in
theorem ok_X7_next (l : Launch) (G : mr_G) : mr_Ok l G yX7_next cX7_next 5 none 1 21 T_X7_next := by
  refine mr_Ok.of (by decide +kernel) ?_
  rintro a w Po ⟨th, tp, sz, zo, fr, kd, nb, ft, pl, wd, sm, md, li, sd, T, N, R, K, Sn, ik, s1, s2, ls, g, rfl, hM, hsz, hT, hzo, hnb, hwd, hP⟩
  refine ⟨Nat.le_of_ble_eq_true rfl, ?_⟩
  show mr_J l G RX7 cX7_next 5 none 1 21 Po 0 [some (vR 18 0), none, none, none, none] [] w
  obtain ⟨h18, h19, h20, h21, h22, h23, h24, h25, h26, h27, hs1, hs2, hik⟩ := id hM
  refine lpa_X7_next l G (zo := zo) (w0 := w) (n := zo) hsz hT hzo.1 (fun w52 p hq hM52 hF52 => ?_) (sz - zo).toNat zo w (Int.le_refl zo) (by omega) (fun x g1 g2 => by omega) hM (mr_FM.rf w)
  have hq1 := hq.1
  have hq2 := hq.2.1
  obtain ⟨h18, h19, h20, h21, h22, h23, h24, h25, h26, h27, hs1, hs2, hik⟩ := id hM52
  refine mr_aload_n dX7_next_52 rfl ?_
  refine mr_aload_n dX7_next_53 rfl ?_
  refine mr_get dX7_next_54 fl_X7_21 (by first | assumption | exact mr_up_same _ _ _ | (refine mr_lk ?_ (by first | assumption | decide); first | assumption | exact mr_up_same _ _ _ | (refine mr_lk ?_ (by first | assumption | decide); first | assumption | exact mr_up_same _ _ _ | (refine mr_lk ?_ (by first | assumption | decide); first | assumption | exact mr_up_same _ _ _ | (refine mr_lk ?_ (by first | assumption | decide); first | assumption | exact mr_up_same _ _ _))))) rfl ?_
  refine mr_put dX7_next_57 fl_X7_24 pf_X7_5 rfl rfl (by first | assumption | exact mr_up_same _ _ _ | (refine mr_lk ?_ (by first | assumption | decide); first | assumption | exact mr_up_same _ _ _ | (refine mr_lk ?_ (by first | assumption | decide); first | assumption | exact mr_up_same _ _ _ | (refine mr_lk ?_ (by first | assumption | decide); first | assumption | exact mr_up_same _ _ _ | (refine mr_lk ?_ (by first | assumption | decide); first | assumption | exact mr_up_same _ _ _))))) (Nat.le_of_ble_eq_true rfl) ?_
  refine mw_p5 hM52 (fun w53 hM53 hF53 => ?_)
  obtain ⟨h18, h19, h20, h21, h22, h23, h24, h25, h26, h27, hs1, hs2, hik⟩ := id hM53
  refine mr_aload_n dX7_next_60 rfl ?_
  refine mr_get dX7_next_61 fl_X7_18 (by first | assumption | exact mr_up_same _ _ _ | (refine mr_lk ?_ (by first | assumption | decide); first | assumption | exact mr_up_same _ _ _ | (refine mr_lk ?_ (by first | assumption | decide); first | assumption | exact mr_up_same _ _ _ | (refine mr_lk ?_ (by first | assumption | decide); first | assumption | exact mr_up_same _ _ _ | (refine mr_lk ?_ (by first | assumption | decide); first | assumption | exact mr_up_same _ _ _))))) rfl ?_
  refine mr_sipush dX7_next_64 rfl ?_
  refine mr_icmp_le (tgt := 93) dX7_next_67 (by decide) ⟨by omega, by omega⟩ (by decide) (fun hc_67 => ?_) (fun hc_67 => ?_)
  · refine mr_aload_n dX7_next_93 rfl ?_
    refine mr_get dX7_next_94 fl_X7_21 (by first | assumption | exact mr_up_same _ _ _ | (refine mr_lk ?_ (by first | assumption | decide); first | assumption | exact mr_up_same _ _ _ | (refine mr_lk ?_ (by first | assumption | decide); first | assumption | exact mr_up_same _ _ _ | (refine mr_lk ?_ (by first | assumption | decide); first | assumption | exact mr_up_same _ _ _ | (refine mr_lk ?_ (by first | assumption | decide); first | assumption | exact mr_up_same _ _ _))))) rfl ?_
    refine mr_aload_n dX7_next_97 rfl ?_
    refine mr_get dX7_next_98 fl_X7_18 (by first | assumption | exact mr_up_same _ _ _ | (refine mr_lk ?_ (by first | assumption | decide); first | assumption | exact mr_up_same _ _ _ | (refine mr_lk ?_ (by first | assumption | decide); first | assumption | exact mr_up_same _ _ _ | (refine mr_lk ?_ (by first | assumption | decide); first | assumption | exact mr_up_same _ _ _ | (refine mr_lk ?_ (by first | assumption | decide); first | assumption | exact mr_up_same _ _ _))))) rfl ?_
    refine mr_icmp_lt (tgt := 110) dX7_next_101 (by decide) ⟨by omega, by omega⟩ ⟨by omega, by omega⟩ (fun hc_101 => ?_) (fun hc_101 => ?_)
    · have hTp : T p.toNat = mr_ba sz g p := by rw [hT p.toNat (by omega), Int.toNat_of_nonneg (by omega)]
      have hTR : InR (T p.toNat) := by rw [hTp]; exact mr_ba_in sz g p
      have hlet : mr_let sz g p ↔ (97 ≤ T p.toNat ∧ T p.toNat ≤ 122) := by unfold mr_let; rw [hTp]
      have hdig : mr_dig sz g p ↔ (48 ≤ T p.toNat ∧ T p.toNat ≤ 57) := by unfold mr_dig; rw [hTp]
      refine mr_aload_n dX7_next_110 rfl ?_
      refine mr_get dX7_next_111 fl_X7_7 (by first | assumption | exact mr_up_same _ _ _ | (refine mr_lk ?_ (by first | assumption | decide); first | assumption | exact mr_up_same _ _ _ | (refine mr_lk ?_ (by first | assumption | decide); first | assumption | exact mr_up_same _ _ _ | (refine mr_lk ?_ (by first | assumption | decide); first | assumption | exact mr_up_same _ _ _ | (refine mr_lk ?_ (by first | assumption | decide); first | assumption | exact mr_up_same _ _ _))))) rfl ?_
      refine mr_aload_n dX7_next_114 rfl ?_
      refine mr_get dX7_next_115 fl_X7_21 (by first | assumption | exact mr_up_same _ _ _ | (refine mr_lk ?_ (by first | assumption | decide); first | assumption | exact mr_up_same _ _ _ | (refine mr_lk ?_ (by first | assumption | decide); first | assumption | exact mr_up_same _ _ _ | (refine mr_lk ?_ (by first | assumption | decide); first | assumption | exact mr_up_same _ _ _ | (refine mr_lk ?_ (by first | assumption | decide); first | assumption | exact mr_up_same _ _ _))))) rfl ?_
      refine mr_iald dX7_next_118 (by first | assumption | exact mr_up_same _ _ _ | (refine mr_lk ?_ (by first | assumption | decide); first | assumption | exact mr_up_same _ _ _ | (refine mr_lk ?_ (by first | assumption | decide); first | assumption | exact mr_up_same _ _ _ | (refine mr_lk ?_ (by first | assumption | decide); first | assumption | exact mr_up_same _ _ _ | (refine mr_lk ?_ (by first | assumption | decide); first | assumption | exact mr_up_same _ _ _))))) (by omega) (by omega) (by decide) ?_
      refine mr_istore_n dX7_next_119 rfl (by decide) ?_
      refine mr_iload_n dX7_next_120 rfl ?_
      refine mr_callS (as := [_]) dX7_next_121 (ok_X7_isLetter l G) ml_X7_30 cl_X7_isLetter cs_X7_isLetter (by decide) rfl rfl (Nat.le_of_ble_eq_true rfl) ?_
      refine ⟨_, rfl, hTR, ?_, ?_⟩
      · intro k1
        dsimp only [Option.toList_some, Option.toList_none, List.cons_append, List.nil_append]
        refine mr_if_ne (tgt := 160) dX7_next_124 (by decide) (by omega) (fun _ => ?_) (fun h => absurd h (by decide))
        refine mr_iload_n dX7_next_160 rfl ?_
        refine mr_callS (as := [_]) dX7_next_161 (ok_X7_isLetter l G) ml_X7_30 cl_X7_isLetter cs_X7_isLetter (by decide) rfl rfl (Nat.le_of_ble_eq_true rfl) ?_
        refine ⟨_, rfl, hTR, ?_, ?_⟩
        · intro k3
          dsimp only [Option.toList_some, Option.toList_none, List.cons_append, List.nil_append]
          refine mr_istore_n dX7_next_164 rfl (by decide) ?_
          refine mr_iconst dX7_next_165 ?_
          refine mr_istore_n dX7_next_166 rfl (by decide) ?_
          refine mr_aload_n dX7_next_167 rfl ?_
          refine mr_lconst0 dX7_next_168 ?_
          refine mr_put dX7_next_169 fl_X7_37 pf_X7_10 rfl rfl (by first | assumption | exact mr_up_same _ _ _ | (refine mr_lk ?_ (by first | assumption | decide); first | assumption | exact mr_up_same _ _ _ | (refine mr_lk ?_ (by first | assumption | decide); first | assumption | exact mr_up_same _ _ _ | (refine mr_lk ?_ (by first | assumption | decide); first | assumption | exact mr_up_same _ _ _ | (refine mr_lk ?_ (by first | assumption | decide); first | assumption | exact mr_up_same _ _ _))))) (Nat.le_of_ble_eq_true rfl) ?_
          refine mw_p10 hM53 (fun w54 hM54 hF54 => ?_)
          obtain ⟨h18, h19, h20, h21, h22, h23, h24, h25, h26, h27, hs1, hs2, hik⟩ := id hM54
          refine mr_aload_n dX7_next_172 rfl ?_
          refine mr_iconst dX7_next_173 ?_
          refine mr_put dX7_next_174 fl_X7_41 pf_X7_7 rfl rfl (by first | assumption | exact mr_up_same _ _ _ | (refine mr_lk ?_ (by first | assumption | decide); first | assumption | exact mr_up_same _ _ _ | (refine mr_lk ?_ (by first | assumption | decide); first | assumption | exact mr_up_same _ _ _ | (refine mr_lk ?_ (by first | assumption | decide); first | assumption | exact mr_up_same _ _ _ | (refine mr_lk ?_ (by first | assumption | decide); first | assumption | exact mr_up_same _ _ _))))) (Nat.le_of_ble_eq_true rfl) ?_
          refine mw_p7 hM54 (fun w55 hM55 hF55 => ?_)
          obtain ⟨h18, h19, h20, h21, h22, h23, h24, h25, h26, h27, hs1, hs2, hik⟩ := id hM55
          first
            | exact absurd (k1.elim (fun _ => k1)) k1
            | (refine mr_weak [some (vR 18 0), some (vI (T p.toNat)), some (vI 1), some (vI 1), none] ⟨rfl, rfl, rfl, rfl, trivial⟩ ?_
               refine lpb_X7_next l G (zo := 0) (nb := 0) (wd := 0) (w0 := w55) (p := p) (c := T p.toNat) (le := 1) hsz hT (by omega) (by decide) rfl (fun w99 i gd hrun hgd hM99 hF99 => ?_) (sz - p).toNat p 1 w55 ⟨⟨Int.le_refl p, by omega⟩, fun x g1 g2 => by omega, Or.inr rfl, fun _ x g1 g2 => by omega, fun _ => rfl⟩ (by omega) (by rw [show (min (p - p) 9).toNat = 0 by omega, show mr_nv sz g p p = 0 from if_pos rfl]; exact hM55) (mr_FM.rf _)
               exact fin_X7_next l G (zo := 0) (fr := 0) (nb := 0) (wd := 0) hsz hzo.1 hq (by omega) hrun (by decide) hgd.1 hgd.2 (by first | exact ⟨fun _ => hlet.mpr k3, fun _ => rfl⟩ | exact ⟨fun z => absurd z (by decide), fun z => absurd (hlet.mp z) k3⟩) (by first | exact Or.inl (hlet.mpr k1) | exact Or.inr (hdig.mpr k2)) hM99 (fun w' zo' fr' kd' nb' wd' a1 a2 a3 => hP w' zo' fr' kd' nb' wd' a1 a2 ((hF52.tr (hF53.tr (hF54.tr hF55))).tr (hF99.tr a3))))
        · intro k3
          dsimp only [Option.toList_some, Option.toList_none, List.cons_append, List.nil_append]
          refine mr_istore_n dX7_next_164 rfl (by decide) ?_
          refine mr_iconst dX7_next_165 ?_
          refine mr_istore_n dX7_next_166 rfl (by decide) ?_
          refine mr_aload_n dX7_next_167 rfl ?_
          refine mr_lconst0 dX7_next_168 ?_
          refine mr_put dX7_next_169 fl_X7_37 pf_X7_10 rfl rfl (by first | assumption | exact mr_up_same _ _ _ | (refine mr_lk ?_ (by first | assumption | decide); first | assumption | exact mr_up_same _ _ _ | (refine mr_lk ?_ (by first | assumption | decide); first | assumption | exact mr_up_same _ _ _ | (refine mr_lk ?_ (by first | assumption | decide); first | assumption | exact mr_up_same _ _ _ | (refine mr_lk ?_ (by first | assumption | decide); first | assumption | exact mr_up_same _ _ _))))) (Nat.le_of_ble_eq_true rfl) ?_
          refine mw_p10 hM53 (fun w56 hM56 hF56 => ?_)
          obtain ⟨h18, h19, h20, h21, h22, h23, h24, h25, h26, h27, hs1, hs2, hik⟩ := id hM56
          refine mr_aload_n dX7_next_172 rfl ?_
          refine mr_iconst dX7_next_173 ?_
          refine mr_put dX7_next_174 fl_X7_41 pf_X7_7 rfl rfl (by first | assumption | exact mr_up_same _ _ _ | (refine mr_lk ?_ (by first | assumption | decide); first | assumption | exact mr_up_same _ _ _ | (refine mr_lk ?_ (by first | assumption | decide); first | assumption | exact mr_up_same _ _ _ | (refine mr_lk ?_ (by first | assumption | decide); first | assumption | exact mr_up_same _ _ _ | (refine mr_lk ?_ (by first | assumption | decide); first | assumption | exact mr_up_same _ _ _))))) (Nat.le_of_ble_eq_true rfl) ?_
          refine mw_p7 hM56 (fun w57 hM57 hF57 => ?_)
          obtain ⟨h18, h19, h20, h21, h22, h23, h24, h25, h26, h27, hs1, hs2, hik⟩ := id hM57
          first
            | exact absurd (k1.elim (fun _ => k1)) k1
            | (refine mr_weak [some (vR 18 0), some (vI (T p.toNat)), some (vI 0), some (vI 1), none] ⟨rfl, rfl, rfl, rfl, trivial⟩ ?_
               refine lpb_X7_next l G (zo := 0) (nb := 0) (wd := 0) (w0 := w57) (p := p) (c := T p.toNat) (le := 0) hsz hT (by omega) (by decide) rfl (fun w99 i gd hrun hgd hM99 hF99 => ?_) (sz - p).toNat p 1 w57 ⟨⟨Int.le_refl p, by omega⟩, fun x g1 g2 => by omega, Or.inr rfl, fun _ x g1 g2 => by omega, fun _ => rfl⟩ (by omega) (by rw [show (min (p - p) 9).toNat = 0 by omega, show mr_nv sz g p p = 0 from if_pos rfl]; exact hM57) (mr_FM.rf _)
               exact fin_X7_next l G (zo := 0) (fr := 0) (nb := 0) (wd := 0) hsz hzo.1 hq (by omega) hrun (by decide) hgd.1 hgd.2 (by first | exact ⟨fun _ => hlet.mpr k3, fun _ => rfl⟩ | exact ⟨fun z => absurd z (by decide), fun z => absurd (hlet.mp z) k3⟩) (by first | exact Or.inl (hlet.mpr k1) | exact Or.inr (hdig.mpr k2)) hM99 (fun w' zo' fr' kd' nb' wd' a1 a2 a3 => hP w' zo' fr' kd' nb' wd' a1 a2 ((hF52.tr (hF53.tr (hF56.tr hF57))).tr (hF99.tr a3))))
      · intro k1
        dsimp only [Option.toList_some, Option.toList_none, List.cons_append, List.nil_append]
        refine mr_if_ne (tgt := 160) dX7_next_124 (by decide) (by omega) (fun h => absurd h (by decide)) (fun _ => ?_)
        refine mr_iload_n dX7_next_127 rfl ?_
        refine mr_callS (as := [_]) dX7_next_128 (ok_X7_isDigit l G) ml_X7_34 cl_X7_isDigit cs_X7_isDigit (by decide) rfl rfl (Nat.le_of_ble_eq_true rfl) ?_
        refine ⟨_, rfl, hTR, ?_, ?_⟩
        · intro k2
          dsimp only [Option.toList_some, Option.toList_none, List.cons_append, List.nil_append]
          refine mr_if_ne (tgt := 160) dX7_next_131 (by decide) (by omega) (fun _ => ?_) (fun h => absurd h (by decide))
          refine mr_iload_n dX7_next_160 rfl ?_
          refine mr_callS (as := [_]) dX7_next_161 (ok_X7_isLetter l G) ml_X7_30 cl_X7_isLetter cs_X7_isLetter (by decide) rfl rfl (Nat.le_of_ble_eq_true rfl) ?_
          refine ⟨_, rfl, hTR, ?_, ?_⟩
          · intro k3
            dsimp only [Option.toList_some, Option.toList_none, List.cons_append, List.nil_append]
            refine mr_istore_n dX7_next_164 rfl (by decide) ?_
            refine mr_iconst dX7_next_165 ?_
            refine mr_istore_n dX7_next_166 rfl (by decide) ?_
            refine mr_aload_n dX7_next_167 rfl ?_
            refine mr_lconst0 dX7_next_168 ?_
            refine mr_put dX7_next_169 fl_X7_37 pf_X7_10 rfl rfl (by first | assumption | exact mr_up_same _ _ _ | (refine mr_lk ?_ (by first | assumption | decide); first | assumption | exact mr_up_same _ _ _ | (refine mr_lk ?_ (by first | assumption | decide); first | assumption | exact mr_up_same _ _ _ | (refine mr_lk ?_ (by first | assumption | decide); first | assumption | exact mr_up_same _ _ _ | (refine mr_lk ?_ (by first | assumption | decide); first | assumption | exact mr_up_same _ _ _))))) (Nat.le_of_ble_eq_true rfl) ?_
            refine mw_p10 hM53 (fun w58 hM58 hF58 => ?_)
            obtain ⟨h18, h19, h20, h21, h22, h23, h24, h25, h26, h27, hs1, hs2, hik⟩ := id hM58
            refine mr_aload_n dX7_next_172 rfl ?_
            refine mr_iconst dX7_next_173 ?_
            refine mr_put dX7_next_174 fl_X7_41 pf_X7_7 rfl rfl (by first | assumption | exact mr_up_same _ _ _ | (refine mr_lk ?_ (by first | assumption | decide); first | assumption | exact mr_up_same _ _ _ | (refine mr_lk ?_ (by first | assumption | decide); first | assumption | exact mr_up_same _ _ _ | (refine mr_lk ?_ (by first | assumption | decide); first | assumption | exact mr_up_same _ _ _ | (refine mr_lk ?_ (by first | assumption | decide); first | assumption | exact mr_up_same _ _ _))))) (Nat.le_of_ble_eq_true rfl) ?_
            refine mw_p7 hM58 (fun w59 hM59 hF59 => ?_)
            obtain ⟨h18, h19, h20, h21, h22, h23, h24, h25, h26, h27, hs1, hs2, hik⟩ := id hM59
            first
              | exact absurd (k1.elim (fun _ => k1)) k1
              | (refine mr_weak [some (vR 18 0), some (vI (T p.toNat)), some (vI 1), some (vI 1), none] ⟨rfl, rfl, rfl, rfl, trivial⟩ ?_
                 refine lpb_X7_next l G (zo := 0) (nb := 0) (wd := 0) (w0 := w59) (p := p) (c := T p.toNat) (le := 1) hsz hT (by omega) (by decide) rfl (fun w99 i gd hrun hgd hM99 hF99 => ?_) (sz - p).toNat p 1 w59 ⟨⟨Int.le_refl p, by omega⟩, fun x g1 g2 => by omega, Or.inr rfl, fun _ x g1 g2 => by omega, fun _ => rfl⟩ (by omega) (by rw [show (min (p - p) 9).toNat = 0 by omega, show mr_nv sz g p p = 0 from if_pos rfl]; exact hM59) (mr_FM.rf _)
                 exact fin_X7_next l G (zo := 0) (fr := 0) (nb := 0) (wd := 0) hsz hzo.1 hq (by omega) hrun (by decide) hgd.1 hgd.2 (by first | exact ⟨fun _ => hlet.mpr k3, fun _ => rfl⟩ | exact ⟨fun z => absurd z (by decide), fun z => absurd (hlet.mp z) k3⟩) (by first | exact Or.inl (hlet.mpr k1) | exact Or.inr (hdig.mpr k2)) hM99 (fun w' zo' fr' kd' nb' wd' a1 a2 a3 => hP w' zo' fr' kd' nb' wd' a1 a2 ((hF52.tr (hF53.tr (hF58.tr hF59))).tr (hF99.tr a3))))
          · intro k3
            dsimp only [Option.toList_some, Option.toList_none, List.cons_append, List.nil_append]
            refine mr_istore_n dX7_next_164 rfl (by decide) ?_
            refine mr_iconst dX7_next_165 ?_
            refine mr_istore_n dX7_next_166 rfl (by decide) ?_
            refine mr_aload_n dX7_next_167 rfl ?_
            refine mr_lconst0 dX7_next_168 ?_
            refine mr_put dX7_next_169 fl_X7_37 pf_X7_10 rfl rfl (by first | assumption | exact mr_up_same _ _ _ | (refine mr_lk ?_ (by first | assumption | decide); first | assumption | exact mr_up_same _ _ _ | (refine mr_lk ?_ (by first | assumption | decide); first | assumption | exact mr_up_same _ _ _ | (refine mr_lk ?_ (by first | assumption | decide); first | assumption | exact mr_up_same _ _ _ | (refine mr_lk ?_ (by first | assumption | decide); first | assumption | exact mr_up_same _ _ _))))) (Nat.le_of_ble_eq_true rfl) ?_
            refine mw_p10 hM53 (fun w60 hM60 hF60 => ?_)
            obtain ⟨h18, h19, h20, h21, h22, h23, h24, h25, h26, h27, hs1, hs2, hik⟩ := id hM60
            refine mr_aload_n dX7_next_172 rfl ?_
            refine mr_iconst dX7_next_173 ?_
            refine mr_put dX7_next_174 fl_X7_41 pf_X7_7 rfl rfl (by first | assumption | exact mr_up_same _ _ _ | (refine mr_lk ?_ (by first | assumption | decide); first | assumption | exact mr_up_same _ _ _ | (refine mr_lk ?_ (by first | assumption | decide); first | assumption | exact mr_up_same _ _ _ | (refine mr_lk ?_ (by first | assumption | decide); first | assumption | exact mr_up_same _ _ _ | (refine mr_lk ?_ (by first | assumption | decide); first | assumption | exact mr_up_same _ _ _))))) (Nat.le_of_ble_eq_true rfl) ?_
            refine mw_p7 hM60 (fun w61 hM61 hF61 => ?_)
            obtain ⟨h18, h19, h20, h21, h22, h23, h24, h25, h26, h27, hs1, hs2, hik⟩ := id hM61
            first
              | exact absurd (k1.elim (fun _ => k1)) k1
              | (refine mr_weak [some (vR 18 0), some (vI (T p.toNat)), some (vI 0), some (vI 1), none] ⟨rfl, rfl, rfl, rfl, trivial⟩ ?_
                 refine lpb_X7_next l G (zo := 0) (nb := 0) (wd := 0) (w0 := w61) (p := p) (c := T p.toNat) (le := 0) hsz hT (by omega) (by decide) rfl (fun w99 i gd hrun hgd hM99 hF99 => ?_) (sz - p).toNat p 1 w61 ⟨⟨Int.le_refl p, by omega⟩, fun x g1 g2 => by omega, Or.inr rfl, fun _ x g1 g2 => by omega, fun _ => rfl⟩ (by omega) (by rw [show (min (p - p) 9).toNat = 0 by omega, show mr_nv sz g p p = 0 from if_pos rfl]; exact hM61) (mr_FM.rf _)
                 exact fin_X7_next l G (zo := 0) (fr := 0) (nb := 0) (wd := 0) hsz hzo.1 hq (by omega) hrun (by decide) hgd.1 hgd.2 (by first | exact ⟨fun _ => hlet.mpr k3, fun _ => rfl⟩ | exact ⟨fun z => absurd z (by decide), fun z => absurd (hlet.mp z) k3⟩) (by first | exact Or.inl (hlet.mpr k1) | exact Or.inr (hdig.mpr k2)) hM99 (fun w' zo' fr' kd' nb' wd' a1 a2 a3 => hP w' zo' fr' kd' nb' wd' a1 a2 ((hF52.tr (hF53.tr (hF60.tr hF61))).tr (hF99.tr a3))))
        · intro k2
          dsimp only [Option.toList_some, Option.toList_none, List.cons_append, List.nil_append]
          refine mr_if_ne (tgt := 160) dX7_next_131 (by decide) (by omega) (fun h => absurd h (by decide)) (fun _ => ?_)
          refine mr_aload_n dX7_next_134 rfl ?_
          refine mr_iload_n dX7_next_135 rfl ?_
          refine mr_bipush dX7_next_136 rfl ?_
          refine mr_icmp_ne (tgt := 145) dX7_next_138 (by decide) hTR (by decide) (fun hc_138 => ?_) (fun hc_138 => ?_)
          · refine mr_iconst dX7_next_145 ?_
            refine mr_put dX7_next_146 fl_X7_27 pf_X7_6 rfl rfl (by first | assumption | exact mr_up_same _ _ _ | (refine mr_lk ?_ (by first | assumption | decide); first | assumption | exact mr_up_same _ _ _ | (refine mr_lk ?_ (by first | assumption | decide); first | assumption | exact mr_up_same _ _ _ | (refine mr_lk ?_ (by first | assumption | decide); first | assumption | exact mr_up_same _ _ _ | (refine mr_lk ?_ (by first | assumption | decide); first | assumption | exact mr_up_same _ _ _))))) (Nat.le_of_ble_eq_true rfl) ?_
            refine mw_p6 hM53 (fun w62 hM62 hF62 => ?_)
            obtain ⟨h18, h19, h20, h21, h22, h23, h24, h25, h26, h27, hs1, hs2, hik⟩ := id hM62
            refine mr_aload_n dX7_next_149 rfl ?_
            refine mr_dup dX7_next_150 rfl ?_
            refine mr_get dX7_next_151 fl_X7_21 (by first | assumption | exact mr_up_same _ _ _ | (refine mr_lk ?_ (by first | assumption | decide); first | assumption | exact mr_up_same _ _ _ | (refine mr_lk ?_ (by first | assumption | decide); first | assumption | exact mr_up_same _ _ _ | (refine mr_lk ?_ (by first | assumption | decide); first | assumption | exact mr_up_same _ _ _ | (refine mr_lk ?_ (by first | assumption | decide); first | assumption | exact mr_up_same _ _ _))))) rfl ?_
            refine mr_iconst dX7_next_154 ?_
            refine mr_iadd dX7_next_155 ?_
            refine mr_put dX7_next_156 fl_X7_21 pf_X7_4 rfl rfl (by first | assumption | exact mr_up_same _ _ _ | (refine mr_lk ?_ (by first | assumption | decide); first | assumption | exact mr_up_same _ _ _ | (refine mr_lk ?_ (by first | assumption | decide); first | assumption | exact mr_up_same _ _ _ | (refine mr_lk ?_ (by first | assumption | decide); first | assumption | exact mr_up_same _ _ _ | (refine mr_lk ?_ (by first | assumption | decide); first | assumption | exact mr_up_same _ _ _))))) (Nat.le_of_ble_eq_true rfl) ?_
            refine mw_p4 hM62 (fun w63 hM63 hF63 => ?_)
            obtain ⟨h18, h19, h20, h21, h22, h23, h24, h25, h26, h27, hs1, hs2, hik⟩ := id hM63
            refine mr_vret rfl dX7_next_159 ?_
            first
              | exact hP w63 _ _ _ _ _ (mr_tk_end hsz hzo.1 hq (by omega) hnb hwd (by unfold mr_mk; rw [(mr_skq_hi hsz hzo.1 hq (by omega)).1, if_pos rfl]; first | rw [if_pos (by omega)] | rw [if_neg (by omega)]) ⟨by omega, by omega⟩ (by omega)) hM63 (hF52.tr (hF53.tr (hF62.tr hF63)))
              | exact hP w63 _ _ _ _ _ (mr_tk_sgn hsz hzo.1 hq (by omega) (fun z => k1 (hlet.mp z)) (fun z => k2 (hdig.mp z)) hnb hwd (by omega) (by first | exact Or.inl ⟨by omega, rfl⟩ | exact Or.inr ⟨by omega, rfl⟩)) hM63 (hF52.tr (hF53.tr (hF62.tr hF63)))
          · refine mr_iconst dX7_next_141 ?_
            refine mr_goto (tgt := 146) dX7_next_142 (by decide) ?_
            refine mr_put dX7_next_146 fl_X7_27 pf_X7_6 rfl rfl (by first | assumption | exact mr_up_same _ _ _ | (refine mr_lk ?_ (by first | assumption | decide); first | assumption | exact mr_up_same _ _ _ | (refine mr_lk ?_ (by first | assumption | decide); first | assumption | exact mr_up_same _ _ _ | (refine mr_lk ?_ (by first | assumption | decide); first | assumption | exact mr_up_same _ _ _ | (refine mr_lk ?_ (by first | assumption | decide); first | assumption | exact mr_up_same _ _ _))))) (Nat.le_of_ble_eq_true rfl) ?_
            refine mw_p6 hM53 (fun w64 hM64 hF64 => ?_)
            obtain ⟨h18, h19, h20, h21, h22, h23, h24, h25, h26, h27, hs1, hs2, hik⟩ := id hM64
            refine mr_aload_n dX7_next_149 rfl ?_
            refine mr_dup dX7_next_150 rfl ?_
            refine mr_get dX7_next_151 fl_X7_21 (by first | assumption | exact mr_up_same _ _ _ | (refine mr_lk ?_ (by first | assumption | decide); first | assumption | exact mr_up_same _ _ _ | (refine mr_lk ?_ (by first | assumption | decide); first | assumption | exact mr_up_same _ _ _ | (refine mr_lk ?_ (by first | assumption | decide); first | assumption | exact mr_up_same _ _ _ | (refine mr_lk ?_ (by first | assumption | decide); first | assumption | exact mr_up_same _ _ _))))) rfl ?_
            refine mr_iconst dX7_next_154 ?_
            refine mr_iadd dX7_next_155 ?_
            refine mr_put dX7_next_156 fl_X7_21 pf_X7_4 rfl rfl (by first | assumption | exact mr_up_same _ _ _ | (refine mr_lk ?_ (by first | assumption | decide); first | assumption | exact mr_up_same _ _ _ | (refine mr_lk ?_ (by first | assumption | decide); first | assumption | exact mr_up_same _ _ _ | (refine mr_lk ?_ (by first | assumption | decide); first | assumption | exact mr_up_same _ _ _ | (refine mr_lk ?_ (by first | assumption | decide); first | assumption | exact mr_up_same _ _ _))))) (Nat.le_of_ble_eq_true rfl) ?_
            refine mw_p4 hM64 (fun w65 hM65 hF65 => ?_)
            obtain ⟨h18, h19, h20, h21, h22, h23, h24, h25, h26, h27, hs1, hs2, hik⟩ := id hM65
            refine mr_vret rfl dX7_next_159 ?_
            first
              | exact hP w65 _ _ _ _ _ (mr_tk_end hsz hzo.1 hq (by omega) hnb hwd (by unfold mr_mk; rw [(mr_skq_hi hsz hzo.1 hq (by omega)).1, if_pos rfl]; first | rw [if_pos (by omega)] | rw [if_neg (by omega)]) ⟨by omega, by omega⟩ (by omega)) hM65 (hF52.tr (hF53.tr (hF64.tr hF65)))
              | exact hP w65 _ _ _ _ _ (mr_tk_sgn hsz hzo.1 hq (by omega) (fun z => k1 (hlet.mp z)) (fun z => k2 (hdig.mp z)) hnb hwd (by omega) (by first | exact Or.inl ⟨by omega, rfl⟩ | exact Or.inr ⟨by omega, rfl⟩)) hM65 (hF52.tr (hF53.tr (hF64.tr hF65)))
    · refine mr_aload_n dX7_next_104 rfl ?_
      refine mr_iconst dX7_next_105 ?_
      refine mr_put dX7_next_106 fl_X7_27 pf_X7_6 rfl rfl (by first | assumption | exact mr_up_same _ _ _ | (refine mr_lk ?_ (by first | assumption | decide); first | assumption | exact mr_up_same _ _ _ | (refine mr_lk ?_ (by first | assumption | decide); first | assumption | exact mr_up_same _ _ _ | (refine mr_lk ?_ (by first | assumption | decide); first | assumption | exact mr_up_same _ _ _ | (refine mr_lk ?_ (by first | assumption | decide); first | assumption | exact mr_up_same _ _ _))))) (Nat.le_of_ble_eq_true rfl) ?_
      refine mw_p6 hM53 (fun w66 hM66 hF66 => ?_)
      obtain ⟨h18, h19, h20, h21, h22, h23, h24, h25, h26, h27, hs1, hs2, hik⟩ := id hM66
      refine mr_vret rfl dX7_next_109 ?_
      first
        | exact hP w66 _ _ _ _ _ (mr_tk_end hsz hzo.1 hq (by omega) hnb hwd (by unfold mr_mk; rw [(mr_skq_hi hsz hzo.1 hq (by omega)).1, if_pos rfl]; first | rw [if_pos (by omega)] | rw [if_neg (by omega)]) ⟨by omega, by omega⟩ (by omega)) hM66 (hF52.tr (hF53.tr hF66))
        | exact hP w66 _ _ _ _ _ (mr_tk_sgn hsz hzo.1 hq (by omega) (fun z => k1 (hlet.mp z)) (fun z => k2 (hdig.mp z)) hnb hwd (by omega) (by first | exact Or.inl ⟨by omega, rfl⟩ | exact Or.inr ⟨by omega, rfl⟩)) hM66 (hF52.tr (hF53.tr hF66))
  · refine mr_aload_n dX7_next_70 rfl ?_
    refine mr_get dX7_next_71 fl_X7_24 (by first | assumption | exact mr_up_same _ _ _ | (refine mr_lk ?_ (by first | assumption | decide); first | assumption | exact mr_up_same _ _ _ | (refine mr_lk ?_ (by first | assumption | decide); first | assumption | exact mr_up_same _ _ _ | (refine mr_lk ?_ (by first | assumption | decide); first | assumption | exact mr_up_same _ _ _ | (refine mr_lk ?_ (by first | assumption | decide); first | assumption | exact mr_up_same _ _ _))))) rfl ?_
    refine mr_sipush dX7_next_74 rfl ?_
    refine mr_icmp_lt (tgt := 93) dX7_next_77 (by decide) ⟨by omega, by omega⟩ (by decide) (fun hc_77 => ?_) (fun hc_77 => ?_)
    · refine mr_aload_n dX7_next_93 rfl ?_
      refine mr_get dX7_next_94 fl_X7_21 (by first | assumption | exact mr_up_same _ _ _ | (refine mr_lk ?_ (by first | assumption | decide); first | assumption | exact mr_up_same _ _ _ | (refine mr_lk ?_ (by first | assumption | decide); first | assumption | exact mr_up_same _ _ _ | (refine mr_lk ?_ (by first | assumption | decide); first | assumption | exact mr_up_same _ _ _ | (refine mr_lk ?_ (by first | assumption | decide); first | assumption | exact mr_up_same _ _ _))))) rfl ?_
      refine mr_aload_n dX7_next_97 rfl ?_
      refine mr_get dX7_next_98 fl_X7_18 (by first | assumption | exact mr_up_same _ _ _ | (refine mr_lk ?_ (by first | assumption | decide); first | assumption | exact mr_up_same _ _ _ | (refine mr_lk ?_ (by first | assumption | decide); first | assumption | exact mr_up_same _ _ _ | (refine mr_lk ?_ (by first | assumption | decide); first | assumption | exact mr_up_same _ _ _ | (refine mr_lk ?_ (by first | assumption | decide); first | assumption | exact mr_up_same _ _ _))))) rfl ?_
      refine mr_icmp_lt (tgt := 110) dX7_next_101 (by decide) ⟨by omega, by omega⟩ ⟨by omega, by omega⟩ (fun hc_101 => ?_) (fun hc_101 => ?_)
      · have hTp : T p.toNat = mr_ba sz g p := by rw [hT p.toNat (by omega), Int.toNat_of_nonneg (by omega)]
        have hTR : InR (T p.toNat) := by rw [hTp]; exact mr_ba_in sz g p
        have hlet : mr_let sz g p ↔ (97 ≤ T p.toNat ∧ T p.toNat ≤ 122) := by unfold mr_let; rw [hTp]
        have hdig : mr_dig sz g p ↔ (48 ≤ T p.toNat ∧ T p.toNat ≤ 57) := by unfold mr_dig; rw [hTp]
        refine mr_aload_n dX7_next_110 rfl ?_
        refine mr_get dX7_next_111 fl_X7_7 (by first | assumption | exact mr_up_same _ _ _ | (refine mr_lk ?_ (by first | assumption | decide); first | assumption | exact mr_up_same _ _ _ | (refine mr_lk ?_ (by first | assumption | decide); first | assumption | exact mr_up_same _ _ _ | (refine mr_lk ?_ (by first | assumption | decide); first | assumption | exact mr_up_same _ _ _ | (refine mr_lk ?_ (by first | assumption | decide); first | assumption | exact mr_up_same _ _ _))))) rfl ?_
        refine mr_aload_n dX7_next_114 rfl ?_
        refine mr_get dX7_next_115 fl_X7_21 (by first | assumption | exact mr_up_same _ _ _ | (refine mr_lk ?_ (by first | assumption | decide); first | assumption | exact mr_up_same _ _ _ | (refine mr_lk ?_ (by first | assumption | decide); first | assumption | exact mr_up_same _ _ _ | (refine mr_lk ?_ (by first | assumption | decide); first | assumption | exact mr_up_same _ _ _ | (refine mr_lk ?_ (by first | assumption | decide); first | assumption | exact mr_up_same _ _ _))))) rfl ?_
        refine mr_iald dX7_next_118 (by first | assumption | exact mr_up_same _ _ _ | (refine mr_lk ?_ (by first | assumption | decide); first | assumption | exact mr_up_same _ _ _ | (refine mr_lk ?_ (by first | assumption | decide); first | assumption | exact mr_up_same _ _ _ | (refine mr_lk ?_ (by first | assumption | decide); first | assumption | exact mr_up_same _ _ _ | (refine mr_lk ?_ (by first | assumption | decide); first | assumption | exact mr_up_same _ _ _))))) (by omega) (by omega) (by decide) ?_
        refine mr_istore_n dX7_next_119 rfl (by decide) ?_
        refine mr_iload_n dX7_next_120 rfl ?_
        refine mr_callS (as := [_]) dX7_next_121 (ok_X7_isLetter l G) ml_X7_30 cl_X7_isLetter cs_X7_isLetter (by decide) rfl rfl (Nat.le_of_ble_eq_true rfl) ?_
        refine ⟨_, rfl, hTR, ?_, ?_⟩
        · intro k1
          dsimp only [Option.toList_some, Option.toList_none, List.cons_append, List.nil_append]
          refine mr_if_ne (tgt := 160) dX7_next_124 (by decide) (by omega) (fun _ => ?_) (fun h => absurd h (by decide))
          refine mr_iload_n dX7_next_160 rfl ?_
          refine mr_callS (as := [_]) dX7_next_161 (ok_X7_isLetter l G) ml_X7_30 cl_X7_isLetter cs_X7_isLetter (by decide) rfl rfl (Nat.le_of_ble_eq_true rfl) ?_
          refine ⟨_, rfl, hTR, ?_, ?_⟩
          · intro k3
            dsimp only [Option.toList_some, Option.toList_none, List.cons_append, List.nil_append]
            refine mr_istore_n dX7_next_164 rfl (by decide) ?_
            refine mr_iconst dX7_next_165 ?_
            refine mr_istore_n dX7_next_166 rfl (by decide) ?_
            refine mr_aload_n dX7_next_167 rfl ?_
            refine mr_lconst0 dX7_next_168 ?_
            refine mr_put dX7_next_169 fl_X7_37 pf_X7_10 rfl rfl (by first | assumption | exact mr_up_same _ _ _ | (refine mr_lk ?_ (by first | assumption | decide); first | assumption | exact mr_up_same _ _ _ | (refine mr_lk ?_ (by first | assumption | decide); first | assumption | exact mr_up_same _ _ _ | (refine mr_lk ?_ (by first | assumption | decide); first | assumption | exact mr_up_same _ _ _ | (refine mr_lk ?_ (by first | assumption | decide); first | assumption | exact mr_up_same _ _ _))))) (Nat.le_of_ble_eq_true rfl) ?_
            refine mw_p10 hM53 (fun w67 hM67 hF67 => ?_)
            obtain ⟨h18, h19, h20, h21, h22, h23, h24, h25, h26, h27, hs1, hs2, hik⟩ := id hM67
            refine mr_aload_n dX7_next_172 rfl ?_
            refine mr_iconst dX7_next_173 ?_
            refine mr_put dX7_next_174 fl_X7_41 pf_X7_7 rfl rfl (by first | assumption | exact mr_up_same _ _ _ | (refine mr_lk ?_ (by first | assumption | decide); first | assumption | exact mr_up_same _ _ _ | (refine mr_lk ?_ (by first | assumption | decide); first | assumption | exact mr_up_same _ _ _ | (refine mr_lk ?_ (by first | assumption | decide); first | assumption | exact mr_up_same _ _ _ | (refine mr_lk ?_ (by first | assumption | decide); first | assumption | exact mr_up_same _ _ _))))) (Nat.le_of_ble_eq_true rfl) ?_
            refine mw_p7 hM67 (fun w68 hM68 hF68 => ?_)
            obtain ⟨h18, h19, h20, h21, h22, h23, h24, h25, h26, h27, hs1, hs2, hik⟩ := id hM68
            first
              | exact absurd (k1.elim (fun _ => k1)) k1
              | (refine mr_weak [some (vR 18 0), some (vI (T p.toNat)), some (vI 1), some (vI 1), none] ⟨rfl, rfl, rfl, rfl, trivial⟩ ?_
                 refine lpb_X7_next l G (zo := 0) (nb := 0) (wd := 0) (w0 := w68) (p := p) (c := T p.toNat) (le := 1) hsz hT (by omega) (by decide) rfl (fun w99 i gd hrun hgd hM99 hF99 => ?_) (sz - p).toNat p 1 w68 ⟨⟨Int.le_refl p, by omega⟩, fun x g1 g2 => by omega, Or.inr rfl, fun _ x g1 g2 => by omega, fun _ => rfl⟩ (by omega) (by rw [show (min (p - p) 9).toNat = 0 by omega, show mr_nv sz g p p = 0 from if_pos rfl]; exact hM68) (mr_FM.rf _)
                 exact fin_X7_next l G (zo := 0) (fr := 0) (nb := 0) (wd := 0) hsz hzo.1 hq (by omega) hrun (by decide) hgd.1 hgd.2 (by first | exact ⟨fun _ => hlet.mpr k3, fun _ => rfl⟩ | exact ⟨fun z => absurd z (by decide), fun z => absurd (hlet.mp z) k3⟩) (by first | exact Or.inl (hlet.mpr k1) | exact Or.inr (hdig.mpr k2)) hM99 (fun w' zo' fr' kd' nb' wd' a1 a2 a3 => hP w' zo' fr' kd' nb' wd' a1 a2 ((hF52.tr (hF53.tr (hF67.tr hF68))).tr (hF99.tr a3))))
          · intro k3
            dsimp only [Option.toList_some, Option.toList_none, List.cons_append, List.nil_append]
            refine mr_istore_n dX7_next_164 rfl (by decide) ?_
            refine mr_iconst dX7_next_165 ?_
            refine mr_istore_n dX7_next_166 rfl (by decide) ?_
            refine mr_aload_n dX7_next_167 rfl ?_
            refine mr_lconst0 dX7_next_168 ?_
            refine mr_put dX7_next_169 fl_X7_37 pf_X7_10 rfl rfl (by first | assumption | exact mr_up_same _ _ _ | (refine mr_lk ?_ (by first | assumption | decide); first | assumption | exact mr_up_same _ _ _ | (refine mr_lk ?_ (by first | assumption | decide); first | assumption | exact mr_up_same _ _ _ | (refine mr_lk ?_ (by first | assumption | decide); first | assumption | exact mr_up_same _ _ _ | (refine mr_lk ?_ (by first | assumption | decide); first | assumption | exact mr_up_same _ _ _))))) (Nat.le_of_ble_eq_true rfl) ?_
            refine mw_p10 hM53 (fun w69 hM69 hF69 => ?_)
            obtain ⟨h18, h19, h20, h21, h22, h23, h24, h25, h26, h27, hs1, hs2, hik⟩ := id hM69
            refine mr_aload_n dX7_next_172 rfl ?_
            refine mr_iconst dX7_next_173 ?_
            refine mr_put dX7_next_174 fl_X7_41 pf_X7_7 rfl rfl (by first | assumption | exact mr_up_same _ _ _ | (refine mr_lk ?_ (by first | assumption | decide); first | assumption | exact mr_up_same _ _ _ | (refine mr_lk ?_ (by first | assumption | decide); first | assumption | exact mr_up_same _ _ _ | (refine mr_lk ?_ (by first | assumption | decide); first | assumption | exact mr_up_same _ _ _ | (refine mr_lk ?_ (by first | assumption | decide); first | assumption | exact mr_up_same _ _ _))))) (Nat.le_of_ble_eq_true rfl) ?_
            refine mw_p7 hM69 (fun w70 hM70 hF70 => ?_)
            obtain ⟨h18, h19, h20, h21, h22, h23, h24, h25, h26, h27, hs1, hs2, hik⟩ := id hM70
            first
              | exact absurd (k1.elim (fun _ => k1)) k1
              | (refine mr_weak [some (vR 18 0), some (vI (T p.toNat)), some (vI 0), some (vI 1), none] ⟨rfl, rfl, rfl, rfl, trivial⟩ ?_
                 refine lpb_X7_next l G (zo := 0) (nb := 0) (wd := 0) (w0 := w70) (p := p) (c := T p.toNat) (le := 0) hsz hT (by omega) (by decide) rfl (fun w99 i gd hrun hgd hM99 hF99 => ?_) (sz - p).toNat p 1 w70 ⟨⟨Int.le_refl p, by omega⟩, fun x g1 g2 => by omega, Or.inr rfl, fun _ x g1 g2 => by omega, fun _ => rfl⟩ (by omega) (by rw [show (min (p - p) 9).toNat = 0 by omega, show mr_nv sz g p p = 0 from if_pos rfl]; exact hM70) (mr_FM.rf _)
                 exact fin_X7_next l G (zo := 0) (fr := 0) (nb := 0) (wd := 0) hsz hzo.1 hq (by omega) hrun (by decide) hgd.1 hgd.2 (by first | exact ⟨fun _ => hlet.mpr k3, fun _ => rfl⟩ | exact ⟨fun z => absurd z (by decide), fun z => absurd (hlet.mp z) k3⟩) (by first | exact Or.inl (hlet.mpr k1) | exact Or.inr (hdig.mpr k2)) hM99 (fun w' zo' fr' kd' nb' wd' a1 a2 a3 => hP w' zo' fr' kd' nb' wd' a1 a2 ((hF52.tr (hF53.tr (hF69.tr hF70))).tr (hF99.tr a3))))
        · intro k1
          dsimp only [Option.toList_some, Option.toList_none, List.cons_append, List.nil_append]
          refine mr_if_ne (tgt := 160) dX7_next_124 (by decide) (by omega) (fun h => absurd h (by decide)) (fun _ => ?_)
          refine mr_iload_n dX7_next_127 rfl ?_
          refine mr_callS (as := [_]) dX7_next_128 (ok_X7_isDigit l G) ml_X7_34 cl_X7_isDigit cs_X7_isDigit (by decide) rfl rfl (Nat.le_of_ble_eq_true rfl) ?_
          refine ⟨_, rfl, hTR, ?_, ?_⟩
          · intro k2
            dsimp only [Option.toList_some, Option.toList_none, List.cons_append, List.nil_append]
            refine mr_if_ne (tgt := 160) dX7_next_131 (by decide) (by omega) (fun _ => ?_) (fun h => absurd h (by decide))
            refine mr_iload_n dX7_next_160 rfl ?_
            refine mr_callS (as := [_]) dX7_next_161 (ok_X7_isLetter l G) ml_X7_30 cl_X7_isLetter cs_X7_isLetter (by decide) rfl rfl (Nat.le_of_ble_eq_true rfl) ?_
            refine ⟨_, rfl, hTR, ?_, ?_⟩
            · intro k3
              dsimp only [Option.toList_some, Option.toList_none, List.cons_append, List.nil_append]
              refine mr_istore_n dX7_next_164 rfl (by decide) ?_
              refine mr_iconst dX7_next_165 ?_
              refine mr_istore_n dX7_next_166 rfl (by decide) ?_
              refine mr_aload_n dX7_next_167 rfl ?_
              refine mr_lconst0 dX7_next_168 ?_
              refine mr_put dX7_next_169 fl_X7_37 pf_X7_10 rfl rfl (by first | assumption | exact mr_up_same _ _ _ | (refine mr_lk ?_ (by first | assumption | decide); first | assumption | exact mr_up_same _ _ _ | (refine mr_lk ?_ (by first | assumption | decide); first | assumption | exact mr_up_same _ _ _ | (refine mr_lk ?_ (by first | assumption | decide); first | assumption | exact mr_up_same _ _ _ | (refine mr_lk ?_ (by first | assumption | decide); first | assumption | exact mr_up_same _ _ _))))) (Nat.le_of_ble_eq_true rfl) ?_
              refine mw_p10 hM53 (fun w71 hM71 hF71 => ?_)
              obtain ⟨h18, h19, h20, h21, h22, h23, h24, h25, h26, h27, hs1, hs2, hik⟩ := id hM71
              refine mr_aload_n dX7_next_172 rfl ?_
              refine mr_iconst dX7_next_173 ?_
              refine mr_put dX7_next_174 fl_X7_41 pf_X7_7 rfl rfl (by first | assumption | exact mr_up_same _ _ _ | (refine mr_lk ?_ (by first | assumption | decide); first | assumption | exact mr_up_same _ _ _ | (refine mr_lk ?_ (by first | assumption | decide); first | assumption | exact mr_up_same _ _ _ | (refine mr_lk ?_ (by first | assumption | decide); first | assumption | exact mr_up_same _ _ _ | (refine mr_lk ?_ (by first | assumption | decide); first | assumption | exact mr_up_same _ _ _))))) (Nat.le_of_ble_eq_true rfl) ?_
              refine mw_p7 hM71 (fun w72 hM72 hF72 => ?_)
              obtain ⟨h18, h19, h20, h21, h22, h23, h24, h25, h26, h27, hs1, hs2, hik⟩ := id hM72
              first
                | exact absurd (k1.elim (fun _ => k1)) k1
                | (refine mr_weak [some (vR 18 0), some (vI (T p.toNat)), some (vI 1), some (vI 1), none] ⟨rfl, rfl, rfl, rfl, trivial⟩ ?_
                   refine lpb_X7_next l G (zo := 0) (nb := 0) (wd := 0) (w0 := w72) (p := p) (c := T p.toNat) (le := 1) hsz hT (by omega) (by decide) rfl (fun w99 i gd hrun hgd hM99 hF99 => ?_) (sz - p).toNat p 1 w72 ⟨⟨Int.le_refl p, by omega⟩, fun x g1 g2 => by omega, Or.inr rfl, fun _ x g1 g2 => by omega, fun _ => rfl⟩ (by omega) (by rw [show (min (p - p) 9).toNat = 0 by omega, show mr_nv sz g p p = 0 from if_pos rfl]; exact hM72) (mr_FM.rf _)
                   exact fin_X7_next l G (zo := 0) (fr := 0) (nb := 0) (wd := 0) hsz hzo.1 hq (by omega) hrun (by decide) hgd.1 hgd.2 (by first | exact ⟨fun _ => hlet.mpr k3, fun _ => rfl⟩ | exact ⟨fun z => absurd z (by decide), fun z => absurd (hlet.mp z) k3⟩) (by first | exact Or.inl (hlet.mpr k1) | exact Or.inr (hdig.mpr k2)) hM99 (fun w' zo' fr' kd' nb' wd' a1 a2 a3 => hP w' zo' fr' kd' nb' wd' a1 a2 ((hF52.tr (hF53.tr (hF71.tr hF72))).tr (hF99.tr a3))))
            · intro k3
              dsimp only [Option.toList_some, Option.toList_none, List.cons_append, List.nil_append]
              refine mr_istore_n dX7_next_164 rfl (by decide) ?_
              refine mr_iconst dX7_next_165 ?_
              refine mr_istore_n dX7_next_166 rfl (by decide) ?_
              refine mr_aload_n dX7_next_167 rfl ?_
              refine mr_lconst0 dX7_next_168 ?_
              refine mr_put dX7_next_169 fl_X7_37 pf_X7_10 rfl rfl (by first | assumption | exact mr_up_same _ _ _ | (refine mr_lk ?_ (by first | assumption | decide); first | assumption | exact mr_up_same _ _ _ | (refine mr_lk ?_ (by first | assumption | decide); first | assumption | exact mr_up_same _ _ _ | (refine mr_lk ?_ (by first | assumption | decide); first | assumption | exact mr_up_same _ _ _ | (refine mr_lk ?_ (by first | assumption | decide); first | assumption | exact mr_up_same _ _ _))))) (Nat.le_of_ble_eq_true rfl) ?_
              refine mw_p10 hM53 (fun w73 hM73 hF73 => ?_)
              obtain ⟨h18, h19, h20, h21, h22, h23, h24, h25, h26, h27, hs1, hs2, hik⟩ := id hM73
              refine mr_aload_n dX7_next_172 rfl ?_
              refine mr_iconst dX7_next_173 ?_
              refine mr_put dX7_next_174 fl_X7_41 pf_X7_7 rfl rfl (by first | assumption | exact mr_up_same _ _ _ | (refine mr_lk ?_ (by first | assumption | decide); first | assumption | exact mr_up_same _ _ _ | (refine mr_lk ?_ (by first | assumption | decide); first | assumption | exact mr_up_same _ _ _ | (refine mr_lk ?_ (by first | assumption | decide); first | assumption | exact mr_up_same _ _ _ | (refine mr_lk ?_ (by first | assumption | decide); first | assumption | exact mr_up_same _ _ _))))) (Nat.le_of_ble_eq_true rfl) ?_
              refine mw_p7 hM73 (fun w74 hM74 hF74 => ?_)
              obtain ⟨h18, h19, h20, h21, h22, h23, h24, h25, h26, h27, hs1, hs2, hik⟩ := id hM74
              first
                | exact absurd (k1.elim (fun _ => k1)) k1
                | (refine mr_weak [some (vR 18 0), some (vI (T p.toNat)), some (vI 0), some (vI 1), none] ⟨rfl, rfl, rfl, rfl, trivial⟩ ?_
                   refine lpb_X7_next l G (zo := 0) (nb := 0) (wd := 0) (w0 := w74) (p := p) (c := T p.toNat) (le := 0) hsz hT (by omega) (by decide) rfl (fun w99 i gd hrun hgd hM99 hF99 => ?_) (sz - p).toNat p 1 w74 ⟨⟨Int.le_refl p, by omega⟩, fun x g1 g2 => by omega, Or.inr rfl, fun _ x g1 g2 => by omega, fun _ => rfl⟩ (by omega) (by rw [show (min (p - p) 9).toNat = 0 by omega, show mr_nv sz g p p = 0 from if_pos rfl]; exact hM74) (mr_FM.rf _)
                   exact fin_X7_next l G (zo := 0) (fr := 0) (nb := 0) (wd := 0) hsz hzo.1 hq (by omega) hrun (by decide) hgd.1 hgd.2 (by first | exact ⟨fun _ => hlet.mpr k3, fun _ => rfl⟩ | exact ⟨fun z => absurd z (by decide), fun z => absurd (hlet.mp z) k3⟩) (by first | exact Or.inl (hlet.mpr k1) | exact Or.inr (hdig.mpr k2)) hM99 (fun w' zo' fr' kd' nb' wd' a1 a2 a3 => hP w' zo' fr' kd' nb' wd' a1 a2 ((hF52.tr (hF53.tr (hF73.tr hF74))).tr (hF99.tr a3))))
          · intro k2
            dsimp only [Option.toList_some, Option.toList_none, List.cons_append, List.nil_append]
            refine mr_if_ne (tgt := 160) dX7_next_131 (by decide) (by omega) (fun h => absurd h (by decide)) (fun _ => ?_)
            refine mr_aload_n dX7_next_134 rfl ?_
            refine mr_iload_n dX7_next_135 rfl ?_
            refine mr_bipush dX7_next_136 rfl ?_
            refine mr_icmp_ne (tgt := 145) dX7_next_138 (by decide) hTR (by decide) (fun hc_138 => ?_) (fun hc_138 => ?_)
            · refine mr_iconst dX7_next_145 ?_
              refine mr_put dX7_next_146 fl_X7_27 pf_X7_6 rfl rfl (by first | assumption | exact mr_up_same _ _ _ | (refine mr_lk ?_ (by first | assumption | decide); first | assumption | exact mr_up_same _ _ _ | (refine mr_lk ?_ (by first | assumption | decide); first | assumption | exact mr_up_same _ _ _ | (refine mr_lk ?_ (by first | assumption | decide); first | assumption | exact mr_up_same _ _ _ | (refine mr_lk ?_ (by first | assumption | decide); first | assumption | exact mr_up_same _ _ _))))) (Nat.le_of_ble_eq_true rfl) ?_
              refine mw_p6 hM53 (fun w75 hM75 hF75 => ?_)
              obtain ⟨h18, h19, h20, h21, h22, h23, h24, h25, h26, h27, hs1, hs2, hik⟩ := id hM75
              refine mr_aload_n dX7_next_149 rfl ?_
              refine mr_dup dX7_next_150 rfl ?_
              refine mr_get dX7_next_151 fl_X7_21 (by first | assumption | exact mr_up_same _ _ _ | (refine mr_lk ?_ (by first | assumption | decide); first | assumption | exact mr_up_same _ _ _ | (refine mr_lk ?_ (by first | assumption | decide); first | assumption | exact mr_up_same _ _ _ | (refine mr_lk ?_ (by first | assumption | decide); first | assumption | exact mr_up_same _ _ _ | (refine mr_lk ?_ (by first | assumption | decide); first | assumption | exact mr_up_same _ _ _))))) rfl ?_
              refine mr_iconst dX7_next_154 ?_
              refine mr_iadd dX7_next_155 ?_
              refine mr_put dX7_next_156 fl_X7_21 pf_X7_4 rfl rfl (by first | assumption | exact mr_up_same _ _ _ | (refine mr_lk ?_ (by first | assumption | decide); first | assumption | exact mr_up_same _ _ _ | (refine mr_lk ?_ (by first | assumption | decide); first | assumption | exact mr_up_same _ _ _ | (refine mr_lk ?_ (by first | assumption | decide); first | assumption | exact mr_up_same _ _ _ | (refine mr_lk ?_ (by first | assumption | decide); first | assumption | exact mr_up_same _ _ _))))) (Nat.le_of_ble_eq_true rfl) ?_
              refine mw_p4 hM75 (fun w76 hM76 hF76 => ?_)
              obtain ⟨h18, h19, h20, h21, h22, h23, h24, h25, h26, h27, hs1, hs2, hik⟩ := id hM76
              refine mr_vret rfl dX7_next_159 ?_
              first
                | exact hP w76 _ _ _ _ _ (mr_tk_end hsz hzo.1 hq (by omega) hnb hwd (by unfold mr_mk; rw [(mr_skq_hi hsz hzo.1 hq (by omega)).1, if_pos rfl]; first | rw [if_pos (by omega)] | rw [if_neg (by omega)]) ⟨by omega, by omega⟩ (by omega)) hM76 (hF52.tr (hF53.tr (hF75.tr hF76)))
                | exact hP w76 _ _ _ _ _ (mr_tk_sgn hsz hzo.1 hq (by omega) (fun z => k1 (hlet.mp z)) (fun z => k2 (hdig.mp z)) hnb hwd (by omega) (by first | exact Or.inl ⟨by omega, rfl⟩ | exact Or.inr ⟨by omega, rfl⟩)) hM76 (hF52.tr (hF53.tr (hF75.tr hF76)))
            · refine mr_iconst dX7_next_141 ?_
              refine mr_goto (tgt := 146) dX7_next_142 (by decide) ?_
              refine mr_put dX7_next_146 fl_X7_27 pf_X7_6 rfl rfl (by first | assumption | exact mr_up_same _ _ _ | (refine mr_lk ?_ (by first | assumption | decide); first | assumption | exact mr_up_same _ _ _ | (refine mr_lk ?_ (by first | assumption | decide); first | assumption | exact mr_up_same _ _ _ | (refine mr_lk ?_ (by first | assumption | decide); first | assumption | exact mr_up_same _ _ _ | (refine mr_lk ?_ (by first | assumption | decide); first | assumption | exact mr_up_same _ _ _))))) (Nat.le_of_ble_eq_true rfl) ?_
              refine mw_p6 hM53 (fun w77 hM77 hF77 => ?_)
              obtain ⟨h18, h19, h20, h21, h22, h23, h24, h25, h26, h27, hs1, hs2, hik⟩ := id hM77
              refine mr_aload_n dX7_next_149 rfl ?_
              refine mr_dup dX7_next_150 rfl ?_
              refine mr_get dX7_next_151 fl_X7_21 (by first | assumption | exact mr_up_same _ _ _ | (refine mr_lk ?_ (by first | assumption | decide); first | assumption | exact mr_up_same _ _ _ | (refine mr_lk ?_ (by first | assumption | decide); first | assumption | exact mr_up_same _ _ _ | (refine mr_lk ?_ (by first | assumption | decide); first | assumption | exact mr_up_same _ _ _ | (refine mr_lk ?_ (by first | assumption | decide); first | assumption | exact mr_up_same _ _ _))))) rfl ?_
              refine mr_iconst dX7_next_154 ?_
              refine mr_iadd dX7_next_155 ?_
              refine mr_put dX7_next_156 fl_X7_21 pf_X7_4 rfl rfl (by first | assumption | exact mr_up_same _ _ _ | (refine mr_lk ?_ (by first | assumption | decide); first | assumption | exact mr_up_same _ _ _ | (refine mr_lk ?_ (by first | assumption | decide); first | assumption | exact mr_up_same _ _ _ | (refine mr_lk ?_ (by first | assumption | decide); first | assumption | exact mr_up_same _ _ _ | (refine mr_lk ?_ (by first | assumption | decide); first | assumption | exact mr_up_same _ _ _))))) (Nat.le_of_ble_eq_true rfl) ?_
              refine mw_p4 hM77 (fun w78 hM78 hF78 => ?_)
              obtain ⟨h18, h19, h20, h21, h22, h23, h24, h25, h26, h27, hs1, hs2, hik⟩ := id hM78
              refine mr_vret rfl dX7_next_159 ?_
              first
                | exact hP w78 _ _ _ _ _ (mr_tk_end hsz hzo.1 hq (by omega) hnb hwd (by unfold mr_mk; rw [(mr_skq_hi hsz hzo.1 hq (by omega)).1, if_pos rfl]; first | rw [if_pos (by omega)] | rw [if_neg (by omega)]) ⟨by omega, by omega⟩ (by omega)) hM78 (hF52.tr (hF53.tr (hF77.tr hF78)))
                | exact hP w78 _ _ _ _ _ (mr_tk_sgn hsz hzo.1 hq (by omega) (fun z => k1 (hlet.mp z)) (fun z => k2 (hdig.mp z)) hnb hwd (by omega) (by first | exact Or.inl ⟨by omega, rfl⟩ | exact Or.inr ⟨by omega, rfl⟩)) hM78 (hF52.tr (hF53.tr (hF77.tr hF78)))
      · refine mr_aload_n dX7_next_104 rfl ?_
        refine mr_iconst dX7_next_105 ?_
        refine mr_put dX7_next_106 fl_X7_27 pf_X7_6 rfl rfl (by first | assumption | exact mr_up_same _ _ _ | (refine mr_lk ?_ (by first | assumption | decide); first | assumption | exact mr_up_same _ _ _ | (refine mr_lk ?_ (by first | assumption | decide); first | assumption | exact mr_up_same _ _ _ | (refine mr_lk ?_ (by first | assumption | decide); first | assumption | exact mr_up_same _ _ _ | (refine mr_lk ?_ (by first | assumption | decide); first | assumption | exact mr_up_same _ _ _))))) (Nat.le_of_ble_eq_true rfl) ?_
        refine mw_p6 hM53 (fun w79 hM79 hF79 => ?_)
        obtain ⟨h18, h19, h20, h21, h22, h23, h24, h25, h26, h27, hs1, hs2, hik⟩ := id hM79
        refine mr_vret rfl dX7_next_109 ?_
        first
          | exact hP w79 _ _ _ _ _ (mr_tk_end hsz hzo.1 hq (by omega) hnb hwd (by unfold mr_mk; rw [(mr_skq_hi hsz hzo.1 hq (by omega)).1, if_pos rfl]; first | rw [if_pos (by omega)] | rw [if_neg (by omega)]) ⟨by omega, by omega⟩ (by omega)) hM79 (hF52.tr (hF53.tr hF79))
          | exact hP w79 _ _ _ _ _ (mr_tk_sgn hsz hzo.1 hq (by omega) (fun z => k1 (hlet.mp z)) (fun z => k2 (hdig.mp z)) hnb hwd (by omega) (by first | exact Or.inl ⟨by omega, rfl⟩ | exact Or.inr ⟨by omega, rfl⟩)) hM79 (hF52.tr (hF53.tr hF79))
    · refine mr_aload_n dX7_next_80 rfl ?_
      refine mr_sipush dX7_next_81 rfl ?_
      refine mr_put dX7_next_84 fl_X7_24 pf_X7_5 rfl rfl (by first | assumption | exact mr_up_same _ _ _ | (refine mr_lk ?_ (by first | assumption | decide); first | assumption | exact mr_up_same _ _ _ | (refine mr_lk ?_ (by first | assumption | decide); first | assumption | exact mr_up_same _ _ _ | (refine mr_lk ?_ (by first | assumption | decide); first | assumption | exact mr_up_same _ _ _ | (refine mr_lk ?_ (by first | assumption | decide); first | assumption | exact mr_up_same _ _ _))))) (Nat.le_of_ble_eq_true rfl) ?_
      refine mw_p5 hM53 (fun w80 hM80 hF80 => ?_)
      obtain ⟨h18, h19, h20, h21, h22, h23, h24, h25, h26, h27, hs1, hs2, hik⟩ := id hM80
      refine mr_aload_n dX7_next_87 rfl ?_
      refine mr_iconst dX7_next_88 ?_
      refine mr_put dX7_next_89 fl_X7_27 pf_X7_6 rfl rfl (by first | assumption | exact mr_up_same _ _ _ | (refine mr_lk ?_ (by first | assumption | decide); first | assumption | exact mr_up_same _ _ _ | (refine mr_lk ?_ (by first | assumption | decide); first | assumption | exact mr_up_same _ _ _ | (refine mr_lk ?_ (by first | assumption | decide); first | assumption | exact mr_up_same _ _ _ | (refine mr_lk ?_ (by first | assumption | decide); first | assumption | exact mr_up_same _ _ _))))) (Nat.le_of_ble_eq_true rfl) ?_
      refine mw_p6 hM80 (fun w81 hM81 hF81 => ?_)
      obtain ⟨h18, h19, h20, h21, h22, h23, h24, h25, h26, h27, hs1, hs2, hik⟩ := id hM81
      refine mr_vret rfl dX7_next_92 ?_
      first
        | exact hP w81 _ _ _ _ _ (mr_tk_end hsz hzo.1 hq (by omega) hnb hwd (by unfold mr_mk; rw [(mr_skq_hi hsz hzo.1 hq (by omega)).1, if_pos rfl]; first | rw [if_pos (by omega)] | rw [if_neg (by omega)]) ⟨by omega, by omega⟩ (by omega)) hM81 (hF52.tr (hF53.tr (hF80.tr hF81)))
        | exact hP w81 _ _ _ _ _ (mr_tk_sgn hsz hzo.1 hq (by omega) (fun z => k1 (hlet.mp z)) (fun z => k2 (hdig.mp z)) hnb hwd (by omega) (by first | exact Or.inl ⟨by omega, rfl⟩ | exact Or.inr ⟨by omega, rfl⟩)) hM81 (hF52.tr (hF53.tr (hF80.tr hF81)))
