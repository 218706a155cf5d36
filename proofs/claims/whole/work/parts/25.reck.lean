/-! THE RECKONER (7): tables of rows for the shaper. -/
def mr_wS (w : mr_Wd) (m cl ct : Int) (R F : Nat → Nat → Int) : mr_Wd := mr_up (mr_up (mr_up w 8 (eO 4 [vR 9 0, vR 10 0, vI m, vI cl, vI ct])) 9 (eM 6 7 R)) 10 (eM 7 7 F)
theorem mr_wS_8 (w : mr_Wd) (m cl ct : Int) (R F : Nat → Nat → Int) : mr_wS w m cl ct R F 8 = eO 4 [vR 9 0, vR 10 0, vI m, vI cl, vI ct] := rfl
theorem mr_wS_9 (w : mr_Wd) (m cl ct : Int) (R F : Nat → Nat → Int) : mr_wS w m cl ct R F 9 = eM 6 7 R := rfl
theorem mr_wS_10 (w : mr_Wd) (m cl ct : Int) (R F : Nat → Nat → Int) : mr_wS w m cl ct R F 10 = eM 7 7 F := rfl
theorem mr_wS_ne (w : mr_Wd) (m cl ct : Int) (R F : Nat → Nat → Int) {k : Nat} (h : k ≠ 8 ∧ k ≠ 9 ∧ k ≠ 10) : mr_wS w m cl ct R F k = w k := by
  unfold mr_wS
  rw [mr_up_ne _ _ h.2.2, mr_up_ne _ _ h.2.1, mr_up_ne _ _ h.1]
theorem mr_wS_u8 (w : mr_Wd) (m cl ct m' cl' ct' : Int) (R F : Nat → Nat → Int) : mr_up (mr_wS w m cl ct R F) 8 (eO 4 [vR 9 0, vR 10 0, vI m', vI cl', vI ct']) = mr_wS w m' cl' ct' R F := by
  funext k
  by_cases h8 : k = 8
  · subst h8; rw [mr_up_same, mr_wS_8]
  · rw [mr_up_ne _ _ h8]
    by_cases h9 : k = 9
    · subst h9; rw [mr_wS_9, mr_wS_9]
    · by_cases h10 : k = 10
      · subst h10; rw [mr_wS_10, mr_wS_10]
      · rw [mr_wS_ne _ _ _ _ _ _ ⟨h8, h9, h10⟩, mr_wS_ne _ _ _ _ _ _ ⟨h8, h9, h10⟩]
theorem mr_wS_u9 (w : mr_Wd) (m cl ct : Int) (R R' F : Nat → Nat → Int) : mr_up (mr_wS w m cl ct R F) 9 (eM 6 7 R') = mr_wS w m cl ct R' F := by
  unfold mr_wS
  rw [mr_up3 _ (by decide)]
theorem mr_wS_u10 (w : mr_Wd) (m cl ct : Int) (R F F' : Nat → Nat → Int) : mr_up (mr_wS w m cl ct R F) 10 (eM 7 7 F') = mr_wS w m cl ct R F' := by
  unfold mr_wS
  rw [mr_up_up]
theorem mr_wS_uk (w : mr_Wd) (m cl ct : Int) (R F : Nat → Nat → Int) {k : Nat} (e : mr_AE) (h : k ≠ 8 ∧ k ≠ 9 ∧ k ≠ 10) : mr_up (mr_wS w m cl ct R F) k e = mr_wS (mr_up w k e) m cl ct R F := by
  unfold mr_wS
  rw [mr_up_comm _ (Ne.symm h.2.2), mr_up_comm _ (Ne.symm h.2.1), mr_up_comm _ (Ne.symm h.1)]
theorem mr_wS_in {w : mr_Wd} {m cl ct : Int} {R F : Nat → Nat → Int} (h : mr_SH w m cl ct R F) : mr_wS w m cl ct R F = w := by
  unfold mr_wS
  rw [mr_up_self h.1, mr_up_self h.2.1, mr_up_self h.2.2]
theorem mr_wS_wS (w : mr_Wd) (m cl ct m' cl' ct' : Int) (R F R' F' : Nat → Nat → Int) : mr_wS (mr_wS w m cl ct R F) m' cl' ct' R' F' = mr_wS w m' cl' ct' R' F' := by
  funext k
  by_cases h8 : k = 8
  · subst h8; rfl
  · by_cases h9 : k = 9
    · subst h9; rfl
    · by_cases h10 : k = 10
      · subst h10; rfl
      · rw [mr_wS_ne _ _ _ _ _ _ ⟨h8, h9, h10⟩, mr_wS_ne _ _ _ _ _ _ ⟨h8, h9, h10⟩, mr_wS_ne _ _ _ _ _ _ ⟨h8, h9, h10⟩]
def mr_pw (cl m : Int) (g : Nat → Int) (c x : Int) : Nat → Int := if 0 ≤ c ∧ c < cl then mr_fs g c.toNat (x % m) else g
theorem mr_pu_Rw {cl ct m : Int} (R : Nat → Nat → Int) (g : Nat → Int) (c x : Int) (h : 0 ≤ ct) : mr_pu cl (ct + 1) m (mr_Rw R ct.toNat g) c x = mr_Rw R ct.toNat (mr_pw cl m g c x) := by
  unfold mr_pu mr_pw
  rw [show ct + 1 - 1 = ct by omega]
  split
  · exact mr_Fs_Rw _ _ _ _ _
  · rfl
theorem mr_pw_bm {cl m : Int} {g : Nat → Int} (hm : 1 ≤ m) (hg : mr_Rm m g) (c x : Int) : mr_Rm m (mr_pw cl m g c x) := by
  unfold mr_pw
  split
  · exact mr_fs_bm hg _ (mr_emod_bm hm)
  · exact hg
theorem mr_z_bm {m : Int} (hm : 1 ≤ m) : mr_Rm m (fun _ => 0) := fun j => ⟨Int.le_refl 0, by show (0 : Int) ≤ m; omega⟩
theorem mr_Rn_next {ct m : Int} {R : Nat → Nat → Int} {g : Nat → Int} (h0 : 0 ≤ ct) (hR : mr_Rn ct m R) (hg : mr_Rm m g) : mr_Rn (ct + 1) m (mr_Rw R ct.toNat g) := by
  intro i hi
  by_cases h : i = ct.toNat
  · subst h; rw [mr_Rw_same]; exact hg
  · rw [mr_Rw_ne _ _ h]; exact hR i (by omega)
/-- rows of multiples of a form's rows -/
def mr_gA (m W cl t g : Int) (f : Nat → Int) (p c a : Int) : Nat → Int := fun j => if c ≤ (j : Int) ∧ (j : Int) < a then (t * mr_fa f p c j) % m else if W + c ≤ (j : Int) ∧ (j : Int) < W + a ∧ (j : Int) < cl then (g * mr_fa f p c ((j : Int) - W)) % m else 0
theorem mr_gA_step {m W cl t g : Int} {f : Nat → Int} {p c a : Int} (hc : 0 ≤ c ∧ c ≤ a) (ha : a < W) (hcl : W ≤ cl) : mr_pw cl m (mr_pw cl m (mr_gA m W cl t g f p c a) a (t * mr_fa f p c a)) (W + a) (g * mr_fa f p c a) = mr_gA m W cl t g f p c (a + 1) := by
  funext j
  unfold mr_pw
  rw [if_pos (show 0 ≤ a ∧ a < cl by omega)]
  by_cases h2 : W + a < cl
  · rw [if_pos (show 0 ≤ W + a ∧ W + a < cl by omega)]
    unfold mr_fs mr_gA
    by_cases e1 : j = (W + a).toNat
    · rw [if_pos e1, if_neg (fun z => by omega), if_pos ⟨by omega, by omega, by omega⟩, show (j : Int) - W = a by omega]
    · rw [if_neg e1]
      by_cases e2 : j = a.toNat
      · rw [if_pos e2, if_pos ⟨by omega, by omega⟩, show (j : Int) = a by omega]
      · rw [if_neg e2]
        by_cases e3 : c ≤ (j : Int) ∧ (j : Int) < a
        · rw [if_pos e3, if_pos ⟨e3.1, by omega⟩]
        · have e3' : ¬ (c ≤ (j : Int) ∧ (j : Int) < a + 1) := fun z => e3 ⟨z.1, by omega⟩
          rw [if_neg e3, if_neg e3']
          by_cases e4 : W + c ≤ (j : Int) ∧ (j : Int) < W + a ∧ (j : Int) < cl
          · have e4' : W + c ≤ (j : Int) ∧ (j : Int) < W + (a + 1) ∧ (j : Int) < cl := ⟨e4.1, by omega, e4.2.2⟩
            rw [if_pos e4, if_pos e4']
          · have e4' : ¬ (W + c ≤ (j : Int) ∧ (j : Int) < W + (a + 1) ∧ (j : Int) < cl) := fun z => e4 ⟨z.1, by omega, z.2.2⟩
            rw [if_neg e4, if_neg e4']
  · rw [if_neg (fun z => h2 z.2)]
    unfold mr_fs mr_gA
    by_cases e2 : j = a.toNat
    · rw [if_pos e2, if_pos ⟨by omega, by omega⟩, show (j : Int) = a by omega]
    · rw [if_neg e2]
      by_cases e3 : c ≤ (j : Int) ∧ (j : Int) < a
      · rw [if_pos e3, if_pos ⟨e3.1, by omega⟩]
      · have e3' : ¬ (c ≤ (j : Int) ∧ (j : Int) < a + 1) := fun z => e3 ⟨z.1, by omega⟩
        rw [if_neg e3, if_neg e3']
        by_cases e4 : W + c ≤ (j : Int) ∧ (j : Int) < W + a ∧ (j : Int) < cl
        · have e4' : W + c ≤ (j : Int) ∧ (j : Int) < W + (a + 1) ∧ (j : Int) < cl := ⟨e4.1, by omega, e4.2.2⟩
          rw [if_pos e4, if_pos e4']
        · have e4' : ¬ (W + c ≤ (j : Int) ∧ (j : Int) < W + (a + 1) ∧ (j : Int) < cl) := fun z => e4 ⟨z.1, by omega, z.2.2⟩
          rw [if_neg e4, if_neg e4']
theorem mr_gA_0 (m W cl t g : Int) (f : Nat → Int) (p c : Int) : mr_gA m W cl t g f p c c = fun _ => 0 := by
  funext j
  unfold mr_gA
  rw [if_neg (fun z => by omega), if_neg (fun z => by omega)]
theorem mr_gA_bm {m W cl t g : Int} {f : Nat → Int} {p c a : Int} (hm : 1 ≤ m) : mr_Rm m (mr_gA m W cl t g f p c a) := by
  intro j
  unfold mr_gA
  split
  · exact mr_emod_bm hm
  · split
    · exact mr_emod_bm hm
    · omega
def mr_aR (m W cl t g : Int) (f : Nat → Int) (p ct : Int) (R : Nat → Nat → Int) : Nat → Nat → Nat → Int
  | 0 => R
  | n + 1 => mr_Rw (mr_aR m W cl t g f p ct R n) (ct + n).toNat (mr_gA m W cl t g f p n W)
theorem mr_aR_bm {m W cl t g : Int} {f : Nat → Int} {p ct : Int} {R : Nat → Nat → Int} (hm : 1 ≤ m) (h0 : 0 ≤ ct) (hR : mr_Rn ct m R) : ∀ n : Nat, mr_Rn (ct + n) m (mr_aR m W cl t g f p ct R n)
  | 0 => by rw [show ct + ((0 : Nat) : Int) = ct by omega]; exact hR
  | n + 1 => by
    rw [show ct + ((n + 1 : Nat) : Int) = ct + n + 1 by omega]
    exact mr_Rn_next (by omega) (mr_aR_bm hm h0 hR n) (mr_gA_bm hm)
set_option maxHeartbeats 4000000 in
set_option maxRecDepth 20000 in
theorem lpi_X3_addForms (l : Launch) (G : mr_G) {Po : Option mr_AV → mr_Wd → Prop} {w : mr_Wd} {b : Nat} {f : Nat → Int} {m cl ct p t g W : Int} {F : Nat → Nat → Int} {R : Nat → Nat → Int} {c : Int} (hb : w b = eO 0 [vR (b + 1) 0]) (hc : w (b + 1) = eA 0 51 f) (hb0 : b = 3 ∨ b = 12) (hB : mr_Bd f) (h7 : w 7 = eO 3 [vR 8 0]) (hp : InR p) (hm : 1 ≤ m ∧ m ≤ 30) (hW : 0 ≤ W ∧ W ≤ 3) (hcl : W ≤ cl ∧ cl ≤ 7) (ht : 0 ≤ t ∧ t ≤ 30) (hg : 0 ≤ g ∧ g ≤ 30) (hct : 0 ≤ ct ∧ ct < 6) (hc0 : 0 ≤ c ∧ c < W) (hk : mr_J l G RX3 cX3_addForms 9 none 2 46 Po 81 [some (vR 7 0), some (vR b 0), some (vI p), some (vI t), some (vI g), some (vI W), some (vI c), none, none] [] (mr_wS w m cl (ct + 1) (mr_Rw R ct.toNat (mr_gA m W cl t g f p c W)) F)) : ∀ (n : Nat) (a : Int), c ≤ a → a + n = W → mr_J l G RX3 cX3_addForms 9 none 2 46 Po 27 [some (vR 7 0), some (vR b 0), some (vI p), some (vI t), some (vI g), some (vI W), some (vI c), some (vI a), none] [] (mr_wS w m cl (ct + 1) (mr_Rw R ct.toNat (mr_gA m W cl t g f p c a)) F) := by
  intro n
  induction n with
  | zero =>
    intro a ha hn
    have e : W = a := by omega
    subst e
    refine mr_iload dX3_addForms_27 rfl ?_
    refine mr_iload dX3_addForms_29 rfl ?_
    refine mr_icmp_ge (tgt := 81) dX3_addForms_31 (by decide) (by omega) (by omega) (fun hc_31 => ?_) (fun hc_31 => absurd hc_31 (by omega))
    refine mr_weak [some (vR 7 0), some (vR b 0), some (vI p), some (vI t), some (vI g), some (vI W), some (vI c), none, none] ⟨rfl, rfl, rfl, rfl, rfl, rfl, rfl, trivial⟩ ?_
    exact hk
  | succ n ih =>
    intro a ha hn
    have hfa := mr_fa_bd hB p c a
    have hm1 := mr_mul_bd (A := 30) (x := t) ⟨by omega, ht.2⟩ hfa (by decide)
    have hm2 := mr_mul_bd (A := 30) (x := g) ⟨by omega, hg.2⟩ hfa (by decide)
    refine mr_iload dX3_addForms_27 rfl ?_
    refine mr_iload dX3_addForms_29 rfl ?_
    refine mr_icmp_ge (tgt := 81) dX3_addForms_31 (by decide) (by omega) (by omega) (fun hc_31 => absurd hc_31 (by omega)) (fun hc_31 => ?_)
    refine mr_aload_n dX3_addForms_34 rfl ?_
    refine mr_iload_n dX3_addForms_35 rfl ?_
    refine mr_iload dX3_addForms_36 rfl ?_
    refine mr_iload dX3_addForms_38 rfl ?_
    refine mr_callV (as := [_, _, _]) dX3_addForms_40 (ok_X0_formAt l G) ml_X3_48 cl_X0_formAt cv_X0_formAt (by decide) rfl rfl (Nat.le_of_ble_eq_true rfl) (by first | assumption | exact mr_wS_8 _ _ _ _ _ _ | exact mr_wS_9 _ _ _ _ _ _ | exact mr_wS_10 _ _ _ _ _ _ | exact (mr_wS_ne _ _ _ _ _ _ (by omega)).trans (by assumption) | exact mr_up_same _ _ _ | exact mr_lk (by assumption) (by first | assumption | decide | omega) | exact mr_lk (mr_wS_8 _ _ _ _ _ _) (by omega) | exact mr_lk (mr_wS_9 _ _ _ _ _ _) (by omega) | exact mr_lk (mr_wS_10 _ _ _ _ _ _) (by omega) | exact mr_lk ((mr_wS_ne _ _ _ _ _ _ (by omega)).trans (by assumption)) (by first | assumption | decide | omega) | exact (mr_wS_ne _ _ _ _ _ _ (by omega)).trans (mr_lk (by assumption) (by omega)) | exact (mr_wS_ne _ _ _ _ _ _ (by omega)).trans (mr_up_same _ _ _)) ?_
    refine ⟨_, _, _, _, _, rfl, ⟨(by first | assumption | exact mr_wS_8 _ _ _ _ _ _ | exact mr_wS_9 _ _ _ _ _ _ | exact mr_wS_10 _ _ _ _ _ _ | exact (mr_wS_ne _ _ _ _ _ _ (by omega)).trans (by assumption) | exact mr_up_same _ _ _ | exact mr_lk (by assumption) (by first | assumption | decide | omega) | exact mr_lk (mr_wS_8 _ _ _ _ _ _) (by omega) | exact mr_lk (mr_wS_9 _ _ _ _ _ _) (by omega) | exact mr_lk (mr_wS_10 _ _ _ _ _ _) (by omega) | exact mr_lk ((mr_wS_ne _ _ _ _ _ _ (by omega)).trans (by assumption)) (by first | assumption | decide | omega) | exact (mr_wS_ne _ _ _ _ _ _ (by omega)).trans (mr_lk (by assumption) (by omega)) | exact (mr_wS_ne _ _ _ _ _ _ (by omega)).trans (mr_up_same _ _ _)), (by first | assumption | exact mr_wS_8 _ _ _ _ _ _ | exact mr_wS_9 _ _ _ _ _ _ | exact mr_wS_10 _ _ _ _ _ _ | exact (mr_wS_ne _ _ _ _ _ _ (by omega)).trans (by assumption) | exact mr_up_same _ _ _ | exact mr_lk (by assumption) (by first | assumption | decide | omega) | exact mr_lk (mr_wS_8 _ _ _ _ _ _) (by omega) | exact mr_lk (mr_wS_9 _ _ _ _ _ _) (by omega) | exact mr_lk (mr_wS_10 _ _ _ _ _ _) (by omega) | exact mr_lk ((mr_wS_ne _ _ _ _ _ _ (by omega)).trans (by assumption)) (by first | assumption | decide | omega) | exact (mr_wS_ne _ _ _ _ _ _ (by omega)).trans (mr_lk (by assumption) (by omega)) | exact (mr_wS_ne _ _ _ _ _ _ (by omega)).trans (mr_up_same _ _ _))⟩, (by omega), (by omega), (by omega), ?_⟩
    dsimp only [Option.toList_some, Option.toList_none, List.cons_append, List.nil_append]
    refine mr_istore dX3_addForms_43 rfl (by decide) ?_
    refine mr_aload_n dX3_addForms_45 rfl ?_
    refine mr_get dX3_addForms_46 fl_X3_12 (by first | assumption | exact mr_wS_8 _ _ _ _ _ _ | exact mr_wS_9 _ _ _ _ _ _ | exact mr_wS_10 _ _ _ _ _ _ | exact (mr_wS_ne _ _ _ _ _ _ (by omega)).trans (by assumption) | exact mr_up_same _ _ _ | exact mr_lk (by assumption) (by first | assumption | decide | omega) | exact mr_lk (mr_wS_8 _ _ _ _ _ _) (by omega) | exact mr_lk (mr_wS_9 _ _ _ _ _ _) (by omega) | exact mr_lk (mr_wS_10 _ _ _ _ _ _) (by omega) | exact mr_lk ((mr_wS_ne _ _ _ _ _ _ (by omega)).trans (by assumption)) (by first | assumption | decide | omega) | exact (mr_wS_ne _ _ _ _ _ _ (by omega)).trans (mr_lk (by assumption) (by omega)) | exact (mr_wS_ne _ _ _ _ _ _ (by omega)).trans (mr_up_same _ _ _)) rfl ?_
    refine mr_iload dX3_addForms_49 rfl ?_
    refine mr_iload_n dX3_addForms_51 rfl ?_
    refine mr_iload dX3_addForms_52 rfl ?_
    refine mr_imul dX3_addForms_54 ?_
    refine mr_callV (as := [_, _]) dX3_addForms_55 (ok_X4_put l G) ml_X3_38 cl_X4_put cv_X4_put (by decide) rfl rfl (Nat.le_of_ble_eq_true rfl) (by first | assumption | exact mr_wS_8 _ _ _ _ _ _ | exact mr_wS_9 _ _ _ _ _ _ | exact mr_wS_10 _ _ _ _ _ _ | exact (mr_wS_ne _ _ _ _ _ _ (by omega)).trans (by assumption) | exact mr_up_same _ _ _ | exact mr_lk (by assumption) (by first | assumption | decide | omega) | exact mr_lk (mr_wS_8 _ _ _ _ _ _) (by omega) | exact mr_lk (mr_wS_9 _ _ _ _ _ _) (by omega) | exact mr_lk (mr_wS_10 _ _ _ _ _ _) (by omega) | exact mr_lk ((mr_wS_ne _ _ _ _ _ _ (by omega)).trans (by assumption)) (by first | assumption | decide | omega) | exact (mr_wS_ne _ _ _ _ _ _ (by omega)).trans (mr_lk (by assumption) (by omega)) | exact (mr_wS_ne _ _ _ _ _ _ (by omega)).trans (mr_up_same _ _ _)) ?_
    refine ⟨_, _, _, _, _, _, _, rfl, ⟨(by first | assumption | exact mr_wS_8 _ _ _ _ _ _ | exact mr_wS_9 _ _ _ _ _ _ | exact mr_wS_10 _ _ _ _ _ _ | exact (mr_wS_ne _ _ _ _ _ _ (by omega)).trans (by assumption) | exact mr_up_same _ _ _ | exact mr_lk (by assumption) (by first | assumption | decide | omega) | exact mr_lk (mr_wS_8 _ _ _ _ _ _) (by omega) | exact mr_lk (mr_wS_9 _ _ _ _ _ _) (by omega) | exact mr_lk (mr_wS_10 _ _ _ _ _ _) (by omega) | exact mr_lk ((mr_wS_ne _ _ _ _ _ _ (by omega)).trans (by assumption)) (by first | assumption | decide | omega) | exact (mr_wS_ne _ _ _ _ _ _ (by omega)).trans (mr_lk (by assumption) (by omega)) | exact (mr_wS_ne _ _ _ _ _ _ (by omega)).trans (mr_up_same _ _ _)), (by first | assumption | exact mr_wS_8 _ _ _ _ _ _ | exact mr_wS_9 _ _ _ _ _ _ | exact mr_wS_10 _ _ _ _ _ _ | exact (mr_wS_ne _ _ _ _ _ _ (by omega)).trans (by assumption) | exact mr_up_same _ _ _ | exact mr_lk (by assumption) (by first | assumption | decide | omega) | exact mr_lk (mr_wS_8 _ _ _ _ _ _) (by omega) | exact mr_lk (mr_wS_9 _ _ _ _ _ _) (by omega) | exact mr_lk (mr_wS_10 _ _ _ _ _ _) (by omega) | exact mr_lk ((mr_wS_ne _ _ _ _ _ _ (by omega)).trans (by assumption)) (by first | assumption | decide | omega) | exact (mr_wS_ne _ _ _ _ _ _ (by omega)).trans (mr_lk (by assumption) (by omega)) | exact (mr_wS_ne _ _ _ _ _ _ (by omega)).trans (mr_up_same _ _ _)), (by first | assumption | exact mr_wS_8 _ _ _ _ _ _ | exact mr_wS_9 _ _ _ _ _ _ | exact mr_wS_10 _ _ _ _ _ _ | exact (mr_wS_ne _ _ _ _ _ _ (by omega)).trans (by assumption) | exact mr_up_same _ _ _ | exact mr_lk (by assumption) (by first | assumption | decide | omega) | exact mr_lk (mr_wS_8 _ _ _ _ _ _) (by omega) | exact mr_lk (mr_wS_9 _ _ _ _ _ _) (by omega) | exact mr_lk (mr_wS_10 _ _ _ _ _ _) (by omega) | exact mr_lk ((mr_wS_ne _ _ _ _ _ _ (by omega)).trans (by assumption)) (by first | assumption | decide | omega) | exact (mr_wS_ne _ _ _ _ _ _ (by omega)).trans (mr_lk (by assumption) (by omega)) | exact (mr_wS_ne _ _ _ _ _ _ (by omega)).trans (mr_up_same _ _ _))⟩, (by omega), (by omega), (by omega), (by omega), (by omega), ?_⟩
    rw [mr_wS_u9, mr_pu_Rw _ _ _ _ hct.1]
    dsimp only [Option.toList_some, Option.toList_none, List.cons_append, List.nil_append]
    refine mr_aload_n dX3_addForms_58 rfl ?_
    refine mr_get dX3_addForms_59 fl_X3_12 (by first | assumption | exact mr_wS_8 _ _ _ _ _ _ | exact mr_wS_9 _ _ _ _ _ _ | exact mr_wS_10 _ _ _ _ _ _ | exact (mr_wS_ne _ _ _ _ _ _ (by omega)).trans (by assumption) | exact mr_up_same _ _ _ | exact mr_lk (by assumption) (by first | assumption | decide | omega) | exact mr_lk (mr_wS_8 _ _ _ _ _ _) (by omega) | exact mr_lk (mr_wS_9 _ _ _ _ _ _) (by omega) | exact mr_lk (mr_wS_10 _ _ _ _ _ _) (by omega) | exact mr_lk ((mr_wS_ne _ _ _ _ _ _ (by omega)).trans (by assumption)) (by first | assumption | decide | omega) | exact (mr_wS_ne _ _ _ _ _ _ (by omega)).trans (mr_lk (by assumption) (by omega)) | exact (mr_wS_ne _ _ _ _ _ _ (by omega)).trans (mr_up_same _ _ _)) rfl ?_
    refine mr_iload dX3_addForms_62 rfl ?_
    refine mr_iload dX3_addForms_64 rfl ?_
    refine mr_iadd dX3_addForms_66 ?_
    refine mr_iload dX3_addForms_67 rfl ?_
    refine mr_iload dX3_addForms_69 rfl ?_
    refine mr_imul dX3_addForms_71 ?_
    refine mr_callV (as := [_, _]) dX3_addForms_72 (ok_X4_put l G) ml_X3_38 cl_X4_put cv_X4_put (by decide) rfl rfl (Nat.le_of_ble_eq_true rfl) (by first | assumption | exact mr_wS_8 _ _ _ _ _ _ | exact mr_wS_9 _ _ _ _ _ _ | exact mr_wS_10 _ _ _ _ _ _ | exact (mr_wS_ne _ _ _ _ _ _ (by omega)).trans (by assumption) | exact mr_up_same _ _ _ | exact mr_lk (by assumption) (by first | assumption | decide | omega) | exact mr_lk (mr_wS_8 _ _ _ _ _ _) (by omega) | exact mr_lk (mr_wS_9 _ _ _ _ _ _) (by omega) | exact mr_lk (mr_wS_10 _ _ _ _ _ _) (by omega) | exact mr_lk ((mr_wS_ne _ _ _ _ _ _ (by omega)).trans (by assumption)) (by first | assumption | decide | omega) | exact (mr_wS_ne _ _ _ _ _ _ (by omega)).trans (mr_lk (by assumption) (by omega)) | exact (mr_wS_ne _ _ _ _ _ _ (by omega)).trans (mr_up_same _ _ _)) ?_
    refine ⟨_, _, _, _, _, _, _, rfl, ⟨(by first | assumption | exact mr_wS_8 _ _ _ _ _ _ | exact mr_wS_9 _ _ _ _ _ _ | exact mr_wS_10 _ _ _ _ _ _ | exact (mr_wS_ne _ _ _ _ _ _ (by omega)).trans (by assumption) | exact mr_up_same _ _ _ | exact mr_lk (by assumption) (by first | assumption | decide | omega) | exact mr_lk (mr_wS_8 _ _ _ _ _ _) (by omega) | exact mr_lk (mr_wS_9 _ _ _ _ _ _) (by omega) | exact mr_lk (mr_wS_10 _ _ _ _ _ _) (by omega) | exact mr_lk ((mr_wS_ne _ _ _ _ _ _ (by omega)).trans (by assumption)) (by first | assumption | decide | omega) | exact (mr_wS_ne _ _ _ _ _ _ (by omega)).trans (mr_lk (by assumption) (by omega)) | exact (mr_wS_ne _ _ _ _ _ _ (by omega)).trans (mr_up_same _ _ _)), (by first | assumption | exact mr_wS_8 _ _ _ _ _ _ | exact mr_wS_9 _ _ _ _ _ _ | exact mr_wS_10 _ _ _ _ _ _ | exact (mr_wS_ne _ _ _ _ _ _ (by omega)).trans (by assumption) | exact mr_up_same _ _ _ | exact mr_lk (by assumption) (by first | assumption | decide | omega) | exact mr_lk (mr_wS_8 _ _ _ _ _ _) (by omega) | exact mr_lk (mr_wS_9 _ _ _ _ _ _) (by omega) | exact mr_lk (mr_wS_10 _ _ _ _ _ _) (by omega) | exact mr_lk ((mr_wS_ne _ _ _ _ _ _ (by omega)).trans (by assumption)) (by first | assumption | decide | omega) | exact (mr_wS_ne _ _ _ _ _ _ (by omega)).trans (mr_lk (by assumption) (by omega)) | exact (mr_wS_ne _ _ _ _ _ _ (by omega)).trans (mr_up_same _ _ _)), (by first | assumption | exact mr_wS_8 _ _ _ _ _ _ | exact mr_wS_9 _ _ _ _ _ _ | exact mr_wS_10 _ _ _ _ _ _ | exact (mr_wS_ne _ _ _ _ _ _ (by omega)).trans (by assumption) | exact mr_up_same _ _ _ | exact mr_lk (by assumption) (by first | assumption | decide | omega) | exact mr_lk (mr_wS_8 _ _ _ _ _ _) (by omega) | exact mr_lk (mr_wS_9 _ _ _ _ _ _) (by omega) | exact mr_lk (mr_wS_10 _ _ _ _ _ _) (by omega) | exact mr_lk ((mr_wS_ne _ _ _ _ _ _ (by omega)).trans (by assumption)) (by first | assumption | decide | omega) | exact (mr_wS_ne _ _ _ _ _ _ (by omega)).trans (mr_lk (by assumption) (by omega)) | exact (mr_wS_ne _ _ _ _ _ _ (by omega)).trans (mr_up_same _ _ _))⟩, (by omega), (by omega), (by omega), (by omega), (by omega), ?_⟩
    rw [mr_wS_u9, mr_pu_Rw _ _ _ _ hct.1]
    dsimp only [Option.toList_some, Option.toList_none, List.cons_append, List.nil_append]
    refine mr_iinc dX3_addForms_75 rfl (by decide) rfl ?_
    refine mr_goto (tgt := 27) dX3_addForms_78 (by decide) ?_
    rw [mr_gA_step ⟨hc0.1, ha⟩ (by omega) hcl.1]
    refine mr_weak [some (vR 7 0), some (vR b 0), some (vI p), some (vI t), some (vI g), some (vI W), some (vI c), some (vI (a + 1)), none] ⟨rfl, rfl, rfl, rfl, rfl, rfl, rfl, rfl, trivial⟩ ?_
    exact ih (a + 1) (by omega) (by omega)
set_option maxHeartbeats 4000000 in
set_option maxRecDepth 20000 in
theorem lp_X3_addForms (l : Launch) (G : mr_G) {Po : Option mr_AV → mr_Wd → Prop} {w : mr_Wd} {b : Nat} {f : Nat → Int} {m cl ct p t g W : Int} {F : Nat → Nat → Int} {R : Nat → Nat → Int} (hb : w b = eO 0 [vR (b + 1) 0]) (hc : w (b + 1) = eA 0 51 f) (hb0 : b = 3 ∨ b = 12) (hB : mr_Bd f) (h7 : w 7 = eO 3 [vR 8 0]) (hp : InR p) (hm : 1 ≤ m ∧ m ≤ 30) (hW : 0 ≤ W ∧ W ≤ 3) (hcl : W ≤ cl ∧ cl ≤ 7) (ht : 0 ≤ t ∧ t ≤ 30) (hg : 0 ≤ g ∧ g ≤ 30) (hct : 0 ≤ ct ∧ ct + W ≤ 6) (hP : Po none (mr_wS w m cl (ct + W) (mr_aR m W cl t g f p ct R W.toNat) F)) : ∀ (n : Nat) (c : Nat), (c : Int) + n = W → mr_J l G RX3 cX3_addForms 9 none 2 46 Po 9 [some (vR 7 0), some (vR b 0), some (vI p), some (vI t), some (vI g), some (vI W), some (vI (c : Int)), none, none] [] (mr_wS w m cl (ct + c) (mr_aR m W cl t g f p ct R c) F) := by
  intro n
  induction n with
  | zero =>
    intro c hn
    have e : W.toNat = c := by omega
    rw [e, show ct + W = ct + c by omega] at hP
    refine mr_iload dX3_addForms_9 rfl ?_
    refine mr_iload dX3_addForms_11 rfl ?_
    refine mr_icmp_ge (tgt := 87) dX3_addForms_13 (by decide) (by omega) (by omega) (fun hc_13 => ?_) (fun hc_13 => absurd hc_13 (by omega))
    refine mr_vret rfl dX3_addForms_87 ?_
    exact hP
  | succ n ih =>
    intro c hn
    refine mr_iload dX3_addForms_9 rfl ?_
    refine mr_iload dX3_addForms_11 rfl ?_
    refine mr_icmp_ge (tgt := 87) dX3_addForms_13 (by decide) (by omega) (by omega) (fun hc_13 => absurd hc_13 (by omega)) (fun hc_13 => ?_)
    refine mr_aload_n dX3_addForms_16 rfl ?_
    refine mr_get dX3_addForms_17 fl_X3_12 (by first | assumption | exact mr_wS_8 _ _ _ _ _ _ | exact mr_wS_9 _ _ _ _ _ _ | exact mr_wS_10 _ _ _ _ _ _ | exact (mr_wS_ne _ _ _ _ _ _ (by omega)).trans (by assumption) | exact mr_up_same _ _ _ | exact mr_lk (by assumption) (by first | assumption | decide | omega) | exact mr_lk (mr_wS_8 _ _ _ _ _ _) (by omega) | exact mr_lk (mr_wS_9 _ _ _ _ _ _) (by omega) | exact mr_lk (mr_wS_10 _ _ _ _ _ _) (by omega) | exact mr_lk ((mr_wS_ne _ _ _ _ _ _ (by omega)).trans (by assumption)) (by first | assumption | decide | omega) | exact (mr_wS_ne _ _ _ _ _ _ (by omega)).trans (mr_lk (by assumption) (by omega)) | exact (mr_wS_ne _ _ _ _ _ _ (by omega)).trans (mr_up_same _ _ _)) rfl ?_
    refine mr_callV (as := []) dX3_addForms_20 (ok_X4_addRow l G) ml_X3_35 cl_X4_addRow cv_X4_addRow (by decide) rfl rfl (Nat.le_of_ble_eq_true rfl) (by first | assumption | exact mr_wS_8 _ _ _ _ _ _ | exact mr_wS_9 _ _ _ _ _ _ | exact mr_wS_10 _ _ _ _ _ _ | exact (mr_wS_ne _ _ _ _ _ _ (by omega)).trans (by assumption) | exact mr_up_same _ _ _ | exact mr_lk (by assumption) (by first | assumption | decide | omega) | exact mr_lk (mr_wS_8 _ _ _ _ _ _) (by omega) | exact mr_lk (mr_wS_9 _ _ _ _ _ _) (by omega) | exact mr_lk (mr_wS_10 _ _ _ _ _ _) (by omega) | exact mr_lk ((mr_wS_ne _ _ _ _ _ _ (by omega)).trans (by assumption)) (by first | assumption | decide | omega) | exact (mr_wS_ne _ _ _ _ _ _ (by omega)).trans (mr_lk (by assumption) (by omega)) | exact (mr_wS_ne _ _ _ _ _ _ (by omega)).trans (mr_up_same _ _ _)) ?_
    refine ⟨_, _, _, _, _, rfl, ⟨(by first | assumption | exact mr_wS_8 _ _ _ _ _ _ | exact mr_wS_9 _ _ _ _ _ _ | exact mr_wS_10 _ _ _ _ _ _ | exact (mr_wS_ne _ _ _ _ _ _ (by omega)).trans (by assumption) | exact mr_up_same _ _ _ | exact mr_lk (by assumption) (by first | assumption | decide | omega) | exact mr_lk (mr_wS_8 _ _ _ _ _ _) (by omega) | exact mr_lk (mr_wS_9 _ _ _ _ _ _) (by omega) | exact mr_lk (mr_wS_10 _ _ _ _ _ _) (by omega) | exact mr_lk ((mr_wS_ne _ _ _ _ _ _ (by omega)).trans (by assumption)) (by first | assumption | decide | omega) | exact (mr_wS_ne _ _ _ _ _ _ (by omega)).trans (mr_lk (by assumption) (by omega)) | exact (mr_wS_ne _ _ _ _ _ _ (by omega)).trans (mr_up_same _ _ _)), (by first | assumption | exact mr_wS_8 _ _ _ _ _ _ | exact mr_wS_9 _ _ _ _ _ _ | exact mr_wS_10 _ _ _ _ _ _ | exact (mr_wS_ne _ _ _ _ _ _ (by omega)).trans (by assumption) | exact mr_up_same _ _ _ | exact mr_lk (by assumption) (by first | assumption | decide | omega) | exact mr_lk (mr_wS_8 _ _ _ _ _ _) (by omega) | exact mr_lk (mr_wS_9 _ _ _ _ _ _) (by omega) | exact mr_lk (mr_wS_10 _ _ _ _ _ _) (by omega) | exact mr_lk ((mr_wS_ne _ _ _ _ _ _ (by omega)).trans (by assumption)) (by first | assumption | decide | omega) | exact (mr_wS_ne _ _ _ _ _ _ (by omega)).trans (mr_lk (by assumption) (by omega)) | exact (mr_wS_ne _ _ _ _ _ _ (by omega)).trans (mr_up_same _ _ _)), (by first | assumption | exact mr_wS_8 _ _ _ _ _ _ | exact mr_wS_9 _ _ _ _ _ _ | exact mr_wS_10 _ _ _ _ _ _ | exact (mr_wS_ne _ _ _ _ _ _ (by omega)).trans (by assumption) | exact mr_up_same _ _ _ | exact mr_lk (by assumption) (by first | assumption | decide | omega) | exact mr_lk (mr_wS_8 _ _ _ _ _ _) (by omega) | exact mr_lk (mr_wS_9 _ _ _ _ _ _) (by omega) | exact mr_lk (mr_wS_10 _ _ _ _ _ _) (by omega) | exact mr_lk ((mr_wS_ne _ _ _ _ _ _ (by omega)).trans (by assumption)) (by first | assumption | decide | omega) | exact (mr_wS_ne _ _ _ _ _ _ (by omega)).trans (mr_lk (by assumption) (by omega)) | exact (mr_wS_ne _ _ _ _ _ _ (by omega)).trans (mr_up_same _ _ _))⟩, (by omega), ?_⟩
    rw [mr_wS_u9, mr_wS_u8]
    dsimp only [Option.toList_some, Option.toList_none, List.cons_append, List.nil_append]
    refine mr_iload dX3_addForms_23 rfl ?_
    refine mr_istore dX3_addForms_25 rfl (by decide) ?_
    rw [← mr_gA_0 m W cl t g f p c]
    refine lpi_X3_addForms l G (c := c) (ct := ct + c) hb hc hb0 hB h7 hp hm hW hcl ht hg ⟨by omega, by omega⟩ ⟨by omega, by omega⟩ ?_ (W - c).toNat c (Int.le_refl _) (by omega)
    refine mr_iinc dX3_addForms_81 rfl (by decide) rfl ?_
    refine mr_goto (tgt := 9) dX3_addForms_84 (by decide) ?_
    have h9 := ih (c + 1) (by omega)
    rw [show ct + ((c + 1 : Nat) : Int) = ct + c + 1 by omega] at h9
    exact h9
def T_X3_addForms (a : List mr_AV) (w : mr_Wd) (Po : Option mr_AV → mr_Wd → Prop) : Prop := ∃ (b : Nat) (f : Nat → Int) (m cl ct p t g : Int) (R F : Nat → Nat → Int), a = [vR 7 0, vR b 0, vI p, vI t, vI g] ∧ mr_BK w b f ∧ (b = 3 ∨ b = 12) ∧ mr_Bd f ∧ w 7 = eO 3 [vR 8 0] ∧ mr_SH w m cl ct R F ∧ InR p ∧ (1 ≤ m ∧ m ≤ 30) ∧ (f 1 ≤ cl ∧ cl ≤ 7) ∧ (0 ≤ t ∧ t ≤ 30) ∧ (0 ≤ g ∧ g ≤ 30) ∧ (0 ≤ ct ∧ ct + f 1 ≤ 6) ∧ Po none (mr_wS w m cl (ct + f 1) (mr_aR m (f 1) cl t g f p ct R (f 1).toNat) F)
set_option maxHeartbeats 4000000 in
set_option maxRecDepth 20000 in
theorem ok_X3_addForms (l : Launch) (G : mr_G) : mr_Ok l G yX3_addForms cX3_addForms 9 none 2 46 T_X3_addForms := by
  refine mr_Ok.of (by decide +kernel) ?_
  rintro a w Po ⟨b, f, m, cl, ct, p, t, g, R, F, rfl, ⟨hb, hc⟩, hb0, hB, h7, hS, hp, hm, hcl, ht, hg, hct, hP⟩
  refine ⟨Nat.le_of_ble_eq_true rfl, ?_⟩
  show mr_J l G RX3 cX3_addForms 9 none 2 46 Po 0 [some (vR 7 0), some (vR b 0), some (vI p), some (vI t), some (vI g), none, none, none, none] [] w
  refine mr_aload_n dX3_addForms_0 rfl ?_
  refine mr_callV (as := []) dX3_addForms_1 (ok_X0_width l G) ml_X3_24 cl_X0_width cv_X0_width (by decide) rfl rfl (Nat.le_of_ble_eq_true rfl) (by first | assumption | exact mr_wS_8 _ _ _ _ _ _ | exact mr_wS_9 _ _ _ _ _ _ | exact mr_wS_10 _ _ _ _ _ _ | exact (mr_wS_ne _ _ _ _ _ _ (by omega)).trans (by assumption) | exact mr_up_same _ _ _ | exact mr_lk (by assumption) (by first | assumption | decide | omega) | exact mr_lk (mr_wS_8 _ _ _ _ _ _) (by omega) | exact mr_lk (mr_wS_9 _ _ _ _ _ _) (by omega) | exact mr_lk (mr_wS_10 _ _ _ _ _ _) (by omega) | exact mr_lk ((mr_wS_ne _ _ _ _ _ _ (by omega)).trans (by assumption)) (by first | assumption | decide | omega) | exact (mr_wS_ne _ _ _ _ _ _ (by omega)).trans (mr_lk (by assumption) (by omega)) | exact (mr_wS_ne _ _ _ _ _ _ (by omega)).trans (mr_up_same _ _ _)) ?_
  refine ⟨_, _, rfl, ⟨(by first | assumption | exact mr_wS_8 _ _ _ _ _ _ | exact mr_wS_9 _ _ _ _ _ _ | exact mr_wS_10 _ _ _ _ _ _ | exact (mr_wS_ne _ _ _ _ _ _ (by omega)).trans (by assumption) | exact mr_up_same _ _ _ | exact mr_lk (by assumption) (by first | assumption | decide | omega) | exact mr_lk (mr_wS_8 _ _ _ _ _ _) (by omega) | exact mr_lk (mr_wS_9 _ _ _ _ _ _) (by omega) | exact mr_lk (mr_wS_10 _ _ _ _ _ _) (by omega) | exact mr_lk ((mr_wS_ne _ _ _ _ _ _ (by omega)).trans (by assumption)) (by first | assumption | decide | omega) | exact (mr_wS_ne _ _ _ _ _ _ (by omega)).trans (mr_lk (by assumption) (by omega)) | exact (mr_wS_ne _ _ _ _ _ _ (by omega)).trans (mr_up_same _ _ _)), (by first | assumption | exact mr_wS_8 _ _ _ _ _ _ | exact mr_wS_9 _ _ _ _ _ _ | exact mr_wS_10 _ _ _ _ _ _ | exact (mr_wS_ne _ _ _ _ _ _ (by omega)).trans (by assumption) | exact mr_up_same _ _ _ | exact mr_lk (by assumption) (by first | assumption | decide | omega) | exact mr_lk (mr_wS_8 _ _ _ _ _ _) (by omega) | exact mr_lk (mr_wS_9 _ _ _ _ _ _) (by omega) | exact mr_lk (mr_wS_10 _ _ _ _ _ _) (by omega) | exact mr_lk ((mr_wS_ne _ _ _ _ _ _ (by omega)).trans (by assumption)) (by first | assumption | decide | omega) | exact (mr_wS_ne _ _ _ _ _ _ (by omega)).trans (mr_lk (by assumption) (by omega)) | exact (mr_wS_ne _ _ _ _ _ _ (by omega)).trans (mr_up_same _ _ _))⟩, ?_⟩
  dsimp only [Option.toList_some, Option.toList_none, List.cons_append, List.nil_append]
  refine mr_istore dX3_addForms_4 rfl (by decide) ?_
  refine mr_iconst dX3_addForms_6 ?_
  refine mr_istore dX3_addForms_7 rfl (by decide) ?_
  have h1 := hB.1 1
  have h2 := hB.2.1
  have h9 := lp_X3_addForms l G (ct := ct) (W := f 1) (R := R) (F := F) hb hc hb0 hB h7 hp hm ⟨h1.1, h2⟩ hcl ht hg hct hP (f 1).toNat 0 (by omega)
  rw [show ct + ((0 : Nat) : Int) = ct by omega] at h9
  refine mr_cw (mr_wS_in hS).symm ?_
  exact h9
set_option maxHeartbeats 4000000 in
set_option maxRecDepth 20000 in
theorem lpi_X3_store (l : Launch) (G : mr_G) {Po : Option mr_AV → mr_Wd → Prop} {w : mr_Wd} {b : Nat} {f : Nat → Int} {m cl ct p cut : Int} {R F : Nat → Nat → Int} {c : Int} (hb : w b = eO 0 [vR (b + 1) 0]) (hb0 : b = 3 ∨ b = 12) (hB : mr_Bd f) (h7 : w 7 = eO 3 [vR 8 0]) (hS : mr_SH w m cl ct R F) (hp : 0 ≤ p ∧ p < 4) (hcl : 0 ≤ cl ∧ cl ≤ 7) (hcut : 0 ≤ cut ∧ cut ≤ 7) (hc0 : 0 ≤ c ∧ c < f 1) (hk : mr_J l G RX3 cX3_store 6 none 2 47 Po 54 [some (vR 7 0), some (vR b 0), some (vI p), some (vI cut), some (vI c), none] [] (mr_up w (b + 1) (eA 0 51 (mr_pt f p (fun c a => mr_sh cl F (cut + c) (cut + a)) (c + 1) 0)))) : ∀ (n : Nat) (a : Int), 0 ≤ a → a + n = f 1 → mr_J l G RX3 cX3_store 6 none 2 47 Po 15 [some (vR 7 0), some (vR b 0), some (vI p), some (vI cut), some (vI c), some (vI a)] [] (mr_up w (b + 1) (eA 0 51 (mr_pt f p (fun c a => mr_sh cl F (cut + c) (cut + a)) c a))) := by
  have h1 := hB.1 1
  have h2 := hB.2.1
  have hz : ∀ C A : Int, mr_pt f p (fun c a => mr_sh cl F (cut + c) (cut + a)) C A 1 = f 1 := fun C A => mr_pt_lo _ _ _ _ _ hp.1 (by decide)
  obtain ⟨h8, h9, h10⟩ := hS
  intro n
  induction n with
  | zero =>
    intro a ha hn
    refine mr_iload dX3_store_15 rfl ?_
    refine mr_aload_n dX3_store_17 rfl ?_
    refine mr_callV (as := []) dX3_store_18 (ok_X0_width l G) ml_X3_24 cl_X0_width cv_X0_width (by decide) rfl rfl (Nat.le_of_ble_eq_true rfl) (by first | assumption | exact mr_wS_8 _ _ _ _ _ _ | exact mr_wS_9 _ _ _ _ _ _ | exact mr_wS_10 _ _ _ _ _ _ | exact (mr_wS_ne _ _ _ _ _ _ (by omega)).trans (by assumption) | exact mr_up_same _ _ _ | exact mr_lk (by assumption) (by first | assumption | decide | omega) | exact mr_lk (mr_wS_8 _ _ _ _ _ _) (by omega) | exact mr_lk (mr_wS_9 _ _ _ _ _ _) (by omega) | exact mr_lk (mr_wS_10 _ _ _ _ _ _) (by omega) | exact mr_lk ((mr_wS_ne _ _ _ _ _ _ (by omega)).trans (by assumption)) (by first | assumption | decide | omega) | exact (mr_wS_ne _ _ _ _ _ _ (by omega)).trans (mr_lk (by assumption) (by omega)) | exact (mr_wS_ne _ _ _ _ _ _ (by omega)).trans (mr_up_same _ _ _)) ?_
    refine ⟨_, _, rfl, ⟨(by first | assumption | exact mr_wS_8 _ _ _ _ _ _ | exact mr_wS_9 _ _ _ _ _ _ | exact mr_wS_10 _ _ _ _ _ _ | exact (mr_wS_ne _ _ _ _ _ _ (by omega)).trans (by assumption) | exact mr_up_same _ _ _ | exact mr_lk (by assumption) (by first | assumption | decide | omega) | exact mr_lk (mr_wS_8 _ _ _ _ _ _) (by omega) | exact mr_lk (mr_wS_9 _ _ _ _ _ _) (by omega) | exact mr_lk (mr_wS_10 _ _ _ _ _ _) (by omega) | exact mr_lk ((mr_wS_ne _ _ _ _ _ _ (by omega)).trans (by assumption)) (by first | assumption | decide | omega) | exact (mr_wS_ne _ _ _ _ _ _ (by omega)).trans (mr_lk (by assumption) (by omega)) | exact (mr_wS_ne _ _ _ _ _ _ (by omega)).trans (mr_up_same _ _ _)), (by first | assumption | exact mr_wS_8 _ _ _ _ _ _ | exact mr_wS_9 _ _ _ _ _ _ | exact mr_wS_10 _ _ _ _ _ _ | exact (mr_wS_ne _ _ _ _ _ _ (by omega)).trans (by assumption) | exact mr_up_same _ _ _ | exact mr_lk (by assumption) (by first | assumption | decide | omega) | exact mr_lk (mr_wS_8 _ _ _ _ _ _) (by omega) | exact mr_lk (mr_wS_9 _ _ _ _ _ _) (by omega) | exact mr_lk (mr_wS_10 _ _ _ _ _ _) (by omega) | exact mr_lk ((mr_wS_ne _ _ _ _ _ _ (by omega)).trans (by assumption)) (by first | assumption | decide | omega) | exact (mr_wS_ne _ _ _ _ _ _ (by omega)).trans (mr_lk (by assumption) (by omega)) | exact (mr_wS_ne _ _ _ _ _ _ (by omega)).trans (mr_up_same _ _ _))⟩, ?_⟩
    rw [hz]
    dsimp only [Option.toList_some, Option.toList_none, List.cons_append, List.nil_append]
    refine mr_icmp_ge (tgt := 54) dX3_store_21 (by decide) (by omega) (by omega) (fun hc_21 => ?_) (fun hc_21 => absurd hc_21 (by omega))
    refine mr_weak [some (vR 7 0), some (vR b 0), some (vI p), some (vI cut), some (vI c), none] ⟨rfl, rfl, rfl, rfl, rfl, trivial⟩ ?_
    rw [mr_pt_next _ _ _ (by omega)]
    exact hk
  | succ n ih =>
    intro a ha hn
    refine mr_iload dX3_store_15 rfl ?_
    refine mr_aload_n dX3_store_17 rfl ?_
    refine mr_callV (as := []) dX3_store_18 (ok_X0_width l G) ml_X3_24 cl_X0_width cv_X0_width (by decide) rfl rfl (Nat.le_of_ble_eq_true rfl) (by first | assumption | exact mr_wS_8 _ _ _ _ _ _ | exact mr_wS_9 _ _ _ _ _ _ | exact mr_wS_10 _ _ _ _ _ _ | exact (mr_wS_ne _ _ _ _ _ _ (by omega)).trans (by assumption) | exact mr_up_same _ _ _ | exact mr_lk (by assumption) (by first | assumption | decide | omega) | exact mr_lk (mr_wS_8 _ _ _ _ _ _) (by omega) | exact mr_lk (mr_wS_9 _ _ _ _ _ _) (by omega) | exact mr_lk (mr_wS_10 _ _ _ _ _ _) (by omega) | exact mr_lk ((mr_wS_ne _ _ _ _ _ _ (by omega)).trans (by assumption)) (by first | assumption | decide | omega) | exact (mr_wS_ne _ _ _ _ _ _ (by omega)).trans (mr_lk (by assumption) (by omega)) | exact (mr_wS_ne _ _ _ _ _ _ (by omega)).trans (mr_up_same _ _ _)) ?_
    refine ⟨_, _, rfl, ⟨(by first | assumption | exact mr_wS_8 _ _ _ _ _ _ | exact mr_wS_9 _ _ _ _ _ _ | exact mr_wS_10 _ _ _ _ _ _ | exact (mr_wS_ne _ _ _ _ _ _ (by omega)).trans (by assumption) | exact mr_up_same _ _ _ | exact mr_lk (by assumption) (by first | assumption | decide | omega) | exact mr_lk (mr_wS_8 _ _ _ _ _ _) (by omega) | exact mr_lk (mr_wS_9 _ _ _ _ _ _) (by omega) | exact mr_lk (mr_wS_10 _ _ _ _ _ _) (by omega) | exact mr_lk ((mr_wS_ne _ _ _ _ _ _ (by omega)).trans (by assumption)) (by first | assumption | decide | omega) | exact (mr_wS_ne _ _ _ _ _ _ (by omega)).trans (mr_lk (by assumption) (by omega)) | exact (mr_wS_ne _ _ _ _ _ _ (by omega)).trans (mr_up_same _ _ _)), (by first | assumption | exact mr_wS_8 _ _ _ _ _ _ | exact mr_wS_9 _ _ _ _ _ _ | exact mr_wS_10 _ _ _ _ _ _ | exact (mr_wS_ne _ _ _ _ _ _ (by omega)).trans (by assumption) | exact mr_up_same _ _ _ | exact mr_lk (by assumption) (by first | assumption | decide | omega) | exact mr_lk (mr_wS_8 _ _ _ _ _ _) (by omega) | exact mr_lk (mr_wS_9 _ _ _ _ _ _) (by omega) | exact mr_lk (mr_wS_10 _ _ _ _ _ _) (by omega) | exact mr_lk ((mr_wS_ne _ _ _ _ _ _ (by omega)).trans (by assumption)) (by first | assumption | decide | omega) | exact (mr_wS_ne _ _ _ _ _ _ (by omega)).trans (mr_lk (by assumption) (by omega)) | exact (mr_wS_ne _ _ _ _ _ _ (by omega)).trans (mr_up_same _ _ _))⟩, ?_⟩
    rw [hz]
    dsimp only [Option.toList_some, Option.toList_none, List.cons_append, List.nil_append]
    refine mr_icmp_ge (tgt := 54) dX3_store_21 (by decide) (by omega) (by omega) (fun hc_21 => absurd hc_21 (by omega)) (fun hc_21 => ?_)
    refine mr_aload_n dX3_store_24 rfl ?_
    refine mr_iload_n dX3_store_25 rfl ?_
    refine mr_iload dX3_store_26 rfl ?_
    refine mr_iload dX3_store_28 rfl ?_
    refine mr_aload_n dX3_store_30 rfl ?_
    refine mr_get dX3_store_31 fl_X3_12 (by first | assumption | exact mr_wS_8 _ _ _ _ _ _ | exact mr_wS_9 _ _ _ _ _ _ | exact mr_wS_10 _ _ _ _ _ _ | exact (mr_wS_ne _ _ _ _ _ _ (by omega)).trans (by assumption) | exact mr_up_same _ _ _ | exact mr_lk (by assumption) (by first | assumption | decide | omega) | exact mr_lk (mr_wS_8 _ _ _ _ _ _) (by omega) | exact mr_lk (mr_wS_9 _ _ _ _ _ _) (by omega) | exact mr_lk (mr_wS_10 _ _ _ _ _ _) (by omega) | exact mr_lk ((mr_wS_ne _ _ _ _ _ _ (by omega)).trans (by assumption)) (by first | assumption | decide | omega) | exact (mr_wS_ne _ _ _ _ _ _ (by omega)).trans (mr_lk (by assumption) (by omega)) | exact (mr_wS_ne _ _ _ _ _ _ (by omega)).trans (mr_up_same _ _ _)) rfl ?_
    refine mr_iload_n dX3_store_34 rfl ?_
    refine mr_iload dX3_store_35 rfl ?_
    refine mr_iadd dX3_store_37 ?_
    refine mr_iload_n dX3_store_38 rfl ?_
    refine mr_iload dX3_store_39 rfl ?_
    refine mr_iadd dX3_store_41 ?_
    refine mr_callV (as := [_, _]) dX3_store_42 (ok_X4_shapedAt l G) ml_X3_87 cl_X4_shapedAt cv_X4_shapedAt (by decide) rfl rfl (Nat.le_of_ble_eq_true rfl) (by first | assumption | exact mr_wS_8 _ _ _ _ _ _ | exact mr_wS_9 _ _ _ _ _ _ | exact mr_wS_10 _ _ _ _ _ _ | exact (mr_wS_ne _ _ _ _ _ _ (by omega)).trans (by assumption) | exact mr_up_same _ _ _ | exact mr_lk (by assumption) (by first | assumption | decide | omega) | exact mr_lk (mr_wS_8 _ _ _ _ _ _) (by omega) | exact mr_lk (mr_wS_9 _ _ _ _ _ _) (by omega) | exact mr_lk (mr_wS_10 _ _ _ _ _ _) (by omega) | exact mr_lk ((mr_wS_ne _ _ _ _ _ _ (by omega)).trans (by assumption)) (by first | assumption | decide | omega) | exact (mr_wS_ne _ _ _ _ _ _ (by omega)).trans (mr_lk (by assumption) (by omega)) | exact (mr_wS_ne _ _ _ _ _ _ (by omega)).trans (mr_up_same _ _ _)) ?_
    refine ⟨_, _, _, _, _, _, _, rfl, ⟨(by first | assumption | exact mr_wS_8 _ _ _ _ _ _ | exact mr_wS_9 _ _ _ _ _ _ | exact mr_wS_10 _ _ _ _ _ _ | exact (mr_wS_ne _ _ _ _ _ _ (by omega)).trans (by assumption) | exact mr_up_same _ _ _ | exact mr_lk (by assumption) (by first | assumption | decide | omega) | exact mr_lk (mr_wS_8 _ _ _ _ _ _) (by omega) | exact mr_lk (mr_wS_9 _ _ _ _ _ _) (by omega) | exact mr_lk (mr_wS_10 _ _ _ _ _ _) (by omega) | exact mr_lk ((mr_wS_ne _ _ _ _ _ _ (by omega)).trans (by assumption)) (by first | assumption | decide | omega) | exact (mr_wS_ne _ _ _ _ _ _ (by omega)).trans (mr_lk (by assumption) (by omega)) | exact (mr_wS_ne _ _ _ _ _ _ (by omega)).trans (mr_up_same _ _ _)), (by first | assumption | exact mr_wS_8 _ _ _ _ _ _ | exact mr_wS_9 _ _ _ _ _ _ | exact mr_wS_10 _ _ _ _ _ _ | exact (mr_wS_ne _ _ _ _ _ _ (by omega)).trans (by assumption) | exact mr_up_same _ _ _ | exact mr_lk (by assumption) (by first | assumption | decide | omega) | exact mr_lk (mr_wS_8 _ _ _ _ _ _) (by omega) | exact mr_lk (mr_wS_9 _ _ _ _ _ _) (by omega) | exact mr_lk (mr_wS_10 _ _ _ _ _ _) (by omega) | exact mr_lk ((mr_wS_ne _ _ _ _ _ _ (by omega)).trans (by assumption)) (by first | assumption | decide | omega) | exact (mr_wS_ne _ _ _ _ _ _ (by omega)).trans (mr_lk (by assumption) (by omega)) | exact (mr_wS_ne _ _ _ _ _ _ (by omega)).trans (mr_up_same _ _ _)), (by first | assumption | exact mr_wS_8 _ _ _ _ _ _ | exact mr_wS_9 _ _ _ _ _ _ | exact mr_wS_10 _ _ _ _ _ _ | exact (mr_wS_ne _ _ _ _ _ _ (by omega)).trans (by assumption) | exact mr_up_same _ _ _ | exact mr_lk (by assumption) (by first | assumption | decide | omega) | exact mr_lk (mr_wS_8 _ _ _ _ _ _) (by omega) | exact mr_lk (mr_wS_9 _ _ _ _ _ _) (by omega) | exact mr_lk (mr_wS_10 _ _ _ _ _ _) (by omega) | exact mr_lk ((mr_wS_ne _ _ _ _ _ _ (by omega)).trans (by assumption)) (by first | assumption | decide | omega) | exact (mr_wS_ne _ _ _ _ _ _ (by omega)).trans (mr_lk (by assumption) (by omega)) | exact (mr_wS_ne _ _ _ _ _ _ (by omega)).trans (mr_up_same _ _ _))⟩, hcl, (by omega), (by omega), ?_⟩
    dsimp only [Option.toList_some, Option.toList_none, List.cons_append, List.nil_append]
    refine mr_callV (as := [_, _, _, _]) dX3_store_45 (ok_X0_setFormAt l G) ml_X3_100 cl_X0_setFormAt cv_X0_setFormAt (by decide) rfl rfl (Nat.le_of_ble_eq_true rfl) (by first | assumption | exact mr_wS_8 _ _ _ _ _ _ | exact mr_wS_9 _ _ _ _ _ _ | exact mr_wS_10 _ _ _ _ _ _ | exact (mr_wS_ne _ _ _ _ _ _ (by omega)).trans (by assumption) | exact mr_up_same _ _ _ | exact mr_lk (by assumption) (by first | assumption | decide | omega) | exact mr_lk (mr_wS_8 _ _ _ _ _ _) (by omega) | exact mr_lk (mr_wS_9 _ _ _ _ _ _) (by omega) | exact mr_lk (mr_wS_10 _ _ _ _ _ _) (by omega) | exact mr_lk ((mr_wS_ne _ _ _ _ _ _ (by omega)).trans (by assumption)) (by first | assumption | decide | omega) | exact (mr_wS_ne _ _ _ _ _ _ (by omega)).trans (mr_lk (by assumption) (by omega)) | exact (mr_wS_ne _ _ _ _ _ _ (by omega)).trans (mr_up_same _ _ _)) ?_
    refine ⟨_, _, _, _, _, _, rfl, ⟨(by first | assumption | exact mr_wS_8 _ _ _ _ _ _ | exact mr_wS_9 _ _ _ _ _ _ | exact mr_wS_10 _ _ _ _ _ _ | exact (mr_wS_ne _ _ _ _ _ _ (by omega)).trans (by assumption) | exact mr_up_same _ _ _ | exact mr_lk (by assumption) (by first | assumption | decide | omega) | exact mr_lk (mr_wS_8 _ _ _ _ _ _) (by omega) | exact mr_lk (mr_wS_9 _ _ _ _ _ _) (by omega) | exact mr_lk (mr_wS_10 _ _ _ _ _ _) (by omega) | exact mr_lk ((mr_wS_ne _ _ _ _ _ _ (by omega)).trans (by assumption)) (by first | assumption | decide | omega) | exact (mr_wS_ne _ _ _ _ _ _ (by omega)).trans (mr_lk (by assumption) (by omega)) | exact (mr_wS_ne _ _ _ _ _ _ (by omega)).trans (mr_up_same _ _ _)), (by first | assumption | exact mr_wS_8 _ _ _ _ _ _ | exact mr_wS_9 _ _ _ _ _ _ | exact mr_wS_10 _ _ _ _ _ _ | exact (mr_wS_ne _ _ _ _ _ _ (by omega)).trans (by assumption) | exact mr_up_same _ _ _ | exact mr_lk (by assumption) (by first | assumption | decide | omega) | exact mr_lk (mr_wS_8 _ _ _ _ _ _) (by omega) | exact mr_lk (mr_wS_9 _ _ _ _ _ _) (by omega) | exact mr_lk (mr_wS_10 _ _ _ _ _ _) (by omega) | exact mr_lk ((mr_wS_ne _ _ _ _ _ _ (by omega)).trans (by assumption)) (by first | assumption | decide | omega) | exact (mr_wS_ne _ _ _ _ _ _ (by omega)).trans (mr_lk (by assumption) (by omega)) | exact (mr_wS_ne _ _ _ _ _ _ (by omega)).trans (mr_up_same _ _ _))⟩, (by omega), (by omega), (by omega), ?_⟩
    rw [mr_up_up]
    dsimp only [Option.toList_some, Option.toList_none, List.cons_append, List.nil_append]
    refine mr_iinc dX3_store_48 rfl (by decide) rfl ?_
    refine mr_goto (tgt := 15) dX3_store_51 (by decide) ?_
    rw [mr_pt_step f p (fun c a => mr_sh cl F (cut + c) (cut + a)) (C := c) (A := a) hp hc0 ⟨ha, by omega⟩ h2]
    exact ih (a + 1) (by omega) (by omega)
set_option maxHeartbeats 4000000 in
set_option maxRecDepth 20000 in
theorem lp_X3_store (l : Launch) (G : mr_G) {Po : Option mr_AV → mr_Wd → Prop} {w : mr_Wd} {b : Nat} {f : Nat → Int} {m cl ct p cut : Int} {R F : Nat → Nat → Int} (hb : w b = eO 0 [vR (b + 1) 0]) (hb0 : b = 3 ∨ b = 12) (hB : mr_Bd f) (h7 : w 7 = eO 3 [vR 8 0]) (hS : mr_SH w m cl ct R F) (hp : 0 ≤ p ∧ p < 4) (hcl : 0 ≤ cl ∧ cl ≤ 7) (hcut : 0 ≤ cut ∧ cut ≤ 7) (hP : Po none (mr_up w (b + 1) (eA 0 51 (mr_pt f p (fun c a => mr_sh cl F (cut + c) (cut + a)) (f 1) 0)))) : ∀ (n : Nat) (c : Int), 0 ≤ c → c + n = f 1 → mr_J l G RX3 cX3_store 6 none 2 47 Po 3 [some (vR 7 0), some (vR b 0), some (vI p), some (vI cut), some (vI c), none] [] (mr_up w (b + 1) (eA 0 51 (mr_pt f p (fun c a => mr_sh cl F (cut + c) (cut + a)) c 0))) := by
  have h1 := hB.1 1
  have h2 := hB.2.1
  have hz : ∀ C A : Int, mr_pt f p (fun c a => mr_sh cl F (cut + c) (cut + a)) C A 1 = f 1 := fun C A => mr_pt_lo _ _ _ _ _ hp.1 (by decide)
  obtain ⟨h8, h9, h10⟩ := hS
  intro n
  induction n with
  | zero =>
    intro c hc0 hn
    have e : c = f 1 := by omega
    subst e
    refine mr_iload dX3_store_3 rfl ?_
    refine mr_aload_n dX3_store_5 rfl ?_
    refine mr_callV (as := []) dX3_store_6 (ok_X0_width l G) ml_X3_24 cl_X0_width cv_X0_width (by decide) rfl rfl (Nat.le_of_ble_eq_true rfl) (by first | assumption | exact mr_wS_8 _ _ _ _ _ _ | exact mr_wS_9 _ _ _ _ _ _ | exact mr_wS_10 _ _ _ _ _ _ | exact (mr_wS_ne _ _ _ _ _ _ (by omega)).trans (by assumption) | exact mr_up_same _ _ _ | exact mr_lk (by assumption) (by first | assumption | decide | omega) | exact mr_lk (mr_wS_8 _ _ _ _ _ _) (by omega) | exact mr_lk (mr_wS_9 _ _ _ _ _ _) (by omega) | exact mr_lk (mr_wS_10 _ _ _ _ _ _) (by omega) | exact mr_lk ((mr_wS_ne _ _ _ _ _ _ (by omega)).trans (by assumption)) (by first | assumption | decide | omega) | exact (mr_wS_ne _ _ _ _ _ _ (by omega)).trans (mr_lk (by assumption) (by omega)) | exact (mr_wS_ne _ _ _ _ _ _ (by omega)).trans (mr_up_same _ _ _)) ?_
    refine ⟨_, _, rfl, ⟨(by first | assumption | exact mr_wS_8 _ _ _ _ _ _ | exact mr_wS_9 _ _ _ _ _ _ | exact mr_wS_10 _ _ _ _ _ _ | exact (mr_wS_ne _ _ _ _ _ _ (by omega)).trans (by assumption) | exact mr_up_same _ _ _ | exact mr_lk (by assumption) (by first | assumption | decide | omega) | exact mr_lk (mr_wS_8 _ _ _ _ _ _) (by omega) | exact mr_lk (mr_wS_9 _ _ _ _ _ _) (by omega) | exact mr_lk (mr_wS_10 _ _ _ _ _ _) (by omega) | exact mr_lk ((mr_wS_ne _ _ _ _ _ _ (by omega)).trans (by assumption)) (by first | assumption | decide | omega) | exact (mr_wS_ne _ _ _ _ _ _ (by omega)).trans (mr_lk (by assumption) (by omega)) | exact (mr_wS_ne _ _ _ _ _ _ (by omega)).trans (mr_up_same _ _ _)), (by first | assumption | exact mr_wS_8 _ _ _ _ _ _ | exact mr_wS_9 _ _ _ _ _ _ | exact mr_wS_10 _ _ _ _ _ _ | exact (mr_wS_ne _ _ _ _ _ _ (by omega)).trans (by assumption) | exact mr_up_same _ _ _ | exact mr_lk (by assumption) (by first | assumption | decide | omega) | exact mr_lk (mr_wS_8 _ _ _ _ _ _) (by omega) | exact mr_lk (mr_wS_9 _ _ _ _ _ _) (by omega) | exact mr_lk (mr_wS_10 _ _ _ _ _ _) (by omega) | exact mr_lk ((mr_wS_ne _ _ _ _ _ _ (by omega)).trans (by assumption)) (by first | assumption | decide | omega) | exact (mr_wS_ne _ _ _ _ _ _ (by omega)).trans (mr_lk (by assumption) (by omega)) | exact (mr_wS_ne _ _ _ _ _ _ (by omega)).trans (mr_up_same _ _ _))⟩, ?_⟩
    rw [hz]
    dsimp only [Option.toList_some, Option.toList_none, List.cons_append, List.nil_append]
    refine mr_icmp_ge (tgt := 60) dX3_store_9 (by decide) (by omega) (by omega) (fun hc_9 => ?_) (fun hc_9 => absurd hc_9 (by omega))
    refine mr_vret rfl dX3_store_60 ?_
    exact hP
  | succ n ih =>
    intro c hc0 hn
    refine mr_iload dX3_store_3 rfl ?_
    refine mr_aload_n dX3_store_5 rfl ?_
    refine mr_callV (as := []) dX3_store_6 (ok_X0_width l G) ml_X3_24 cl_X0_width cv_X0_width (by decide) rfl rfl (Nat.le_of_ble_eq_true rfl) (by first | assumption | exact mr_wS_8 _ _ _ _ _ _ | exact mr_wS_9 _ _ _ _ _ _ | exact mr_wS_10 _ _ _ _ _ _ | exact (mr_wS_ne _ _ _ _ _ _ (by omega)).trans (by assumption) | exact mr_up_same _ _ _ | exact mr_lk (by assumption) (by first | assumption | decide | omega) | exact mr_lk (mr_wS_8 _ _ _ _ _ _) (by omega) | exact mr_lk (mr_wS_9 _ _ _ _ _ _) (by omega) | exact mr_lk (mr_wS_10 _ _ _ _ _ _) (by omega) | exact mr_lk ((mr_wS_ne _ _ _ _ _ _ (by omega)).trans (by assumption)) (by first | assumption | decide | omega) | exact (mr_wS_ne _ _ _ _ _ _ (by omega)).trans (mr_lk (by assumption) (by omega)) | exact (mr_wS_ne _ _ _ _ _ _ (by omega)).trans (mr_up_same _ _ _)) ?_
    refine ⟨_, _, rfl, ⟨(by first | assumption | exact mr_wS_8 _ _ _ _ _ _ | exact mr_wS_9 _ _ _ _ _ _ | exact mr_wS_10 _ _ _ _ _ _ | exact (mr_wS_ne _ _ _ _ _ _ (by omega)).trans (by assumption) | exact mr_up_same _ _ _ | exact mr_lk (by assumption) (by first | assumption | decide | omega) | exact mr_lk (mr_wS_8 _ _ _ _ _ _) (by omega) | exact mr_lk (mr_wS_9 _ _ _ _ _ _) (by omega) | exact mr_lk (mr_wS_10 _ _ _ _ _ _) (by omega) | exact mr_lk ((mr_wS_ne _ _ _ _ _ _ (by omega)).trans (by assumption)) (by first | assumption | decide | omega) | exact (mr_wS_ne _ _ _ _ _ _ (by omega)).trans (mr_lk (by assumption) (by omega)) | exact (mr_wS_ne _ _ _ _ _ _ (by omega)).trans (mr_up_same _ _ _)), (by first | assumption | exact mr_wS_8 _ _ _ _ _ _ | exact mr_wS_9 _ _ _ _ _ _ | exact mr_wS_10 _ _ _ _ _ _ | exact (mr_wS_ne _ _ _ _ _ _ (by omega)).trans (by assumption) | exact mr_up_same _ _ _ | exact mr_lk (by assumption) (by first | assumption | decide | omega) | exact mr_lk (mr_wS_8 _ _ _ _ _ _) (by omega) | exact mr_lk (mr_wS_9 _ _ _ _ _ _) (by omega) | exact mr_lk (mr_wS_10 _ _ _ _ _ _) (by omega) | exact mr_lk ((mr_wS_ne _ _ _ _ _ _ (by omega)).trans (by assumption)) (by first | assumption | decide | omega) | exact (mr_wS_ne _ _ _ _ _ _ (by omega)).trans (mr_lk (by assumption) (by omega)) | exact (mr_wS_ne _ _ _ _ _ _ (by omega)).trans (mr_up_same _ _ _))⟩, ?_⟩
    rw [hz]
    dsimp only [Option.toList_some, Option.toList_none, List.cons_append, List.nil_append]
    refine mr_icmp_ge (tgt := 60) dX3_store_9 (by decide) (by omega) (by omega) (fun hc_9 => absurd hc_9 (by omega)) (fun hc_9 => ?_)
    refine mr_iconst dX3_store_12 ?_
    refine mr_istore dX3_store_13 rfl (by decide) ?_
    refine lpi_X3_store l G hb hb0 hB h7 ⟨h8, h9, h10⟩ hp hcl hcut ⟨hc0, by omega⟩ ?_ (f 1).toNat 0 (Int.le_refl 0) (by omega)
    refine mr_iinc dX3_store_54 rfl (by decide) rfl ?_
    refine mr_goto (tgt := 3) dX3_store_57 (by decide) ?_
    exact ih (c + 1) (by omega) (by omega)
def T_X3_store (a : List mr_AV) (w : mr_Wd) (Po : Option mr_AV → mr_Wd → Prop) : Prop := ∃ (b : Nat) (f : Nat → Int) (m cl ct p cut : Int) (R F : Nat → Nat → Int), a = [vR 7 0, vR b 0, vI p, vI cut] ∧ mr_BK w b f ∧ (b = 3 ∨ b = 12) ∧ mr_Bd f ∧ w 7 = eO 3 [vR 8 0] ∧ mr_SH w m cl ct R F ∧ (0 ≤ p ∧ p < 4) ∧ (0 ≤ cl ∧ cl ≤ 7) ∧ (0 ≤ cut ∧ cut ≤ 7) ∧ Po none (mr_up w (b + 1) (eA 0 51 (mr_pA f p (fun c a => mr_sh cl F (cut + c) (cut + a)))))
set_option maxHeartbeats 4000000 in
set_option maxRecDepth 20000 in
theorem ok_X3_store (l : Launch) (G : mr_G) : mr_Ok l G yX3_store cX3_store 6 none 2 47 T_X3_store := by
  refine mr_Ok.of (by decide +kernel) ?_
  rintro a w Po ⟨b, f, m, cl, ct, p, cut, R, F, rfl, ⟨hb, hc⟩, hb0, hB, h7, hS, hp, hcl, hcut, hP⟩
  refine ⟨Nat.le_of_ble_eq_true rfl, ?_⟩
  show mr_J l G RX3 cX3_store 6 none 2 47 Po 0 [some (vR 7 0), some (vR b 0), some (vI p), some (vI cut), none, none] [] w
  refine mr_iconst dX3_store_0 ?_
  refine mr_istore dX3_store_1 rfl (by decide) ?_
  have h9 := lp_X3_store l G hb hb0 hB h7 hS hp hcl hcut hP (f 1).toNat 0 (Int.le_refl 0) (by have := hB.1 1; omega)
  rw [mr_pt_0, mr_up_self hc] at h9
  exact h9
