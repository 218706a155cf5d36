/-! THE SHAPER (8, its rows 9, its forms 10). -/
def mr_SH (w : mr_Wd) (m cl ct : Int) (R F : Nat → Nat → Int) : Prop := w 8 = eO 4 [vR 9 0, vR 10 0, vI m, vI cl, vI ct] ∧ w 9 = eM 6 7 R ∧ w 10 = eM 7 7 F
def mr_MB (R : Nat → Nat → Int) : Prop := ∀ i j : Nat, 0 ≤ R i j ∧ R i j ≤ 30
def mr_Rw (F : Nat → Nat → Int) (r : Nat) (g : Nat → Int) : Nat → Nat → Int := fun q => if q = r then g else F q
theorem mr_Rw_same (F : Nat → Nat → Int) (r : Nat) (g : Nat → Int) : mr_Rw F r g r = g := if_pos rfl
theorem mr_Rw_ne (F : Nat → Nat → Int) {r q : Nat} (g : Nat → Int) (h : q ≠ r) : mr_Rw F r g q = F q := if_neg h
theorem mr_Rw_self (F : Nat → Nat → Int) (r : Nat) : mr_Rw F r (F r) = F := by
  funext q
  by_cases h : q = r
  · subst h; rw [mr_Rw_same]
  · rw [mr_Rw_ne _ _ h]
theorem mr_Fs_Rw (F : Nat → Nat → Int) (r : Nat) (g : Nat → Int) (i : Nat) (x : Int) : mr_Fs (mr_Rw F r g) r i x = mr_Rw F r (mr_fs g i x) := by
  funext q
  by_cases h : q = r <;> simp [mr_Fs, mr_Rw, h]
theorem mr_Rw_Rw (F : Nat → Nat → Int) (r : Nat) (g h : Nat → Int) : mr_Rw (mr_Rw F r g) r h = mr_Rw F r h := by
  funext q
  by_cases e : q = r <;> simp [mr_Rw, e]
theorem mr_MB_Rw {R : Nat → Nat → Int} (hR : mr_MB R) (r : Nat) {g : Nat → Int} (hg : mr_Rd g) : mr_MB (mr_Rw R r g) := by
  intro i j
  unfold mr_Rw
  split
  · exact hg j
  · exact hR i j
theorem mr_up3 (w : mr_Wd) {a b : Nat} (h : a ≠ b) (e1 e2 e3 : mr_AE) : mr_up (mr_up (mr_up w a e1) b e2) a e3 = mr_up (mr_up w a e3) b e2 := by
  rw [mr_up_comm _ h, mr_up_comm w h, mr_up_up]
/-- one step of Euclid's on two rows -/
def mr_lss (m c : Int) (T L : Nat → Int) : Int := m - (T c.toNat / L c.toNat) % m
def mr_ft (c a : Int) (T L : Nat → Int) : Nat → Int := fun j => if c ≤ (j : Int) ∧ (j : Int) < a then L j else T j
def mr_fl (m c a q : Int) (T L : Nat → Int) : Nat → Int := fun j => if c ≤ (j : Int) ∧ (j : Int) < a then (T j + q * L j) % m else L j
def mr_fol (m c cl : Int) : Nat → (Nat → Int) → (Nat → Int) → (Nat → Int) × (Nat → Int)
  | 0, T, L => (T, L)
  | k + 1, T, L => if 0 < L c.toNat then mr_fol m c cl k (mr_ft c cl T L) (mr_fl m c cl (mr_lss m c T L) T L) else (T, L)
def mr_fi (m c cl : Int) : Nat → Int → (Nat → Int) → (Nat → Nat → Int) → (Nat → Int) × (Nat → Nat → Int)
  | 0, _, T, R => (T, R)
  | n + 1, i, T, R => mr_fi m c cl n (i + 1) (mr_fol m c cl 40 T (R i.toNat)).1 (mr_Rw R i.toNat (mr_fol m c cl 40 T (R i.toNat)).2)
def mr_s1c (m cl ct c : Int) (R : Nat → Nat → Int) : (Nat → Int) × (Nat → Nat → Int) := mr_fi m c cl ct.toNat 0 (mr_fs (fun _ => 0) c.toNat m) R
def mr_s1 (m cl ct : Int) : Nat → Int → (Nat → Nat → Int) → (Nat → Nat → Int) → (Nat → Nat → Int) × (Nat → Nat → Int)
  | 0, _, R, F => (R, F)
  | n + 1, c, R, F => mr_s1 m cl ct n (c + 1) (mr_s1c m cl ct c R).2 (mr_Rw F c.toNat (mr_fs (mr_s1c m cl ct c R).1 c.toNat ((mr_s1c m cl ct c R).1 c.toNat % m)))
def mr_tu (m o a q : Int) (h g : Nat → Int) : Nat → Int := fun j => if o ≤ (j : Int) ∧ (j : Int) < a then (g j + q * h j) % m else g j
def mr_td (m cl : Int) (h : Nat → Int) (o : Int) (g : Nat → Int) : Nat → Int := if 0 < h o.toNat ∧ h o.toNat ≤ g o.toNat then mr_tu m o cl (m - g o.toNat / h o.toNat) h g else g
def mr_tl (m cl : Int) (F : Nat → Nat → Int) : Nat → Int → (Nat → Int) → Nat → Int
  | 0, _, g => g
  | n + 1, o, g => mr_tl m cl F n (o + 1) (mr_td m cl (F o.toNat) o g)
def mr_ty (m cl : Int) (F : Nat → Nat → Int) (c : Int) : Nat → Nat → Int := mr_Rw F c.toNat (mr_tl m cl F (cl - c - 1).toNat (c + 1) (F c.toNat))
def mr_t1 (m cl : Int) : Nat → Int → (Nat → Nat → Int) → Nat → Nat → Int
  | 0, _, F => F
  | n + 1, c, F => mr_t1 m cl n (c + 1) (mr_ty m cl F c)
def mr_shp (m cl ct : Int) (R F : Nat → Nat → Int) : Nat → Nat → Int := mr_t1 m cl cl.toNat 0 (mr_s1 m cl ct cl.toNat 0 R F).2
def mr_sbl (m cl : Int) (F : Nat → Nat → Int) : Nat → Int → Int → Int
  | 0, _, s => s
  | n + 1, c, s => mr_sbl m cl F n (c + 1) (s * if 0 < F c.toNat c.toNat then m / F c.toNat c.toNat else 1)
theorem mr_emod_bd {m x : Int} (hm : 1 ≤ m ∧ m ≤ 30) : 0 ≤ x % m ∧ x % m ≤ 30 := by
  have h1 := Int.emod_nonneg x (show m ≠ 0 by omega)
  have h2 := Int.emod_lt_of_pos x (show 0 < m by omega)
  omega
theorem mr_ft_bd {c a : Int} {T L : Nat → Int} (hT : mr_Rd T) (hL : mr_Rd L) : mr_Rd (mr_ft c a T L) := by
  intro j
  unfold mr_ft
  split
  · exact hL j
  · exact hT j
theorem mr_fl_bd {m c a q : Int} {T L : Nat → Int} (hm : 1 ≤ m ∧ m ≤ 30) (hL : mr_Rd L) : mr_Rd (mr_fl m c a q T L) := by
  intro j
  unfold mr_fl
  split
  · exact mr_emod_bd hm
  · exact hL j
theorem mr_fol_bd {m c cl : Int} (hm : 1 ≤ m ∧ m ≤ 30) : ∀ (k : Nat) {T L : Nat → Int}, mr_Rd T → mr_Rd L → mr_Rd (mr_fol m c cl k T L).1 ∧ mr_Rd (mr_fol m c cl k T L).2
  | 0, T, L, hT, hL => ⟨hT, hL⟩
  | k + 1, T, L, hT, hL => by
    unfold mr_fol
    split
    · exact mr_fol_bd hm k (mr_ft_bd hT hL) (mr_fl_bd hm hL)
    · exact ⟨hT, hL⟩
theorem mr_fi_bd {m c cl : Int} (hm : 1 ≤ m ∧ m ≤ 30) : ∀ (n : Nat) (i : Int) {T : Nat → Int} {R : Nat → Nat → Int}, mr_Rd T → mr_MB R → mr_Rd (mr_fi m c cl n i T R).1 ∧ mr_MB (mr_fi m c cl n i T R).2
  | 0, i, T, R, hT, hR => ⟨hT, hR⟩
  | n + 1, i, T, R, hT, hR => by
    unfold mr_fi
    have h := mr_fol_bd (c := c) (cl := cl) hm 40 hT (hR i.toNat)
    exact mr_fi_bd hm n (i + 1) h.1 (mr_MB_Rw hR _ h.2)
theorem mr_fs_bd {g : Nat → Int} (hg : mr_Rd g) (i : Nat) {x : Int} (hx : 0 ≤ x ∧ x ≤ 30) : mr_Rd (mr_fs g i x) := by
  intro j
  unfold mr_fs
  split
  · exact hx
  · exact hg j
theorem mr_s1c_bd {m cl ct c : Int} {R : Nat → Nat → Int} (hm : 1 ≤ m ∧ m ≤ 30) (hR : mr_MB R) : mr_Rd (mr_s1c m cl ct c R).1 ∧ mr_MB (mr_s1c m cl ct c R).2 :=
  mr_fi_bd hm _ _ (mr_fs_bd (fun j => ⟨Int.le_refl 0, by show (0 : Int) ≤ 30; decide⟩) _ ⟨by omega, by omega⟩) hR
theorem mr_td_bd {m cl o : Int} {h g : Nat → Int} (hm : 1 ≤ m ∧ m ≤ 30) (hg : mr_Rd g) : mr_Rd (mr_td m cl h o g) := by
  unfold mr_td
  split
  · intro j
    unfold mr_tu
    split
    · exact mr_emod_bd hm
    · exact hg j
  · exact hg
theorem mr_tl_bd {m cl : Int} {F : Nat → Nat → Int} (hm : 1 ≤ m ∧ m ≤ 30) : ∀ (n : Nat) (o : Int) {g : Nat → Int}, mr_Rd g → mr_Rd (mr_tl m cl F n o g)
  | 0, o, g, hg => hg
  | n + 1, o, g, hg => mr_tl_bd hm n (o + 1) (mr_td_bd hm hg)
theorem mr_ty_bd {m cl c : Int} {F : Nat → Nat → Int} (hm : 1 ≤ m ∧ m ≤ 30) (hF : mr_MB F) : mr_MB (mr_ty m cl F c) := mr_MB_Rw hF _ (mr_tl_bd hm _ _ (hF _))
def T_X4_start (a : List mr_AV) (w : mr_Wd) (Po : Option mr_AV → mr_Wd → Prop) : Prop := ∃ (m cl ct : Int) (R F : Nat → Nat → Int) (x y : Int), a = [vR 8 0, vI x, vI y] ∧ mr_SH w m cl ct R F ∧ InR x ∧ InR y ∧ Po none (mr_up w 8 (eO 4 [vR 9 0, vR 10 0, vI (max 1 x), vI (max 0 (min y 7)), vI 0]))
set_option maxHeartbeats 4000000 in
set_option maxRecDepth 20000 in
theorem ok_X4_start (l : Launch) (G : mr_G) : mr_Ok l G yX4_start cX4_start 3 none 1 21 T_X4_start := by
  refine mr_Ok.of (by decide +kernel) ?_
  rintro a w Po ⟨m, cl, ct, R, F, x, y, rfl, ⟨h8, h9, h10⟩, hx, hy, hP⟩
  refine ⟨Nat.le_of_ble_eq_true rfl, ?_⟩
  show mr_J l G RX4 cX4_start 3 none 1 21 Po 0 [some (vR 8 0), some (vI x), some (vI y)] [] w
  refine mr_aload_n dX4_start_0 rfl ?_
  refine mr_iconst dX4_start_1 ?_
  refine mr_iload_n dX4_start_2 rfl ?_
  refine mr_callS (as := [_, _]) dX4_start_3 (ok_J9_max_7cf53 l G) ml_X4_23 cl_J9_max_7cf53 cs_J9_max_7cf53 (by decide) rfl rfl (Nat.le_of_ble_eq_true rfl) ?_
  refine ⟨_, _, rfl, (by omega), (by omega), ?_⟩
  dsimp only [Option.toList_some, Option.toList_none, List.cons_append, List.nil_append]
  refine mr_put dX4_start_6 fl_X4_19 pf_X4_2 rfl rfl (by first | assumption | exact mr_up_same _ _ _ | exact mr_lk (by assumption) (by first | assumption | decide) | exact mr_lk (mr_up_same _ _ _) (by first | assumption | decide) | exact mr_lk (mr_lk (by assumption) (by first | assumption | decide)) (by first | assumption | decide)) (Nat.le_of_ble_eq_true rfl) ?_
  try rw [mr_up_up]
  refine mr_aload_n dX4_start_9 rfl ?_
  refine mr_iconst dX4_start_10 ?_
  refine mr_iload_n dX4_start_11 rfl ?_
  refine mr_bipush dX4_start_12 rfl ?_
  refine mr_callS (as := [_, _]) dX4_start_14 (ok_J9_min_7cf53 l G) ml_X4_29 cl_J9_min_7cf53 cs_J9_min_7cf53 (by decide) rfl rfl (Nat.le_of_ble_eq_true rfl) ?_
  refine ⟨_, _, rfl, (by omega), (by omega), ?_⟩
  dsimp only [Option.toList_some, Option.toList_none, List.cons_append, List.nil_append]
  refine mr_callS (as := [_, _]) dX4_start_17 (ok_J9_max_7cf53 l G) ml_X4_23 cl_J9_max_7cf53 cs_J9_max_7cf53 (by decide) rfl rfl (Nat.le_of_ble_eq_true rfl) ?_
  refine ⟨_, _, rfl, (by omega), (by omega), ?_⟩
  dsimp only [Option.toList_some, Option.toList_none, List.cons_append, List.nil_append]
  refine mr_put dX4_start_20 fl_X4_32 pf_X4_3 rfl rfl (by first | assumption | exact mr_up_same _ _ _ | exact mr_lk (by assumption) (by first | assumption | decide) | exact mr_lk (mr_up_same _ _ _) (by first | assumption | decide) | exact mr_lk (mr_lk (by assumption) (by first | assumption | decide)) (by first | assumption | decide)) (Nat.le_of_ble_eq_true rfl) ?_
  try rw [mr_up_up]
  refine mr_aload_n dX4_start_23 rfl ?_
  refine mr_iconst dX4_start_24 ?_
  refine mr_put dX4_start_25 fl_X4_35 pf_X4_4 rfl rfl (by first | assumption | exact mr_up_same _ _ _ | exact mr_lk (by assumption) (by first | assumption | decide) | exact mr_lk (mr_up_same _ _ _) (by first | assumption | decide) | exact mr_lk (mr_lk (by assumption) (by first | assumption | decide)) (by first | assumption | decide)) (Nat.le_of_ble_eq_true rfl) ?_
  try rw [mr_up_up]
  refine mr_vret rfl dX4_start_28 ?_
  exact hP
def T_X4_addRow (a : List mr_AV) (w : mr_Wd) (Po : Option mr_AV → mr_Wd → Prop) : Prop := ∃ (m cl ct : Int) (R F : Nat → Nat → Int), a = [vR 8 0] ∧ mr_SH w m cl ct R F ∧ (0 ≤ ct ∧ ct < 6) ∧ Po none (mr_up (mr_up w 9 (eM 6 7 (mr_Rw R ct.toNat (fun _ => 0)))) 8 (eO 4 [vR 9 0, vR 10 0, vI m, vI cl, vI (ct + 1)]))
set_option maxHeartbeats 4000000 in
set_option maxRecDepth 20000 in
theorem ok_X4_addRow (l : Launch) (G : mr_G) : mr_Ok l G yX4_addRow cX4_addRow 1 none 1 23 T_X4_addRow := by
  refine mr_Ok.of (by decide +kernel) ?_
  rintro a w Po ⟨m, cl, ct, R, F, rfl, ⟨h8, h9, h10⟩, hct, hP⟩
  refine ⟨Nat.le_of_ble_eq_true rfl, ?_⟩
  show mr_J l G RX4 cX4_addRow 1 none 1 23 Po 0 [some (vR 8 0)] [] w
  refine mr_aload_n dX4_addRow_0 rfl ?_
  refine mr_get dX4_addRow_1 fl_X4_35 (by first | assumption | exact mr_up_same _ _ _ | exact mr_lk (by assumption) (by first | assumption | decide) | exact mr_lk (mr_up_same _ _ _) (by first | assumption | decide) | exact mr_lk (mr_lk (by assumption) (by first | assumption | decide)) (by first | assumption | decide)) rfl ?_
  refine mr_bipush dX4_addRow_4 rfl ?_
  refine mr_icmp_ge (tgt := 32) dX4_addRow_6 (by decide) (by omega) (by omega) (fun hc_6 => absurd hc_6 (by omega)) (fun hc_6 => ?_)
  refine mr_aload_n dX4_addRow_9 rfl ?_
  refine mr_get dX4_addRow_10 fl_X4_13 (by first | assumption | exact mr_up_same _ _ _ | exact mr_lk (by assumption) (by first | assumption | decide) | exact mr_lk (mr_up_same _ _ _) (by first | assumption | decide) | exact mr_lk (mr_lk (by assumption) (by first | assumption | decide)) (by first | assumption | decide)) rfl ?_
  refine mr_aload_n dX4_addRow_13 rfl ?_
  refine mr_get dX4_addRow_14 fl_X4_35 (by first | assumption | exact mr_up_same _ _ _ | exact mr_lk (by assumption) (by first | assumption | decide) | exact mr_lk (mr_up_same _ _ _) (by first | assumption | decide) | exact mr_lk (mr_lk (by assumption) (by first | assumption | decide)) (by first | assumption | decide)) rfl ?_
  refine mr_aald dX4_addRow_17 (by first | assumption | exact mr_up_same _ _ _ | exact mr_lk (by assumption) (by first | assumption | decide) | exact mr_lk (mr_up_same _ _ _) (by first | assumption | decide) | exact mr_lk (mr_lk (by assumption) (by first | assumption | decide)) (by first | assumption | decide)) (by omega) (by omega) (by decide) ?_
  refine mr_iconst dX4_addRow_18 ?_
  refine mr_callS (as := [_, _]) dX4_addRow_19 (ok_J7_fill_53178 l G) ml_X4_38 cl_J7_fill_53178 cs_J7_fill_53178 (by decide) rfl rfl (Nat.le_of_ble_eq_true rfl) ?_
  refine Or.inr ⟨_, _, _, _, _, _, rfl, (by first | assumption | exact mr_up_same _ _ _ | exact mr_lk (by assumption) (by first | assumption | decide) | exact mr_lk (mr_up_same _ _ _) (by first | assumption | decide) | exact mr_lk (mr_lk (by assumption) (by first | assumption | decide)) (by first | assumption | decide)), (by omega), (by decide), ?_⟩
  dsimp only [Option.toList_some, Option.toList_none, List.cons_append, List.nil_append]
  refine mr_aload_n dX4_addRow_22 rfl ?_
  refine mr_dup dX4_addRow_23 rfl ?_
  refine mr_get dX4_addRow_24 fl_X4_35 (by first | assumption | exact mr_up_same _ _ _ | exact mr_lk (by assumption) (by first | assumption | decide) | exact mr_lk (mr_up_same _ _ _) (by first | assumption | decide) | exact mr_lk (mr_lk (by assumption) (by first | assumption | decide)) (by first | assumption | decide)) rfl ?_
  refine mr_iconst dX4_addRow_27 ?_
  refine mr_iadd dX4_addRow_28 ?_
  refine mr_put dX4_addRow_29 fl_X4_35 pf_X4_4 rfl rfl (by first | assumption | exact mr_up_same _ _ _ | exact mr_lk (by assumption) (by first | assumption | decide) | exact mr_lk (mr_up_same _ _ _) (by first | assumption | decide) | exact mr_lk (mr_lk (by assumption) (by first | assumption | decide)) (by first | assumption | decide)) (Nat.le_of_ble_eq_true rfl) ?_
  refine mr_vret rfl dX4_addRow_32 ?_
  exact hP
theorem mr_tmod_fix {x m : Int} (hm : 0 < m) : (0 ≤ x.tmod m → x.tmod m = x % m) ∧ (x.tmod m < 0 → x.tmod m + m = x % m) := by
  by_cases hx : 0 ≤ x
  · rw [mr_fmod_pos hx]
    have := Int.emod_nonneg x (show m ≠ 0 by omega)
    exact ⟨fun _ => rfl, fun h => by omega⟩
  · have h2 := mr_fmod_neg (x := x) (y := m) (by omega) hm
    have h0 := Int.emod_nonneg x (show m ≠ 0 by omega)
    have h1 := Int.emod_lt_of_pos x hm
    by_cases h3 : x.tmod m = 0
    · rw [if_pos h3] at h2
      exact ⟨fun _ => by omega, fun h => by omega⟩
    · rw [if_neg h3] at h2
      exact ⟨fun h => by omega, fun h => by omega⟩
def mr_pu (cl ct m : Int) (R : Nat → Nat → Int) (c x : Int) : Nat → Nat → Int := if 0 ≤ c ∧ c < cl then mr_Fs R (ct - 1).toNat c.toNat (x % m) else R
def T_X4_put (a : List mr_AV) (w : mr_Wd) (Po : Option mr_AV → mr_Wd → Prop) : Prop := ∃ (m cl ct : Int) (R F : Nat → Nat → Int) (c x : Int), a = [vR 8 0, vI c, vI x] ∧ mr_SH w m cl ct R F ∧ (1 ≤ ct ∧ ct ≤ 6) ∧ (0 ≤ cl ∧ cl ≤ 7) ∧ (1 ≤ m ∧ m ≤ 30) ∧ InR c ∧ InR x ∧ Po none (mr_up w 9 (eM 6 7 (mr_pu cl ct m R c x)))
set_option maxHeartbeats 4000000 in
set_option maxRecDepth 20000 in
theorem ok_X4_put (l : Launch) (G : mr_G) : mr_Ok l G yX4_put cX4_put 4 none 0 0 T_X4_put := by
  refine mr_Ok.of (by decide +kernel) ?_
  rintro a w Po ⟨m, cl, ct, R, F, c, x, rfl, ⟨h8, h9, h10⟩, hct, hcl, hm, hc0, hx, hP⟩
  refine ⟨Nat.le_of_ble_eq_true rfl, ?_⟩
  show mr_J l G RX4 cX4_put 4 none 0 0 Po 0 [some (vR 8 0), some (vI c), some (vI x), none] [] w
  have hfx := mr_tmod_fix (x := x) (m := m) (by omega)
  have he1 := Int.emod_nonneg x (show m ≠ 0 by omega)
  have he2 := Int.emod_lt_of_pos x (show 0 < m by omega)
  have hir : InR (x.tmod m) := by
    by_cases h : 0 ≤ x.tmod m
    · have := hfx.1 h; exact ⟨by omega, by omega⟩
    · have := hfx.2 (by omega); exact ⟨by omega, by omega⟩
  refine mr_aload_n dX4_put_0 rfl ?_
  refine mr_get dX4_put_1 fl_X4_35 (by first | assumption | exact mr_up_same _ _ _ | exact mr_lk (by assumption) (by first | assumption | decide) | exact mr_lk (mr_up_same _ _ _) (by first | assumption | decide) | exact mr_lk (mr_lk (by assumption) (by first | assumption | decide)) (by first | assumption | decide)) rfl ?_
  refine mr_if_le (tgt := 62) dX4_put_4 (by decide) (by omega) (fun hc_4 => absurd hc_4 (by omega)) (fun hc_4 => ?_)
  refine mr_aload_n dX4_put_7 rfl ?_
  refine mr_get dX4_put_8 fl_X4_35 (by first | assumption | exact mr_up_same _ _ _ | exact mr_lk (by assumption) (by first | assumption | decide) | exact mr_lk (mr_up_same _ _ _) (by first | assumption | decide) | exact mr_lk (mr_lk (by assumption) (by first | assumption | decide)) (by first | assumption | decide)) rfl ?_
  refine mr_bipush dX4_put_11 rfl ?_
  refine mr_icmp_gt (tgt := 62) dX4_put_13 (by decide) (by omega) (by omega) (fun hc_13 => absurd hc_13 (by omega)) (fun hc_13 => ?_)
  refine mr_iload_n dX4_put_16 rfl ?_
  refine mr_if_lt (tgt := 62) dX4_put_17 (by decide) (by omega) (fun hc_17 => ?_) (fun hc_17 => ?_)
  · refine mr_vret rfl dX4_put_62 ?_
    first | (rw [mr_pu, if_neg (by omega), mr_up_self h9] at hP; exact hP) | (rw [mr_pu, if_pos (by omega), ← hfx.1 (by omega)] at hP; exact hP) | (rw [mr_pu, if_pos (by omega), ← hfx.2 (by omega)] at hP; exact hP)
  · refine mr_iload_n dX4_put_20 rfl ?_
    refine mr_aload_n dX4_put_21 rfl ?_
    refine mr_get dX4_put_22 fl_X4_32 (by first | assumption | exact mr_up_same _ _ _ | exact mr_lk (by assumption) (by first | assumption | decide) | exact mr_lk (mr_up_same _ _ _) (by first | assumption | decide) | exact mr_lk (mr_lk (by assumption) (by first | assumption | decide)) (by first | assumption | decide)) rfl ?_
    refine mr_icmp_ge (tgt := 62) dX4_put_25 (by decide) (by omega) (by omega) (fun hc_25 => ?_) (fun hc_25 => ?_)
    · refine mr_vret rfl dX4_put_62 ?_
      first | (rw [mr_pu, if_neg (by omega), mr_up_self h9] at hP; exact hP) | (rw [mr_pu, if_pos (by omega), ← hfx.1 (by omega)] at hP; exact hP) | (rw [mr_pu, if_pos (by omega), ← hfx.2 (by omega)] at hP; exact hP)
    · refine mr_iload_n dX4_put_28 rfl ?_
      refine mr_aload_n dX4_put_29 rfl ?_
      refine mr_get dX4_put_30 fl_X4_19 (by first | assumption | exact mr_up_same _ _ _ | exact mr_lk (by assumption) (by first | assumption | decide) | exact mr_lk (mr_up_same _ _ _) (by first | assumption | decide) | exact mr_lk (mr_lk (by assumption) (by first | assumption | decide)) (by first | assumption | decide)) rfl ?_
      refine mr_irem dX4_put_33 hx (by omega) (by omega) ?_
      refine mr_istore_n dX4_put_34 rfl (by decide) ?_
      refine mr_aload_n dX4_put_35 rfl ?_
      refine mr_get dX4_put_36 fl_X4_13 (by first | assumption | exact mr_up_same _ _ _ | exact mr_lk (by assumption) (by first | assumption | decide) | exact mr_lk (mr_up_same _ _ _) (by first | assumption | decide) | exact mr_lk (mr_lk (by assumption) (by first | assumption | decide)) (by first | assumption | decide)) rfl ?_
      refine mr_aload_n dX4_put_39 rfl ?_
      refine mr_get dX4_put_40 fl_X4_35 (by first | assumption | exact mr_up_same _ _ _ | exact mr_lk (by assumption) (by first | assumption | decide) | exact mr_lk (mr_up_same _ _ _) (by first | assumption | decide) | exact mr_lk (mr_lk (by assumption) (by first | assumption | decide)) (by first | assumption | decide)) rfl ?_
      refine mr_iconst dX4_put_43 ?_
      refine mr_isub dX4_put_44 ?_
      refine mr_aald dX4_put_45 (by first | assumption | exact mr_up_same _ _ _ | exact mr_lk (by assumption) (by first | assumption | decide) | exact mr_lk (mr_up_same _ _ _) (by first | assumption | decide) | exact mr_lk (mr_lk (by assumption) (by first | assumption | decide)) (by first | assumption | decide)) (by omega) (by omega) (by decide) ?_
      refine mr_iload_n dX4_put_46 rfl ?_
      refine mr_iload_n dX4_put_47 rfl ?_
      refine mr_if_ge (tgt := 60) dX4_put_48 (by decide) hir (fun hc_48 => ?_) (fun hc_48 => ?_)
      · refine mr_iload_n dX4_put_60 rfl ?_
        refine mr_iastM dX4_put_61 (by first | assumption | exact mr_up_same _ _ _ | exact mr_lk (by assumption) (by first | assumption | decide) | exact mr_lk (mr_up_same _ _ _) (by first | assumption | decide) | exact mr_lk (mr_lk (by assumption) (by first | assumption | decide)) (by first | assumption | decide)) (by omega) (by omega) (by omega) (by decide) ?_
        refine mr_vret rfl dX4_put_62 ?_
        first | (rw [mr_pu, if_neg (by omega), mr_up_self h9] at hP; exact hP) | (rw [mr_pu, if_pos (by omega), ← hfx.1 (by omega)] at hP; exact hP) | (rw [mr_pu, if_pos (by omega), ← hfx.2 (by omega)] at hP; exact hP)
      · refine mr_iload_n dX4_put_51 rfl ?_
        refine mr_aload_n dX4_put_52 rfl ?_
        refine mr_get dX4_put_53 fl_X4_19 (by first | assumption | exact mr_up_same _ _ _ | exact mr_lk (by assumption) (by first | assumption | decide) | exact mr_lk (mr_up_same _ _ _) (by first | assumption | decide) | exact mr_lk (mr_lk (by assumption) (by first | assumption | decide)) (by first | assumption | decide)) rfl ?_
        refine mr_iadd dX4_put_56 ?_
        refine mr_goto (tgt := 61) dX4_put_57 (by decide) ?_
        refine mr_iastM dX4_put_61 (by first | assumption | exact mr_up_same _ _ _ | exact mr_lk (by assumption) (by first | assumption | decide) | exact mr_lk (mr_up_same _ _ _) (by first | assumption | decide) | exact mr_lk (mr_lk (by assumption) (by first | assumption | decide)) (by first | assumption | decide)) (by omega) (by omega) (by omega) (by decide) ?_
        refine mr_vret rfl dX4_put_62 ?_
        first | (rw [mr_pu, if_neg (by omega), mr_up_self h9] at hP; exact hP) | (rw [mr_pu, if_pos (by omega), ← hfx.1 (by omega)] at hP; exact hP) | (rw [mr_pu, if_pos (by omega), ← hfx.2 (by omega)] at hP; exact hP)
def mr_sh (cl : Int) (F : Nat → Nat → Int) (c a : Int) : Int := if 0 ≤ c ∧ c < cl ∧ 0 ≤ a ∧ a < cl then F c.toNat a.toNat else 0
theorem mr_sh_bd {cl : Int} {F : Nat → Nat → Int} (hF : mr_MB F) (c a : Int) : 0 ≤ mr_sh cl F c a ∧ mr_sh cl F c a ≤ 30 := by
  unfold mr_sh
  split
  · exact hF _ _
  · omega
def T_X4_shapedAt (a : List mr_AV) (w : mr_Wd) (Po : Option mr_AV → mr_Wd → Prop) : Prop := ∃ (m cl ct : Int) (R F : Nat → Nat → Int) (c a0 : Int), a = [vR 8 0, vI c, vI a0] ∧ mr_SH w m cl ct R F ∧ (0 ≤ cl ∧ cl ≤ 7) ∧ InR c ∧ InR a0 ∧ Po (some (vI (mr_sh cl F c a0))) w
set_option maxHeartbeats 4000000 in
set_option maxRecDepth 20000 in
theorem ok_X4_shapedAt (l : Launch) (G : mr_G) : mr_Ok l G yX4_shapedAt cX4_shapedAt 4 (some .int) 0 0 T_X4_shapedAt := by
  refine mr_Ok.of (by decide +kernel) ?_
  rintro a w Po ⟨m, cl, ct, R, F, c, a0, rfl, ⟨h8, h9, h10⟩, hcl, hc0, ha0, hP⟩
  refine ⟨Nat.le_of_ble_eq_true rfl, ?_⟩
  show mr_J l G RX4 cX4_shapedAt 4 (some .int) 0 0 Po 0 [some (vR 8 0), some (vI c), some (vI a0), none] [] w
  refine mr_iload_n dX4_shapedAt_0 rfl ?_
  refine mr_if_lt (tgt := 28) dX4_shapedAt_1 (by decide) (by omega) (fun hc_1 => ?_) (fun hc_1 => ?_)
  · refine mr_iconst dX4_shapedAt_28 ?_
    refine mr_istore_n dX4_shapedAt_29 rfl (by decide) ?_
    refine mr_iload_n dX4_shapedAt_30 rfl ?_
    refine mr_if_eq (tgt := 45) dX4_shapedAt_31 (by decide) (by omega) (fun _ => ?_) (fun h => absurd h (by decide))
    refine mr_iconst dX4_shapedAt_45 ?_
    refine mr_iret rfl dX4_shapedAt_46 ?_
    first | (rw [mr_sh, if_pos (by omega)] at hP; exact hP) | (rw [mr_sh, if_neg (by omega)] at hP; exact hP)
  · refine mr_iload_n dX4_shapedAt_4 rfl ?_
    refine mr_aload_n dX4_shapedAt_5 rfl ?_
    refine mr_get dX4_shapedAt_6 fl_X4_32 (by first | assumption | exact mr_up_same _ _ _ | exact mr_lk (by assumption) (by first | assumption | decide) | exact mr_lk (mr_up_same _ _ _) (by first | assumption | decide) | exact mr_lk (mr_lk (by assumption) (by first | assumption | decide)) (by first | assumption | decide)) rfl ?_
    refine mr_icmp_ge (tgt := 28) dX4_shapedAt_9 (by decide) (by omega) (by omega) (fun hc_9 => ?_) (fun hc_9 => ?_)
    · refine mr_iconst dX4_shapedAt_28 ?_
      refine mr_istore_n dX4_shapedAt_29 rfl (by decide) ?_
      refine mr_iload_n dX4_shapedAt_30 rfl ?_
      refine mr_if_eq (tgt := 45) dX4_shapedAt_31 (by decide) (by omega) (fun _ => ?_) (fun h => absurd h (by decide))
      refine mr_iconst dX4_shapedAt_45 ?_
      refine mr_iret rfl dX4_shapedAt_46 ?_
      first | (rw [mr_sh, if_pos (by omega)] at hP; exact hP) | (rw [mr_sh, if_neg (by omega)] at hP; exact hP)
    · refine mr_iload_n dX4_shapedAt_12 rfl ?_
      refine mr_if_lt (tgt := 28) dX4_shapedAt_13 (by decide) (by omega) (fun hc_13 => ?_) (fun hc_13 => ?_)
      · refine mr_iconst dX4_shapedAt_28 ?_
        refine mr_istore_n dX4_shapedAt_29 rfl (by decide) ?_
        refine mr_iload_n dX4_shapedAt_30 rfl ?_
        refine mr_if_eq (tgt := 45) dX4_shapedAt_31 (by decide) (by omega) (fun _ => ?_) (fun h => absurd h (by decide))
        refine mr_iconst dX4_shapedAt_45 ?_
        refine mr_iret rfl dX4_shapedAt_46 ?_
        first | (rw [mr_sh, if_pos (by omega)] at hP; exact hP) | (rw [mr_sh, if_neg (by omega)] at hP; exact hP)
      · refine mr_iload_n dX4_shapedAt_16 rfl ?_
        refine mr_aload_n dX4_shapedAt_17 rfl ?_
        refine mr_get dX4_shapedAt_18 fl_X4_32 (by first | assumption | exact mr_up_same _ _ _ | exact mr_lk (by assumption) (by first | assumption | decide) | exact mr_lk (mr_up_same _ _ _) (by first | assumption | decide) | exact mr_lk (mr_lk (by assumption) (by first | assumption | decide)) (by first | assumption | decide)) rfl ?_
        refine mr_icmp_ge (tgt := 28) dX4_shapedAt_21 (by decide) (by omega) (by omega) (fun hc_21 => ?_) (fun hc_21 => ?_)
        · refine mr_iconst dX4_shapedAt_28 ?_
          refine mr_istore_n dX4_shapedAt_29 rfl (by decide) ?_
          refine mr_iload_n dX4_shapedAt_30 rfl ?_
          refine mr_if_eq (tgt := 45) dX4_shapedAt_31 (by decide) (by omega) (fun _ => ?_) (fun h => absurd h (by decide))
          refine mr_iconst dX4_shapedAt_45 ?_
          refine mr_iret rfl dX4_shapedAt_46 ?_
          first | (rw [mr_sh, if_pos (by omega)] at hP; exact hP) | (rw [mr_sh, if_neg (by omega)] at hP; exact hP)
        · refine mr_iconst dX4_shapedAt_24 ?_
          refine mr_goto (tgt := 29) dX4_shapedAt_25 (by decide) ?_
          refine mr_istore_n dX4_shapedAt_29 rfl (by decide) ?_
          refine mr_iload_n dX4_shapedAt_30 rfl ?_
          refine mr_if_eq (tgt := 45) dX4_shapedAt_31 (by decide) (by omega) (fun h => absurd h (by decide)) (fun _ => ?_)
          refine mr_aload_n dX4_shapedAt_34 rfl ?_
          refine mr_get dX4_shapedAt_35 fl_X4_16 (by first | assumption | exact mr_up_same _ _ _ | exact mr_lk (by assumption) (by first | assumption | decide) | exact mr_lk (mr_up_same _ _ _) (by first | assumption | decide) | exact mr_lk (mr_lk (by assumption) (by first | assumption | decide)) (by first | assumption | decide)) rfl ?_
          refine mr_iload_n dX4_shapedAt_38 rfl ?_
          refine mr_aald dX4_shapedAt_39 (by first | assumption | exact mr_up_same _ _ _ | exact mr_lk (by assumption) (by first | assumption | decide) | exact mr_lk (mr_up_same _ _ _) (by first | assumption | decide) | exact mr_lk (mr_lk (by assumption) (by first | assumption | decide)) (by first | assumption | decide)) (by omega) (by omega) (by decide) ?_
          refine mr_iload_n dX4_shapedAt_40 rfl ?_
          refine mr_ialdM dX4_shapedAt_41 (by first | assumption | exact mr_up_same _ _ _ | exact mr_lk (by assumption) (by first | assumption | decide) | exact mr_lk (mr_up_same _ _ _) (by first | assumption | decide) | exact mr_lk (mr_lk (by assumption) (by first | assumption | decide)) (by first | assumption | decide)) (by omega) (by omega) (by omega) (by decide) ?_
          refine mr_goto (tgt := 46) dX4_shapedAt_42 (by decide) ?_
          refine mr_iret rfl dX4_shapedAt_46 ?_
          first | (rw [mr_sh, if_pos (by omega)] at hP; exact hP) | (rw [mr_sh, if_neg (by omega)] at hP; exact hP)
set_option maxHeartbeats 4000000 in
set_option maxRecDepth 20000 in
theorem lpi_X4_fold (l : Launch) (G : mr_G) {Po : Option mr_AV → mr_Wd → Prop} {w : mr_Wd} {m cl ct c : Int} {R F : Nat → Nat → Int} {i r : Nat} {s q : Int} {T L : Nat → Int} (h8 : w 8 = eO 4 [vR 9 0, vR 10 0, vI m, vI cl, vI ct]) (hm : 1 ≤ m ∧ m ≤ 30) (hcl : 0 ≤ cl ∧ cl ≤ 7) (hc0 : 0 ≤ c ∧ c < cl) (hi : i < 6) (hr : r < 7) (hT : mr_Rd T) (hL : mr_Rd L) (hq : 0 ≤ q ∧ q ≤ 30) (hk : mr_J l G RX4 cX4_fold 8 none 0 0 Po 86 [some (vR 8 0), some (vR 10 (r + 1)), some (vR 9 (i + 1)), some (vI c), some (vI s), none, none, none] [] (mr_up (mr_up w 9 (eM 6 7 (mr_Rw R i (mr_fl m c cl q T L)))) 10 (eM 7 7 (mr_Rw F r (mr_ft c cl T L))))) : ∀ (n : Nat) (a : Int), c ≤ a → a + n = cl → mr_J l G RX4 cX4_fold 8 none 0 0 Po 38 [some (vR 8 0), some (vR 10 (r + 1)), some (vR 9 (i + 1)), some (vI c), some (vI s), some (vI q), some (vI a), none] [] (mr_up (mr_up w 9 (eM 6 7 (mr_Rw R i (mr_fl m c a q T L)))) 10 (eM 7 7 (mr_Rw F r (mr_ft c a T L)))) := by
  intro n
  induction n with
  | zero =>
    intro a ha hn
    have e : a = cl := by omega
    subst e
    refine mr_iload dX4_fold_38 rfl ?_
    refine mr_aload_n dX4_fold_40 rfl ?_
    refine mr_get dX4_fold_41 fl_X4_32 (by first | assumption | exact mr_up_same _ _ _ | exact mr_lk (by assumption) (by first | assumption | decide) | exact mr_lk (mr_up_same _ _ _) (by first | assumption | decide) | exact mr_lk (mr_lk (by assumption) (by first | assumption | decide)) (by first | assumption | decide)) rfl ?_
    refine mr_icmp_ge (tgt := 86) dX4_fold_44 (by decide) (by omega) (by omega) (fun hc_44 => ?_) (fun hc_44 => absurd hc_44 (by omega))
    refine mr_weak [some (vR 8 0), some (vR 10 (r + 1)), some (vR 9 (i + 1)), some (vI c), some (vI s), none, none, none] ⟨rfl, rfl, rfl, rfl, rfl, trivial⟩ ?_
    exact hk
  | succ n ih =>
    intro a ha hn
    have hTa := hT a.toNat
    have hLa := hL a.toNat
    have e1 : mr_ft c a T L a.toNat = T a.toNat := by
      unfold mr_ft
      rw [if_neg (fun z => by omega)]
    have e2 : mr_fl m c a q T L a.toNat = L a.toNat := by
      unfold mr_fl
      rw [if_neg (fun z => by omega)]
    have hmu := mr_mul_bd (A := 30) (x := q) ⟨by omega, hq.2⟩ hLa (by decide)
    have hmu2 := Int.mul_nonneg hq.1 hLa.1
    have e3 : (T a.toNat + q * L a.toNat).tmod m = (T a.toNat + q * L a.toNat) % m := Int.tmod_eq_emod_of_nonneg (by omega)
    refine mr_iload dX4_fold_38 rfl ?_
    refine mr_aload_n dX4_fold_40 rfl ?_
    refine mr_get dX4_fold_41 fl_X4_32 (by first | assumption | exact mr_up_same _ _ _ | exact mr_lk (by assumption) (by first | assumption | decide) | exact mr_lk (mr_up_same _ _ _) (by first | assumption | decide) | exact mr_lk (mr_lk (by assumption) (by first | assumption | decide)) (by first | assumption | decide)) rfl ?_
    refine mr_icmp_ge (tgt := 86) dX4_fold_44 (by decide) (by omega) (by omega) (fun hc_44 => absurd hc_44 (by omega)) (fun hc_44 => ?_)
    refine mr_aload_n dX4_fold_47 rfl ?_
    refine mr_iload dX4_fold_48 rfl ?_
    refine mr_ialdM dX4_fold_50 (by first | assumption | exact mr_up_same _ _ _ | exact mr_lk (by assumption) (by first | assumption | decide) | exact mr_lk (mr_up_same _ _ _) (by first | assumption | decide) | exact mr_lk (mr_lk (by assumption) (by first | assumption | decide)) (by first | assumption | decide)) hr (by omega) (by omega) (by decide) ?_
    rw [mr_Rw_same, e1]
    refine mr_iload dX4_fold_51 rfl ?_
    refine mr_aload_n dX4_fold_53 rfl ?_
    refine mr_iload dX4_fold_54 rfl ?_
    refine mr_ialdM dX4_fold_56 (by first | assumption | exact mr_up_same _ _ _ | exact mr_lk (by assumption) (by first | assumption | decide) | exact mr_lk (mr_up_same _ _ _) (by first | assumption | decide) | exact mr_lk (mr_lk (by assumption) (by first | assumption | decide)) (by first | assumption | decide)) hi (by omega) (by omega) (by decide) ?_
    rw [mr_Rw_same, e2]
    refine mr_imul dX4_fold_57 ?_
    refine mr_iadd dX4_fold_58 ?_
    refine mr_aload_n dX4_fold_59 rfl ?_
    refine mr_get dX4_fold_60 fl_X4_19 (by first | assumption | exact mr_up_same _ _ _ | exact mr_lk (by assumption) (by first | assumption | decide) | exact mr_lk (mr_up_same _ _ _) (by first | assumption | decide) | exact mr_lk (mr_lk (by assumption) (by first | assumption | decide)) (by first | assumption | decide)) rfl ?_
    refine mr_irem dX4_fold_63 (by omega) (by omega) (by omega) ?_
    rw [e3]
    refine mr_istore dX4_fold_64 rfl (by decide) ?_
    refine mr_aload_n dX4_fold_66 rfl ?_
    refine mr_iload dX4_fold_67 rfl ?_
    refine mr_aload_n dX4_fold_69 rfl ?_
    refine mr_iload dX4_fold_70 rfl ?_
    refine mr_ialdM dX4_fold_72 (by first | assumption | exact mr_up_same _ _ _ | exact mr_lk (by assumption) (by first | assumption | decide) | exact mr_lk (mr_up_same _ _ _) (by first | assumption | decide) | exact mr_lk (mr_lk (by assumption) (by first | assumption | decide)) (by first | assumption | decide)) hi (by omega) (by omega) (by decide) ?_
    rw [mr_Rw_same, e2]
    refine mr_iastM dX4_fold_73 (by first | assumption | exact mr_up_same _ _ _ | exact mr_lk (by assumption) (by first | assumption | decide) | exact mr_lk (mr_up_same _ _ _) (by first | assumption | decide) | exact mr_lk (mr_lk (by assumption) (by first | assumption | decide)) (by first | assumption | decide)) hr (by omega) (by omega) (by decide) ?_
    rw [mr_up_up, mr_Fs_Rw]
    refine mr_aload_n dX4_fold_74 rfl ?_
    refine mr_iload dX4_fold_75 rfl ?_
    refine mr_iload dX4_fold_77 rfl ?_
    refine mr_iastM dX4_fold_79 (by first | assumption | exact mr_up_same _ _ _ | exact mr_lk (by assumption) (by first | assumption | decide) | exact mr_lk (mr_up_same _ _ _) (by first | assumption | decide) | exact mr_lk (mr_lk (by assumption) (by first | assumption | decide)) (by first | assumption | decide)) hi (by omega) (by omega) (by decide) ?_
    rw [mr_up3 _ (by decide), mr_Fs_Rw]
    refine mr_iinc dX4_fold_80 rfl (by decide) rfl ?_
    refine mr_goto (tgt := 38) dX4_fold_83 (by decide) ?_
    have e4 : mr_fs (mr_ft c a T L) a.toNat (L a.toNat) = mr_ft c (a + 1) T L := by
      funext j
      unfold mr_fs mr_ft
      by_cases hj : j = a.toNat
      · rw [if_pos hj, if_pos ⟨by omega, by omega⟩, hj]
      · rw [if_neg hj]
        by_cases h : c ≤ (j : Int) ∧ (j : Int) < a
        · rw [if_pos h, if_pos ⟨h.1, by omega⟩]
        · rw [if_neg h, if_neg (fun z => h ⟨z.1, by omega⟩)]
    have e5 : mr_fs (mr_fl m c a q T L) a.toNat ((T a.toNat + q * L a.toNat) % m) = mr_fl m c (a + 1) q T L := by
      funext j
      unfold mr_fs mr_fl
      by_cases hj : j = a.toNat
      · rw [if_pos hj, if_pos ⟨by omega, by omega⟩, hj]
      · rw [if_neg hj]
        by_cases h : c ≤ (j : Int) ∧ (j : Int) < a
        · rw [if_pos h, if_pos ⟨h.1, by omega⟩]
        · rw [if_neg h, if_neg (fun z => h ⟨z.1, by omega⟩)]
    rw [e4, e5]
    refine mr_weak [some (vR 8 0), some (vR 10 (r + 1)), some (vR 9 (i + 1)), some (vI c), some (vI s), some (vI q), some (vI (a + 1)), none] ⟨rfl, rfl, rfl, rfl, rfl, rfl, rfl, trivial⟩ ?_
    exact ih (a + 1) (by omega) (by omega)
set_option maxHeartbeats 4000000 in
set_option maxRecDepth 20000 in
theorem lp_X4_fold (l : Launch) (G : mr_G) {Po : Option mr_AV → mr_Wd → Prop} {w : mr_Wd} {m cl ct c : Int} {R F : Nat → Nat → Int} {i r : Nat} (h8 : w 8 = eO 4 [vR 9 0, vR 10 0, vI m, vI cl, vI ct]) (hm : 1 ≤ m ∧ m ≤ 30) (hcl : 0 ≤ cl ∧ cl ≤ 7) (hc0 : 0 ≤ c ∧ c < cl) (hi : i < 6) (hr : r < 7) : ∀ (n : Nat) (s : Int) (T L : Nat → Int), 0 ≤ s → s + n = 40 → mr_Rd T → mr_Rd L → Po none (mr_up (mr_up w 9 (eM 6 7 (mr_Rw R i (mr_fol m c cl n T L).2))) 10 (eM 7 7 (mr_Rw F r (mr_fol m c cl n T L).1))) → mr_J l G RX4 cX4_fold 8 none 0 0 Po 3 [some (vR 8 0), some (vR 10 (r + 1)), some (vR 9 (i + 1)), some (vI c), some (vI s), none, none, none] [] (mr_up (mr_up w 9 (eM 6 7 (mr_Rw R i L))) 10 (eM 7 7 (mr_Rw F r T))) := by
  intro n
  induction n with
  | zero =>
    intro s T L hs hn hT hL hP
    refine mr_iload dX4_fold_3 rfl ?_
    refine mr_bipush dX4_fold_5 rfl ?_
    refine mr_icmp_ge (tgt := 92) dX4_fold_7 (by decide) (by omega) (by omega) (fun hc_7 => ?_) (fun hc_7 => absurd hc_7 (by omega))
    refine mr_vret rfl dX4_fold_92 ?_
    exact hP
  | succ n ih =>
    intro s T L hs hn hT hL hP
    have hTa := hT c.toNat
    have hLa := hL c.toNat
    have e6 : (T c.toNat).tdiv (L c.toNat) = T c.toNat / L c.toNat := Int.tdiv_eq_ediv_of_nonneg hTa.1
    have hd1 := Int.ediv_le_self (L c.toNat) hTa.1
    have hd2 := Int.ediv_nonneg hTa.1 hLa.1
    have e7 : (T c.toNat / L c.toNat).tmod m = (T c.toNat / L c.toNat) % m := Int.tmod_eq_emod_of_nonneg hd2
    have hd3 := Int.emod_nonneg (T c.toNat / L c.toNat) (show m ≠ 0 by omega)
    have hd4 := Int.emod_lt_of_pos (T c.toNat / L c.toNat) (show 0 < m by omega)
    refine mr_iload dX4_fold_3 rfl ?_
    refine mr_bipush dX4_fold_5 rfl ?_
    refine mr_icmp_ge (tgt := 92) dX4_fold_7 (by decide) (by omega) (by omega) (fun hc_7 => absurd hc_7 (by omega)) (fun hc_7 => ?_)
    refine mr_aload_n dX4_fold_10 rfl ?_
    refine mr_iload_n dX4_fold_11 rfl ?_
    refine mr_ialdM dX4_fold_12 (by first | assumption | exact mr_up_same _ _ _ | exact mr_lk (by assumption) (by first | assumption | decide) | exact mr_lk (mr_up_same _ _ _) (by first | assumption | decide) | exact mr_lk (mr_lk (by assumption) (by first | assumption | decide)) (by first | assumption | decide)) hi (by omega) (by omega) (by decide) ?_
    rw [mr_Rw_same]
    refine mr_if_le (tgt := 92) dX4_fold_13 (by decide) (by omega) (fun hc_13 => ?_) (fun hc_13 => ?_)
    · refine mr_vret rfl dX4_fold_92 ?_
      rw [mr_fol, if_neg (by omega)] at hP
      exact hP
    · refine mr_aload_n dX4_fold_16 rfl ?_
      refine mr_get dX4_fold_17 fl_X4_19 (by first | assumption | exact mr_up_same _ _ _ | exact mr_lk (by assumption) (by first | assumption | decide) | exact mr_lk (mr_up_same _ _ _) (by first | assumption | decide) | exact mr_lk (mr_lk (by assumption) (by first | assumption | decide)) (by first | assumption | decide)) rfl ?_
      refine mr_aload_n dX4_fold_20 rfl ?_
      refine mr_iload_n dX4_fold_21 rfl ?_
      refine mr_ialdM dX4_fold_22 (by first | assumption | exact mr_up_same _ _ _ | exact mr_lk (by assumption) (by first | assumption | decide) | exact mr_lk (mr_up_same _ _ _) (by first | assumption | decide) | exact mr_lk (mr_lk (by assumption) (by first | assumption | decide)) (by first | assumption | decide)) hr (by omega) (by omega) (by decide) ?_
      rw [mr_Rw_same]
      refine mr_aload_n dX4_fold_23 rfl ?_
      refine mr_iload_n dX4_fold_24 rfl ?_
      refine mr_ialdM dX4_fold_25 (by first | assumption | exact mr_up_same _ _ _ | exact mr_lk (by assumption) (by first | assumption | decide) | exact mr_lk (mr_up_same _ _ _) (by first | assumption | decide) | exact mr_lk (mr_lk (by assumption) (by first | assumption | decide)) (by first | assumption | decide)) hi (by omega) (by omega) (by decide) ?_
      rw [mr_Rw_same]
      refine mr_idiv dX4_fold_26 (by omega) (by omega) (by omega) ?_
      rw [e6]
      refine mr_aload_n dX4_fold_27 rfl ?_
      refine mr_get dX4_fold_28 fl_X4_19 (by first | assumption | exact mr_up_same _ _ _ | exact mr_lk (by assumption) (by first | assumption | decide) | exact mr_lk (mr_up_same _ _ _) (by first | assumption | decide) | exact mr_lk (mr_lk (by assumption) (by first | assumption | decide)) (by first | assumption | decide)) rfl ?_
      refine mr_irem dX4_fold_31 (by omega) (by omega) (by omega) ?_
      rw [e7]
      refine mr_isub dX4_fold_32 ?_
      refine mr_istore dX4_fold_33 rfl (by decide) ?_
      refine mr_iload_n dX4_fold_35 rfl ?_
      refine mr_istore dX4_fold_36 rfl (by decide) ?_
      refine mr_weak [some (vR 8 0), some (vR 10 (r + 1)), some (vR 9 (i + 1)), some (vI c), some (vI s), some (vI (mr_lss m c T L)), some (vI c), none] ⟨rfl, rfl, rfl, rfl, rfl, rfl, rfl, trivial⟩ ?_
      have h9 := lpi_X4_fold l G (Po := Po) (w := w) (ct := ct) (R := R) (F := F) (s := s) (q := mr_lss m c T L) (T := T) (L := L) h8 hm hcl hc0 hi hr hT hL ⟨by unfold mr_lss; omega, by unfold mr_lss; omega⟩ ?_ (cl - c).toNat c (Int.le_refl c) (by omega)
      · have e8 : mr_ft c c T L = T := by
          funext j
          unfold mr_ft
          rw [if_neg (fun z => by omega)]
        have e9 : mr_fl m c c (mr_lss m c T L) T L = L := by
          funext j
          unfold mr_fl
          rw [if_neg (fun z => by omega)]
        rw [e8, e9] at h9
        exact h9
      · refine mr_iinc dX4_fold_86 rfl (by decide) rfl ?_
        refine mr_goto (tgt := 3) dX4_fold_89 (by decide) ?_
        rw [mr_fol, if_pos (by omega)] at hP
        exact ih (s + 1) _ _ (by omega) (by omega) (mr_ft_bd hT hL) (mr_fl_bd hm hL) hP
def T_X4_fold (a : List mr_AV) (w : mr_Wd) (Po : Option mr_AV → mr_Wd → Prop) : Prop := ∃ (m cl ct c : Int) (R F : Nat → Nat → Int) (i r : Nat), a = [vR 8 0, vR 10 (r + 1), vR 9 (i + 1), vI c] ∧ mr_SH w m cl ct R F ∧ (1 ≤ m ∧ m ≤ 30) ∧ (0 ≤ cl ∧ cl ≤ 7) ∧ (0 ≤ c ∧ c < cl) ∧ i < 6 ∧ r < 7 ∧ mr_Rd (F r) ∧ mr_Rd (R i) ∧ Po none (mr_up (mr_up w 9 (eM 6 7 (mr_Rw R i (mr_fol m c cl 40 (F r) (R i)).2))) 10 (eM 7 7 (mr_Rw F r (mr_fol m c cl 40 (F r) (R i)).1)))
set_option maxHeartbeats 4000000 in
set_option maxRecDepth 20000 in
theorem ok_X4_fold (l : Launch) (G : mr_G) : mr_Ok l G yX4_fold cX4_fold 8 none 0 0 T_X4_fold := by
  refine mr_Ok.of (by decide +kernel) ?_
  rintro a w Po ⟨m, cl, ct, c, R, F, i, r, rfl, ⟨h8, h9, h10⟩, hm, hcl, hc0, hi, hr, hT, hL, hP⟩
  refine ⟨Nat.le_of_ble_eq_true rfl, ?_⟩
  show mr_J l G RX4 cX4_fold 8 none 0 0 Po 0 [some (vR 8 0), some (vR 10 (r + 1)), some (vR 9 (i + 1)), some (vI c), none, none, none, none] [] w
  refine mr_iconst dX4_fold_0 ?_
  refine mr_istore dX4_fold_1 rfl (by decide) ?_
  have h9b := lp_X4_fold l G (R := R) (F := F) (i := i) (r := r) h8 hm hcl hc0 hi hr 40 0 (F r) (R i) (by decide) (by decide) hT hL hP
  rw [mr_Rw_self, mr_Rw_self, mr_up_self h9, mr_up_self h10] at h9b
  exact h9b
