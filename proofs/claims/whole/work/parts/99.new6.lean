/-! CONSTRUCTORS: each with its contract. The addresses, in the order of the makings -/
def nw_L : List (Nat × Nat) := [(0, 0), (1, 0), (2, 0), (3, 0), (4, 0), (5, 0), (6, 0), (6, 1), (6, 2), (6, 3), (6, 4), (6, 5), (6, 6), (6, 7), (6, 8), (7, 0), (8, 0), (9, 0), (9, 1), (9, 2), (9, 3), (9, 4), (9, 5), (9, 6), (10, 0), (10, 1), (10, 2), (10, 3), (10, 4), (10, 5), (10, 6), (10, 7), (11, 0), (12, 0), (13, 0), (14, 0), (15, 0), (15, 1), (15, 2), (16, 0), (17, 0), (18, 0), (19, 0), (20, 0), (21, 0), (22, 0), (23, 0), (24, 0), (25, 0), (26, 0), (27, 0), (28, 0)]
def nw_AD (G : mr_G) (h0 : Nat) : Prop := ∀ (j : Nat) (q : Nat × Nat), nw_L[j]? = some q → mr_ad G q.1 q.2 = h0 + j
theorem nw_AD.one {G : mr_G} {h0 : Nat} (hA : nw_AD G h0) (j : Nat) {kk h : Nat} (hb : nw_L[j]? = some (kk, 0)) (hh : h0 + j = h) : mr_ad G kk 0 = h := (hA j (kk, 0) hb).trans hh
theorem nw_AD.many {G : mr_G} {h0 : Nat} (hA : nw_AD G h0) (j : Nat) {kk N h : Nat} (hb : ∀ i : Nat, i < N + 1 → nw_L[j + i]? = some (kk, i)) (hh : h0 + j = h) : ∀ i : Nat, i ≤ N → mr_ad G kk i = h + i := fun i hi => (hA (j + i) (kk, i) (hb i (by omega))).trans (by omega)
theorem nw_dfX0 (G : mr_G) : ∀ j : Nat, j < 1 → defaultValue (tyX0 j) = vp_V ([vN].map (mr_cv G)) j := fun j hj => by
  obtain rfl : j = 0 := by omega
  rfl
theorem nw_dfX1 (G : mr_G) : ∀ j : Nat, j < 3 → defaultValue (tyX1 j) = vp_V ([vN, vI 0, vI 0].map (mr_cv G)) j := fun j hj => by
  rcases (show j = 0 ∨ j = 1 ∨ j = 2 by omega) with e | e | e <;> subst e <;> rfl
theorem nw_dfX2 (G : mr_G) : ∀ j : Nat, j < 14 → defaultValue (tyX2 j) = vp_V ([vN, vN, vN, vN, vI 0, vI 0, vI 0, vI 0, vI 0, vI 0, vI 0, vI 0, vI 0, vI 0].map (mr_cv G)) j := fun j hj => by
  rcases (show j = 0 ∨ j = 1 ∨ j = 2 ∨ j = 3 ∨ j = 4 ∨ j = 5 ∨ j = 6 ∨ j = 7 ∨ j = 8 ∨ j = 9 ∨ j = 10 ∨ j = 11 ∨ j = 12 ∨ j = 13 by omega) with e | e | e | e | e | e | e | e | e | e | e | e | e | e <;> subst e <;> rfl
theorem nw_dfX3 (G : mr_G) : ∀ j : Nat, j < 1 → defaultValue (tyX3 j) = vp_V ([vN].map (mr_cv G)) j := fun j hj => by
  obtain rfl : j = 0 := by omega
  rfl
theorem nw_dfX4 (G : mr_G) : ∀ j : Nat, j < 5 → defaultValue (tyX4 j) = vp_V ([vN, vN, vI 0, vI 0, vI 0].map (mr_cv G)) j := fun j hj => by
  rcases (show j = 0 ∨ j = 1 ∨ j = 2 ∨ j = 3 ∨ j = 4 by omega) with e | e | e | e | e <;> subst e <;> rfl
theorem nw_dfX5 (G : mr_G) : ∀ j : Nat, j < 2 → defaultValue (tyX5 j) = vp_V ([vN, vI 0].map (mr_cv G)) j := fun j hj => by
  rcases (show j = 0 ∨ j = 1 by omega) with e | e <;> subst e <;> rfl
theorem nw_dfX6 (G : mr_G) : ∀ j : Nat, j < 10 → defaultValue (tyX6 j) = vp_V ([vN, vN, vN, vN, vN, vN, vN, vN, vI 0, vI 0].map (mr_cv G)) j := fun j hj => by
  rcases (show j = 0 ∨ j = 1 ∨ j = 2 ∨ j = 3 ∨ j = 4 ∨ j = 5 ∨ j = 6 ∨ j = 7 ∨ j = 8 ∨ j = 9 by omega) with e | e | e | e | e | e | e | e | e | e <;> subst e <;> rfl
theorem nw_dfX7 (G : mr_G) : ∀ j : Nat, j < 23 → defaultValue (tyX7 j) = vp_V ([vI 0, vN, vI 0, vI 0, vI 0, vI 0, vI 0, vI 0, vI 0, vI 0, vL 0, vN, vN, vN, vN, vN, vI 0, vI 0, vN, vN, vN, vI 0, vI 0].map (mr_cv G)) j := fun j hj => by
  rcases (show j = 0 ∨ j = 1 ∨ j = 2 ∨ j = 3 ∨ j = 4 ∨ j = 5 ∨ j = 6 ∨ j = 7 ∨ j = 8 ∨ j = 9 ∨ j = 10 ∨ j = 11 ∨ j = 12 ∨ j = 13 ∨ j = 14 ∨ j = 15 ∨ j = 16 ∨ j = 17 ∨ j = 18 ∨ j = 19 ∨ j = 20 ∨ j = 21 ∨ j = 22 by omega) with e | e | e | e | e | e | e | e | e | e | e | e | e | e | e | e | e | e | e | e | e | e | e <;> subst e <;> rfl
def nw_w0 (b kk : Nat) (w : mr_Wd) : mr_Wd := (mr_up (mr_up w kk (eA 0 51 (fun _ => 0))) b (eO 0 [vR kk 0]))
set_option maxHeartbeats 4000000 in
set_option maxRecDepth 20000 in
theorem nw_X0 (l : Launch) {G : mr_G} {w : mr_Wd} {b kk h : Nat} (hbk : b ≠ kk) (had : mr_ad G kk 0 = h) (hw : w b = eO 0 [vN]) : nw_Met l G yX0_init cX0_init 1 1 20 1 51 [vR b 0] w h (nw_w0 b kk w) (h + 1) := by
  refine nw_of (by decide +kernel) (Nat.le_of_ble_eq_true rfl) rfl ?_
  intro p e s m args below meth c hh hin hne
  refine mrE_aload_n hh dX0_init_0 rfl ?_
  refine mrE_objInit hh dX0_init_1 nw_oi_X0 nw_oii nw_oic ⟨Nat.le_of_ble_eq_true rfl, Nat.le_of_ble_eq_true rfl⟩ (by decide) ?_
  refine mrE_aload_n hh dX0_init_4 rfl ?_
  refine mrE_bipush hh dX0_init_5 (by decide) ?_
  refine mrE_newa_int (kk := kk) (N := 51) hh dX0_init_7 nw_ac_int rfl (Nat.le_of_ble_eq_true rfl) had ⟨Nat.le_of_ble_eq_true rfl, Nat.le_of_ble_eq_true rfl⟩ ?_
  refine mrE_putF (a := b) (fs := [vN]) hh hin dX0_init_9 fl_X0_11 ⟨TX0, _, rfl⟩ nw_ff_X0_0 rfl rfl ((mr_up_ne _ _ hbk).trans hw) (by decide) ?_
  exact mrE_ret hh rfl dX0_init_12 ⟨Nat.le_of_ble_eq_true rfl, Nat.le_of_ble_eq_true rfl⟩ rfl ⟨rfl, rfl⟩
def nw_w5 (w : mr_Wd) : mr_Wd := (mr_up (mr_up w 2 (eA 2 540 (fun _ => 0))) 1 (eO 5 [vR 2 0, vI 0]))
set_option maxHeartbeats 4000000 in
set_option maxRecDepth 20000 in
theorem nw_X5 (l : Launch) {G : mr_G} {h0 : Nat} (hA : nw_AD G h0) {w : mr_Wd} (hw : w 1 = eO 5 [vN, vI 0]) : nw_Met l G yX5_init cX5_init 1 1 20 1 540 [vR 1 0] w (h0 + 2) (nw_w5 w) (h0 + 3) := by
  refine nw_of (by decide +kernel) (Nat.le_of_ble_eq_true rfl) rfl ?_
  intro p e s m args below meth c hh hin hne
  refine mrE_aload_n hh dX5_init_0 rfl ?_
  refine mrE_objInit hh dX5_init_1 nw_oi_X5 nw_oii nw_oic ⟨Nat.le_of_ble_eq_true rfl, Nat.le_of_ble_eq_true rfl⟩ (by decide) ?_
  refine mrE_aload_n hh dX5_init_4 rfl ?_
  refine mrE_sipush hh dX5_init_5 (by decide) ?_
  refine mrE_newa_byte (kk := 2) (N := 540) hh dX5_init_8 nw_ac_byte rfl (Nat.le_of_ble_eq_true rfl) (hA.one 2 rfl (by omega)) ⟨Nat.le_of_ble_eq_true rfl, Nat.le_of_ble_eq_true rfl⟩ ?_
  refine mrE_putF (a := 1) (fs := [vN, vI 0]) hh hin dX5_init_10 fl_X5_11 ⟨TX5, _, rfl⟩ nw_ff_X5_0 rfl rfl ((by rfl : (mr_up w 2 (eA 2 540 (fun _ => 0))) 1 = w 1).trans hw) (by decide) ?_
  exact mrE_ret hh rfl dX5_init_13 ⟨Nat.le_of_ble_eq_true rfl, Nat.le_of_ble_eq_true rfl⟩ (by omega) ⟨rfl, rfl⟩
def nw_w1 (w : mr_Wd) : mr_Wd := (mr_up (mr_up w 6 (eM 8 51 (fun _ _ => 0))) 5 (eO 1 [vR 6 0, vI 0, vI 0]))
set_option maxHeartbeats 4000000 in
set_option maxRecDepth 20000 in
theorem nw_X1 (l : Launch) {G : mr_G} {h0 : Nat} (hA : nw_AD G h0) {w : mr_Wd} (hw : w 5 = eO 1 [vN, vI 0, vI 0]) : nw_Met l G yX1_init cX1_init 1 1 20 9 416 [vR 5 0] w (h0 + 6) (nw_w1 w) (h0 + 15) := by
  refine nw_of (by decide +kernel) (Nat.le_of_ble_eq_true rfl) rfl ?_
  intro p e s m args below meth c hh hin hne
  refine mrE_aload_n hh dX1_init_0 rfl ?_
  refine mrE_objInit hh dX1_init_1 nw_oi_X1 nw_oii nw_oic ⟨Nat.le_of_ble_eq_true rfl, Nat.le_of_ble_eq_true rfl⟩ (by decide) ?_
  refine mrE_aload_n hh dX1_init_4 rfl ?_
  refine mrE_bipush hh dX1_init_5 (by decide) ?_
  refine mrE_bipush hh dX1_init_7 (by decide) ?_
  refine mrE_multi (kk := 6) (N := 8) (M := 51) hh dX1_init_9 nw_kl_X1_11 nw_ao hne.ov nw_ac_int rfl rfl (Nat.le_of_ble_eq_true rfl) (Nat.le_of_ble_eq_true rfl) (hA.many 6 (by decide +kernel) (by omega)) ⟨Nat.le_of_ble_eq_true rfl, Nat.le_of_ble_eq_true rfl⟩ ?_
  refine mrE_putF (a := 5) (fs := [vN, vI 0, vI 0]) hh hin dX1_init_13 fl_X1_13 ⟨TX1, _, rfl⟩ nw_ff_X1_0 rfl rfl ((by rfl : (mr_up w 6 (eM 8 51 (fun _ _ => 0))) 5 = w 5).trans hw) (by decide) ?_
  exact mrE_ret hh rfl dX1_init_16 ⟨Nat.le_of_ble_eq_true rfl, Nat.le_of_ble_eq_true rfl⟩ (by omega) ⟨rfl, rfl⟩
def nw_w4 (w : mr_Wd) : mr_Wd := (mr_up (mr_up (mr_up (mr_up (mr_up w 9 (eM 6 7 (fun _ _ => 0))) 8 (eO 4 [vR 9 0, vN, vI 0, vI 0, vI 0])) 10 (eM 7 7 (fun _ _ => 0))) 8 (eO 4 [vR 9 0, vR 10 0, vI 0, vI 0, vI 0])) 8 (eO 4 [vR 9 0, vR 10 0, vI 1, vI 0, vI 0]))
set_option maxHeartbeats 4000000 in
set_option maxRecDepth 20000 in
theorem nw_X4 (l : Launch) {G : mr_G} {h0 : Nat} (hA : nw_AD G h0) {w : mr_Wd} (hw : w 8 = eO 4 [vN, vN, vI 0, vI 0, vI 0]) : nw_Met l G yX4_init cX4_init 1 1 20 15 104 [vR 8 0] w (h0 + 17) (nw_w4 w) (h0 + 32) := by
  refine nw_of (by decide +kernel) (Nat.le_of_ble_eq_true rfl) rfl ?_
  intro p e s m args below meth c hh hin hne
  refine mrE_aload_n hh dX4_init_0 rfl ?_
  refine mrE_objInit hh dX4_init_1 nw_oi_X4 nw_oii nw_oic ⟨Nat.le_of_ble_eq_true rfl, Nat.le_of_ble_eq_true rfl⟩ (by decide) ?_
  refine mrE_aload_n hh dX4_init_4 rfl ?_
  refine mrE_bipush hh dX4_init_5 (by decide) ?_
  refine mrE_bipush hh dX4_init_7 (by decide) ?_
  refine mrE_multi (kk := 9) (N := 6) (M := 7) hh dX4_init_9 nw_kl_X4_11 nw_ao hne.ov nw_ac_int rfl rfl (Nat.le_of_ble_eq_true rfl) (Nat.le_of_ble_eq_true rfl) (hA.many 17 (by decide +kernel) (by omega)) ⟨Nat.le_of_ble_eq_true rfl, Nat.le_of_ble_eq_true rfl⟩ ?_
  refine mrE_putF (a := 8) (fs := [vN, vN, vI 0, vI 0, vI 0]) hh hin dX4_init_13 fl_X4_13 ⟨TX4, _, rfl⟩ nw_ff_X4_0 rfl rfl ((by rfl : (mr_up w 9 (eM 6 7 (fun _ _ => 0))) 8 = w 8).trans hw) (by decide) ?_
  refine mrE_aload_n hh dX4_init_16 rfl ?_
  refine mrE_bipush hh dX4_init_17 (by decide) ?_
  refine mrE_bipush hh dX4_init_19 (by decide) ?_
  refine mrE_multi (kk := 10) (N := 7) (M := 7) hh dX4_init_21 nw_kl_X4_11 nw_ao hne.ov nw_ac_int rfl rfl (Nat.le_of_ble_eq_true rfl) (Nat.le_of_ble_eq_true rfl) (hA.many 24 (by decide +kernel) (by omega)) ⟨Nat.le_of_ble_eq_true rfl, Nat.le_of_ble_eq_true rfl⟩ ?_
  refine mrE_putF (a := 8) (fs := [vR 9 0, vN, vI 0, vI 0, vI 0]) hh hin dX4_init_25 fl_X4_16 ⟨TX4, _, rfl⟩ nw_ff_X4_1 rfl rfl rfl (by decide) ?_
  refine mrE_aload_n hh dX4_init_28 rfl ?_
  refine mrE_iconst hh dX4_init_29 ?_
  refine mrE_put (a := 8) (fs := [vR 9 0, vR 10 0, vI 0, vI 0, vI 0]) hh dX4_init_30 fl_X4_19 pf_X4_2 rfl rfl rfl (by decide) ?_
  exact mrE_ret hh rfl dX4_init_33 ⟨Nat.le_of_ble_eq_true rfl, Nat.le_of_ble_eq_true rfl⟩ (by omega) ⟨rfl, rfl⟩
def nw_w3 (w : mr_Wd) : mr_Wd := (mr_up (nw_w4 (mr_up w 8 (eO 4 [vN, vN, vI 0, vI 0, vI 0]))) 7 (eO 3 [vR 8 0]))
set_option maxHeartbeats 4000000 in
set_option maxRecDepth 20000 in
theorem nw_X3 (l : Launch) {G : mr_G} {h0 : Nat} (hA : nw_AD G h0) {w : mr_Wd} (hw : w 7 = eO 3 [vN]) : nw_Met l G yX3_init cX3_init 1 2 40 16 109 [vR 7 0] w (h0 + 16) (nw_w3 w) (h0 + 32) := by
  refine nw_of (by decide +kernel) (Nat.le_of_ble_eq_true rfl) rfl ?_
  intro p e s m args below meth c hh hin hne
  refine mrE_aload_n hh dX3_init_0 rfl ?_
  refine mrE_objInit hh dX3_init_1 nw_oi_X3 nw_oii nw_oic ⟨Nat.le_of_ble_eq_true rfl, Nat.le_of_ble_eq_true rfl⟩ (by decide) ?_
  refine mrE_aload_n hh dX3_init_4 rfl ?_
  refine mrE_new (ci := 4) (N := 5) (kk := 8) (T := TX4) (ty := tyX4) (fs := [vN, vN, vI 0, vI 0, vI 0]) hh dX3_init_5 rfl in_X4 tyX4_ok nw_kl_X3_9 nw_in_X4 iz_X4 (nw_dfX4 G) (hA.one 16 rfl (by omega)) ⟨Nat.le_of_ble_eq_true rfl, Nat.le_of_ble_eq_true rfl⟩ ?_
  refine mrE_dup hh dX3_init_8 rfl ?_
  refine mrE_callCN (st := [vR 8 0, vR 7 0]) [] hh hne dX3_init_9 (nw_X4 l hA rfl) hne.2.2.2.2.2.1 cl_X4_init rfl nw_im_X4 ⟨Nat.le_of_ble_eq_true rfl, Nat.le_of_ble_eq_true rfl⟩ rfl rfl (by decide) ⟨Nat.le_of_ble_eq_true rfl, Nat.le_of_ble_eq_true rfl⟩ ?_
  refine mrE_putF (a := 7) (fs := [vN]) hh hin dX3_init_12 fl_X3_12 ⟨TX3, _, rfl⟩ nw_ff_X3_0 rfl rfl ((by rfl : (nw_w4 (mr_up w 8 (eO 4 [vN, vN, vI 0, vI 0, vI 0]))) 7 = w 7).trans hw) (by decide) ?_
  exact mrE_ret hh rfl dX3_init_15 ⟨Nat.le_of_ble_eq_true rfl, Nat.le_of_ble_eq_true rfl⟩ (by omega) ⟨rfl, rfl⟩
def nw_w2 (w : mr_Wd) : mr_Wd := (mr_up (mr_up (mr_up (mr_up (mr_up (nw_w0 12 13 (mr_up w 12 (eO 0 [vN]))) 11 (eO 2 [vN, vN, vR 12 0, vN, vI 0, vI 0, vI 0, vI 0, vI 0, vI 0, vI 0, vI 0, vI 0, vI 0])) 14 (eA 0 3 (fun _ => 0))) 11 (eO 2 [vN, vN, vR 12 0, vR 14 0, vI 0, vI 0, vI 0, vI 0, vI 0, vI 0, vI 0, vI 0, vI 0, vI 0])) 11 (eO 2 [vR 1 0, vN, vR 12 0, vR 14 0, vI 0, vI 0, vI 0, vI 0, vI 0, vI 0, vI 0, vI 0, vI 0, vI 0])) 11 (eO 2 [vR 1 0, vR 7 0, vR 12 0, vR 14 0, vI 0, vI 0, vI 0, vI 0, vI 0, vI 0, vI 0, vI 0, vI 0, vI 0]))
set_option maxHeartbeats 4000000 in
set_option maxRecDepth 20000 in
theorem nw_X2 (l : Launch) {G : mr_G} {h0 : Nat} (hA : nw_AD G h0) {w : mr_Wd} (hw : w 11 = eO 2 [vN, vN, vN, vN, vI 0, vI 0, vI 0, vI 0, vI 0, vI 0, vI 0, vI 0, vI 0, vI 0]) : nw_Met l G yX2_init cX2_init 3 2 40 3 55 [vR 11 0, vR 1 0, vR 7 0] w (h0 + 33) (nw_w2 w) (h0 + 36) := by
  refine nw_of (by decide +kernel) (Nat.le_of_ble_eq_true rfl) rfl ?_
  intro p e s m args below meth c hh hin hne
  refine mrE_aload_n hh dX2_init_0 rfl ?_
  refine mrE_objInit hh dX2_init_1 nw_oi_X2 nw_oii nw_oic ⟨Nat.le_of_ble_eq_true rfl, Nat.le_of_ble_eq_true rfl⟩ (by decide) ?_
  refine mrE_aload_n hh dX2_init_4 rfl ?_
  refine mrE_new (ci := 0) (N := 1) (kk := 12) (T := TX0) (ty := tyX0) (fs := [vN]) hh dX2_init_5 rfl in_X0 tyX0_ok nw_kl_X2_9 nw_in_X0 iz_X0 (nw_dfX0 G) (hA.one 33 rfl (by omega)) ⟨Nat.le_of_ble_eq_true rfl, Nat.le_of_ble_eq_true rfl⟩ ?_
  refine mrE_dup hh dX2_init_8 rfl ?_
  refine mrE_callCN (st := [vR 12 0, vR 11 0]) [] hh hne dX2_init_9 (nw_X0 l (kk := 13) (by decide) (hA.one 34 rfl (by omega)) rfl) hne.2.2.2.2.2.2 cl_X0_init rfl nw_im_X0 ⟨Nat.le_of_ble_eq_true rfl, Nat.le_of_ble_eq_true rfl⟩ rfl rfl (by decide) ⟨Nat.le_of_ble_eq_true rfl, Nat.le_of_ble_eq_true rfl⟩ ?_
  refine mrE_putF (a := 11) (fs := [vN, vN, vN, vN, vI 0, vI 0, vI 0, vI 0, vI 0, vI 0, vI 0, vI 0, vI 0, vI 0]) hh hin dX2_init_12 fl_X2_12 ⟨TX2, _, rfl⟩ nw_ff_X2_2 rfl rfl ((by rfl : (nw_w0 12 13 (mr_up w 12 (eO 0 [vN]))) 11 = w 11).trans hw) (by decide) ?_
  refine mrE_aload_n hh dX2_init_15 rfl ?_
  refine mrE_iconst hh dX2_init_16 ?_
  refine mrE_newa_int (kk := 14) (N := 3) hh dX2_init_17 nw_ac_int rfl (Nat.le_of_ble_eq_true rfl) (hA.one 35 rfl (by omega)) ⟨Nat.le_of_ble_eq_true rfl, Nat.le_of_ble_eq_true rfl⟩ ?_
  refine mrE_putF (a := 11) (fs := [vN, vN, vR 12 0, vN, vI 0, vI 0, vI 0, vI 0, vI 0, vI 0, vI 0, vI 0, vI 0, vI 0]) hh hin dX2_init_19 fl_X2_18 ⟨TX2, _, rfl⟩ nw_ff_X2_3 rfl rfl rfl (by decide) ?_
  refine mrE_aload_n hh dX2_init_22 rfl ?_
  refine mrE_aload_n hh dX2_init_23 rfl ?_
  refine mrE_putF (a := 11) (fs := [vN, vN, vR 12 0, vR 14 0, vI 0, vI 0, vI 0, vI 0, vI 0, vI 0, vI 0, vI 0, vI 0, vI 0]) hh hin dX2_init_24 fl_X2_22 ⟨TX2, _, rfl⟩ nw_ff_X2_0 rfl rfl rfl (by decide) ?_
  refine mrE_aload_n hh dX2_init_27 rfl ?_
  refine mrE_aload_n hh dX2_init_28 rfl ?_
  refine mrE_putF (a := 11) (fs := [vR 1 0, vN, vR 12 0, vR 14 0, vI 0, vI 0, vI 0, vI 0, vI 0, vI 0, vI 0, vI 0, vI 0, vI 0]) hh hin dX2_init_29 fl_X2_26 ⟨TX2, _, rfl⟩ nw_ff_X2_1 rfl rfl rfl (by decide) ?_
  exact mrE_ret hh rfl dX2_init_32 ⟨Nat.le_of_ble_eq_true rfl, Nat.le_of_ble_eq_true rfl⟩ (by omega) ⟨rfl, rfl⟩
def nw_w6 (w : mr_Wd) : mr_Wd := (mr_up (mr_up (mr_up (mr_up (mr_up (mr_up (mr_up (nw_w2 (mr_up (mr_up (nw_w3 (mr_up (mr_up (nw_w1 (mr_up (mr_up (nw_w0 3 4 (mr_up (mr_up (nw_w5 (mr_up w 1 (eO 5 [vN, vI 0]))) 0 (eO 6 [vR 1 0, vN, vN, vN, vN, vN, vN, vN, vI 0, vI 0])) 3 (eO 0 [vN]))) 0 (eO 6 [vR 1 0, vR 3 0, vN, vN, vN, vN, vN, vN, vI 0, vI 0])) 5 (eO 1 [vN, vI 0, vI 0]))) 0 (eO 6 [vR 1 0, vR 3 0, vR 5 0, vN, vN, vN, vN, vN, vI 0, vI 0])) 7 (eO 3 [vN]))) 0 (eO 6 [vR 1 0, vR 3 0, vR 5 0, vR 7 0, vN, vN, vN, vN, vI 0, vI 0])) 11 (eO 2 [vN, vN, vN, vN, vI 0, vI 0, vI 0, vI 0, vI 0, vI 0, vI 0, vI 0, vI 0, vI 0]))) 0 (eO 6 [vR 1 0, vR 3 0, vR 5 0, vR 7 0, vR 11 0, vN, vN, vN, vI 0, vI 0])) 15 (eM 2 51 (fun _ _ => 0))) 0 (eO 6 [vR 1 0, vR 3 0, vR 5 0, vR 7 0, vR 11 0, vR 15 0, vN, vN, vI 0, vI 0])) 16 (eA 1 2 (fun _ => 0))) 0 (eO 6 [vR 1 0, vR 3 0, vR 5 0, vR 7 0, vR 11 0, vR 15 0, vR 16 0, vN, vI 0, vI 0])) 17 (eA 0 3 (fun _ => 0))) 0 (eO 6 [vR 1 0, vR 3 0, vR 5 0, vR 7 0, vR 11 0, vR 15 0, vR 16 0, vR 17 0, vI 0, vI 0]))
set_option maxHeartbeats 4000000 in
set_option maxRecDepth 20000 in
theorem nw_X6 (l : Launch) {G : mr_G} {h0 : Nat} (hA : nw_AD G h0) {w : mr_Wd} (hw : w 0 = eO 6 [vN, vN, vN, vN, vN, vN, vN, vN, vI 0, vI 0]) : nw_Met l G yX6_init cX6_init 1 3 62 40 1301 [vR 0 0] w (h0 + 1) (nw_w6 w) (h0 + 41) := by
  refine nw_of (by decide +kernel) (Nat.le_of_ble_eq_true rfl) rfl ?_
  intro p e s m args below meth c hh hin hne
  refine mrE_aload_n hh dX6_init_0 rfl ?_
  refine mrE_objInit hh dX6_init_1 nw_oi_X6 nw_oii nw_oic ⟨Nat.le_of_ble_eq_true rfl, Nat.le_of_ble_eq_true rfl⟩ (by decide) ?_
  refine mrE_aload_n hh dX6_init_4 rfl ?_
  refine mrE_new (ci := 5) (N := 2) (kk := 1) (T := TX5) (ty := tyX5) (fs := [vN, vI 0]) hh dX6_init_5 rfl in_X5 tyX5_ok nw_kl_X6_7 nw_in_X5 iz_X5 (nw_dfX5 G) (hA.one 1 rfl (by omega)) ⟨Nat.le_of_ble_eq_true rfl, Nat.le_of_ble_eq_true rfl⟩ ?_
  refine mrE_dup hh dX6_init_8 rfl ?_
  refine mrE_callCN (st := [vR 1 0, vR 0 0]) [] hh hne dX6_init_9 (nw_X5 l hA rfl) hne.2.1 cl_X5_init rfl nw_im_X5 ⟨Nat.le_of_ble_eq_true rfl, Nat.le_of_ble_eq_true rfl⟩ rfl rfl (by decide) ⟨Nat.le_of_ble_eq_true rfl, Nat.le_of_ble_eq_true rfl⟩ ?_
  refine mrE_putF (a := 0) (fs := [vN, vN, vN, vN, vN, vN, vN, vN, vI 0, vI 0]) hh hin dX6_init_12 fl_X6_10 ⟨TX6, _, rfl⟩ nw_ff_X6_0 rfl rfl ((by rfl : (nw_w5 (mr_up w 1 (eO 5 [vN, vI 0]))) 0 = w 0).trans hw) (by decide) ?_
  refine mrE_aload_n hh dX6_init_15 rfl ?_
  refine mrE_new (ci := 0) (N := 1) (kk := 3) (T := TX0) (ty := tyX0) (fs := [vN]) hh dX6_init_16 rfl in_X0 tyX0_ok nw_kl_X6_16 nw_in_X0 iz_X0 (nw_dfX0 G) (hA.one 3 rfl (by omega)) ⟨Nat.le_of_ble_eq_true rfl, Nat.le_of_ble_eq_true rfl⟩ ?_
  refine mrE_dup hh dX6_init_19 rfl ?_
  refine mrE_callCN (st := [vR 3 0, vR 0 0]) [] hh hne dX6_init_20 (nw_X0 l (kk := 4) (by decide) (hA.one 4 rfl (by omega)) rfl) hne.2.2.1 cl_X0_init rfl nw_im_X0 ⟨Nat.le_of_ble_eq_true rfl, Nat.le_of_ble_eq_true rfl⟩ rfl rfl (by decide) ⟨Nat.le_of_ble_eq_true rfl, Nat.le_of_ble_eq_true rfl⟩ ?_
  refine mrE_putF (a := 0) (fs := [vR 1 0, vN, vN, vN, vN, vN, vN, vN, vI 0, vI 0]) hh hin dX6_init_23 fl_X6_19 ⟨TX6, _, rfl⟩ nw_ff_X6_1 rfl rfl rfl (by decide) ?_
  refine mrE_aload_n hh dX6_init_26 rfl ?_
  refine mrE_new (ci := 1) (N := 3) (kk := 5) (T := TX1) (ty := tyX1) (fs := [vN, vI 0, vI 0]) hh dX6_init_27 rfl in_X1 tyX1_ok nw_kl_X6_23 nw_in_X1 iz_X1 (nw_dfX1 G) (hA.one 5 rfl (by omega)) ⟨Nat.le_of_ble_eq_true rfl, Nat.le_of_ble_eq_true rfl⟩ ?_
  refine mrE_dup hh dX6_init_30 rfl ?_
  refine mrE_callCN (st := [vR 5 0, vR 0 0]) [] hh hne dX6_init_31 (nw_X1 l hA rfl) hne.2.2.2.1 cl_X1_init rfl nw_im_X1 ⟨Nat.le_of_ble_eq_true rfl, Nat.le_of_ble_eq_true rfl⟩ rfl rfl (by decide) ⟨Nat.le_of_ble_eq_true rfl, Nat.le_of_ble_eq_true rfl⟩ ?_
  refine mrE_putF (a := 0) (fs := [vR 1 0, vR 3 0, vN, vN, vN, vN, vN, vN, vI 0, vI 0]) hh hin dX6_init_34 fl_X6_26 ⟨TX6, _, rfl⟩ nw_ff_X6_2 rfl rfl rfl (by decide) ?_
  refine mrE_aload_n hh dX6_init_37 rfl ?_
  refine mrE_new (ci := 3) (N := 1) (kk := 7) (T := TX3) (ty := tyX3) (fs := [vN]) hh dX6_init_38 rfl in_X3 tyX3_ok nw_kl_X6_30 nw_in_X3 iz_X3 (nw_dfX3 G) (hA.one 15 rfl (by omega)) ⟨Nat.le_of_ble_eq_true rfl, Nat.le_of_ble_eq_true rfl⟩ ?_
  refine mrE_dup hh dX6_init_41 rfl ?_
  refine mrE_callCN (st := [vR 7 0, vR 0 0]) [] hh hne dX6_init_42 (nw_X3 l hA rfl) hne.2.2.2.2.1 cl_X3_init rfl nw_im_X3 ⟨Nat.le_of_ble_eq_true rfl, Nat.le_of_ble_eq_true rfl⟩ rfl rfl (by decide) ⟨Nat.le_of_ble_eq_true rfl, Nat.le_of_ble_eq_true rfl⟩ ?_
  refine mrE_putF (a := 0) (fs := [vR 1 0, vR 3 0, vR 5 0, vN, vN, vN, vN, vN, vI 0, vI 0]) hh hin dX6_init_45 fl_X6_33 ⟨TX6, _, rfl⟩ nw_ff_X6_3 rfl rfl rfl (by decide) ?_
  refine mrE_aload_n hh dX6_init_48 rfl ?_
  refine mrE_new (ci := 2) (N := 14) (kk := 11) (T := TX2) (ty := tyX2) (fs := [vN, vN, vN, vN, vI 0, vI 0, vI 0, vI 0, vI 0, vI 0, vI 0, vI 0, vI 0, vI 0]) hh dX6_init_49 rfl in_X2 tyX2_ok nw_kl_X6_37 nw_in_X2 iz_X2 (nw_dfX2 G) (hA.one 32 rfl (by omega)) ⟨Nat.le_of_ble_eq_true rfl, Nat.le_of_ble_eq_true rfl⟩ ?_
  refine mrE_dup hh dX6_init_52 rfl ?_
  refine mrE_aload_n hh dX6_init_53 rfl ?_
  refine mrE_get (a := 0) (fs := [vR 1 0, vR 3 0, vR 5 0, vR 7 0, vN, vN, vN, vN, vI 0, vI 0]) hh dX6_init_54 fl_X6_10 rfl rfl ?_
  refine mrE_aload_n hh dX6_init_57 rfl ?_
  refine mrE_get (a := 0) (fs := [vR 1 0, vR 3 0, vR 5 0, vR 7 0, vN, vN, vN, vN, vI 0, vI 0]) hh dX6_init_58 fl_X6_33 rfl rfl ?_
  refine mrE_callC (st := [vR 11 0, vR 0 0]) [vR 1 0, vR 7 0] hh hne dX6_init_61 (nw_X2 l hA rfl) ml_X6_39 cl_X2_init rfl nw_im_X2 ⟨Nat.le_of_ble_eq_true rfl, Nat.le_of_ble_eq_true rfl⟩ rfl rfl (by decide) ⟨Nat.le_of_ble_eq_true rfl, Nat.le_of_ble_eq_true rfl⟩ ?_
  refine mrE_putF (a := 0) (fs := [vR 1 0, vR 3 0, vR 5 0, vR 7 0, vN, vN, vN, vN, vI 0, vI 0]) hh hin dX6_init_64 fl_X6_42 ⟨TX6, _, rfl⟩ nw_ff_X6_4 rfl rfl rfl (by decide) ?_
  refine mrE_aload_n hh dX6_init_67 rfl ?_
  refine mrE_iconst hh dX6_init_68 ?_
  refine mrE_bipush hh dX6_init_69 (by decide) ?_
  refine mrE_multi (kk := 15) (N := 2) (M := 51) hh dX6_init_71 nw_kl_X6_46 nw_ao hne.ov nw_ac_int rfl rfl (Nat.le_of_ble_eq_true rfl) (Nat.le_of_ble_eq_true rfl) (hA.many 36 (by decide +kernel) (by omega)) ⟨Nat.le_of_ble_eq_true rfl, Nat.le_of_ble_eq_true rfl⟩ ?_
  refine mrE_putF (a := 0) (fs := [vR 1 0, vR 3 0, vR 5 0, vR 7 0, vR 11 0, vN, vN, vN, vI 0, vI 0]) hh hin dX6_init_75 fl_X6_48 ⟨TX6, _, rfl⟩ nw_ff_X6_5 rfl rfl rfl (by decide) ?_
  refine mrE_aload_n hh dX6_init_78 rfl ?_
  refine mrE_iconst hh dX6_init_79 ?_
  refine mrE_newa_boolean (kk := 16) (N := 2) hh dX6_init_80 nw_ac_boolean rfl (Nat.le_of_ble_eq_true rfl) (hA.one 39 rfl (by omega)) ⟨Nat.le_of_ble_eq_true rfl, Nat.le_of_ble_eq_true rfl⟩ ?_
  refine mrE_putF (a := 0) (fs := [vR 1 0, vR 3 0, vR 5 0, vR 7 0, vR 11 0, vR 15 0, vN, vN, vI 0, vI 0]) hh hin dX6_init_82 fl_X6_51 ⟨TX6, _, rfl⟩ nw_ff_X6_6 rfl rfl rfl (by decide) ?_
  refine mrE_aload_n hh dX6_init_85 rfl ?_
  refine mrE_iconst hh dX6_init_86 ?_
  refine mrE_newa_int (kk := 17) (N := 3) hh dX6_init_87 nw_ac_int rfl (Nat.le_of_ble_eq_true rfl) (hA.one 40 rfl (by omega)) ⟨Nat.le_of_ble_eq_true rfl, Nat.le_of_ble_eq_true rfl⟩ ?_
  refine mrE_putF (a := 0) (fs := [vR 1 0, vR 3 0, vR 5 0, vR 7 0, vR 11 0, vR 15 0, vR 16 0, vN, vI 0, vI 0]) hh hin dX6_init_89 fl_X6_55 ⟨TX6, _, rfl⟩ nw_ff_X6_7 rfl rfl rfl (by decide) ?_
  exact mrE_ret hh rfl dX6_init_92 ⟨Nat.le_of_ble_eq_true rfl, Nat.le_of_ble_eq_true rfl⟩ (by omega) ⟨rfl, rfl⟩
def nw_w7 (w : mr_Wd) : mr_Wd := (mr_up (mr_up (mr_up (mr_up (mr_up (mr_up (mr_up (mr_up (mr_up (mr_up (mr_up (mr_up (mr_up (mr_up (mr_up (mr_up (mr_up (mr_up w 19 (eA 0 540 (fun _ => 0))) 18 (eO 7 [vI 0, vR 19 0, vI 0, vI 0, vI 0, vI 0, vI 0, vI 0, vI 0, vI 0, vL 0, vN, vN, vN, vN, vN, vI 0, vI 0, vN, vN, vN, vI 0, vI 0])) 20 (eA 0 21 (fun _ => 0))) 18 (eO 7 [vI 0, vR 19 0, vI 0, vI 0, vI 0, vI 0, vI 0, vI 0, vI 0, vI 0, vL 0, vR 20 0, vN, vN, vN, vN, vI 0, vI 0, vN, vN, vN, vI 0, vI 0])) 21 (eA 0 21 (fun _ => 0))) 18 (eO 7 [vI 0, vR 19 0, vI 0, vI 0, vI 0, vI 0, vI 0, vI 0, vI 0, vI 0, vL 0, vR 20 0, vR 21 0, vN, vN, vN, vI 0, vI 0, vN, vN, vN, vI 0, vI 0])) 22 (eA 0 42 (fun _ => 0))) 18 (eO 7 [vI 0, vR 19 0, vI 0, vI 0, vI 0, vI 0, vI 0, vI 0, vI 0, vI 0, vL 0, vR 20 0, vR 21 0, vR 22 0, vN, vN, vI 0, vI 0, vN, vN, vN, vI 0, vI 0])) 23 (eA 0 168 (fun _ => 0))) 18 (eO 7 [vI 0, vR 19 0, vI 0, vI 0, vI 0, vI 0, vI 0, vI 0, vI 0, vI 0, vL 0, vR 20 0, vR 21 0, vR 22 0, vR 23 0, vN, vI 0, vI 0, vN, vN, vN, vI 0, vI 0])) 24 (eA 1 2 (fun _ => 0))) 18 (eO 7 [vI 0, vR 19 0, vI 0, vI 0, vI 0, vI 0, vI 0, vI 0, vI 0, vI 0, vL 0, vR 20 0, vR 21 0, vR 22 0, vR 23 0, vR 24 0, vI 0, vI 0, vN, vN, vN, vI 0, vI 0])) 25 (eA 1 27000 (fun _ => 0))) 18 (eO 7 [vI 0, vR 19 0, vI 0, vI 0, vI 0, vI 0, vI 0, vI 0, vI 0, vI 0, vL 0, vR 20 0, vR 21 0, vR 22 0, vR 23 0, vR 24 0, vI 0, vI 0, vR 25 0, vN, vN, vI 0, vI 0])) 26 (eA 1 27000 (fun _ => 0))) 18 (eO 7 [vI 0, vR 19 0, vI 0, vI 0, vI 0, vI 0, vI 0, vI 0, vI 0, vI 0, vL 0, vR 20 0, vR 21 0, vR 22 0, vR 23 0, vR 24 0, vI 0, vI 0, vR 25 0, vR 26 0, vN, vI 0, vI 0])) 27 (eA 0 27000 (fun _ => 0))) 18 (eO 7 [vI 0, vR 19 0, vI 0, vI 0, vI 0, vI 0, vI 0, vI 0, vI 0, vI 0, vL 0, vR 20 0, vR 21 0, vR 22 0, vR 23 0, vR 24 0, vI 0, vI 0, vR 25 0, vR 26 0, vR 27 0, vI 0, vI 0]))
set_option maxHeartbeats 4000000 in
set_option maxRecDepth 20000 in
theorem nw_X7 (l : Launch) {G : mr_G} {h0 : Nat} (hA : nw_AD G h0) {w : mr_Wd} (hw : w 18 = eO 7 [vI 0, vN, vI 0, vI 0, vI 0, vI 0, vI 0, vI 0, vI 0, vI 0, vL 0, vN, vN, vN, vN, vN, vI 0, vI 0, vN, vN, vN, vI 0, vI 0]) : nw_Met l G yX7_init cX7_init 1 1 20 9 81794 [vR 18 0] w (h0 + 42) (nw_w7 w) (h0 + 51) := by
  refine nw_of (by decide +kernel) (Nat.le_of_ble_eq_true rfl) rfl ?_
  intro p e s m args below meth c hh hin hne
  refine mrE_aload_n hh dX7_init_0 rfl ?_
  refine mrE_objInit hh dX7_init_1 nw_oi_X7 nw_oii nw_oic ⟨Nat.le_of_ble_eq_true rfl, Nat.le_of_ble_eq_true rfl⟩ (by decide) ?_
  refine mrE_aload_n hh dX7_init_4 rfl ?_
  refine mrE_sipush hh dX7_init_5 (by decide) ?_
  refine mrE_newa_int (kk := 19) (N := 540) hh dX7_init_8 nw_ac_int rfl (Nat.le_of_ble_eq_true rfl) (hA.one 42 rfl (by omega)) ⟨Nat.le_of_ble_eq_true rfl, Nat.le_of_ble_eq_true rfl⟩ ?_
  refine mrE_putF (a := 18) (fs := [vI 0, vN, vI 0, vI 0, vI 0, vI 0, vI 0, vI 0, vI 0, vI 0, vL 0, vN, vN, vN, vN, vN, vI 0, vI 0, vN, vN, vN, vI 0, vI 0]) hh hin dX7_init_10 fl_X7_7 ⟨TX7, _, rfl⟩ nw_ff_X7_1 rfl rfl ((by rfl : (mr_up w 19 (eA 0 540 (fun _ => 0))) 18 = w 18).trans hw) (by decide) ?_
  refine mrE_aload_n hh dX7_init_13 rfl ?_
  refine mrE_bipush hh dX7_init_14 (by decide) ?_
  refine mrE_newa_int (kk := 20) (N := 21) hh dX7_init_16 nw_ac_int rfl (Nat.le_of_ble_eq_true rfl) (hA.one 43 rfl (by omega)) ⟨Nat.le_of_ble_eq_true rfl, Nat.le_of_ble_eq_true rfl⟩ ?_
  refine mrE_putF (a := 18) (fs := [vI 0, vR 19 0, vI 0, vI 0, vI 0, vI 0, vI 0, vI 0, vI 0, vI 0, vL 0, vN, vN, vN, vN, vN, vI 0, vI 0, vN, vN, vN, vI 0, vI 0]) hh hin dX7_init_18 fl_X7_86 ⟨TX7, _, rfl⟩ nw_ff_X7_11 rfl rfl rfl (by decide) ?_
  refine mrE_aload_n hh dX7_init_21 rfl ?_
  refine mrE_bipush hh dX7_init_22 (by decide) ?_
  refine mrE_newa_int (kk := 21) (N := 21) hh dX7_init_24 nw_ac_int rfl (Nat.le_of_ble_eq_true rfl) (hA.one 44 rfl (by omega)) ⟨Nat.le_of_ble_eq_true rfl, Nat.le_of_ble_eq_true rfl⟩ ?_
  refine mrE_putF (a := 18) (fs := [vI 0, vR 19 0, vI 0, vI 0, vI 0, vI 0, vI 0, vI 0, vI 0, vI 0, vL 0, vR 20 0, vN, vN, vN, vN, vI 0, vI 0, vN, vN, vN, vI 0, vI 0]) hh hin dX7_init_26 fl_X7_89 ⟨TX7, _, rfl⟩ nw_ff_X7_12 rfl rfl rfl (by decide) ?_
  refine mrE_aload_n hh dX7_init_29 rfl ?_
  refine mrE_bipush hh dX7_init_30 (by decide) ?_
  refine mrE_newa_int (kk := 22) (N := 42) hh dX7_init_32 nw_ac_int rfl (Nat.le_of_ble_eq_true rfl) (hA.one 45 rfl (by omega)) ⟨Nat.le_of_ble_eq_true rfl, Nat.le_of_ble_eq_true rfl⟩ ?_
  refine mrE_putF (a := 18) (fs := [vI 0, vR 19 0, vI 0, vI 0, vI 0, vI 0, vI 0, vI 0, vI 0, vI 0, vL 0, vR 20 0, vR 21 0, vN, vN, vN, vI 0, vI 0, vN, vN, vN, vI 0, vI 0]) hh hin dX7_init_34 fl_X7_92 ⟨TX7, _, rfl⟩ nw_ff_X7_13 rfl rfl rfl (by decide) ?_
  refine mrE_aload_n hh dX7_init_37 rfl ?_
  refine mrE_sipush hh dX7_init_38 (by decide) ?_
  refine mrE_newa_int (kk := 23) (N := 168) hh dX7_init_41 nw_ac_int rfl (Nat.le_of_ble_eq_true rfl) (hA.one 46 rfl (by omega)) ⟨Nat.le_of_ble_eq_true rfl, Nat.le_of_ble_eq_true rfl⟩ ?_
  refine mrE_putF (a := 18) (fs := [vI 0, vR 19 0, vI 0, vI 0, vI 0, vI 0, vI 0, vI 0, vI 0, vI 0, vL 0, vR 20 0, vR 21 0, vR 22 0, vN, vN, vI 0, vI 0, vN, vN, vN, vI 0, vI 0]) hh hin dX7_init_43 fl_X7_95 ⟨TX7, _, rfl⟩ nw_ff_X7_14 rfl rfl rfl (by decide) ?_
  refine mrE_aload_n hh dX7_init_46 rfl ?_
  refine mrE_iconst hh dX7_init_47 ?_
  refine mrE_newa_boolean (kk := 24) (N := 2) hh dX7_init_48 nw_ac_boolean rfl (Nat.le_of_ble_eq_true rfl) (hA.one 47 rfl (by omega)) ⟨Nat.le_of_ble_eq_true rfl, Nat.le_of_ble_eq_true rfl⟩ ?_
  refine mrE_putF (a := 18) (fs := [vI 0, vR 19 0, vI 0, vI 0, vI 0, vI 0, vI 0, vI 0, vI 0, vI 0, vL 0, vR 20 0, vR 21 0, vR 22 0, vR 23 0, vN, vI 0, vI 0, vN, vN, vN, vI 0, vI 0]) hh hin dX7_init_50 fl_X7_98 ⟨TX7, _, rfl⟩ nw_ff_X7_15 rfl rfl rfl (by decide) ?_
  refine mrE_aload_n hh dX7_init_53 rfl ?_
  refine mrE_sipush hh dX7_init_54 (by decide) ?_
  refine mrE_newa_boolean (kk := 25) (N := 27000) hh dX7_init_57 nw_ac_boolean rfl (Nat.le_of_ble_eq_true rfl) (hA.one 48 rfl (by omega)) ⟨Nat.le_of_ble_eq_true rfl, Nat.le_of_ble_eq_true rfl⟩ ?_
  refine mrE_putF (a := 18) (fs := [vI 0, vR 19 0, vI 0, vI 0, vI 0, vI 0, vI 0, vI 0, vI 0, vI 0, vL 0, vR 20 0, vR 21 0, vR 22 0, vR 23 0, vR 24 0, vI 0, vI 0, vN, vN, vN, vI 0, vI 0]) hh hin dX7_init_59 fl_X7_102 ⟨TX7, _, rfl⟩ nw_ff_X7_18 rfl rfl rfl (by decide) ?_
  refine mrE_aload_n hh dX7_init_62 rfl ?_
  refine mrE_sipush hh dX7_init_63 (by decide) ?_
  refine mrE_newa_boolean (kk := 26) (N := 27000) hh dX7_init_66 nw_ac_boolean rfl (Nat.le_of_ble_eq_true rfl) (hA.one 49 rfl (by omega)) ⟨Nat.le_of_ble_eq_true rfl, Nat.le_of_ble_eq_true rfl⟩ ?_
  refine mrE_putF (a := 18) (fs := [vI 0, vR 19 0, vI 0, vI 0, vI 0, vI 0, vI 0, vI 0, vI 0, vI 0, vL 0, vR 20 0, vR 21 0, vR 22 0, vR 23 0, vR 24 0, vI 0, vI 0, vR 25 0, vN, vN, vI 0, vI 0]) hh hin dX7_init_68 fl_X7_105 ⟨TX7, _, rfl⟩ nw_ff_X7_19 rfl rfl rfl (by decide) ?_
  refine mrE_aload_n hh dX7_init_71 rfl ?_
  refine mrE_sipush hh dX7_init_72 (by decide) ?_
  refine mrE_newa_int (kk := 27) (N := 27000) hh dX7_init_75 nw_ac_int rfl (Nat.le_of_ble_eq_true rfl) (hA.one 50 rfl (by omega)) ⟨Nat.le_of_ble_eq_true rfl, Nat.le_of_ble_eq_true rfl⟩ ?_
  refine mrE_putF (a := 18) (fs := [vI 0, vR 19 0, vI 0, vI 0, vI 0, vI 0, vI 0, vI 0, vI 0, vI 0, vL 0, vR 20 0, vR 21 0, vR 22 0, vR 23 0, vR 24 0, vI 0, vI 0, vR 25 0, vR 26 0, vN, vI 0, vI 0]) hh hin dX7_init_77 fl_X7_108 ⟨TX7, _, rfl⟩ nw_ff_X7_20 rfl rfl rfl (by decide) ?_
  exact mrE_ret hh rfl dX7_init_80 ⟨Nat.le_of_ble_eq_true rfl, Nat.le_of_ble_eq_true rfl⟩ (by omega) ⟨rfl, rfl⟩
