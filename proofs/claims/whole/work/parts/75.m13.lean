/-- a row solves the equations -/
def mr_slv (N : Nat → Int) (r : Int) : Prop := ∀ i : Int, 0 ≤ i → i < N 14 → mr_dt (N 0) (N (15 + i).toNat) r = N (18 + i).toNat
def mr_sol (N : Nat → Int) (r : Int) : Prop := r % mr_stp N = 0 ∧ mr_slv N r
set_option maxHeartbeats 4000000 in
set_option maxRecDepth 20000 in
theorem lp_X7_solves (l : Launch) (G : mr_G) {Po : Option mr_AV → mr_Wd → Prop} {w : mr_Wd} {th tp sz zo fr kd nb ft pl wd sm md li sd : Int} {N : Nat → Int} {x : Int} (h18 : w 18 = eMo th tp sz zo fr kd nb ft pl wd sm md li sd) (h20 : w 20 = eA 0 21 N) (hx : 0 ≤ x ∧ x < N 0 * N 0 * N 0) (hMM : 1 ≤ N 0 ∧ N 0 ≤ 30) (h14 : 0 ≤ N 14 ∧ N 14 ≤ 3) (hb : (∀ i : Int, 0 ≤ i → i < 3 → (0 ≤ N (15 + i).toNat ∧ N (15 + i).toNat < N 0 * N 0 * N 0) ∧ (0 ≤ N (18 + i).toNat ∧ N (18 + i).toNat < N 0))) (hP : mr_slv N x → Po (some (vI 1)) w) (hQ : ¬ mr_slv N x → Po (some (vI 0)) w) : ∀ (n : Nat) (c : Int), 0 ≤ c → c + n = N 14 → (∀ i : Int, 0 ≤ i → i < c → mr_dt (N 0) (N (15 + i).toNat) x = N (18 + i).toNat) → mr_J l G RX7 cX7_solves 3 (some .boolean) 1 22 Po 2 [some (vR 18 0), some (vI x), some (vI c)] [] w := by
  intro n
  induction n with
  | zero =>
    intro c h0 hn hc
    have e : c = N 14 := by omega
    refine mr_iload_n dX7_solves_2 rfl ?_
    refine mr_aload_n dX7_solves_3 rfl ?_
    refine mr_callV (as := []) dX7_solves_4 (ok_X7_equations l G) ml_X7_250 cl_X7_equations cv_X7_equations (by decide) rfl rfl (Nat.le_of_ble_eq_true rfl) (by first | assumption | exact mr_up_same _ _ _ | (refine mr_lk ?_ (by first | assumption | decide); first | assumption | exact mr_up_same _ _ _ | (refine mr_lk ?_ (by first | assumption | decide); first | assumption | exact mr_up_same _ _ _ | (refine mr_lk ?_ (by first | assumption | decide); first | assumption | exact mr_up_same _ _ _ | (refine mr_lk ?_ (by first | assumption | decide); first | assumption | exact mr_up_same _ _ _))))) ?_
    refine ⟨_, _, _, _, _, _, _, _, _, _, _, _, _, _, _, rfl, (by first | assumption | exact mr_up_same _ _ _ | (refine mr_lk ?_ (by first | assumption | decide); first | assumption | exact mr_up_same _ _ _ | (refine mr_lk ?_ (by first | assumption | decide); first | assumption | exact mr_up_same _ _ _ | (refine mr_lk ?_ (by first | assumption | decide); first | assumption | exact mr_up_same _ _ _ | (refine mr_lk ?_ (by first | assumption | decide); first | assumption | exact mr_up_same _ _ _))))), (by first | assumption | exact mr_up_same _ _ _ | (refine mr_lk ?_ (by first | assumption | decide); first | assumption | exact mr_up_same _ _ _ | (refine mr_lk ?_ (by first | assumption | decide); first | assumption | exact mr_up_same _ _ _ | (refine mr_lk ?_ (by first | assumption | decide); first | assumption | exact mr_up_same _ _ _ | (refine mr_lk ?_ (by first | assumption | decide); first | assumption | exact mr_up_same _ _ _))))), ?_⟩
    dsimp only [Option.toList_some, Option.toList_none, List.cons_append, List.nil_append]
    refine mr_icmp_ge (tgt := 47) dX7_solves_7 (by decide) ⟨by omega, by omega⟩ ⟨by omega, by omega⟩ (fun hc_7 => ?_) (fun hc_7 => absurd hc_7 (by omega))
    refine mr_iconst dX7_solves_47 ?_
    refine mr_zret rfl (Or.inr rfl) dX7_solves_48 ?_
    exact hP (fun i g1 g2 => hc i g1 (by omega))
  | succ n ih =>
    intro c h0 hn hc
    have hbc := hb c h0 (by omega)
    have hd := mr_dt_bd (m := N 0) (by omega) (N (15 + c).toNat) x
    refine mr_iload_n dX7_solves_2 rfl ?_
    refine mr_aload_n dX7_solves_3 rfl ?_
    refine mr_callV (as := []) dX7_solves_4 (ok_X7_equations l G) ml_X7_250 cl_X7_equations cv_X7_equations (by decide) rfl rfl (Nat.le_of_ble_eq_true rfl) (by first | assumption | exact mr_up_same _ _ _ | (refine mr_lk ?_ (by first | assumption | decide); first | assumption | exact mr_up_same _ _ _ | (refine mr_lk ?_ (by first | assumption | decide); first | assumption | exact mr_up_same _ _ _ | (refine mr_lk ?_ (by first | assumption | decide); first | assumption | exact mr_up_same _ _ _ | (refine mr_lk ?_ (by first | assumption | decide); first | assumption | exact mr_up_same _ _ _))))) ?_
    refine ⟨_, _, _, _, _, _, _, _, _, _, _, _, _, _, _, rfl, (by first | assumption | exact mr_up_same _ _ _ | (refine mr_lk ?_ (by first | assumption | decide); first | assumption | exact mr_up_same _ _ _ | (refine mr_lk ?_ (by first | assumption | decide); first | assumption | exact mr_up_same _ _ _ | (refine mr_lk ?_ (by first | assumption | decide); first | assumption | exact mr_up_same _ _ _ | (refine mr_lk ?_ (by first | assumption | decide); first | assumption | exact mr_up_same _ _ _))))), (by first | assumption | exact mr_up_same _ _ _ | (refine mr_lk ?_ (by first | assumption | decide); first | assumption | exact mr_up_same _ _ _ | (refine mr_lk ?_ (by first | assumption | decide); first | assumption | exact mr_up_same _ _ _ | (refine mr_lk ?_ (by first | assumption | decide); first | assumption | exact mr_up_same _ _ _ | (refine mr_lk ?_ (by first | assumption | decide); first | assumption | exact mr_up_same _ _ _))))), ?_⟩
    dsimp only [Option.toList_some, Option.toList_none, List.cons_append, List.nil_append]
    refine mr_icmp_ge (tgt := 47) dX7_solves_7 (by decide) ⟨by omega, by omega⟩ ⟨by omega, by omega⟩ (fun hc_7 => absurd hc_7 (by omega)) (fun hc_7 => ?_)
    refine mr_aload_n dX7_solves_10 rfl ?_
    refine mr_get dX7_solves_11 fl_X7_86 (by first | assumption | exact mr_up_same _ _ _ | (refine mr_lk ?_ (by first | assumption | decide); first | assumption | exact mr_up_same _ _ _ | (refine mr_lk ?_ (by first | assumption | decide); first | assumption | exact mr_up_same _ _ _ | (refine mr_lk ?_ (by first | assumption | decide); first | assumption | exact mr_up_same _ _ _ | (refine mr_lk ?_ (by first | assumption | decide); first | assumption | exact mr_up_same _ _ _))))) rfl ?_
    refine mr_bipush dX7_solves_14 rfl ?_
    refine mr_iload_n dX7_solves_16 rfl ?_
    refine mr_iadd dX7_solves_17 ?_
    refine mr_iald dX7_solves_18 (by first | assumption | exact mr_up_same _ _ _ | (refine mr_lk ?_ (by first | assumption | decide); first | assumption | exact mr_up_same _ _ _ | (refine mr_lk ?_ (by first | assumption | decide); first | assumption | exact mr_up_same _ _ _ | (refine mr_lk ?_ (by first | assumption | decide); first | assumption | exact mr_up_same _ _ _ | (refine mr_lk ?_ (by first | assumption | decide); first | assumption | exact mr_up_same _ _ _))))) (by omega) (by omega) (by decide) ?_
    refine mr_iload_n dX7_solves_19 rfl ?_
    refine mr_aload_n dX7_solves_20 rfl ?_
    refine mr_callV (as := []) dX7_solves_21 (ok_X7_by l G) ml_X7_195 cl_X7_by cv_X7_by (by decide) rfl rfl (Nat.le_of_ble_eq_true rfl) (by first | assumption | exact mr_up_same _ _ _ | (refine mr_lk ?_ (by first | assumption | decide); first | assumption | exact mr_up_same _ _ _ | (refine mr_lk ?_ (by first | assumption | decide); first | assumption | exact mr_up_same _ _ _ | (refine mr_lk ?_ (by first | assumption | decide); first | assumption | exact mr_up_same _ _ _ | (refine mr_lk ?_ (by first | assumption | decide); first | assumption | exact mr_up_same _ _ _))))) ?_
    refine ⟨_, _, _, _, _, _, _, _, _, _, _, _, _, _, _, rfl, (by first | assumption | exact mr_up_same _ _ _ | (refine mr_lk ?_ (by first | assumption | decide); first | assumption | exact mr_up_same _ _ _ | (refine mr_lk ?_ (by first | assumption | decide); first | assumption | exact mr_up_same _ _ _ | (refine mr_lk ?_ (by first | assumption | decide); first | assumption | exact mr_up_same _ _ _ | (refine mr_lk ?_ (by first | assumption | decide); first | assumption | exact mr_up_same _ _ _))))), (by first | assumption | exact mr_up_same _ _ _ | (refine mr_lk ?_ (by first | assumption | decide); first | assumption | exact mr_up_same _ _ _ | (refine mr_lk ?_ (by first | assumption | decide); first | assumption | exact mr_up_same _ _ _ | (refine mr_lk ?_ (by first | assumption | decide); first | assumption | exact mr_up_same _ _ _ | (refine mr_lk ?_ (by first | assumption | decide); first | assumption | exact mr_up_same _ _ _))))), ?_⟩
    dsimp only [Option.toList_some, Option.toList_none, List.cons_append, List.nil_append]
    refine mr_callS (as := [_, _, _]) dX7_solves_24 (ok_X7_dot l G) ml_X7_239 cl_X7_dot cs_X7_dot (by decide) rfl rfl (Nat.le_of_ble_eq_true rfl) ?_
    refine ⟨_, _, _, rfl, (by omega), hx, hMM, ?_⟩
    dsimp only [Option.toList_some, Option.toList_none, List.cons_append, List.nil_append]
    refine mr_aload_n dX7_solves_27 rfl ?_
    refine mr_get dX7_solves_28 fl_X7_86 (by first | assumption | exact mr_up_same _ _ _ | (refine mr_lk ?_ (by first | assumption | decide); first | assumption | exact mr_up_same _ _ _ | (refine mr_lk ?_ (by first | assumption | decide); first | assumption | exact mr_up_same _ _ _ | (refine mr_lk ?_ (by first | assumption | decide); first | assumption | exact mr_up_same _ _ _ | (refine mr_lk ?_ (by first | assumption | decide); first | assumption | exact mr_up_same _ _ _))))) rfl ?_
    refine mr_bipush dX7_solves_31 rfl ?_
    refine mr_iload_n dX7_solves_33 rfl ?_
    refine mr_iadd dX7_solves_34 ?_
    refine mr_iald dX7_solves_35 (by first | assumption | exact mr_up_same _ _ _ | (refine mr_lk ?_ (by first | assumption | decide); first | assumption | exact mr_up_same _ _ _ | (refine mr_lk ?_ (by first | assumption | decide); first | assumption | exact mr_up_same _ _ _ | (refine mr_lk ?_ (by first | assumption | decide); first | assumption | exact mr_up_same _ _ _ | (refine mr_lk ?_ (by first | assumption | decide); first | assumption | exact mr_up_same _ _ _))))) (by omega) (by omega) (by decide) ?_
    refine mr_icmp_eq (tgt := 41) dX7_solves_36 (by decide) ⟨by omega, by omega⟩ ⟨by omega, by omega⟩ (fun hc_36 => ?_) (fun hc_36 => ?_)
    · refine mr_iinc dX7_solves_41 rfl (by decide) rfl ?_
      refine mr_goto (tgt := 2) dX7_solves_44 (by decide) ?_
      refine ih (c + 1) (by omega) (by omega) (fun i g1 g2 => ?_)
      by_cases e : i = c
      · subst e; exact hc_36
      · exact hc i g1 (by omega)
    · refine mr_iconst dX7_solves_39 ?_
      refine mr_zret rfl (Or.inl rfl) dX7_solves_40 ?_
      exact hQ (fun z => hc_36 (z c h0 (by omega)))
def T_X7_solves (a : List mr_AV) (w : mr_Wd) (Po : Option mr_AV → mr_Wd → Prop) : Prop := ∃ (th tp sz zo fr kd nb ft pl wd sm md li sd : Int) (N : Nat → Int) (x : Int), a = [vR 18 0, vI x] ∧ w 18 = eMo th tp sz zo fr kd nb ft pl wd sm md li sd ∧ w 20 = eA 0 21 N ∧ (0 ≤ x ∧ x < N 0 * N 0 * N 0) ∧ (1 ≤ N 0 ∧ N 0 ≤ 30) ∧ (0 ≤ N 14 ∧ N 14 ≤ 3) ∧ (∀ i : Int, 0 ≤ i → i < 3 → (0 ≤ N (15 + i).toNat ∧ N (15 + i).toNat < N 0 * N 0 * N 0) ∧ (0 ≤ N (18 + i).toNat ∧ N (18 + i).toNat < N 0)) ∧ (mr_slv N x → Po (some (vI 1)) w) ∧ (¬ (mr_slv N x) → Po (some (vI 0)) w)
set_option maxHeartbeats 4000000 in
set_option maxRecDepth 20000 in
theorem ok_X7_solves (l : Launch) (G : mr_G) : mr_Ok l G yX7_solves cX7_solves 3 (some .boolean) 1 22 T_X7_solves := by
  refine mr_Ok.of (by decide +kernel) ?_
  rintro a w Po ⟨th, tp, sz, zo, fr, kd, nb, ft, pl, wd, sm, md, li, sd, N, x, rfl, h18, h20, hx, hMM, h14, hb, hP, hQ⟩
  refine ⟨Nat.le_of_ble_eq_true rfl, ?_⟩
  show mr_J l G RX7 cX7_solves 3 (some .boolean) 1 22 Po 0 [some (vR 18 0), some (vI x), none] [] w
  refine mr_iconst dX7_solves_0 ?_
  refine mr_istore_n dX7_solves_1 rfl (by decide) ?_
  exact lp_X7_solves l G h18 h20 hx hMM h14 hb hP hQ (N 14).toNat 0 (Int.le_refl 0) (by omega) (fun i g1 g2 => by omega)
set_option maxHeartbeats 4000000 in
set_option maxRecDepth 20000 in
theorem lp_X7_firstSolution (l : Launch) (G : mr_G) {Po : Option mr_AV → mr_Wd → Prop} {w : mr_Wd} {th tp sz zo fr kd nb ft pl wd sm md li sd : Int} {N : Nat → Int} (h18 : w 18 = eMo th tp sz zo fr kd nb ft pl wd sm md li sd) (h20 : w 20 = eA 0 21 N) (hMM : 1 ≤ N 0 ∧ N 0 ≤ 30) (h1N : 0 ≤ N 1 ∧ N 1 ≤ 3) (hG14 : 0 ≤ N 14 ∧ N 14 ≤ 3) (hb : (∀ i : Int, 0 ≤ i → i < 3 → (0 ≤ N (15 + i).toNat ∧ N (15 + i).toNat < N 0 * N 0 * N 0) ∧ (0 ≤ N (18 + i).toNat ∧ N (18 + i).toNat < N 0))) (hP : ∀ r : Int, ((0 ≤ r ∧ r < N 0 * N 0 * N 0 ∧ mr_sol N r ∧ ∀ i : Int, 0 ≤ i → i < r → ¬ mr_sol N i) ∨ (r = -1 ∧ ∀ i : Int, 0 ≤ i → i < N 0 * N 0 * N 0 → ¬ mr_sol N i)) → Po (some (vI r)) w) : ∀ (n : Nat) (r : Int), 0 ≤ r → r + n = N 0 * N 0 * N 0 → (∀ i : Int, 0 ≤ i → i < r → ¬ mr_sol N i) → mr_J l G RX7 cX7_firstSolution 2 (some .int) 2 44 Po 2 [some (vR 18 0), some (vI r)] [] w := by
  intro n
  have hm3 := mr_m3 hMM
  induction n with
  | zero =>
    intro r h0 hn hc
    have e : r = N 0 * N 0 * N 0 := by omega
    refine mr_iload_n dX7_firstSolution_2 rfl ?_
    refine mr_aload_n dX7_firstSolution_3 rfl ?_
    refine mr_get dX7_firstSolution_4 fl_X7_86 (by first | assumption | exact mr_up_same _ _ _ | (refine mr_lk ?_ (by first | assumption | decide); first | assumption | exact mr_up_same _ _ _ | (refine mr_lk ?_ (by first | assumption | decide); first | assumption | exact mr_up_same _ _ _ | (refine mr_lk ?_ (by first | assumption | decide); first | assumption | exact mr_up_same _ _ _ | (refine mr_lk ?_ (by first | assumption | decide); first | assumption | exact mr_up_same _ _ _))))) rfl ?_
    refine mr_callS (as := [_]) dX7_firstSolution_7 (ok_X7_end_ l G) ml_X7_233 cl_X7_end_ cs_X7_end_ (by decide) rfl rfl (Nat.le_of_ble_eq_true rfl) ?_
    refine ⟨20, _, rfl, (by first | assumption | exact mr_up_same _ _ _ | (refine mr_lk ?_ (by first | assumption | decide); first | assumption | exact mr_up_same _ _ _ | (refine mr_lk ?_ (by first | assumption | decide); first | assumption | exact mr_up_same _ _ _ | (refine mr_lk ?_ (by first | assumption | decide); first | assumption | exact mr_up_same _ _ _ | (refine mr_lk ?_ (by first | assumption | decide); first | assumption | exact mr_up_same _ _ _))))), ?_⟩
    dsimp only [Option.toList_some, Option.toList_none, List.cons_append, List.nil_append]
    refine mr_icmp_ge (tgt := 37) dX7_firstSolution_10 (by decide) ⟨by omega, by omega⟩ ⟨by omega, by omega⟩ (fun hc_10 => ?_) (fun hc_10 => absurd hc_10 (by omega))
    refine mr_iconst dX7_firstSolution_37 ?_
    refine mr_iret rfl dX7_firstSolution_38 ?_
    exact hP (-1) (Or.inr ⟨rfl, fun i g1 g2 => hc i g1 (by omega)⟩)
  | succ n ih =>
    intro r h0 hn hc
    refine mr_iload_n dX7_firstSolution_2 rfl ?_
    refine mr_aload_n dX7_firstSolution_3 rfl ?_
    refine mr_get dX7_firstSolution_4 fl_X7_86 (by first | assumption | exact mr_up_same _ _ _ | (refine mr_lk ?_ (by first | assumption | decide); first | assumption | exact mr_up_same _ _ _ | (refine mr_lk ?_ (by first | assumption | decide); first | assumption | exact mr_up_same _ _ _ | (refine mr_lk ?_ (by first | assumption | decide); first | assumption | exact mr_up_same _ _ _ | (refine mr_lk ?_ (by first | assumption | decide); first | assumption | exact mr_up_same _ _ _))))) rfl ?_
    refine mr_callS (as := [_]) dX7_firstSolution_7 (ok_X7_end_ l G) ml_X7_233 cl_X7_end_ cs_X7_end_ (by decide) rfl rfl (Nat.le_of_ble_eq_true rfl) ?_
    refine ⟨20, _, rfl, (by first | assumption | exact mr_up_same _ _ _ | (refine mr_lk ?_ (by first | assumption | decide); first | assumption | exact mr_up_same _ _ _ | (refine mr_lk ?_ (by first | assumption | decide); first | assumption | exact mr_up_same _ _ _ | (refine mr_lk ?_ (by first | assumption | decide); first | assumption | exact mr_up_same _ _ _ | (refine mr_lk ?_ (by first | assumption | decide); first | assumption | exact mr_up_same _ _ _))))), ?_⟩
    dsimp only [Option.toList_some, Option.toList_none, List.cons_append, List.nil_append]
    refine mr_icmp_ge (tgt := 37) dX7_firstSolution_10 (by decide) ⟨by omega, by omega⟩ ⟨by omega, by omega⟩ (fun hc_10 => absurd hc_10 (by omega)) (fun hc_10 => ?_)
    refine mr_aload_n dX7_firstSolution_13 rfl ?_
    refine mr_iload_n dX7_firstSolution_14 rfl ?_
    refine mr_callV (as := [_]) dX7_firstSolution_15 (ok_X7_isRow l G) ml_X7_236 cl_X7_isRow cv_X7_isRow (by decide) rfl rfl (Nat.le_of_ble_eq_true rfl) (by first | assumption | exact mr_up_same _ _ _ | (refine mr_lk ?_ (by first | assumption | decide); first | assumption | exact mr_up_same _ _ _ | (refine mr_lk ?_ (by first | assumption | decide); first | assumption | exact mr_up_same _ _ _ | (refine mr_lk ?_ (by first | assumption | decide); first | assumption | exact mr_up_same _ _ _ | (refine mr_lk ?_ (by first | assumption | decide); first | assumption | exact mr_up_same _ _ _))))) ?_
    refine ⟨_, _, _, _, _, _, _, _, _, _, _, _, _, _, _, _, rfl, (by first | assumption | exact mr_up_same _ _ _ | (refine mr_lk ?_ (by first | assumption | decide); first | assumption | exact mr_up_same _ _ _ | (refine mr_lk ?_ (by first | assumption | decide); first | assumption | exact mr_up_same _ _ _ | (refine mr_lk ?_ (by first | assumption | decide); first | assumption | exact mr_up_same _ _ _ | (refine mr_lk ?_ (by first | assumption | decide); first | assumption | exact mr_up_same _ _ _))))), (by first | assumption | exact mr_up_same _ _ _ | (refine mr_lk ?_ (by first | assumption | decide); first | assumption | exact mr_up_same _ _ _ | (refine mr_lk ?_ (by first | assumption | decide); first | assumption | exact mr_up_same _ _ _ | (refine mr_lk ?_ (by first | assumption | decide); first | assumption | exact mr_up_same _ _ _ | (refine mr_lk ?_ (by first | assumption | decide); first | assumption | exact mr_up_same _ _ _))))), ⟨by omega, by omega⟩, (by assumption), (by assumption), ?_, ?_⟩
    · intro ky
      dsimp only [Option.toList_some, Option.toList_none, List.cons_append, List.nil_append]
      refine mr_if_eq (tgt := 31) dX7_firstSolution_18 (by decide) (by omega) (fun h => absurd h (by decide)) (fun _ => ?_)
      refine mr_aload_n dX7_firstSolution_21 rfl ?_
      refine mr_iload_n dX7_firstSolution_22 rfl ?_
      refine mr_callV (as := [_]) dX7_firstSolution_23 (ok_X7_solves l G) ml_X7_253 cl_X7_solves cv_X7_solves (by decide) rfl rfl (Nat.le_of_ble_eq_true rfl) (by first | assumption | exact mr_up_same _ _ _ | (refine mr_lk ?_ (by first | assumption | decide); first | assumption | exact mr_up_same _ _ _ | (refine mr_lk ?_ (by first | assumption | decide); first | assumption | exact mr_up_same _ _ _ | (refine mr_lk ?_ (by first | assumption | decide); first | assumption | exact mr_up_same _ _ _ | (refine mr_lk ?_ (by first | assumption | decide); first | assumption | exact mr_up_same _ _ _))))) ?_
      refine ⟨_, _, _, _, _, _, _, _, _, _, _, _, _, _, _, _, rfl, (by first | assumption | exact mr_up_same _ _ _ | (refine mr_lk ?_ (by first | assumption | decide); first | assumption | exact mr_up_same _ _ _ | (refine mr_lk ?_ (by first | assumption | decide); first | assumption | exact mr_up_same _ _ _ | (refine mr_lk ?_ (by first | assumption | decide); first | assumption | exact mr_up_same _ _ _ | (refine mr_lk ?_ (by first | assumption | decide); first | assumption | exact mr_up_same _ _ _))))), (by first | assumption | exact mr_up_same _ _ _ | (refine mr_lk ?_ (by first | assumption | decide); first | assumption | exact mr_up_same _ _ _ | (refine mr_lk ?_ (by first | assumption | decide); first | assumption | exact mr_up_same _ _ _ | (refine mr_lk ?_ (by first | assumption | decide); first | assumption | exact mr_up_same _ _ _ | (refine mr_lk ?_ (by first | assumption | decide); first | assumption | exact mr_up_same _ _ _))))), ⟨by omega, by omega⟩, hMM, hG14, hb, ?_, ?_⟩
      · intro ks
        dsimp only [Option.toList_some, Option.toList_none, List.cons_append, List.nil_append]
        refine mr_if_eq (tgt := 31) dX7_firstSolution_26 (by decide) (by omega) (fun h => absurd h (by decide)) (fun _ => ?_)
        refine mr_iload_n dX7_firstSolution_29 rfl ?_
        refine mr_iret rfl dX7_firstSolution_30 ?_
        exact hP r (Or.inl ⟨h0, by omega, ⟨ky, ks⟩, hc⟩)
      · intro ks
        dsimp only [Option.toList_some, Option.toList_none, List.cons_append, List.nil_append]
        refine mr_if_eq (tgt := 31) dX7_firstSolution_26 (by decide) (by omega) (fun _ => ?_) (fun h => absurd h (by decide))
        refine mr_iinc dX7_firstSolution_31 rfl (by decide) rfl ?_
        refine mr_goto (tgt := 2) dX7_firstSolution_34 (by decide) ?_
        refine ih (r + 1) (by omega) (by omega) (fun i g1 g2 => ?_)
        by_cases e : i = r
        · subst e; first | exact fun z => ky z.1 | exact fun z => ks z.2
        · exact hc i g1 (by omega)
    · intro ky
      dsimp only [Option.toList_some, Option.toList_none, List.cons_append, List.nil_append]
      refine mr_if_eq (tgt := 31) dX7_firstSolution_18 (by decide) (by omega) (fun _ => ?_) (fun h => absurd h (by decide))
      refine mr_iinc dX7_firstSolution_31 rfl (by decide) rfl ?_
      refine mr_goto (tgt := 2) dX7_firstSolution_34 (by decide) ?_
      refine ih (r + 1) (by omega) (by omega) (fun i g1 g2 => ?_)
      by_cases e : i = r
      · subst e; first | exact fun z => ky z.1 | exact fun z => ks z.2
      · exact hc i g1 (by omega)
def T_X7_firstSolution (a : List mr_AV) (w : mr_Wd) (Po : Option mr_AV → mr_Wd → Prop) : Prop := ∃ (th tp sz zo fr kd nb ft pl wd sm md li sd : Int) (N : Nat → Int), a = [vR 18 0] ∧ w 18 = eMo th tp sz zo fr kd nb ft pl wd sm md li sd ∧ w 20 = eA 0 21 N ∧ (1 ≤ N 0 ∧ N 0 ≤ 30) ∧ (0 ≤ N 1 ∧ N 1 ≤ 3) ∧ (0 ≤ N 14 ∧ N 14 ≤ 3) ∧ (∀ i : Int, 0 ≤ i → i < 3 → (0 ≤ N (15 + i).toNat ∧ N (15 + i).toNat < N 0 * N 0 * N 0) ∧ (0 ≤ N (18 + i).toNat ∧ N (18 + i).toNat < N 0)) ∧ (∀ r : Int, ((0 ≤ r ∧ r < N 0 * N 0 * N 0 ∧ mr_sol N r ∧ ∀ i : Int, 0 ≤ i → i < r → ¬ mr_sol N i) ∨ (r = -1 ∧ ∀ i : Int, 0 ≤ i → i < N 0 * N 0 * N 0 → ¬ mr_sol N i)) → Po (some (vI r)) w)
set_option maxHeartbeats 4000000 in
set_option maxRecDepth 20000 in
theorem ok_X7_firstSolution (l : Launch) (G : mr_G) : mr_Ok l G yX7_firstSolution cX7_firstSolution 2 (some .int) 2 44 T_X7_firstSolution := by
  refine mr_Ok.of (by decide +kernel) ?_
  rintro a w Po ⟨th, tp, sz, zo, fr, kd, nb, ft, pl, wd, sm, md, li, sd, N, rfl, h18, h20, hMM, h1N, hG14, hb, hP⟩
  refine ⟨Nat.le_of_ble_eq_true rfl, ?_⟩
  show mr_J l G RX7 cX7_firstSolution 2 (some .int) 2 44 Po 0 [some (vR 18 0), none] [] w
  have hm3 := mr_m3 hMM
  refine mr_iconst dX7_firstSolution_0 ?_
  refine mr_istore_n dX7_firstSolution_1 rfl (by decide) ?_
  exact lp_X7_firstSolution l G h18 h20 hMM h1N hG14 hb hP (N 0 * N 0 * N 0).toNat 0 (Int.le_refl 0) (by omega) (fun i g1 g2 => by omega)
set_option maxHeartbeats 4000000 in
set_option maxRecDepth 20000 in
theorem lp_X7_solutions (l : Launch) (G : mr_G) {Po : Option mr_AV → mr_Wd → Prop} {w : mr_Wd} {th tp sz zo fr kd nb ft pl wd sm md li sd : Int} {N : Nat → Int} (h18 : w 18 = eMo th tp sz zo fr kd nb ft pl wd sm md li sd) (h20 : w 20 = eA 0 21 N) (hMM : 1 ≤ N 0 ∧ N 0 ≤ 30) (h1N : 0 ≤ N 1 ∧ N 1 ≤ 3) (hG14 : 0 ≤ N 14 ∧ N 14 ≤ 3) (hb : (∀ i : Int, 0 ≤ i → i < 3 → (0 ≤ N (15 + i).toNat ∧ N (15 + i).toNat < N 0 * N 0 * N 0) ∧ (0 ≤ N (18 + i).toNat ∧ N (18 + i).toNat < N 0))) (hP : ∀ n : Nat, (∃ st li : Nat → Int, mr_Lp (N 0) st li n (mr_sol N)) → Po (some (vI n)) w) : ∀ (n : Nat) (r : Int) (c : Nat), 0 ≤ r → r + n = N 0 * N 0 * N 0 → (∃ st li : Nat → Int, mr_Lp (N 0) st li c (fun x : Int => x < r ∧ mr_sol N x)) → mr_J l G RX7 cX7_solutions 3 (some .int) 2 44 Po 18 [some (vR 18 0), some (vI (c : Int)), some (vI r)] [] w := by
  intro n
  have hm3 := mr_m3 hMM
  induction n with
  | zero =>
    intro r c h0 hn hc
    have e : r = N 0 * N 0 * N 0 := by omega
    refine mr_iload_n dX7_solutions_18 rfl ?_
    refine mr_aload_n dX7_solutions_19 rfl ?_
    refine mr_get dX7_solutions_20 fl_X7_86 (by first | assumption | exact mr_up_same _ _ _ | (refine mr_lk ?_ (by first | assumption | decide); first | assumption | exact mr_up_same _ _ _ | (refine mr_lk ?_ (by first | assumption | decide); first | assumption | exact mr_up_same _ _ _ | (refine mr_lk ?_ (by first | assumption | decide); first | assumption | exact mr_up_same _ _ _ | (refine mr_lk ?_ (by first | assumption | decide); first | assumption | exact mr_up_same _ _ _))))) rfl ?_
    refine mr_callS (as := [_]) dX7_solutions_23 (ok_X7_end_ l G) ml_X7_233 cl_X7_end_ cs_X7_end_ (by decide) rfl rfl (Nat.le_of_ble_eq_true rfl) ?_
    refine ⟨20, _, rfl, (by first | assumption | exact mr_up_same _ _ _ | (refine mr_lk ?_ (by first | assumption | decide); first | assumption | exact mr_up_same _ _ _ | (refine mr_lk ?_ (by first | assumption | decide); first | assumption | exact mr_up_same _ _ _ | (refine mr_lk ?_ (by first | assumption | decide); first | assumption | exact mr_up_same _ _ _ | (refine mr_lk ?_ (by first | assumption | decide); first | assumption | exact mr_up_same _ _ _))))), ?_⟩
    dsimp only [Option.toList_some, Option.toList_none, List.cons_append, List.nil_append]
    refine mr_icmp_ge (tgt := 54) dX7_solutions_26 (by decide) ⟨by omega, by omega⟩ ⟨by omega, by omega⟩ (fun hc_26 => ?_) (fun hc_26 => absurd hc_26 (by omega))
    refine mr_iload_n dX7_solutions_54 rfl ?_
    refine mr_iret rfl dX7_solutions_55 ?_
    obtain ⟨st, li, hp⟩ := hc
    exact hP c ⟨st, li, mr_Lp_cg hp (fun x g1 g2 => ⟨fun z => z.2, fun z => ⟨by omega, z⟩⟩)⟩
  | succ n ih =>
    intro r c h0 hn hc
    obtain ⟨st, li, hp⟩ := hc
    refine mr_iload_n dX7_solutions_18 rfl ?_
    refine mr_aload_n dX7_solutions_19 rfl ?_
    refine mr_get dX7_solutions_20 fl_X7_86 (by first | assumption | exact mr_up_same _ _ _ | (refine mr_lk ?_ (by first | assumption | decide); first | assumption | exact mr_up_same _ _ _ | (refine mr_lk ?_ (by first | assumption | decide); first | assumption | exact mr_up_same _ _ _ | (refine mr_lk ?_ (by first | assumption | decide); first | assumption | exact mr_up_same _ _ _ | (refine mr_lk ?_ (by first | assumption | decide); first | assumption | exact mr_up_same _ _ _))))) rfl ?_
    refine mr_callS (as := [_]) dX7_solutions_23 (ok_X7_end_ l G) ml_X7_233 cl_X7_end_ cs_X7_end_ (by decide) rfl rfl (Nat.le_of_ble_eq_true rfl) ?_
    refine ⟨20, _, rfl, (by first | assumption | exact mr_up_same _ _ _ | (refine mr_lk ?_ (by first | assumption | decide); first | assumption | exact mr_up_same _ _ _ | (refine mr_lk ?_ (by first | assumption | decide); first | assumption | exact mr_up_same _ _ _ | (refine mr_lk ?_ (by first | assumption | decide); first | assumption | exact mr_up_same _ _ _ | (refine mr_lk ?_ (by first | assumption | decide); first | assumption | exact mr_up_same _ _ _))))), ?_⟩
    dsimp only [Option.toList_some, Option.toList_none, List.cons_append, List.nil_append]
    refine mr_icmp_ge (tgt := 54) dX7_solutions_26 (by decide) ⟨by omega, by omega⟩ ⟨by omega, by omega⟩ (fun hc_26 => absurd hc_26 (by omega)) (fun hc_26 => ?_)
    refine mr_aload_n dX7_solutions_29 rfl ?_
    refine mr_iload_n dX7_solutions_30 rfl ?_
    refine mr_callV (as := [_]) dX7_solutions_31 (ok_X7_isRow l G) ml_X7_236 cl_X7_isRow cv_X7_isRow (by decide) rfl rfl (Nat.le_of_ble_eq_true rfl) (by first | assumption | exact mr_up_same _ _ _ | (refine mr_lk ?_ (by first | assumption | decide); first | assumption | exact mr_up_same _ _ _ | (refine mr_lk ?_ (by first | assumption | decide); first | assumption | exact mr_up_same _ _ _ | (refine mr_lk ?_ (by first | assumption | decide); first | assumption | exact mr_up_same _ _ _ | (refine mr_lk ?_ (by first | assumption | decide); first | assumption | exact mr_up_same _ _ _))))) ?_
    refine ⟨_, _, _, _, _, _, _, _, _, _, _, _, _, _, _, _, rfl, (by first | assumption | exact mr_up_same _ _ _ | (refine mr_lk ?_ (by first | assumption | decide); first | assumption | exact mr_up_same _ _ _ | (refine mr_lk ?_ (by first | assumption | decide); first | assumption | exact mr_up_same _ _ _ | (refine mr_lk ?_ (by first | assumption | decide); first | assumption | exact mr_up_same _ _ _ | (refine mr_lk ?_ (by first | assumption | decide); first | assumption | exact mr_up_same _ _ _))))), (by first | assumption | exact mr_up_same _ _ _ | (refine mr_lk ?_ (by first | assumption | decide); first | assumption | exact mr_up_same _ _ _ | (refine mr_lk ?_ (by first | assumption | decide); first | assumption | exact mr_up_same _ _ _ | (refine mr_lk ?_ (by first | assumption | decide); first | assumption | exact mr_up_same _ _ _ | (refine mr_lk ?_ (by first | assumption | decide); first | assumption | exact mr_up_same _ _ _))))), ⟨by omega, by omega⟩, (by assumption), (by assumption), ?_, ?_⟩
    · intro ky
      dsimp only [Option.toList_some, Option.toList_none, List.cons_append, List.nil_append]
      refine mr_if_eq (tgt := 48) dX7_solutions_34 (by decide) (by omega) (fun h => absurd h (by decide)) (fun _ => ?_)
      refine mr_aload_n dX7_solutions_37 rfl ?_
      refine mr_iload_n dX7_solutions_38 rfl ?_
      refine mr_callV (as := [_]) dX7_solutions_39 (ok_X7_solves l G) ml_X7_253 cl_X7_solves cv_X7_solves (by decide) rfl rfl (Nat.le_of_ble_eq_true rfl) (by first | assumption | exact mr_up_same _ _ _ | (refine mr_lk ?_ (by first | assumption | decide); first | assumption | exact mr_up_same _ _ _ | (refine mr_lk ?_ (by first | assumption | decide); first | assumption | exact mr_up_same _ _ _ | (refine mr_lk ?_ (by first | assumption | decide); first | assumption | exact mr_up_same _ _ _ | (refine mr_lk ?_ (by first | assumption | decide); first | assumption | exact mr_up_same _ _ _))))) ?_
      refine ⟨_, _, _, _, _, _, _, _, _, _, _, _, _, _, _, _, rfl, (by first | assumption | exact mr_up_same _ _ _ | (refine mr_lk ?_ (by first | assumption | decide); first | assumption | exact mr_up_same _ _ _ | (refine mr_lk ?_ (by first | assumption | decide); first | assumption | exact mr_up_same _ _ _ | (refine mr_lk ?_ (by first | assumption | decide); first | assumption | exact mr_up_same _ _ _ | (refine mr_lk ?_ (by first | assumption | decide); first | assumption | exact mr_up_same _ _ _))))), (by first | assumption | exact mr_up_same _ _ _ | (refine mr_lk ?_ (by first | assumption | decide); first | assumption | exact mr_up_same _ _ _ | (refine mr_lk ?_ (by first | assumption | decide); first | assumption | exact mr_up_same _ _ _ | (refine mr_lk ?_ (by first | assumption | decide); first | assumption | exact mr_up_same _ _ _ | (refine mr_lk ?_ (by first | assumption | decide); first | assumption | exact mr_up_same _ _ _))))), ⟨by omega, by omega⟩, hMM, hG14, hb, ?_, ?_⟩
      · intro ks
        dsimp only [Option.toList_some, Option.toList_none, List.cons_append, List.nil_append]
        refine mr_if_eq (tgt := 48) dX7_solutions_42 (by decide) (by omega) (fun h => absurd h (by decide)) (fun _ => ?_)
        refine mr_iinc dX7_solutions_45 rfl (by decide) rfl ?_
        refine mr_iinc dX7_solutions_48 rfl (by decide) rfl ?_
        refine mr_goto (tgt := 18) dX7_solutions_51 (by decide) ?_
        first
          | exact ih (r + 1) c (by omega) (by omega) ⟨st, li, mr_Lp_cg hp (fun x g1 g2 => ⟨fun z => ⟨by omega, z.2⟩, fun z => ⟨by
              have h1 := z.1
              have h2 : x ≠ r := fun e => by subst e; first | exact ky z.2.1 | exact ks z.2.2
              omega, z.2⟩⟩)⟩
          | (refine mr_weak [some (vR 18 0), some (vI ((c + 1 : Nat) : Int)), some (vI (r + 1))] ⟨rfl, rfl, rfl, trivial⟩ ?_
             exact ih (r + 1) (c + 1) (by omega) (by omega) ⟨_, _, mr_Lp_cg (mr_Lp_add hp (r := r) ⟨h0, by omega⟩ (fun z => by have := z.1; omega)) (fun x g1 g2 => ⟨fun z => z.elim (fun z => ⟨by have := z.1; omega, z.2⟩) (fun e => by subst e; exact ⟨by omega, ky, ks⟩), fun z => by
              by_cases e : x = r
              · exact Or.inr e
              · exact Or.inl ⟨by have := z.1; omega, z.2⟩⟩)⟩)
      · intro ks
        dsimp only [Option.toList_some, Option.toList_none, List.cons_append, List.nil_append]
        refine mr_if_eq (tgt := 48) dX7_solutions_42 (by decide) (by omega) (fun _ => ?_) (fun h => absurd h (by decide))
        refine mr_iinc dX7_solutions_48 rfl (by decide) rfl ?_
        refine mr_goto (tgt := 18) dX7_solutions_51 (by decide) ?_
        first
          | exact ih (r + 1) c (by omega) (by omega) ⟨st, li, mr_Lp_cg hp (fun x g1 g2 => ⟨fun z => ⟨by omega, z.2⟩, fun z => ⟨by
              have h1 := z.1
              have h2 : x ≠ r := fun e => by subst e; first | exact ky z.2.1 | exact ks z.2.2
              omega, z.2⟩⟩)⟩
          | (refine mr_weak [some (vR 18 0), some (vI ((c + 1 : Nat) : Int)), some (vI (r + 1))] ⟨rfl, rfl, rfl, trivial⟩ ?_
             exact ih (r + 1) (c + 1) (by omega) (by omega) ⟨_, _, mr_Lp_cg (mr_Lp_add hp (r := r) ⟨h0, by omega⟩ (fun z => by have := z.1; omega)) (fun x g1 g2 => ⟨fun z => z.elim (fun z => ⟨by have := z.1; omega, z.2⟩) (fun e => by subst e; exact ⟨by omega, ky, ks⟩), fun z => by
              by_cases e : x = r
              · exact Or.inr e
              · exact Or.inl ⟨by have := z.1; omega, z.2⟩⟩)⟩)
    · intro ky
      dsimp only [Option.toList_some, Option.toList_none, List.cons_append, List.nil_append]
      refine mr_if_eq (tgt := 48) dX7_solutions_34 (by decide) (by omega) (fun _ => ?_) (fun h => absurd h (by decide))
      refine mr_iinc dX7_solutions_48 rfl (by decide) rfl ?_
      refine mr_goto (tgt := 18) dX7_solutions_51 (by decide) ?_
      first
        | exact ih (r + 1) c (by omega) (by omega) ⟨st, li, mr_Lp_cg hp (fun x g1 g2 => ⟨fun z => ⟨by omega, z.2⟩, fun z => ⟨by
            have h1 := z.1
            have h2 : x ≠ r := fun e => by subst e; first | exact ky z.2.1 | exact ks z.2.2
            omega, z.2⟩⟩)⟩
        | (refine mr_weak [some (vR 18 0), some (vI ((c + 1 : Nat) : Int)), some (vI (r + 1))] ⟨rfl, rfl, rfl, trivial⟩ ?_
           exact ih (r + 1) (c + 1) (by omega) (by omega) ⟨_, _, mr_Lp_cg (mr_Lp_add hp (r := r) ⟨h0, by omega⟩ (fun z => by have := z.1; omega)) (fun x g1 g2 => ⟨fun z => z.elim (fun z => ⟨by have := z.1; omega, z.2⟩) (fun e => by subst e; exact ⟨by omega, ky, ks⟩), fun z => by
            by_cases e : x = r
            · exact Or.inr e
            · exact Or.inl ⟨by have := z.1; omega, z.2⟩⟩)⟩)
def T_X7_solutions (a : List mr_AV) (w : mr_Wd) (Po : Option mr_AV → mr_Wd → Prop) : Prop := ∃ (th tp sz zo fr kd nb ft pl wd sm md li sd : Int) (T N R K Sn ik s1 s2 ls : Nat → Int) (W : Nat) (L : Int → mr_V → Prop), a = [vR 18 0] ∧ mr_MW w th tp sz zo fr kd nb ft pl wd sm md li sd T N R K Sn ik s1 s2 ls ∧ mr_NG N W L ∧ (0 < N 0 → ∀ n : Nat, (∃ st li : Nat → Int, mr_Lp (N 0) st li n (mr_sol N)) → (∀ w' : mr_Wd, mr_MW w' (0) tp sz zo fr kd nb ft pl wd sm md li sd T N R K Sn ik s1 s2 ls → mr_FM w w' → Po (some (vI n)) w')) ∧ (N 0 = 0 → (∀ w' : mr_Wd, mr_MW w' (0) tp sz zo fr kd nb ft pl wd sm md li sd T N R K Sn ik s1 s2 ls → mr_FM w w' → Po (some (vI (-1))) w'))
set_option maxHeartbeats 4000000 in
set_option maxRecDepth 20000 in
theorem ok_X7_solutions (l : Launch) (G : mr_G) : mr_Ok l G yX7_solutions cX7_solutions 3 (some .int) 2 44 T_X7_solutions := by
  refine mr_Ok.of (by decide +kernel) ?_
  rintro a w Po ⟨th, tp, sz, zo, fr, kd, nb, ft, pl, wd, sm, md, li, sd, T, N, R, K, Sn, ik, s1, s2, ls, W, L, rfl, hM, ⟨hG0, hG1, hG14, hGW⟩, hP, hQ⟩
  refine ⟨Nat.le_of_ble_eq_true rfl, ?_⟩
  show mr_J l G RX7 cX7_solutions 3 (some .int) 2 44 Po 0 [some (vR 18 0), none, none] [] w
  obtain ⟨h18, h19, h20, h21, h22, h23, h24, h25, h26, h27, hs1, hs2, hik⟩ := id hM
  refine mr_aload_n dX7_solutions_0 rfl ?_
  refine mr_iconst dX7_solutions_1 ?_
  refine mr_put dX7_solutions_2 fl_X7_1 pf_X7_0 rfl rfl (by first | assumption | exact mr_up_same _ _ _ | (refine mr_lk ?_ (by first | assumption | decide); first | assumption | exact mr_up_same _ _ _ | (refine mr_lk ?_ (by first | assumption | decide); first | assumption | exact mr_up_same _ _ _ | (refine mr_lk ?_ (by first | assumption | decide); first | assumption | exact mr_up_same _ _ _ | (refine mr_lk ?_ (by first | assumption | decide); first | assumption | exact mr_up_same _ _ _))))) (Nat.le_of_ble_eq_true rfl) ?_
  refine mw_p0 hM (fun w1 hM1 hF1 => ?_)
  obtain ⟨h18, h19, h20, h21, h22, h23, h24, h25, h26, h27, hs1, hs2, hik⟩ := id hM1
  refine mr_aload_n dX7_solutions_5 rfl ?_
  refine mr_callV (as := []) dX7_solutions_6 (ok_X7_by l G) ml_X7_195 cl_X7_by cv_X7_by (by decide) rfl rfl (Nat.le_of_ble_eq_true rfl) (by first | assumption | exact mr_up_same _ _ _ | (refine mr_lk ?_ (by first | assumption | decide); first | assumption | exact mr_up_same _ _ _ | (refine mr_lk ?_ (by first | assumption | decide); first | assumption | exact mr_up_same _ _ _ | (refine mr_lk ?_ (by first | assumption | decide); first | assumption | exact mr_up_same _ _ _ | (refine mr_lk ?_ (by first | assumption | decide); first | assumption | exact mr_up_same _ _ _))))) ?_
  refine ⟨_, _, _, _, _, _, _, _, _, _, _, _, _, _, _, rfl, (by first | assumption | exact mr_up_same _ _ _ | (refine mr_lk ?_ (by first | assumption | decide); first | assumption | exact mr_up_same _ _ _ | (refine mr_lk ?_ (by first | assumption | decide); first | assumption | exact mr_up_same _ _ _ | (refine mr_lk ?_ (by first | assumption | decide); first | assumption | exact mr_up_same _ _ _ | (refine mr_lk ?_ (by first | assumption | decide); first | assumption | exact mr_up_same _ _ _))))), (by first | assumption | exact mr_up_same _ _ _ | (refine mr_lk ?_ (by first | assumption | decide); first | assumption | exact mr_up_same _ _ _ | (refine mr_lk ?_ (by first | assumption | decide); first | assumption | exact mr_up_same _ _ _ | (refine mr_lk ?_ (by first | assumption | decide); first | assumption | exact mr_up_same _ _ _ | (refine mr_lk ?_ (by first | assumption | decide); first | assumption | exact mr_up_same _ _ _))))), ?_⟩
  dsimp only [Option.toList_some, Option.toList_none, List.cons_append, List.nil_append]
  refine mr_if_ne (tgt := 14) dX7_solutions_9 (by decide) ⟨by show -2147483648 ≤ N 0; omega, by show N 0 < 2147483648; omega⟩ (fun hc_9 => ?_) (fun hc_9 => ?_)
  · refine mr_iconst dX7_solutions_14 ?_
    refine mr_istore_n dX7_solutions_15 rfl (by decide) ?_
    refine mr_iconst dX7_solutions_16 ?_
    refine mr_istore_n dX7_solutions_17 rfl (by decide) ?_
    obtain ⟨e0, e1, hM0, hW0, hFN, hEQ⟩ := hGW (by omega)
    have hMM : 1 ≤ N 0 ∧ N 0 ≤ 30 := ⟨by omega, by omega⟩
    have hm3 := mr_m3 hMM
    have hm2 := mr_m2 hMM
    refine mr_weak [some (vR 18 0), some (vI ((0 : Nat) : Int)), some (vI 0)] ⟨rfl, rfl, rfl, trivial⟩ ?_
    exact lp_X7_solutions l G h18 h20 hMM hG1 hG14 hEQ (fun n hn => hP (by omega) n hn w1 hM1 hF1) (N 0 * N 0 * N 0).toNat 0 0 (Int.le_refl 0) (by omega) ⟨fun _ => 0, fun _ => 0, fun r => Or.inl rfl, fun r hr => ⟨fun z => absurd (show (0 : Int) = 1 from z) (by decide), fun z => by have := z.1; omega⟩, fun q hq => by omega, fun r hr z => by have := z.1; omega, fun i q hi => by omega⟩
  · refine mr_iconst dX7_solutions_12 ?_
    refine mr_iret rfl dX7_solutions_13 ?_
    exact hQ hc_9 w1 hM1 hF1
def T_X7_solution (a : List mr_AV) (w : mr_Wd) (Po : Option mr_AV → mr_Wd → Prop) : Prop := ∃ (th tp sz zo fr kd nb ft pl wd sm md li sd : Int) (T N R K Sn ik s1 s2 ls : Nat → Int) (W : Nat) (L : Int → mr_V → Prop), a = [vR 18 0] ∧ mr_MW w th tp sz zo fr kd nb ft pl wd sm md li sd T N R K Sn ik s1 s2 ls ∧ mr_NG N W L ∧ (0 < N 0 → ∀ r : Int, 0 ≤ r → r < N 0 * N 0 * N 0 → mr_sol N r → (∀ i : Int, 0 ≤ i → i < r → ¬ mr_sol N i) → (∀ w' : mr_Wd, mr_MW w' (0) tp sz zo fr kd nb ft pl wd sm md li sd T N R K Sn ik s1 s2 ls → mr_FM w w' → Po (some (vI (mr_tbk (N 0) r))) w')) ∧ (0 < N 0 → (∀ i : Int, 0 ≤ i → i < N 0 * N 0 * N 0 → ¬ mr_sol N i) → (∀ w' : mr_Wd, mr_MW w' (0) tp sz zo fr kd nb ft pl wd sm md li sd T N R K Sn ik s1 s2 ls → mr_FM w w' → Po (some (vI (-1))) w')) ∧ (N 0 = 0 → (∀ w' : mr_Wd, mr_MW w' (0) tp sz zo fr kd nb ft pl wd sm md li sd T N R K Sn ik s1 s2 ls → mr_FM w w' → Po (some (vI (-1))) w'))
set_option maxHeartbeats 4000000 in
set_option maxRecDepth 20000 in
theorem ok_X7_solution (l : Launch) (G : mr_G) : mr_Ok l G yX7_solution cX7_solution 2 (some .int) 3 65 T_X7_solution := by
  refine mr_Ok.of (by decide +kernel) ?_
  rintro a w Po ⟨th, tp, sz, zo, fr, kd, nb, ft, pl, wd, sm, md, li, sd, T, N, R, K, Sn, ik, s1, s2, ls, W, L, rfl, hM, ⟨hG0, hG1, hG14, hGW⟩, hP, hR, hQ⟩
  refine ⟨Nat.le_of_ble_eq_true rfl, ?_⟩
  show mr_J l G RX7 cX7_solution 2 (some .int) 3 65 Po 0 [some (vR 18 0), none] [] w
  obtain ⟨h18, h19, h20, h21, h22, h23, h24, h25, h26, h27, hs1, hs2, hik⟩ := id hM
  refine mr_aload_n dX7_solution_0 rfl ?_
  refine mr_iconst dX7_solution_1 ?_
  refine mr_put dX7_solution_2 fl_X7_1 pf_X7_0 rfl rfl (by first | assumption | exact mr_up_same _ _ _ | (refine mr_lk ?_ (by first | assumption | decide); first | assumption | exact mr_up_same _ _ _ | (refine mr_lk ?_ (by first | assumption | decide); first | assumption | exact mr_up_same _ _ _ | (refine mr_lk ?_ (by first | assumption | decide); first | assumption | exact mr_up_same _ _ _ | (refine mr_lk ?_ (by first | assumption | decide); first | assumption | exact mr_up_same _ _ _))))) (Nat.le_of_ble_eq_true rfl) ?_
  refine mw_p0 hM (fun w1 hM1 hF1 => ?_)
  obtain ⟨h18, h19, h20, h21, h22, h23, h24, h25, h26, h27, hs1, hs2, hik⟩ := id hM1
  refine mr_aload_n dX7_solution_5 rfl ?_
  refine mr_callV (as := []) dX7_solution_6 (ok_X7_by l G) ml_X7_195 cl_X7_by cv_X7_by (by decide) rfl rfl (Nat.le_of_ble_eq_true rfl) (by first | assumption | exact mr_up_same _ _ _ | (refine mr_lk ?_ (by first | assumption | decide); first | assumption | exact mr_up_same _ _ _ | (refine mr_lk ?_ (by first | assumption | decide); first | assumption | exact mr_up_same _ _ _ | (refine mr_lk ?_ (by first | assumption | decide); first | assumption | exact mr_up_same _ _ _ | (refine mr_lk ?_ (by first | assumption | decide); first | assumption | exact mr_up_same _ _ _))))) ?_
  refine ⟨_, _, _, _, _, _, _, _, _, _, _, _, _, _, _, rfl, (by first | assumption | exact mr_up_same _ _ _ | (refine mr_lk ?_ (by first | assumption | decide); first | assumption | exact mr_up_same _ _ _ | (refine mr_lk ?_ (by first | assumption | decide); first | assumption | exact mr_up_same _ _ _ | (refine mr_lk ?_ (by first | assumption | decide); first | assumption | exact mr_up_same _ _ _ | (refine mr_lk ?_ (by first | assumption | decide); first | assumption | exact mr_up_same _ _ _))))), (by first | assumption | exact mr_up_same _ _ _ | (refine mr_lk ?_ (by first | assumption | decide); first | assumption | exact mr_up_same _ _ _ | (refine mr_lk ?_ (by first | assumption | decide); first | assumption | exact mr_up_same _ _ _ | (refine mr_lk ?_ (by first | assumption | decide); first | assumption | exact mr_up_same _ _ _ | (refine mr_lk ?_ (by first | assumption | decide); first | assumption | exact mr_up_same _ _ _))))), ?_⟩
  dsimp only [Option.toList_some, Option.toList_none, List.cons_append, List.nil_append]
  refine mr_if_ne (tgt := 14) dX7_solution_9 (by decide) ⟨by show -2147483648 ≤ N 0; omega, by show N 0 < 2147483648; omega⟩ (fun hc_9 => ?_) (fun hc_9 => ?_)
  · obtain ⟨e0, e1, hM0, hW0, hFN, hEQ⟩ := hGW (by omega)
    have hMM : 1 ≤ N 0 ∧ N 0 ≤ 30 := ⟨by omega, by omega⟩
    have hm3 := mr_m3 hMM
    have hm2 := mr_m2 hMM
    refine mr_aload_n dX7_solution_14 rfl ?_
    refine mr_callV (as := []) dX7_solution_15 (ok_X7_firstSolution l G) ml_X7_256 cl_X7_firstSolution cv_X7_firstSolution (by decide) rfl rfl (Nat.le_of_ble_eq_true rfl) (by first | assumption | exact mr_up_same _ _ _ | (refine mr_lk ?_ (by first | assumption | decide); first | assumption | exact mr_up_same _ _ _ | (refine mr_lk ?_ (by first | assumption | decide); first | assumption | exact mr_up_same _ _ _ | (refine mr_lk ?_ (by first | assumption | decide); first | assumption | exact mr_up_same _ _ _ | (refine mr_lk ?_ (by first | assumption | decide); first | assumption | exact mr_up_same _ _ _))))) ?_
    refine ⟨_, _, _, _, _, _, _, _, _, _, _, _, _, _, _, rfl, (by first | assumption | exact mr_up_same _ _ _ | (refine mr_lk ?_ (by first | assumption | decide); first | assumption | exact mr_up_same _ _ _ | (refine mr_lk ?_ (by first | assumption | decide); first | assumption | exact mr_up_same _ _ _ | (refine mr_lk ?_ (by first | assumption | decide); first | assumption | exact mr_up_same _ _ _ | (refine mr_lk ?_ (by first | assumption | decide); first | assumption | exact mr_up_same _ _ _))))), (by first | assumption | exact mr_up_same _ _ _ | (refine mr_lk ?_ (by first | assumption | decide); first | assumption | exact mr_up_same _ _ _ | (refine mr_lk ?_ (by first | assumption | decide); first | assumption | exact mr_up_same _ _ _ | (refine mr_lk ?_ (by first | assumption | decide); first | assumption | exact mr_up_same _ _ _ | (refine mr_lk ?_ (by first | assumption | decide); first | assumption | exact mr_up_same _ _ _))))), hMM, hG1, hG14, hEQ, (fun rs hrs => ?_)⟩
    dsimp only [Option.toList_some, Option.toList_none, List.cons_append, List.nil_append]
    refine mr_istore_n dX7_solution_18 rfl (by decide) ?_
    have hrb : -1 ≤ rs ∧ rs < N 0 * N 0 * N 0 := by rcases hrs with h | h <;> omega
    refine mr_iload_n dX7_solution_19 rfl ?_
    refine mr_iconst dX7_solution_20 ?_
    refine mr_icmp_ne (tgt := 28) dX7_solution_21 (by decide) ⟨by omega, by omega⟩ (by decide) (fun hc_21 => ?_) (fun hc_21 => ?_)
    · refine mr_aload_n dX7_solution_28 rfl ?_
      refine mr_iload_n dX7_solution_29 rfl ?_
      refine mr_callV (as := [_]) dX7_solution_30 (ok_X7_toldBack l G) ml_X7_202 cl_X7_toldBack cv_X7_toldBack (by decide) rfl rfl (Nat.le_of_ble_eq_true rfl) (by first | assumption | exact mr_up_same _ _ _ | (refine mr_lk ?_ (by first | assumption | decide); first | assumption | exact mr_up_same _ _ _ | (refine mr_lk ?_ (by first | assumption | decide); first | assumption | exact mr_up_same _ _ _ | (refine mr_lk ?_ (by first | assumption | decide); first | assumption | exact mr_up_same _ _ _ | (refine mr_lk ?_ (by first | assumption | decide); first | assumption | exact mr_up_same _ _ _))))) ?_
      refine ⟨_, _, _, _, _, _, _, _, _, _, _, _, _, _, _, _, rfl, (by first | assumption | exact mr_up_same _ _ _ | (refine mr_lk ?_ (by first | assumption | decide); first | assumption | exact mr_up_same _ _ _ | (refine mr_lk ?_ (by first | assumption | decide); first | assumption | exact mr_up_same _ _ _ | (refine mr_lk ?_ (by first | assumption | decide); first | assumption | exact mr_up_same _ _ _ | (refine mr_lk ?_ (by first | assumption | decide); first | assumption | exact mr_up_same _ _ _))))), (by first | assumption | exact mr_up_same _ _ _ | (refine mr_lk ?_ (by first | assumption | decide); first | assumption | exact mr_up_same _ _ _ | (refine mr_lk ?_ (by first | assumption | decide); first | assumption | exact mr_up_same _ _ _ | (refine mr_lk ?_ (by first | assumption | decide); first | assumption | exact mr_up_same _ _ _ | (refine mr_lk ?_ (by first | assumption | decide); first | assumption | exact mr_up_same _ _ _))))), ⟨by omega, by omega⟩, hMM, ?_⟩
      dsimp only [Option.toList_some, Option.toList_none, List.cons_append, List.nil_append]
      refine mr_iret rfl dX7_solution_33 ?_
      first
        | exact hQ hc_9 w1 hM1 hF1
        | (rcases hrs with ⟨a1, a2, a3, a4⟩ | ⟨a1, a2⟩
           · first | (exfalso; omega) | exact hP (by omega) rs a1 a2 a3 a4 w1 hM1 hF1
           · first | (exfalso; omega) | exact hR (by omega) a2 w1 hM1 hF1)
    · refine mr_iconst dX7_solution_24 ?_
      refine mr_goto (tgt := 33) dX7_solution_25 (by decide) ?_
      refine mr_iret rfl dX7_solution_33 ?_
      first
        | exact hQ hc_9 w1 hM1 hF1
        | (rcases hrs with ⟨a1, a2, a3, a4⟩ | ⟨a1, a2⟩
           · first | (exfalso; omega) | exact hP (by omega) rs a1 a2 a3 a4 w1 hM1 hF1
           · first | (exfalso; omega) | exact hR (by omega) a2 w1 hM1 hF1)
  · refine mr_iconst dX7_solution_12 ?_
    refine mr_iret rfl dX7_solution_13 ?_
    first
      | exact hQ hc_9 w1 hM1 hF1
      | (rcases hrs with ⟨a1, a2, a3, a4⟩ | ⟨a1, a2⟩
         · first | (exfalso; omega) | exact hP (by omega) rs a1 a2 a3 a4 w1 hM1 hF1
         · first | (exfalso; omega) | exact hR (by omega) a2 w1 hM1 hF1)
def mr_shl (N : Nat → Int) (u : Int) : Nat → Int
  | 0 => 0
  | i + 1 => mr_tg (N 0) (mr_shl N u i) (mr_of (N 0) (N (15 + i)) (mr_dec (N 0) u i))
def mr_shr (N : Nat → Int) (u : Int) : Nat → Int
  | 0 => 0
  | i + 1 => (mr_shr N u i + mr_dec (N 0) u i * N (18 + i)) % N 0
/-- multiples show that there is no solution -/
def mr_shw (N : Nat → Int) (u : Int) : Prop := (∀ i : Nat, i < 3 → N 14 ≤ (i : Int) → mr_dec (N 0) u i = 0) ∧ mr_shl N u 3 = 0 ∧ mr_shr N u 3 ≠ 0
set_option maxHeartbeats 4000000 in
set_option maxRecDepth 20000 in
theorem st0_X7_shows (l : Launch) (G : mr_G) {Po : Option mr_AV → mr_Wd → Prop} {w : mr_Wd} {th tp sz zo fr kd nb ft pl wd sm md li sd : Int} {N : Nat → Int} {x : Int} (h18 : w 18 = eMo th tp sz zo fr kd nb ft pl wd sm md li sd) (h20 : w 20 = eA 0 21 N) (hx : 0 ≤ x ∧ x < N 0 * N 0 * N 0) (hMM : 1 ≤ N 0 ∧ N 0 ≤ 30) (h14 : 0 ≤ N 14 ∧ N 14 ≤ 3) (hb : (∀ i : Int, 0 ≤ i → i < 3 → (0 ≤ N (15 + i).toNat ∧ N (15 + i).toNat < N 0 * N 0 * N 0) ∧ (0 ≤ N (18 + i).toNat ∧ N (18 + i).toNat < N 0))) (hs : 0 ≤ mr_shl N x 0 ∧ mr_shl N x 0 ≤ 27000) (hr : 0 ≤ mr_shr N x 0 ∧ mr_shr N x 0 ≤ 30) (hQ : N 14 ≤ 0 → mr_dec (N 0) x 0 ≠ 0 → Po (some (vI 0)) w) (hK : (N 14 ≤ 0 → mr_dec (N 0) x 0 = 0) → mr_J l G RX7 cX7_shows 7 (some .boolean) 1 22 Po 13 [some (vR 18 0), some (vI x), some (vI (N 0)), some (vI (mr_shl N x 1)), some (vI (mr_shr N x 1)), some (vI 1), none] [] w) : mr_J l G RX7 cX7_shows 7 (some .boolean) 1 22 Po 13 [some (vR 18 0), some (vI x), some (vI (N 0)), some (vI (mr_shl N x 0)), some (vI (mr_shr N x 0)), some (vI 0), none] [] w := by
  have hm3 := mr_m3 hMM
  have hm2 := mr_m2 hMM
  have hd := mr_dec_box (M := N 0) (by omega) hx.1 hx.2 0 (by decide)
  have e0 : mr_dec (N 0) x 0 = x / (N 0 * N 0) := rfl
  have a1 := mr_dvb hx.1 (show 0 < N 0 by omega)
  have hbc := hb 0 (by decide) (by decide)
  have hbl : 0 ≤ N (15) ∧ N (15) < N 0 * N 0 * N 0 := hbc.1
  have hbr : 0 ≤ N (18) ∧ N (18) < N 0 := hbc.2
  have hof := mr_of_bd (M := N 0) (by omega) (N 15) (x / (N 0 * N 0))
  have hmu := mr_mulb (x := x / (N 0 * N 0)) (y := N 18) (A := 30) (B := 30) (by omega) (by omega)
  refine mr_iload dX7_shows_13 rfl ?_
  refine mr_iconst dX7_shows_15 ?_
  refine mr_icmp_ge (tgt := 115) dX7_shows_16 (by decide) (by decide) (by decide) (fun h => absurd h (by decide)) (fun _ => ?_)
  refine mr_iload dX7_shows_19 rfl ?_
  refine mr_if_ne (tgt := 32) dX7_shows_21 (by decide) (by omega) (fun h => absurd h (by decide)) (fun _ => ?_)
  refine mr_iload_n dX7_shows_24 rfl ?_
  refine mr_iload_n dX7_shows_25 rfl ?_
  refine mr_iload_n dX7_shows_26 rfl ?_
  refine mr_imul dX7_shows_27 ?_
  refine mr_idivp dX7_shows_28 (by omega) (by omega) (by omega) (by omega) ?_
  refine mr_goto (tgt := 49) dX7_shows_29 (by decide) ?_
  refine mr_istore dX7_shows_49 rfl (by decide) ?_
  refine mr_iload dX7_shows_51 rfl ?_
  refine mr_aload_n dX7_shows_53 rfl ?_
  refine mr_callV (as := []) dX7_shows_54 (ok_X7_equations l G) ml_X7_250 cl_X7_equations cv_X7_equations (by decide) rfl rfl (Nat.le_of_ble_eq_true rfl) (by first | assumption | exact mr_up_same _ _ _ | (refine mr_lk ?_ (by first | assumption | decide); first | assumption | exact mr_up_same _ _ _ | (refine mr_lk ?_ (by first | assumption | decide); first | assumption | exact mr_up_same _ _ _ | (refine mr_lk ?_ (by first | assumption | decide); first | assumption | exact mr_up_same _ _ _ | (refine mr_lk ?_ (by first | assumption | decide); first | assumption | exact mr_up_same _ _ _))))) ?_
  refine ⟨_, _, _, _, _, _, _, _, _, _, _, _, _, _, _, rfl, (by first | assumption | exact mr_up_same _ _ _ | (refine mr_lk ?_ (by first | assumption | decide); first | assumption | exact mr_up_same _ _ _ | (refine mr_lk ?_ (by first | assumption | decide); first | assumption | exact mr_up_same _ _ _ | (refine mr_lk ?_ (by first | assumption | decide); first | assumption | exact mr_up_same _ _ _ | (refine mr_lk ?_ (by first | assumption | decide); first | assumption | exact mr_up_same _ _ _))))), (by first | assumption | exact mr_up_same _ _ _ | (refine mr_lk ?_ (by first | assumption | decide); first | assumption | exact mr_up_same _ _ _ | (refine mr_lk ?_ (by first | assumption | decide); first | assumption | exact mr_up_same _ _ _ | (refine mr_lk ?_ (by first | assumption | decide); first | assumption | exact mr_up_same _ _ _ | (refine mr_lk ?_ (by first | assumption | decide); first | assumption | exact mr_up_same _ _ _))))), ?_⟩
  dsimp only [Option.toList_some, Option.toList_none, List.cons_append, List.nil_append]
  refine mr_icmp_lt (tgt := 67) dX7_shows_57 (by decide) (by decide) ⟨by omega, by omega⟩ (fun hc_57 => ?_) (fun hc_57 => ?_)
  · refine mr_iload_n dX7_shows_67 rfl ?_
    refine mr_aload_n dX7_shows_68 rfl ?_
    refine mr_get dX7_shows_69 fl_X7_86 (by first | assumption | exact mr_up_same _ _ _ | (refine mr_lk ?_ (by first | assumption | decide); first | assumption | exact mr_up_same _ _ _ | (refine mr_lk ?_ (by first | assumption | decide); first | assumption | exact mr_up_same _ _ _ | (refine mr_lk ?_ (by first | assumption | decide); first | assumption | exact mr_up_same _ _ _ | (refine mr_lk ?_ (by first | assumption | decide); first | assumption | exact mr_up_same _ _ _))))) rfl ?_
    refine mr_bipush dX7_shows_72 rfl ?_
    refine mr_iload dX7_shows_74 rfl ?_
    refine mr_iadd dX7_shows_76 ?_
    refine mr_ialdK 15 dX7_shows_77 (by first | assumption | exact mr_up_same _ _ _ | (refine mr_lk ?_ (by first | assumption | decide); first | assumption | exact mr_up_same _ _ _ | (refine mr_lk ?_ (by first | assumption | decide); first | assumption | exact mr_up_same _ _ _ | (refine mr_lk ?_ (by first | assumption | decide); first | assumption | exact mr_up_same _ _ _ | (refine mr_lk ?_ (by first | assumption | decide); first | assumption | exact mr_up_same _ _ _))))) (by decide) (by decide) ?_
    refine mr_iload dX7_shows_78 rfl ?_
    refine mr_iload_n dX7_shows_80 rfl ?_
    refine mr_callS (as := [_, _, _]) dX7_shows_81 (ok_X7_often l G) ml_X7_214 cl_X7_often cs_X7_often (by decide) rfl rfl (Nat.le_of_ble_eq_true rfl) ?_
    refine ⟨_, _, _, rfl, (by omega), (by omega), hMM, ?_⟩
    dsimp only [Option.toList_some, Option.toList_none, List.cons_append, List.nil_append]
    refine mr_iload_n dX7_shows_84 rfl ?_
    refine mr_callS (as := [_, _, _]) dX7_shows_85 (ok_X7_together l G) ml_X7_183 cl_X7_together cs_X7_together (by decide) rfl rfl (Nat.le_of_ble_eq_true rfl) ?_
    refine ⟨_, _, _, rfl, (by omega), (by omega), hMM, ?_⟩
    dsimp only [Option.toList_some, Option.toList_none, List.cons_append, List.nil_append]
    refine mr_istore_n dX7_shows_88 rfl (by decide) ?_
    refine mr_iload dX7_shows_89 rfl ?_
    refine mr_iload dX7_shows_91 rfl ?_
    refine mr_aload_n dX7_shows_93 rfl ?_
    refine mr_get dX7_shows_94 fl_X7_86 (by first | assumption | exact mr_up_same _ _ _ | (refine mr_lk ?_ (by first | assumption | decide); first | assumption | exact mr_up_same _ _ _ | (refine mr_lk ?_ (by first | assumption | decide); first | assumption | exact mr_up_same _ _ _ | (refine mr_lk ?_ (by first | assumption | decide); first | assumption | exact mr_up_same _ _ _ | (refine mr_lk ?_ (by first | assumption | decide); first | assumption | exact mr_up_same _ _ _))))) rfl ?_
    refine mr_bipush dX7_shows_97 rfl ?_
    refine mr_iload dX7_shows_99 rfl ?_
    refine mr_iadd dX7_shows_101 ?_
    refine mr_ialdK 18 dX7_shows_102 (by first | assumption | exact mr_up_same _ _ _ | (refine mr_lk ?_ (by first | assumption | decide); first | assumption | exact mr_up_same _ _ _ | (refine mr_lk ?_ (by first | assumption | decide); first | assumption | exact mr_up_same _ _ _ | (refine mr_lk ?_ (by first | assumption | decide); first | assumption | exact mr_up_same _ _ _ | (refine mr_lk ?_ (by first | assumption | decide); first | assumption | exact mr_up_same _ _ _))))) (by decide) (by decide) ?_
    refine mr_imul dX7_shows_103 ?_
    refine mr_iadd dX7_shows_104 ?_
    refine mr_iload_n dX7_shows_105 rfl ?_
    refine mr_iremp dX7_shows_106 (by omega) (by omega) (by omega) (by omega) ?_
    refine mr_istore dX7_shows_107 rfl (by decide) ?_
    refine mr_iinc dX7_shows_109 rfl (by decide) rfl ?_
    refine mr_goto (tgt := 13) dX7_shows_112 (by decide) ?_
    refine mr_weak [some (vR 18 0), some (vI x), some (vI (N 0)), some (vI (mr_shl N x 1)), some (vI (mr_shr N x 1)), some (vI 1), none] ⟨rfl, rfl, rfl, rfl, rfl, rfl, trivial⟩ ?_
    exact hK (fun z => by omega)
  · refine mr_iload dX7_shows_60 rfl ?_
    refine mr_if_le (tgt := 67) dX7_shows_62 (by decide) ⟨by omega, by omega⟩ (fun hc_62 => ?_) (fun hc_62 => ?_)
    · refine mr_iload_n dX7_shows_67 rfl ?_
      refine mr_aload_n dX7_shows_68 rfl ?_
      refine mr_get dX7_shows_69 fl_X7_86 (by first | assumption | exact mr_up_same _ _ _ | (refine mr_lk ?_ (by first | assumption | decide); first | assumption | exact mr_up_same _ _ _ | (refine mr_lk ?_ (by first | assumption | decide); first | assumption | exact mr_up_same _ _ _ | (refine mr_lk ?_ (by first | assumption | decide); first | assumption | exact mr_up_same _ _ _ | (refine mr_lk ?_ (by first | assumption | decide); first | assumption | exact mr_up_same _ _ _))))) rfl ?_
      refine mr_bipush dX7_shows_72 rfl ?_
      refine mr_iload dX7_shows_74 rfl ?_
      refine mr_iadd dX7_shows_76 ?_
      refine mr_ialdK 15 dX7_shows_77 (by first | assumption | exact mr_up_same _ _ _ | (refine mr_lk ?_ (by first | assumption | decide); first | assumption | exact mr_up_same _ _ _ | (refine mr_lk ?_ (by first | assumption | decide); first | assumption | exact mr_up_same _ _ _ | (refine mr_lk ?_ (by first | assumption | decide); first | assumption | exact mr_up_same _ _ _ | (refine mr_lk ?_ (by first | assumption | decide); first | assumption | exact mr_up_same _ _ _))))) (by decide) (by decide) ?_
      refine mr_iload dX7_shows_78 rfl ?_
      refine mr_iload_n dX7_shows_80 rfl ?_
      refine mr_callS (as := [_, _, _]) dX7_shows_81 (ok_X7_often l G) ml_X7_214 cl_X7_often cs_X7_often (by decide) rfl rfl (Nat.le_of_ble_eq_true rfl) ?_
      refine ⟨_, _, _, rfl, (by omega), (by omega), hMM, ?_⟩
      dsimp only [Option.toList_some, Option.toList_none, List.cons_append, List.nil_append]
      refine mr_iload_n dX7_shows_84 rfl ?_
      refine mr_callS (as := [_, _, _]) dX7_shows_85 (ok_X7_together l G) ml_X7_183 cl_X7_together cs_X7_together (by decide) rfl rfl (Nat.le_of_ble_eq_true rfl) ?_
      refine ⟨_, _, _, rfl, (by omega), (by omega), hMM, ?_⟩
      dsimp only [Option.toList_some, Option.toList_none, List.cons_append, List.nil_append]
      refine mr_istore_n dX7_shows_88 rfl (by decide) ?_
      refine mr_iload dX7_shows_89 rfl ?_
      refine mr_iload dX7_shows_91 rfl ?_
      refine mr_aload_n dX7_shows_93 rfl ?_
      refine mr_get dX7_shows_94 fl_X7_86 (by first | assumption | exact mr_up_same _ _ _ | (refine mr_lk ?_ (by first | assumption | decide); first | assumption | exact mr_up_same _ _ _ | (refine mr_lk ?_ (by first | assumption | decide); first | assumption | exact mr_up_same _ _ _ | (refine mr_lk ?_ (by first | assumption | decide); first | assumption | exact mr_up_same _ _ _ | (refine mr_lk ?_ (by first | assumption | decide); first | assumption | exact mr_up_same _ _ _))))) rfl ?_
      refine mr_bipush dX7_shows_97 rfl ?_
      refine mr_iload dX7_shows_99 rfl ?_
      refine mr_iadd dX7_shows_101 ?_
      refine mr_ialdK 18 dX7_shows_102 (by first | assumption | exact mr_up_same _ _ _ | (refine mr_lk ?_ (by first | assumption | decide); first | assumption | exact mr_up_same _ _ _ | (refine mr_lk ?_ (by first | assumption | decide); first | assumption | exact mr_up_same _ _ _ | (refine mr_lk ?_ (by first | assumption | decide); first | assumption | exact mr_up_same _ _ _ | (refine mr_lk ?_ (by first | assumption | decide); first | assumption | exact mr_up_same _ _ _))))) (by decide) (by decide) ?_
      refine mr_imul dX7_shows_103 ?_
      refine mr_iadd dX7_shows_104 ?_
      refine mr_iload_n dX7_shows_105 rfl ?_
      refine mr_iremp dX7_shows_106 (by omega) (by omega) (by omega) (by omega) ?_
      refine mr_istore dX7_shows_107 rfl (by decide) ?_
      refine mr_iinc dX7_shows_109 rfl (by decide) rfl ?_
      refine mr_goto (tgt := 13) dX7_shows_112 (by decide) ?_
      refine mr_weak [some (vR 18 0), some (vI x), some (vI (N 0)), some (vI (mr_shl N x 1)), some (vI (mr_shr N x 1)), some (vI 1), none] ⟨rfl, rfl, rfl, rfl, rfl, rfl, trivial⟩ ?_
      exact hK (fun z => by omega)
    · refine mr_iconst dX7_shows_65 ?_
      refine mr_zret rfl (Or.inl rfl) dX7_shows_66 ?_
      exact hQ (by omega) (by omega)
set_option maxHeartbeats 4000000 in
set_option maxRecDepth 20000 in
theorem st1_X7_shows (l : Launch) (G : mr_G) {Po : Option mr_AV → mr_Wd → Prop} {w : mr_Wd} {th tp sz zo fr kd nb ft pl wd sm md li sd : Int} {N : Nat → Int} {x : Int} (h18 : w 18 = eMo th tp sz zo fr kd nb ft pl wd sm md li sd) (h20 : w 20 = eA 0 21 N) (hx : 0 ≤ x ∧ x < N 0 * N 0 * N 0) (hMM : 1 ≤ N 0 ∧ N 0 ≤ 30) (h14 : 0 ≤ N 14 ∧ N 14 ≤ 3) (hb : (∀ i : Int, 0 ≤ i → i < 3 → (0 ≤ N (15 + i).toNat ∧ N (15 + i).toNat < N 0 * N 0 * N 0) ∧ (0 ≤ N (18 + i).toNat ∧ N (18 + i).toNat < N 0))) (hs : 0 ≤ mr_shl N x 1 ∧ mr_shl N x 1 ≤ 27000) (hr : 0 ≤ mr_shr N x 1 ∧ mr_shr N x 1 ≤ 30) (hQ : N 14 ≤ 1 → mr_dec (N 0) x 1 ≠ 0 → Po (some (vI 0)) w) (hK : (N 14 ≤ 1 → mr_dec (N 0) x 1 = 0) → mr_J l G RX7 cX7_shows 7 (some .boolean) 1 22 Po 13 [some (vR 18 0), some (vI x), some (vI (N 0)), some (vI (mr_shl N x 2)), some (vI (mr_shr N x 2)), some (vI 2), none] [] w) : mr_J l G RX7 cX7_shows 7 (some .boolean) 1 22 Po 13 [some (vR 18 0), some (vI x), some (vI (N 0)), some (vI (mr_shl N x 1)), some (vI (mr_shr N x 1)), some (vI 1), none] [] w := by
  have hm3 := mr_m3 hMM
  have hm2 := mr_m2 hMM
  have hd := mr_dec_box (M := N 0) (by omega) hx.1 hx.2 1 (by decide)
  have e0 : mr_dec (N 0) x 1 = x / N 0 % N 0 := rfl
  have a1 := mr_dvb hx.1 (show 0 < N 0 by omega)
  have hbc := hb 1 (by decide) (by decide)
  have hbl : 0 ≤ N (16) ∧ N (16) < N 0 * N 0 * N 0 := hbc.1
  have hbr : 0 ≤ N (19) ∧ N (19) < N 0 := hbc.2
  have hof := mr_of_bd (M := N 0) (by omega) (N 16) (x / N 0 % N 0)
  have hmu := mr_mulb (x := x / N 0 % N 0) (y := N 19) (A := 30) (B := 30) (by omega) (by omega)
  refine mr_iload dX7_shows_13 rfl ?_
  refine mr_iconst dX7_shows_15 ?_
  refine mr_icmp_ge (tgt := 115) dX7_shows_16 (by decide) (by decide) (by decide) (fun h => absurd h (by decide)) (fun _ => ?_)
  refine mr_iload dX7_shows_19 rfl ?_
  refine mr_if_ne (tgt := 32) dX7_shows_21 (by decide) (by omega) (fun _ => ?_) (fun h => absurd h (by decide))
  refine mr_iload dX7_shows_32 rfl ?_
  refine mr_iconst dX7_shows_34 ?_
  refine mr_icmp_ne (tgt := 46) dX7_shows_35 (by decide) (by omega) (by omega) (fun h => absurd h (by decide)) (fun _ => ?_)
  refine mr_iload_n dX7_shows_38 rfl ?_
  refine mr_iload_n dX7_shows_39 rfl ?_
  refine mr_idivp dX7_shows_40 (by omega) (by omega) (by omega) (by omega) ?_
  refine mr_iload_n dX7_shows_41 rfl ?_
  refine mr_iremp dX7_shows_42 (by omega) (by omega) (by omega) (by omega) ?_
  refine mr_goto (tgt := 49) dX7_shows_43 (by decide) ?_
  refine mr_istore dX7_shows_49 rfl (by decide) ?_
  refine mr_iload dX7_shows_51 rfl ?_
  refine mr_aload_n dX7_shows_53 rfl ?_
  refine mr_callV (as := []) dX7_shows_54 (ok_X7_equations l G) ml_X7_250 cl_X7_equations cv_X7_equations (by decide) rfl rfl (Nat.le_of_ble_eq_true rfl) (by first | assumption | exact mr_up_same _ _ _ | (refine mr_lk ?_ (by first | assumption | decide); first | assumption | exact mr_up_same _ _ _ | (refine mr_lk ?_ (by first | assumption | decide); first | assumption | exact mr_up_same _ _ _ | (refine mr_lk ?_ (by first | assumption | decide); first | assumption | exact mr_up_same _ _ _ | (refine mr_lk ?_ (by first | assumption | decide); first | assumption | exact mr_up_same _ _ _))))) ?_
  refine ⟨_, _, _, _, _, _, _, _, _, _, _, _, _, _, _, rfl, (by first | assumption | exact mr_up_same _ _ _ | (refine mr_lk ?_ (by first | assumption | decide); first | assumption | exact mr_up_same _ _ _ | (refine mr_lk ?_ (by first | assumption | decide); first | assumption | exact mr_up_same _ _ _ | (refine mr_lk ?_ (by first | assumption | decide); first | assumption | exact mr_up_same _ _ _ | (refine mr_lk ?_ (by first | assumption | decide); first | assumption | exact mr_up_same _ _ _))))), (by first | assumption | exact mr_up_same _ _ _ | (refine mr_lk ?_ (by first | assumption | decide); first | assumption | exact mr_up_same _ _ _ | (refine mr_lk ?_ (by first | assumption | decide); first | assumption | exact mr_up_same _ _ _ | (refine mr_lk ?_ (by first | assumption | decide); first | assumption | exact mr_up_same _ _ _ | (refine mr_lk ?_ (by first | assumption | decide); first | assumption | exact mr_up_same _ _ _))))), ?_⟩
  dsimp only [Option.toList_some, Option.toList_none, List.cons_append, List.nil_append]
  refine mr_icmp_lt (tgt := 67) dX7_shows_57 (by decide) (by decide) ⟨by omega, by omega⟩ (fun hc_57 => ?_) (fun hc_57 => ?_)
  · refine mr_iload_n dX7_shows_67 rfl ?_
    refine mr_aload_n dX7_shows_68 rfl ?_
    refine mr_get dX7_shows_69 fl_X7_86 (by first | assumption | exact mr_up_same _ _ _ | (refine mr_lk ?_ (by first | assumption | decide); first | assumption | exact mr_up_same _ _ _ | (refine mr_lk ?_ (by first | assumption | decide); first | assumption | exact mr_up_same _ _ _ | (refine mr_lk ?_ (by first | assumption | decide); first | assumption | exact mr_up_same _ _ _ | (refine mr_lk ?_ (by first | assumption | decide); first | assumption | exact mr_up_same _ _ _))))) rfl ?_
    refine mr_bipush dX7_shows_72 rfl ?_
    refine mr_iload dX7_shows_74 rfl ?_
    refine mr_iadd dX7_shows_76 ?_
    refine mr_ialdK 16 dX7_shows_77 (by first | assumption | exact mr_up_same _ _ _ | (refine mr_lk ?_ (by first | assumption | decide); first | assumption | exact mr_up_same _ _ _ | (refine mr_lk ?_ (by first | assumption | decide); first | assumption | exact mr_up_same _ _ _ | (refine mr_lk ?_ (by first | assumption | decide); first | assumption | exact mr_up_same _ _ _ | (refine mr_lk ?_ (by first | assumption | decide); first | assumption | exact mr_up_same _ _ _))))) (by decide) (by decide) ?_
    refine mr_iload dX7_shows_78 rfl ?_
    refine mr_iload_n dX7_shows_80 rfl ?_
    refine mr_callS (as := [_, _, _]) dX7_shows_81 (ok_X7_often l G) ml_X7_214 cl_X7_often cs_X7_often (by decide) rfl rfl (Nat.le_of_ble_eq_true rfl) ?_
    refine ⟨_, _, _, rfl, (by omega), (by omega), hMM, ?_⟩
    dsimp only [Option.toList_some, Option.toList_none, List.cons_append, List.nil_append]
    refine mr_iload_n dX7_shows_84 rfl ?_
    refine mr_callS (as := [_, _, _]) dX7_shows_85 (ok_X7_together l G) ml_X7_183 cl_X7_together cs_X7_together (by decide) rfl rfl (Nat.le_of_ble_eq_true rfl) ?_
    refine ⟨_, _, _, rfl, (by omega), (by omega), hMM, ?_⟩
    dsimp only [Option.toList_some, Option.toList_none, List.cons_append, List.nil_append]
    refine mr_istore_n dX7_shows_88 rfl (by decide) ?_
    refine mr_iload dX7_shows_89 rfl ?_
    refine mr_iload dX7_shows_91 rfl ?_
    refine mr_aload_n dX7_shows_93 rfl ?_
    refine mr_get dX7_shows_94 fl_X7_86 (by first | assumption | exact mr_up_same _ _ _ | (refine mr_lk ?_ (by first | assumption | decide); first | assumption | exact mr_up_same _ _ _ | (refine mr_lk ?_ (by first | assumption | decide); first | assumption | exact mr_up_same _ _ _ | (refine mr_lk ?_ (by first | assumption | decide); first | assumption | exact mr_up_same _ _ _ | (refine mr_lk ?_ (by first | assumption | decide); first | assumption | exact mr_up_same _ _ _))))) rfl ?_
    refine mr_bipush dX7_shows_97 rfl ?_
    refine mr_iload dX7_shows_99 rfl ?_
    refine mr_iadd dX7_shows_101 ?_
    refine mr_ialdK 19 dX7_shows_102 (by first | assumption | exact mr_up_same _ _ _ | (refine mr_lk ?_ (by first | assumption | decide); first | assumption | exact mr_up_same _ _ _ | (refine mr_lk ?_ (by first | assumption | decide); first | assumption | exact mr_up_same _ _ _ | (refine mr_lk ?_ (by first | assumption | decide); first | assumption | exact mr_up_same _ _ _ | (refine mr_lk ?_ (by first | assumption | decide); first | assumption | exact mr_up_same _ _ _))))) (by decide) (by decide) ?_
    refine mr_imul dX7_shows_103 ?_
    refine mr_iadd dX7_shows_104 ?_
    refine mr_iload_n dX7_shows_105 rfl ?_
    refine mr_iremp dX7_shows_106 (by omega) (by omega) (by omega) (by omega) ?_
    refine mr_istore dX7_shows_107 rfl (by decide) ?_
    refine mr_iinc dX7_shows_109 rfl (by decide) rfl ?_
    refine mr_goto (tgt := 13) dX7_shows_112 (by decide) ?_
    refine mr_weak [some (vR 18 0), some (vI x), some (vI (N 0)), some (vI (mr_shl N x 2)), some (vI (mr_shr N x 2)), some (vI 2), none] ⟨rfl, rfl, rfl, rfl, rfl, rfl, trivial⟩ ?_
    exact hK (fun z => by omega)
  · refine mr_iload dX7_shows_60 rfl ?_
    refine mr_if_le (tgt := 67) dX7_shows_62 (by decide) ⟨by omega, by omega⟩ (fun hc_62 => ?_) (fun hc_62 => ?_)
    · refine mr_iload_n dX7_shows_67 rfl ?_
      refine mr_aload_n dX7_shows_68 rfl ?_
      refine mr_get dX7_shows_69 fl_X7_86 (by first | assumption | exact mr_up_same _ _ _ | (refine mr_lk ?_ (by first | assumption | decide); first | assumption | exact mr_up_same _ _ _ | (refine mr_lk ?_ (by first | assumption | decide); first | assumption | exact mr_up_same _ _ _ | (refine mr_lk ?_ (by first | assumption | decide); first | assumption | exact mr_up_same _ _ _ | (refine mr_lk ?_ (by first | assumption | decide); first | assumption | exact mr_up_same _ _ _))))) rfl ?_
      refine mr_bipush dX7_shows_72 rfl ?_
      refine mr_iload dX7_shows_74 rfl ?_
      refine mr_iadd dX7_shows_76 ?_
      refine mr_ialdK 16 dX7_shows_77 (by first | assumption | exact mr_up_same _ _ _ | (refine mr_lk ?_ (by first | assumption | decide); first | assumption | exact mr_up_same _ _ _ | (refine mr_lk ?_ (by first | assumption | decide); first | assumption | exact mr_up_same _ _ _ | (refine mr_lk ?_ (by first | assumption | decide); first | assumption | exact mr_up_same _ _ _ | (refine mr_lk ?_ (by first | assumption | decide); first | assumption | exact mr_up_same _ _ _))))) (by decide) (by decide) ?_
      refine mr_iload dX7_shows_78 rfl ?_
      refine mr_iload_n dX7_shows_80 rfl ?_
      refine mr_callS (as := [_, _, _]) dX7_shows_81 (ok_X7_often l G) ml_X7_214 cl_X7_often cs_X7_often (by decide) rfl rfl (Nat.le_of_ble_eq_true rfl) ?_
      refine ⟨_, _, _, rfl, (by omega), (by omega), hMM, ?_⟩
      dsimp only [Option.toList_some, Option.toList_none, List.cons_append, List.nil_append]
      refine mr_iload_n dX7_shows_84 rfl ?_
      refine mr_callS (as := [_, _, _]) dX7_shows_85 (ok_X7_together l G) ml_X7_183 cl_X7_together cs_X7_together (by decide) rfl rfl (Nat.le_of_ble_eq_true rfl) ?_
      refine ⟨_, _, _, rfl, (by omega), (by omega), hMM, ?_⟩
      dsimp only [Option.toList_some, Option.toList_none, List.cons_append, List.nil_append]
      refine mr_istore_n dX7_shows_88 rfl (by decide) ?_
      refine mr_iload dX7_shows_89 rfl ?_
      refine mr_iload dX7_shows_91 rfl ?_
      refine mr_aload_n dX7_shows_93 rfl ?_
      refine mr_get dX7_shows_94 fl_X7_86 (by first | assumption | exact mr_up_same _ _ _ | (refine mr_lk ?_ (by first | assumption | decide); first | assumption | exact mr_up_same _ _ _ | (refine mr_lk ?_ (by first | assumption | decide); first | assumption | exact mr_up_same _ _ _ | (refine mr_lk ?_ (by first | assumption | decide); first | assumption | exact mr_up_same _ _ _ | (refine mr_lk ?_ (by first | assumption | decide); first | assumption | exact mr_up_same _ _ _))))) rfl ?_
      refine mr_bipush dX7_shows_97 rfl ?_
      refine mr_iload dX7_shows_99 rfl ?_
      refine mr_iadd dX7_shows_101 ?_
      refine mr_ialdK 19 dX7_shows_102 (by first | assumption | exact mr_up_same _ _ _ | (refine mr_lk ?_ (by first | assumption | decide); first | assumption | exact mr_up_same _ _ _ | (refine mr_lk ?_ (by first | assumption | decide); first | assumption | exact mr_up_same _ _ _ | (refine mr_lk ?_ (by first | assumption | decide); first | assumption | exact mr_up_same _ _ _ | (refine mr_lk ?_ (by first | assumption | decide); first | assumption | exact mr_up_same _ _ _))))) (by decide) (by decide) ?_
      refine mr_imul dX7_shows_103 ?_
      refine mr_iadd dX7_shows_104 ?_
      refine mr_iload_n dX7_shows_105 rfl ?_
      refine mr_iremp dX7_shows_106 (by omega) (by omega) (by omega) (by omega) ?_
      refine mr_istore dX7_shows_107 rfl (by decide) ?_
      refine mr_iinc dX7_shows_109 rfl (by decide) rfl ?_
      refine mr_goto (tgt := 13) dX7_shows_112 (by decide) ?_
      refine mr_weak [some (vR 18 0), some (vI x), some (vI (N 0)), some (vI (mr_shl N x 2)), some (vI (mr_shr N x 2)), some (vI 2), none] ⟨rfl, rfl, rfl, rfl, rfl, rfl, trivial⟩ ?_
      exact hK (fun z => by omega)
    · refine mr_iconst dX7_shows_65 ?_
      refine mr_zret rfl (Or.inl rfl) dX7_shows_66 ?_
      exact hQ (by omega) (by omega)
set_option maxHeartbeats 4000000 in
set_option maxRecDepth 20000 in
theorem st2_X7_shows (l : Launch) (G : mr_G) {Po : Option mr_AV → mr_Wd → Prop} {w : mr_Wd} {th tp sz zo fr kd nb ft pl wd sm md li sd : Int} {N : Nat → Int} {x : Int} (h18 : w 18 = eMo th tp sz zo fr kd nb ft pl wd sm md li sd) (h20 : w 20 = eA 0 21 N) (hx : 0 ≤ x ∧ x < N 0 * N 0 * N 0) (hMM : 1 ≤ N 0 ∧ N 0 ≤ 30) (h14 : 0 ≤ N 14 ∧ N 14 ≤ 3) (hb : (∀ i : Int, 0 ≤ i → i < 3 → (0 ≤ N (15 + i).toNat ∧ N (15 + i).toNat < N 0 * N 0 * N 0) ∧ (0 ≤ N (18 + i).toNat ∧ N (18 + i).toNat < N 0))) (hs : 0 ≤ mr_shl N x 2 ∧ mr_shl N x 2 ≤ 27000) (hr : 0 ≤ mr_shr N x 2 ∧ mr_shr N x 2 ≤ 30) (hQ : N 14 ≤ 2 → mr_dec (N 0) x 2 ≠ 0 → Po (some (vI 0)) w) (hK : (N 14 ≤ 2 → mr_dec (N 0) x 2 = 0) → mr_J l G RX7 cX7_shows 7 (some .boolean) 1 22 Po 13 [some (vR 18 0), some (vI x), some (vI (N 0)), some (vI (mr_shl N x 3)), some (vI (mr_shr N x 3)), some (vI 3), none] [] w) : mr_J l G RX7 cX7_shows 7 (some .boolean) 1 22 Po 13 [some (vR 18 0), some (vI x), some (vI (N 0)), some (vI (mr_shl N x 2)), some (vI (mr_shr N x 2)), some (vI 2), none] [] w := by
  have hm3 := mr_m3 hMM
  have hm2 := mr_m2 hMM
  have hd := mr_dec_box (M := N 0) (by omega) hx.1 hx.2 2 (by decide)
  have e0 : mr_dec (N 0) x 2 = x % N 0 := rfl
  have a1 := mr_dvb hx.1 (show 0 < N 0 by omega)
  have hbc := hb 2 (by decide) (by decide)
  have hbl : 0 ≤ N (17) ∧ N (17) < N 0 * N 0 * N 0 := hbc.1
  have hbr : 0 ≤ N (20) ∧ N (20) < N 0 := hbc.2
  have hof := mr_of_bd (M := N 0) (by omega) (N 17) (x % N 0)
  have hmu := mr_mulb (x := x % N 0) (y := N 20) (A := 30) (B := 30) (by omega) (by omega)
  refine mr_iload dX7_shows_13 rfl ?_
  refine mr_iconst dX7_shows_15 ?_
  refine mr_icmp_ge (tgt := 115) dX7_shows_16 (by decide) (by decide) (by decide) (fun h => absurd h (by decide)) (fun _ => ?_)
  refine mr_iload dX7_shows_19 rfl ?_
  refine mr_if_ne (tgt := 32) dX7_shows_21 (by decide) (by omega) (fun _ => ?_) (fun h => absurd h (by decide))
  refine mr_iload dX7_shows_32 rfl ?_
  refine mr_iconst dX7_shows_34 ?_
  refine mr_icmp_ne (tgt := 46) dX7_shows_35 (by decide) (by omega) (by omega) (fun _ => ?_) (fun h => absurd h (by decide))
  refine mr_iload_n dX7_shows_46 rfl ?_
  refine mr_iload_n dX7_shows_47 rfl ?_
  refine mr_iremp dX7_shows_48 (by omega) (by omega) (by omega) (by omega) ?_
  refine mr_istore dX7_shows_49 rfl (by decide) ?_
  refine mr_iload dX7_shows_51 rfl ?_
  refine mr_aload_n dX7_shows_53 rfl ?_
  refine mr_callV (as := []) dX7_shows_54 (ok_X7_equations l G) ml_X7_250 cl_X7_equations cv_X7_equations (by decide) rfl rfl (Nat.le_of_ble_eq_true rfl) (by first | assumption | exact mr_up_same _ _ _ | (refine mr_lk ?_ (by first | assumption | decide); first | assumption | exact mr_up_same _ _ _ | (refine mr_lk ?_ (by first | assumption | decide); first | assumption | exact mr_up_same _ _ _ | (refine mr_lk ?_ (by first | assumption | decide); first | assumption | exact mr_up_same _ _ _ | (refine mr_lk ?_ (by first | assumption | decide); first | assumption | exact mr_up_same _ _ _))))) ?_
  refine ⟨_, _, _, _, _, _, _, _, _, _, _, _, _, _, _, rfl, (by first | assumption | exact mr_up_same _ _ _ | (refine mr_lk ?_ (by first | assumption | decide); first | assumption | exact mr_up_same _ _ _ | (refine mr_lk ?_ (by first | assumption | decide); first | assumption | exact mr_up_same _ _ _ | (refine mr_lk ?_ (by first | assumption | decide); first | assumption | exact mr_up_same _ _ _ | (refine mr_lk ?_ (by first | assumption | decide); first | assumption | exact mr_up_same _ _ _))))), (by first | assumption | exact mr_up_same _ _ _ | (refine mr_lk ?_ (by first | assumption | decide); first | assumption | exact mr_up_same _ _ _ | (refine mr_lk ?_ (by first | assumption | decide); first | assumption | exact mr_up_same _ _ _ | (refine mr_lk ?_ (by first | assumption | decide); first | assumption | exact mr_up_same _ _ _ | (refine mr_lk ?_ (by first | assumption | decide); first | assumption | exact mr_up_same _ _ _))))), ?_⟩
  dsimp only [Option.toList_some, Option.toList_none, List.cons_append, List.nil_append]
  refine mr_icmp_lt (tgt := 67) dX7_shows_57 (by decide) (by decide) ⟨by omega, by omega⟩ (fun hc_57 => ?_) (fun hc_57 => ?_)
  · refine mr_iload_n dX7_shows_67 rfl ?_
    refine mr_aload_n dX7_shows_68 rfl ?_
    refine mr_get dX7_shows_69 fl_X7_86 (by first | assumption | exact mr_up_same _ _ _ | (refine mr_lk ?_ (by first | assumption | decide); first | assumption | exact mr_up_same _ _ _ | (refine mr_lk ?_ (by first | assumption | decide); first | assumption | exact mr_up_same _ _ _ | (refine mr_lk ?_ (by first | assumption | decide); first | assumption | exact mr_up_same _ _ _ | (refine mr_lk ?_ (by first | assumption | decide); first | assumption | exact mr_up_same _ _ _))))) rfl ?_
    refine mr_bipush dX7_shows_72 rfl ?_
    refine mr_iload dX7_shows_74 rfl ?_
    refine mr_iadd dX7_shows_76 ?_
    refine mr_ialdK 17 dX7_shows_77 (by first | assumption | exact mr_up_same _ _ _ | (refine mr_lk ?_ (by first | assumption | decide); first | assumption | exact mr_up_same _ _ _ | (refine mr_lk ?_ (by first | assumption | decide); first | assumption | exact mr_up_same _ _ _ | (refine mr_lk ?_ (by first | assumption | decide); first | assumption | exact mr_up_same _ _ _ | (refine mr_lk ?_ (by first | assumption | decide); first | assumption | exact mr_up_same _ _ _))))) (by decide) (by decide) ?_
    refine mr_iload dX7_shows_78 rfl ?_
    refine mr_iload_n dX7_shows_80 rfl ?_
    refine mr_callS (as := [_, _, _]) dX7_shows_81 (ok_X7_often l G) ml_X7_214 cl_X7_often cs_X7_often (by decide) rfl rfl (Nat.le_of_ble_eq_true rfl) ?_
    refine ⟨_, _, _, rfl, (by omega), (by omega), hMM, ?_⟩
    dsimp only [Option.toList_some, Option.toList_none, List.cons_append, List.nil_append]
    refine mr_iload_n dX7_shows_84 rfl ?_
    refine mr_callS (as := [_, _, _]) dX7_shows_85 (ok_X7_together l G) ml_X7_183 cl_X7_together cs_X7_together (by decide) rfl rfl (Nat.le_of_ble_eq_true rfl) ?_
    refine ⟨_, _, _, rfl, (by omega), (by omega), hMM, ?_⟩
    dsimp only [Option.toList_some, Option.toList_none, List.cons_append, List.nil_append]
    refine mr_istore_n dX7_shows_88 rfl (by decide) ?_
    refine mr_iload dX7_shows_89 rfl ?_
    refine mr_iload dX7_shows_91 rfl ?_
    refine mr_aload_n dX7_shows_93 rfl ?_
    refine mr_get dX7_shows_94 fl_X7_86 (by first | assumption | exact mr_up_same _ _ _ | (refine mr_lk ?_ (by first | assumption | decide); first | assumption | exact mr_up_same _ _ _ | (refine mr_lk ?_ (by first | assumption | decide); first | assumption | exact mr_up_same _ _ _ | (refine mr_lk ?_ (by first | assumption | decide); first | assumption | exact mr_up_same _ _ _ | (refine mr_lk ?_ (by first | assumption | decide); first | assumption | exact mr_up_same _ _ _))))) rfl ?_
    refine mr_bipush dX7_shows_97 rfl ?_
    refine mr_iload dX7_shows_99 rfl ?_
    refine mr_iadd dX7_shows_101 ?_
    refine mr_ialdK 20 dX7_shows_102 (by first | assumption | exact mr_up_same _ _ _ | (refine mr_lk ?_ (by first | assumption | decide); first | assumption | exact mr_up_same _ _ _ | (refine mr_lk ?_ (by first | assumption | decide); first | assumption | exact mr_up_same _ _ _ | (refine mr_lk ?_ (by first | assumption | decide); first | assumption | exact mr_up_same _ _ _ | (refine mr_lk ?_ (by first | assumption | decide); first | assumption | exact mr_up_same _ _ _))))) (by decide) (by decide) ?_
    refine mr_imul dX7_shows_103 ?_
    refine mr_iadd dX7_shows_104 ?_
    refine mr_iload_n dX7_shows_105 rfl ?_
    refine mr_iremp dX7_shows_106 (by omega) (by omega) (by omega) (by omega) ?_
    refine mr_istore dX7_shows_107 rfl (by decide) ?_
    refine mr_iinc dX7_shows_109 rfl (by decide) rfl ?_
    refine mr_goto (tgt := 13) dX7_shows_112 (by decide) ?_
    refine mr_weak [some (vR 18 0), some (vI x), some (vI (N 0)), some (vI (mr_shl N x 3)), some (vI (mr_shr N x 3)), some (vI 3), none] ⟨rfl, rfl, rfl, rfl, rfl, rfl, trivial⟩ ?_
    exact hK (fun z => by omega)
  · refine mr_iload dX7_shows_60 rfl ?_
    refine mr_if_le (tgt := 67) dX7_shows_62 (by decide) ⟨by omega, by omega⟩ (fun hc_62 => ?_) (fun hc_62 => ?_)
    · refine mr_iload_n dX7_shows_67 rfl ?_
      refine mr_aload_n dX7_shows_68 rfl ?_
      refine mr_get dX7_shows_69 fl_X7_86 (by first | assumption | exact mr_up_same _ _ _ | (refine mr_lk ?_ (by first | assumption | decide); first | assumption | exact mr_up_same _ _ _ | (refine mr_lk ?_ (by first | assumption | decide); first | assumption | exact mr_up_same _ _ _ | (refine mr_lk ?_ (by first | assumption | decide); first | assumption | exact mr_up_same _ _ _ | (refine mr_lk ?_ (by first | assumption | decide); first | assumption | exact mr_up_same _ _ _))))) rfl ?_
      refine mr_bipush dX7_shows_72 rfl ?_
      refine mr_iload dX7_shows_74 rfl ?_
      refine mr_iadd dX7_shows_76 ?_
      refine mr_ialdK 17 dX7_shows_77 (by first | assumption | exact mr_up_same _ _ _ | (refine mr_lk ?_ (by first | assumption | decide); first | assumption | exact mr_up_same _ _ _ | (refine mr_lk ?_ (by first | assumption | decide); first | assumption | exact mr_up_same _ _ _ | (refine mr_lk ?_ (by first | assumption | decide); first | assumption | exact mr_up_same _ _ _ | (refine mr_lk ?_ (by first | assumption | decide); first | assumption | exact mr_up_same _ _ _))))) (by decide) (by decide) ?_
      refine mr_iload dX7_shows_78 rfl ?_
      refine mr_iload_n dX7_shows_80 rfl ?_
      refine mr_callS (as := [_, _, _]) dX7_shows_81 (ok_X7_often l G) ml_X7_214 cl_X7_often cs_X7_often (by decide) rfl rfl (Nat.le_of_ble_eq_true rfl) ?_
      refine ⟨_, _, _, rfl, (by omega), (by omega), hMM, ?_⟩
      dsimp only [Option.toList_some, Option.toList_none, List.cons_append, List.nil_append]
      refine mr_iload_n dX7_shows_84 rfl ?_
      refine mr_callS (as := [_, _, _]) dX7_shows_85 (ok_X7_together l G) ml_X7_183 cl_X7_together cs_X7_together (by decide) rfl rfl (Nat.le_of_ble_eq_true rfl) ?_
      refine ⟨_, _, _, rfl, (by omega), (by omega), hMM, ?_⟩
      dsimp only [Option.toList_some, Option.toList_none, List.cons_append, List.nil_append]
      refine mr_istore_n dX7_shows_88 rfl (by decide) ?_
      refine mr_iload dX7_shows_89 rfl ?_
      refine mr_iload dX7_shows_91 rfl ?_
      refine mr_aload_n dX7_shows_93 rfl ?_
      refine mr_get dX7_shows_94 fl_X7_86 (by first | assumption | exact mr_up_same _ _ _ | (refine mr_lk ?_ (by first | assumption | decide); first | assumption | exact mr_up_same _ _ _ | (refine mr_lk ?_ (by first | assumption | decide); first | assumption | exact mr_up_same _ _ _ | (refine mr_lk ?_ (by first | assumption | decide); first | assumption | exact mr_up_same _ _ _ | (refine mr_lk ?_ (by first | assumption | decide); first | assumption | exact mr_up_same _ _ _))))) rfl ?_
      refine mr_bipush dX7_shows_97 rfl ?_
      refine mr_iload dX7_shows_99 rfl ?_
      refine mr_iadd dX7_shows_101 ?_
      refine mr_ialdK 20 dX7_shows_102 (by first | assumption | exact mr_up_same _ _ _ | (refine mr_lk ?_ (by first | assumption | decide); first | assumption | exact mr_up_same _ _ _ | (refine mr_lk ?_ (by first | assumption | decide); first | assumption | exact mr_up_same _ _ _ | (refine mr_lk ?_ (by first | assumption | decide); first | assumption | exact mr_up_same _ _ _ | (refine mr_lk ?_ (by first | assumption | decide); first | assumption | exact mr_up_same _ _ _))))) (by decide) (by decide) ?_
      refine mr_imul dX7_shows_103 ?_
      refine mr_iadd dX7_shows_104 ?_
      refine mr_iload_n dX7_shows_105 rfl ?_
      refine mr_iremp dX7_shows_106 (by omega) (by omega) (by omega) (by omega) ?_
      refine mr_istore dX7_shows_107 rfl (by decide) ?_
      refine mr_iinc dX7_shows_109 rfl (by decide) rfl ?_
      refine mr_goto (tgt := 13) dX7_shows_112 (by decide) ?_
      refine mr_weak [some (vR 18 0), some (vI x), some (vI (N 0)), some (vI (mr_shl N x 3)), some (vI (mr_shr N x 3)), some (vI 3), none] ⟨rfl, rfl, rfl, rfl, rfl, rfl, trivial⟩ ?_
      exact hK (fun z => by omega)
    · refine mr_iconst dX7_shows_65 ?_
      refine mr_zret rfl (Or.inl rfl) dX7_shows_66 ?_
      exact hQ (by omega) (by omega)
theorem mr_shl_bd {N : Nat → Int} (h : 1 ≤ N 0) (u : Int) (i : Nat) : 0 ≤ mr_shl N u i ∧ mr_shl N u i < N 0 * N 0 * N 0 := by
  cases i with
  | zero =>
    have h1 : 0 < N 0 := by omega
    exact ⟨Int.le_refl 0, Int.mul_pos (Int.mul_pos h1 h1) h1⟩
  | succ i => exact mr_tg_bd (by omega) _ _
theorem mr_shr_bd {N : Nat → Int} (h : 1 ≤ N 0) (u : Int) (i : Nat) : 0 ≤ mr_shr N u i ∧ mr_shr N u i < N 0 := by
  cases i with
  | zero => exact ⟨Int.le_refl 0, by show (0 : Int) < N 0; omega⟩
  | succ i => exact mr_em (by omega) _
def T_X7_shows (a : List mr_AV) (w : mr_Wd) (Po : Option mr_AV → mr_Wd → Prop) : Prop := ∃ (th tp sz zo fr kd nb ft pl wd sm md li sd : Int) (N : Nat → Int) (x : Int), a = [vR 18 0, vI x] ∧ w 18 = eMo th tp sz zo fr kd nb ft pl wd sm md li sd ∧ w 20 = eA 0 21 N ∧ (0 ≤ x ∧ x < N 0 * N 0 * N 0) ∧ (1 ≤ N 0 ∧ N 0 ≤ 30) ∧ (0 ≤ N 14 ∧ N 14 ≤ 3) ∧ (∀ i : Int, 0 ≤ i → i < 3 → (0 ≤ N (15 + i).toNat ∧ N (15 + i).toNat < N 0 * N 0 * N 0) ∧ (0 ≤ N (18 + i).toNat ∧ N (18 + i).toNat < N 0)) ∧ (mr_shw N x → Po (some (vI 1)) w) ∧ (¬ (mr_shw N x) → Po (some (vI 0)) w)
set_option maxHeartbeats 4000000 in
set_option maxRecDepth 20000 in
theorem ok_X7_shows (l : Launch) (G : mr_G) : mr_Ok l G yX7_shows cX7_shows 7 (some .boolean) 1 22 T_X7_shows := by
  refine mr_Ok.of (by decide +kernel) ?_
  rintro a w Po ⟨th, tp, sz, zo, fr, kd, nb, ft, pl, wd, sm, md, li, sd, N, x, rfl, h18, h20, hx, hMM, h14, hb, hP, hQ⟩
  refine ⟨Nat.le_of_ble_eq_true rfl, ?_⟩
  show mr_J l G RX7 cX7_shows 7 (some .boolean) 1 22 Po 0 [some (vR 18 0), some (vI x), none, none, none, none, none] [] w
  have hm3 := mr_m3 hMM
  have l0 := mr_shl_bd hMM.1 x 0
  have r0 := mr_shr_bd hMM.1 x 0
  have l1 := mr_shl_bd hMM.1 x 1
  have r1 := mr_shr_bd hMM.1 x 1
  have l2 := mr_shl_bd hMM.1 x 2
  have r2 := mr_shr_bd hMM.1 x 2
  have l3 := mr_shl_bd hMM.1 x 3
  have r3 := mr_shr_bd hMM.1 x 3
  refine mr_aload_n dX7_shows_0 rfl ?_
  refine mr_callV (as := []) dX7_shows_1 (ok_X7_by l G) ml_X7_195 cl_X7_by cv_X7_by (by decide) rfl rfl (Nat.le_of_ble_eq_true rfl) (by first | assumption | exact mr_up_same _ _ _ | (refine mr_lk ?_ (by first | assumption | decide); first | assumption | exact mr_up_same _ _ _ | (refine mr_lk ?_ (by first | assumption | decide); first | assumption | exact mr_up_same _ _ _ | (refine mr_lk ?_ (by first | assumption | decide); first | assumption | exact mr_up_same _ _ _ | (refine mr_lk ?_ (by first | assumption | decide); first | assumption | exact mr_up_same _ _ _))))) ?_
  refine ⟨_, _, _, _, _, _, _, _, _, _, _, _, _, _, _, rfl, (by first | assumption | exact mr_up_same _ _ _ | (refine mr_lk ?_ (by first | assumption | decide); first | assumption | exact mr_up_same _ _ _ | (refine mr_lk ?_ (by first | assumption | decide); first | assumption | exact mr_up_same _ _ _ | (refine mr_lk ?_ (by first | assumption | decide); first | assumption | exact mr_up_same _ _ _ | (refine mr_lk ?_ (by first | assumption | decide); first | assumption | exact mr_up_same _ _ _))))), (by first | assumption | exact mr_up_same _ _ _ | (refine mr_lk ?_ (by first | assumption | decide); first | assumption | exact mr_up_same _ _ _ | (refine mr_lk ?_ (by first | assumption | decide); first | assumption | exact mr_up_same _ _ _ | (refine mr_lk ?_ (by first | assumption | decide); first | assumption | exact mr_up_same _ _ _ | (refine mr_lk ?_ (by first | assumption | decide); first | assumption | exact mr_up_same _ _ _))))), ?_⟩
  dsimp only [Option.toList_some, Option.toList_none, List.cons_append, List.nil_append]
  refine mr_istore_n dX7_shows_4 rfl (by decide) ?_
  refine mr_iconst dX7_shows_5 ?_
  refine mr_istore_n dX7_shows_6 rfl (by decide) ?_
  refine mr_iconst dX7_shows_7 ?_
  refine mr_istore dX7_shows_8 rfl (by decide) ?_
  refine mr_iconst dX7_shows_10 ?_
  refine mr_istore dX7_shows_11 rfl (by decide) ?_
  refine mr_weak [some (vR 18 0), some (vI x), some (vI (N 0)), some (vI (mr_shl N x 0)), some (vI (mr_shr N x 0)), some (vI 0), none] ⟨rfl, rfl, rfl, rfl, rfl, rfl, trivial⟩ ?_
  refine st0_X7_shows l G h18 h20 hx hMM h14 hb ⟨l0.1, by omega⟩ ⟨r0.1, by omega⟩ (fun g1 g2 => hQ (fun z => g2 (z.1 0 (by decide) g1))) (fun q0 => ?_)
  refine st1_X7_shows l G h18 h20 hx hMM h14 hb ⟨l1.1, by omega⟩ ⟨r1.1, by omega⟩ (fun g1 g2 => hQ (fun z => g2 (z.1 1 (by decide) g1))) (fun q1 => ?_)
  refine st2_X7_shows l G h18 h20 hx hMM h14 hb ⟨l2.1, by omega⟩ ⟨r2.1, by omega⟩ (fun g1 g2 => hQ (fun z => g2 (z.1 2 (by decide) g1))) (fun q2 => ?_)
  refine mr_iload dX7_shows_13 rfl ?_
  refine mr_iconst dX7_shows_15 ?_
  refine mr_icmp_ge (tgt := 115) dX7_shows_16 (by decide) (by decide) (by decide) (fun _ => ?_) (fun h => absurd h (by decide))
  refine mr_iload_n dX7_shows_115 rfl ?_
  refine mr_if_ne (tgt := 128) dX7_shows_116 (by decide) ⟨by omega, by omega⟩ (fun hc_116 => ?_) (fun hc_116 => ?_)
  · refine mr_iconst dX7_shows_128 ?_
    refine mr_zret rfl (Or.inl rfl) dX7_shows_129 ?_
    first | exact hP ⟨fun i g1 g2 => by rcases (show i = 0 ∨ i = 1 ∨ i = 2 by omega) with rfl | rfl | rfl <;> first | exact q0 g2 | exact q1 g2 | exact q2 g2, by omega, by omega⟩ | exact hQ (fun z => by have := z.2.1; omega) | exact hQ (fun z => by have := z.2.2; omega)
  · refine mr_iload dX7_shows_119 rfl ?_
    refine mr_if_eq (tgt := 128) dX7_shows_121 (by decide) ⟨by omega, by omega⟩ (fun hc_121 => ?_) (fun hc_121 => ?_)
    · refine mr_iconst dX7_shows_128 ?_
      refine mr_zret rfl (Or.inl rfl) dX7_shows_129 ?_
      first | exact hP ⟨fun i g1 g2 => by rcases (show i = 0 ∨ i = 1 ∨ i = 2 by omega) with rfl | rfl | rfl <;> first | exact q0 g2 | exact q1 g2 | exact q2 g2, by omega, by omega⟩ | exact hQ (fun z => by have := z.2.1; omega) | exact hQ (fun z => by have := z.2.2; omega)
    · refine mr_iconst dX7_shows_124 ?_
      refine mr_goto (tgt := 129) dX7_shows_125 (by decide) ?_
      refine mr_zret rfl (Or.inr rfl) dX7_shows_129 ?_
      first | exact hP ⟨fun i g1 g2 => by rcases (show i = 0 ∨ i = 1 ∨ i = 2 by omega) with rfl | rfl | rfl <;> first | exact q0 g2 | exact q1 g2 | exact q2 g2, by omega, by omega⟩ | exact hQ (fun z => by have := z.2.1; omega) | exact hQ (fun z => by have := z.2.2; omega)
set_option maxHeartbeats 4000000 in
set_option maxRecDepth 20000 in
theorem lp_X7_witness (l : Launch) (G : mr_G) {Po : Option mr_AV → mr_Wd → Prop} {w : mr_Wd} {th tp sz zo fr kd nb ft pl wd sm md li sd : Int} {N : Nat → Int} (h18 : w 18 = eMo th tp sz zo fr kd nb ft pl wd sm md li sd) (h20 : w 20 = eA 0 21 N) (hMM : 1 ≤ N 0 ∧ N 0 ≤ 30) (h1N : 0 ≤ N 1 ∧ N 1 ≤ 3) (hG14 : 0 ≤ N 14 ∧ N 14 ≤ 3) (hb : (∀ i : Int, 0 ≤ i → i < 3 → (0 ≤ N (15 + i).toNat ∧ N (15 + i).toNat < N 0 * N 0 * N 0) ∧ (0 ≤ N (18 + i).toNat ∧ N (18 + i).toNat < N 0))) (hex : ∃ u : Int, 0 ≤ u ∧ u < N 0 * N 0 * N 0 ∧ mr_shw N u) (hP : ∀ u : Int, 0 ≤ u → u < N 0 * N 0 * N 0 → mr_shw N u → (∀ v : Int, 0 ≤ v → v < u → ¬ mr_shw N v) → Po (some (vI (mr_tbk (N 0) u))) w) : ∀ (n : Nat) (u : Int), 0 ≤ u → u + n = N 0 * N 0 * N 0 → (∀ v : Int, 0 ≤ v → v < u → ¬ mr_shw N v) → mr_J l G RX7 cX7_witness 2 (some .int) 3 65 Po 24 [some (vR 18 0), some (vI u)] [] w := by
  intro n
  have hm3 := mr_m3 hMM
  induction n with
  | zero =>
    intro u h0 hn hc
    obtain ⟨u', g1, g2, g3⟩ := hex
    exact absurd g3 (hc u' g1 (by omega))
  | succ n ih =>
    intro u h0 hn hc
    refine mr_aload_n dX7_witness_24 rfl ?_
    refine mr_iload_n dX7_witness_25 rfl ?_
    refine mr_callV (as := [_]) dX7_witness_26 (ok_X7_shows l G) ml_X7_259 cl_X7_shows cv_X7_shows (by decide) rfl rfl (Nat.le_of_ble_eq_true rfl) (by first | assumption | exact mr_up_same _ _ _ | (refine mr_lk ?_ (by first | assumption | decide); first | assumption | exact mr_up_same _ _ _ | (refine mr_lk ?_ (by first | assumption | decide); first | assumption | exact mr_up_same _ _ _ | (refine mr_lk ?_ (by first | assumption | decide); first | assumption | exact mr_up_same _ _ _ | (refine mr_lk ?_ (by first | assumption | decide); first | assumption | exact mr_up_same _ _ _))))) ?_
    refine ⟨_, _, _, _, _, _, _, _, _, _, _, _, _, _, _, _, rfl, (by first | assumption | exact mr_up_same _ _ _ | (refine mr_lk ?_ (by first | assumption | decide); first | assumption | exact mr_up_same _ _ _ | (refine mr_lk ?_ (by first | assumption | decide); first | assumption | exact mr_up_same _ _ _ | (refine mr_lk ?_ (by first | assumption | decide); first | assumption | exact mr_up_same _ _ _ | (refine mr_lk ?_ (by first | assumption | decide); first | assumption | exact mr_up_same _ _ _))))), (by first | assumption | exact mr_up_same _ _ _ | (refine mr_lk ?_ (by first | assumption | decide); first | assumption | exact mr_up_same _ _ _ | (refine mr_lk ?_ (by first | assumption | decide); first | assumption | exact mr_up_same _ _ _ | (refine mr_lk ?_ (by first | assumption | decide); first | assumption | exact mr_up_same _ _ _ | (refine mr_lk ?_ (by first | assumption | decide); first | assumption | exact mr_up_same _ _ _))))), ⟨by omega, by omega⟩, hMM, hG14, hb, ?_, ?_⟩
    · intro ks
      dsimp only [Option.toList_some, Option.toList_none, List.cons_append, List.nil_append]
      refine mr_if_ne (tgt := 38) dX7_witness_29 (by decide) (by omega) (fun _ => ?_) (fun h => absurd h (by decide))
      refine mr_aload_n dX7_witness_38 rfl ?_
      refine mr_iload_n dX7_witness_39 rfl ?_
      refine mr_callV (as := [_]) dX7_witness_40 (ok_X7_toldBack l G) ml_X7_202 cl_X7_toldBack cv_X7_toldBack (by decide) rfl rfl (Nat.le_of_ble_eq_true rfl) (by first | assumption | exact mr_up_same _ _ _ | (refine mr_lk ?_ (by first | assumption | decide); first | assumption | exact mr_up_same _ _ _ | (refine mr_lk ?_ (by first | assumption | decide); first | assumption | exact mr_up_same _ _ _ | (refine mr_lk ?_ (by first | assumption | decide); first | assumption | exact mr_up_same _ _ _ | (refine mr_lk ?_ (by first | assumption | decide); first | assumption | exact mr_up_same _ _ _))))) ?_
      refine ⟨_, _, _, _, _, _, _, _, _, _, _, _, _, _, _, _, rfl, (by first | assumption | exact mr_up_same _ _ _ | (refine mr_lk ?_ (by first | assumption | decide); first | assumption | exact mr_up_same _ _ _ | (refine mr_lk ?_ (by first | assumption | decide); first | assumption | exact mr_up_same _ _ _ | (refine mr_lk ?_ (by first | assumption | decide); first | assumption | exact mr_up_same _ _ _ | (refine mr_lk ?_ (by first | assumption | decide); first | assumption | exact mr_up_same _ _ _))))), (by first | assumption | exact mr_up_same _ _ _ | (refine mr_lk ?_ (by first | assumption | decide); first | assumption | exact mr_up_same _ _ _ | (refine mr_lk ?_ (by first | assumption | decide); first | assumption | exact mr_up_same _ _ _ | (refine mr_lk ?_ (by first | assumption | decide); first | assumption | exact mr_up_same _ _ _ | (refine mr_lk ?_ (by first | assumption | decide); first | assumption | exact mr_up_same _ _ _))))), ⟨by omega, by omega⟩, hMM, ?_⟩
      dsimp only [Option.toList_some, Option.toList_none, List.cons_append, List.nil_append]
      refine mr_iret rfl dX7_witness_43 ?_
      exact hP u h0 (by omega) ks hc
    · intro ks
      dsimp only [Option.toList_some, Option.toList_none, List.cons_append, List.nil_append]
      refine mr_if_ne (tgt := 38) dX7_witness_29 (by decide) (by omega) (fun h => absurd h (by decide)) (fun _ => ?_)
      refine mr_iinc dX7_witness_32 rfl (by decide) rfl ?_
      refine mr_goto (tgt := 24) dX7_witness_35 (by decide) ?_
      refine ih (u + 1) (by omega) (by omega) (fun v g1 g2 => ?_)
      by_cases e : v = u
      · subst e; exact ks
      · exact hc v g1 (by omega)
def T_X7_witness (a : List mr_AV) (w : mr_Wd) (Po : Option mr_AV → mr_Wd → Prop) : Prop := ∃ (th tp sz zo fr kd nb ft pl wd sm md li sd : Int) (T N R K Sn ik s1 s2 ls : Nat → Int) (W : Nat) (L : Int → mr_V → Prop), a = [vR 18 0] ∧ mr_MW w th tp sz zo fr kd nb ft pl wd sm md li sd T N R K Sn ik s1 s2 ls ∧ mr_NG N W L ∧ (0 < N 0 → (∀ i : Int, 0 ≤ i → i < N 0 * N 0 * N 0 → ¬ mr_sol N i) → ∃ u : Int, 0 ≤ u ∧ u < N 0 * N 0 * N 0 ∧ mr_shw N u) ∧ (0 < N 0 → ∀ u : Int, 0 ≤ u → u < N 0 * N 0 * N 0 → (∀ i : Int, 0 ≤ i → i < N 0 * N 0 * N 0 → ¬ mr_sol N i) → mr_shw N u → (∀ v : Int, 0 ≤ v → v < u → ¬ mr_shw N v) → (∀ w' : mr_Wd, mr_MW w' (0) tp sz zo fr kd nb ft pl wd sm md li sd T N R K Sn ik s1 s2 ls → mr_FM w w' → Po (some (vI (mr_tbk (N 0) u))) w')) ∧ (0 < N 0 → (∃ i : Int, 0 ≤ i ∧ i < N 0 * N 0 * N 0 ∧ mr_sol N i) → (∀ w' : mr_Wd, mr_MW w' (0) tp sz zo fr kd nb ft pl wd sm md li sd T N R K Sn ik s1 s2 ls → mr_FM w w' → Po (some (vI (-1))) w')) ∧ (N 0 = 0 → (∀ w' : mr_Wd, mr_MW w' (0) tp sz zo fr kd nb ft pl wd sm md li sd T N R K Sn ik s1 s2 ls → mr_FM w w' → Po (some (vI (-1))) w'))
set_option maxHeartbeats 4000000 in
set_option maxRecDepth 20000 in
theorem ok_X7_witness (l : Launch) (G : mr_G) : mr_Ok l G yX7_witness cX7_witness 2 (some .int) 3 65 T_X7_witness := by
  refine mr_Ok.of (by decide +kernel) ?_
  rintro a w Po ⟨th, tp, sz, zo, fr, kd, nb, ft, pl, wd, sm, md, li, sd, T, N, R, K, Sn, ik, s1, s2, ls, W, L, rfl, hM, ⟨hG0, hG1, hG14, hGW⟩, hex, hP, hR, hQ⟩
  refine ⟨Nat.le_of_ble_eq_true rfl, ?_⟩
  show mr_J l G RX7 cX7_witness 2 (some .int) 3 65 Po 0 [some (vR 18 0), none] [] w
  obtain ⟨h18, h19, h20, h21, h22, h23, h24, h25, h26, h27, hs1, hs2, hik⟩ := id hM
  refine mr_aload_n dX7_witness_0 rfl ?_
  refine mr_iconst dX7_witness_1 ?_
  refine mr_put dX7_witness_2 fl_X7_1 pf_X7_0 rfl rfl (by first | assumption | exact mr_up_same _ _ _ | (refine mr_lk ?_ (by first | assumption | decide); first | assumption | exact mr_up_same _ _ _ | (refine mr_lk ?_ (by first | assumption | decide); first | assumption | exact mr_up_same _ _ _ | (refine mr_lk ?_ (by first | assumption | decide); first | assumption | exact mr_up_same _ _ _ | (refine mr_lk ?_ (by first | assumption | decide); first | assumption | exact mr_up_same _ _ _))))) (Nat.le_of_ble_eq_true rfl) ?_
  refine mw_p0 hM (fun w1 hM1 hF1 => ?_)
  obtain ⟨h18, h19, h20, h21, h22, h23, h24, h25, h26, h27, hs1, hs2, hik⟩ := id hM1
  refine mr_aload_n dX7_witness_5 rfl ?_
  refine mr_callV (as := []) dX7_witness_6 (ok_X7_by l G) ml_X7_195 cl_X7_by cv_X7_by (by decide) rfl rfl (Nat.le_of_ble_eq_true rfl) (by first | assumption | exact mr_up_same _ _ _ | (refine mr_lk ?_ (by first | assumption | decide); first | assumption | exact mr_up_same _ _ _ | (refine mr_lk ?_ (by first | assumption | decide); first | assumption | exact mr_up_same _ _ _ | (refine mr_lk ?_ (by first | assumption | decide); first | assumption | exact mr_up_same _ _ _ | (refine mr_lk ?_ (by first | assumption | decide); first | assumption | exact mr_up_same _ _ _))))) ?_
  refine ⟨_, _, _, _, _, _, _, _, _, _, _, _, _, _, _, rfl, (by first | assumption | exact mr_up_same _ _ _ | (refine mr_lk ?_ (by first | assumption | decide); first | assumption | exact mr_up_same _ _ _ | (refine mr_lk ?_ (by first | assumption | decide); first | assumption | exact mr_up_same _ _ _ | (refine mr_lk ?_ (by first | assumption | decide); first | assumption | exact mr_up_same _ _ _ | (refine mr_lk ?_ (by first | assumption | decide); first | assumption | exact mr_up_same _ _ _))))), (by first | assumption | exact mr_up_same _ _ _ | (refine mr_lk ?_ (by first | assumption | decide); first | assumption | exact mr_up_same _ _ _ | (refine mr_lk ?_ (by first | assumption | decide); first | assumption | exact mr_up_same _ _ _ | (refine mr_lk ?_ (by first | assumption | decide); first | assumption | exact mr_up_same _ _ _ | (refine mr_lk ?_ (by first | assumption | decide); first | assumption | exact mr_up_same _ _ _))))), ?_⟩
  dsimp only [Option.toList_some, Option.toList_none, List.cons_append, List.nil_append]
  refine mr_if_eq (tgt := 20) dX7_witness_9 (by decide) ⟨by show -2147483648 ≤ N 0; omega, by show N 0 < 2147483648; omega⟩ (fun hc_9 => ?_) (fun hc_9 => ?_)
  · refine mr_iconst dX7_witness_20 ?_
    refine mr_iret rfl dX7_witness_21 ?_
    first
      | exact hQ hc_9 w1 hM1 hF1
      | (rcases hrs with ⟨a1, a2, a3, a4⟩ | ⟨a1, a2⟩
         · exact hR (by omega) ⟨rs, a1, a2, a3⟩ w1 hM1 hF1
         · exfalso; omega)
  · obtain ⟨e0, e1, hM0, hW0, hFN, hEQ⟩ := hGW (by omega)
    have hMM : 1 ≤ N 0 ∧ N 0 ≤ 30 := ⟨by omega, by omega⟩
    have hm3 := mr_m3 hMM
    have hm2 := mr_m2 hMM
    refine mr_aload_n dX7_witness_12 rfl ?_
    refine mr_callV (as := []) dX7_witness_13 (ok_X7_firstSolution l G) ml_X7_256 cl_X7_firstSolution cv_X7_firstSolution (by decide) rfl rfl (Nat.le_of_ble_eq_true rfl) (by first | assumption | exact mr_up_same _ _ _ | (refine mr_lk ?_ (by first | assumption | decide); first | assumption | exact mr_up_same _ _ _ | (refine mr_lk ?_ (by first | assumption | decide); first | assumption | exact mr_up_same _ _ _ | (refine mr_lk ?_ (by first | assumption | decide); first | assumption | exact mr_up_same _ _ _ | (refine mr_lk ?_ (by first | assumption | decide); first | assumption | exact mr_up_same _ _ _))))) ?_
    refine ⟨_, _, _, _, _, _, _, _, _, _, _, _, _, _, _, rfl, (by first | assumption | exact mr_up_same _ _ _ | (refine mr_lk ?_ (by first | assumption | decide); first | assumption | exact mr_up_same _ _ _ | (refine mr_lk ?_ (by first | assumption | decide); first | assumption | exact mr_up_same _ _ _ | (refine mr_lk ?_ (by first | assumption | decide); first | assumption | exact mr_up_same _ _ _ | (refine mr_lk ?_ (by first | assumption | decide); first | assumption | exact mr_up_same _ _ _))))), (by first | assumption | exact mr_up_same _ _ _ | (refine mr_lk ?_ (by first | assumption | decide); first | assumption | exact mr_up_same _ _ _ | (refine mr_lk ?_ (by first | assumption | decide); first | assumption | exact mr_up_same _ _ _ | (refine mr_lk ?_ (by first | assumption | decide); first | assumption | exact mr_up_same _ _ _ | (refine mr_lk ?_ (by first | assumption | decide); first | assumption | exact mr_up_same _ _ _))))), hMM, hG1, hG14, hEQ, (fun rs hrs => ?_)⟩
    dsimp only [Option.toList_some, Option.toList_none, List.cons_append, List.nil_append]
    have hrb : -1 ≤ rs ∧ rs < N 0 * N 0 * N 0 := by rcases hrs with h | h <;> omega
    refine mr_iconst dX7_witness_16 ?_
    refine mr_icmp_eq (tgt := 22) dX7_witness_17 (by decide) ⟨by omega, by omega⟩ (by decide) (fun hc_17 => ?_) (fun hc_17 => ?_)
    · refine mr_iconst dX7_witness_22 ?_
      refine mr_istore_n dX7_witness_23 rfl (by decide) ?_
      have hno : ∀ i : Int, 0 ≤ i → i < N 0 * N 0 * N 0 → ¬ mr_sol N i := by
        rcases hrs with ⟨a1, a2, a3, a4⟩ | ⟨a1, a2⟩
        · exfalso; omega
        · exact a2
      exact lp_X7_witness l G h18 h20 hMM hG1 hG14 hEQ (hex (by omega) hno) (fun u g1 g2 g3 g4 => hP (by omega) u g1 g2 hno g3 g4 w1 hM1 hF1) (N 0 * N 0 * N 0).toNat 0 (Int.le_refl 0) (by omega) (fun v g1 g2 => by omega)
    · refine mr_iconst dX7_witness_20 ?_
      refine mr_iret rfl dX7_witness_21 ?_
      first
        | exact hQ hc_9 w1 hM1 hF1
        | (rcases hrs with ⟨a1, a2, a3, a4⟩ | ⟨a1, a2⟩
           · exact hR (by omega) ⟨rs, a1, a2, a3⟩ w1 hM1 hF1
           · exfalso; omega)
