theorem mr_ldcw {l : Launch} {G : mr_G} {own : String} {cc : ByteArray} {nL : Nat} {ret : Option FieldType} {rf rl : Nat} {Po : Option mr_AV → mr_Wd → Prop} {pc : Nat} {ls : List (Option mr_AV)} {st : List mr_AV} {w : mr_Wd} {idx : Nat} {x : Int} (d : decode cc pc = .ok (.ldc_w idx, 3)) (hc : Cond.constant own idx (Int32.ofInt x) ∈ mr_ws) (kk : mr_J l G own cc nL ret rf rl Po (pc + 3) ls (vI x :: st) w) : mr_J l G own cc nL ret rf rl Po pc ls st w := fun p e s m args below meth c H locs lc hh hC hS hl =>
  lv_ldcw hh.1 hh.2.1 hh.2.2.2.2.2.1 (hh.2.2.2.2.2.2.1 _ hc) d (kk p e s m args below meth c H locs lc hh hC hS hl)
theorem mr_pA_lo {f : Nat → Int} {q : Int} {g : Int → Int → Int} (hq : 0 ≤ q) {k : Nat} (hk : k < 3) : mr_pA f q g k = f k := mr_pt_lo f q g (f 1) 0 hq hk
/-- an act on a place: alike again -/
theorem mr_Cq_pA {f N : Nat → Int} {M : Int} {w : Nat} {L : Int → mr_V → Prop} (h : mr_WB f M w L) (hc : mr_Cq f N) {q : Int} (hq : 0 ≤ q ∧ q < 4) {g : Int → Int → Int} : mr_Cq (mr_pA f q g) (mr_kf M N q (mr_br (mr_pA f q g) q)) := by
  obtain ⟨h0, h1, h2, h3, h4, h5, h6⟩ := id h
  obtain ⟨c0, c1, c2, c3, c4⟩ := hc
  obtain ⟨k1, k2⟩ := mr_kf_at (M := M) (N := N) (t := q) (F := mr_br (mr_pA f q g) q) ⟨hq.1, by omega⟩
  have l0 : mr_pA f q g 0 = f 0 := mr_pA_lo hq.1 (by decide)
  have l1 : mr_pA f q g 1 = f 1 := mr_pA_lo hq.1 (by decide)
  have l2 : mr_pA f q g 2 = f 2 := mr_pA_lo hq.1 (by decide)
  refine ⟨by rw [k2 0 (by decide), l0]; exact c0, by rw [k2 1 (by decide), l1]; exact c1, by rw [k2 14 (by decide), l2]; exact c2, fun t c g1 g2 g3 g4 => ?_, fun i g1 g2 => ?_⟩
  · rw [k1 t c g1 g2 g3 g4, l0]
    by_cases e : t = q
    · rw [if_pos e, e, h0]
    · rw [if_neg e, c3 t c g1 g2 g3 g4, mr_br_other hq (by omega) e]
  · rw [k2 _ (by omega), k2 _ (by omega), l2, l0, (c4 i g1 g2).1, (c4 i g1 g2).2]
    refine ⟨?_, ?_⟩
    · congr 1
      congr 1
      funext j
      rw [mr_se_pA hq]
    · rw [mr_se_pA hq]
theorem mr_Cq_abs {f N : Nat → Int} {M : Int} {w : Nat} {L : Int → mr_V → Prop} (h : mr_WB f M w L) (hc : mr_Cq f N) {q : Int} (hq : 0 ≤ q ∧ q < 4) {r : Nat → Int} {R0 F0 : Nat → Nat → Int} : mr_Cq (mr_abs f r q R0 F0) (mr_kf M N q (mr_br (mr_abs f r q R0 F0) q)) := by
  unfold mr_abs
  exact mr_Cq_pA h hc hq
theorem mr_dwl_1 {M : Int} (hM : 1 ≤ M ∧ M ≤ 30) (s : Int) : mr_ec M (mr_dwl M 1 0 (mr_l3 0 0 0) s).1 = M * (M * (M * 0 + mr_dr s M) + 0) + 0 ∧ (mr_dwl M 1 0 (mr_l3 0 0 0) s).2 = mr_sd s ∧ ∀ j : Nat, 1 ≤ j → j < 3 → (mr_dwl M 1 0 (mr_l3 0 0 0) s).1 j = 0 := by
  have d0 := mr_dr_bd hM s
  have e : (mr_dwl M 1 0 (mr_l3 0 0 0) s).1 = mr_fs (mr_l3 0 0 0) 0 (mr_dr s M) := rfl
  refine ⟨?_, rfl, fun j g1 g2 => ?_⟩
  · rw [e]
    have e2 := mr_ec_cg (M := M) (x := mr_fs (mr_l3 0 0 0) 0 (mr_dr s M)) (y := mr_l3 (mr_dr s M) 0 0) (fun j hj => by rcases (show j = 0 ∨ j = 1 ∨ j = 2 by omega) with q | q | q <;> subst q <;> exact mr_dvd_same M _)
    rw [e2, mr_ec_box (x := mr_l3 (mr_dr s M) 0 0) (fun j hj => by rcases (show j = 0 ∨ j = 1 ∨ j = 2 by omega) with q | q | q <;> subst q; exact d0; exact ⟨Int.le_refl 0, by show (0 : Int) < M; omega⟩; exact ⟨Int.le_refl 0, by show (0 : Int) < M; omega⟩)]
    show (mr_dr s M * M + 0) * M + 0 = _
    rw [Int.mul_zero, Int.zero_add, Int.mul_comm M (mr_dr s M), Int.mul_comm M]
  · rw [e]
    rcases (show j = 1 ∨ j = 2 by omega) with q | q <;> subst q <;> rfl
theorem mr_dwl_2 {M : Int} (hM : 1 ≤ M ∧ M ≤ 30) (s : Int) : mr_ec M (mr_dwl M 2 0 (mr_l3 0 0 0) s).1 = M * (M * (M * 0 + mr_dr s M) + mr_dr (mr_sd s) M) + 0 ∧ (mr_dwl M 2 0 (mr_l3 0 0 0) s).2 = mr_sd (mr_sd s) ∧ ∀ j : Nat, 2 ≤ j → j < 3 → (mr_dwl M 2 0 (mr_l3 0 0 0) s).1 j = 0 := by
  have d0 := mr_dr_bd hM s
  have d1 := mr_dr_bd hM (mr_sd s)
  have e : (mr_dwl M 2 0 (mr_l3 0 0 0) s).1 = mr_fs (mr_fs (mr_l3 0 0 0) 0 (mr_dr s M)) 1 (mr_dr (mr_sd s) M) := rfl
  refine ⟨?_, rfl, fun j g1 g2 => ?_⟩
  · rw [e]
    have e2 := mr_ec_cg (M := M) (x := mr_fs (mr_fs (mr_l3 0 0 0) 0 (mr_dr s M)) 1 (mr_dr (mr_sd s) M)) (y := mr_l3 (mr_dr s M) (mr_dr (mr_sd s) M) 0) (fun j hj => by rcases (show j = 0 ∨ j = 1 ∨ j = 2 by omega) with q | q | q <;> subst q <;> exact mr_dvd_same M _)
    rw [e2, mr_ec_box (x := mr_l3 (mr_dr s M) (mr_dr (mr_sd s) M) 0) (fun j hj => by rcases (show j = 0 ∨ j = 1 ∨ j = 2 by omega) with q | q | q <;> subst q; exact d0; exact d1; exact ⟨Int.le_refl 0, by show (0 : Int) < M; omega⟩)]
    show (mr_dr s M * M + mr_dr (mr_sd s) M) * M + 0 = _
    rw [Int.mul_zero, Int.zero_add, Int.mul_comm M (mr_dr s M), Int.mul_comm M]
  · rw [e]
    rw [show j = 2 by omega]; rfl
theorem mr_dwl_3 {M : Int} (hM : 1 ≤ M ∧ M ≤ 30) (s : Int) : mr_ec M (mr_dwl M 3 0 (mr_l3 0 0 0) s).1 = M * (M * (M * 0 + mr_dr s M) + mr_dr (mr_sd s) M) + mr_dr (mr_sd (mr_sd s)) M ∧ (mr_dwl M 3 0 (mr_l3 0 0 0) s).2 = mr_sd (mr_sd (mr_sd s)) := by
  have d0 := mr_dr_bd hM s
  have d1 := mr_dr_bd hM (mr_sd s)
  have d2 := mr_dr_bd hM (mr_sd (mr_sd s))
  have e : (mr_dwl M 3 0 (mr_l3 0 0 0) s).1 = mr_fs (mr_fs (mr_fs (mr_l3 0 0 0) 0 (mr_dr s M)) 1 (mr_dr (mr_sd s) M)) 2 (mr_dr (mr_sd (mr_sd s)) M) := rfl
  refine ⟨?_, rfl⟩
  rw [e]
  have e2 := mr_ec_cg (M := M) (x := mr_fs (mr_fs (mr_fs (mr_l3 0 0 0) 0 (mr_dr s M)) 1 (mr_dr (mr_sd s) M)) 2 (mr_dr (mr_sd (mr_sd s)) M)) (y := mr_l3 (mr_dr s M) (mr_dr (mr_sd s) M) (mr_dr (mr_sd (mr_sd s)) M)) (fun j hj => by rcases (show j = 0 ∨ j = 1 ∨ j = 2 by omega) with q | q | q <;> subst q <;> exact mr_dvd_same M _)
  rw [e2, mr_ec_box (x := mr_l3 (mr_dr s M) (mr_dr (mr_sd s) M) (mr_dr (mr_sd (mr_sd s)) M)) (fun j hj => by rcases (show j = 0 ∨ j = 1 ∨ j = 2 by omega) with q | q | q <;> subst q; exact d0; exact d1; exact d2)]
  show (mr_dr s M * M + mr_dr (mr_sd s) M) * M + mr_dr (mr_sd (mr_sd s)) M = _
  rw [Int.mul_zero, Int.zero_add, Int.mul_comm M (mr_dr s M), Int.mul_comm M]
def T_X7_draw (a : List mr_AV) (w : mr_Wd) (Po : Option mr_AV → mr_Wd → Prop) : Prop := ∃ (th tp sz zo fr kd nb ft pl wd sm md li sd : Int) (T N R K Sn ik s1 s2 ls : Nat → Int) (x : Int), a = [vR 18 0, vI x] ∧ mr_MW w th tp sz zo fr kd nb ft pl wd sm md li sd T N R K Sn ik s1 s2 ls ∧ (1 ≤ x ∧ x ≤ 30) ∧ (∀ w' : mr_Wd, mr_MW w' th tp sz zo fr kd nb ft pl wd sm md li (mr_sd sd) T N R K Sn ik s1 s2 ls → mr_FM w w' → Po (some (vI (mr_dr sd x))) w')
set_option maxHeartbeats 4000000 in
set_option maxRecDepth 20000 in
theorem ok_X7_draw (l : Launch) (G : mr_G) : mr_Ok l G yX7_draw cX7_draw 2 (some .int) 0 0 T_X7_draw := by
  refine mr_Ok.of (by decide +kernel) ?_
  rintro a w Po ⟨th, tp, sz, zo, fr, kd, nb, ft, pl, wd, sm, md, li, sd, T, N, R, K, Sn, ik, s1, s2, ls, x, rfl, hM, hx, hP⟩
  refine ⟨Nat.le_of_ble_eq_true rfl, ?_⟩
  show mr_J l G RX7 cX7_draw 2 (some .int) 0 0 Po 0 [some (vR 18 0), some (vI x)] [] w
  obtain ⟨h18, h19, h20, h21, h22, h23, h24, h25, h26, h27, hs1, hs2, hik⟩ := id hM
  have hq : 0 ≤ (mr_sd sd % 4294967296) / 2 ^ 8 ∧ (mr_sd sd % 4294967296) / 2 ^ 8 < 2147483648 := by
    have := mr_em (show (0 : Int) < 4294967296 by decide) (mr_sd sd)
    have e : (2 : Int) ^ 8 = 256 := rfl
    rw [e]
    omega
  refine mr_aload_n dX7_draw_0 rfl ?_
  refine mr_aload_n dX7_draw_1 rfl ?_
  refine mr_get dX7_draw_2 fl_X7_262 (by first | assumption | exact mr_up_same _ _ _ | (refine mr_lk ?_ (by first | assumption | decide); first | assumption | exact mr_up_same _ _ _ | (refine mr_lk ?_ (by first | assumption | decide); first | assumption | exact mr_up_same _ _ _ | (refine mr_lk ?_ (by first | assumption | decide); first | assumption | exact mr_up_same _ _ _ | (refine mr_lk ?_ (by first | assumption | decide); first | assumption | exact mr_up_same _ _ _))))) rfl ?_
  refine mr_ldcw dX7_draw_5 kc_X7_265 ?_
  refine mr_imul dX7_draw_8 ?_
  refine mr_sipush dX7_draw_9 rfl ?_
  refine mr_iadd dX7_draw_12 ?_
  refine mr_put dX7_draw_13 fl_X7_262 pf_X7_22 rfl rfl (by first | assumption | exact mr_up_same _ _ _ | (refine mr_lk ?_ (by first | assumption | decide); first | assumption | exact mr_up_same _ _ _ | (refine mr_lk ?_ (by first | assumption | decide); first | assumption | exact mr_up_same _ _ _ | (refine mr_lk ?_ (by first | assumption | decide); first | assumption | exact mr_up_same _ _ _ | (refine mr_lk ?_ (by first | assumption | decide); first | assumption | exact mr_up_same _ _ _))))) (Nat.le_of_ble_eq_true rfl) ?_
  refine mw_p22 hM (fun w1 hM1 hF1 => ?_)
  obtain ⟨h18, h19, h20, h21, h22, h23, h24, h25, h26, h27, hs1, hs2, hik⟩ := id hM1
  refine mr_aload_n dX7_draw_16 rfl ?_
  refine mr_get dX7_draw_17 fl_X7_262 (by first | assumption | exact mr_up_same _ _ _ | (refine mr_lk ?_ (by first | assumption | decide); first | assumption | exact mr_up_same _ _ _ | (refine mr_lk ?_ (by first | assumption | decide); first | assumption | exact mr_up_same _ _ _ | (refine mr_lk ?_ (by first | assumption | decide); first | assumption | exact mr_up_same _ _ _ | (refine mr_lk ?_ (by first | assumption | decide); first | assumption | exact mr_up_same _ _ _))))) rfl ?_
  refine mr_bipush dX7_draw_20 rfl ?_
  refine mr_iushr 8 (by decide) dX7_draw_22 (by decide) ?_
  refine mr_iload_n dX7_draw_23 rfl ?_
  refine mr_iremp dX7_draw_24 hq.1 hq.2 (by omega) (by omega) ?_
  refine mr_iret rfl dX7_draw_25 ?_
  exact hP w1 hM1 hF1
set_option maxHeartbeats 4000000 in
set_option maxRecDepth 20000 in
theorem st_X7_drawn (l : Launch) (G : mr_G) {Po : Option mr_AV → mr_Wd → Prop} {w0 w : mr_Wd} {th tp sz zo fr kd nb ft pl wd sm md li sd : Int} {T N R K Sn ik s1 s2 ls : Nat → Int} {n x k t v : Int} {W : Nat} {f : Nat → Int} {L : Int → mr_V → Prop} {r : mr_V} (hW : mr_WB f (N 0) W L) (hC : mr_Cq f N) (ht : 0 ≤ t ∧ t < 4) (hr : ∀ j, W ≤ j → j < 3 → N 0 ∣ r j) (hv : v = mr_ec (N 0) r) (hM : mr_MW w th tp sz zo fr kd nb ft pl wd sm md li sd T N R K Sn ik s1 s2 ls) (hFr : mr_FM w0 w) (hK : ∀ (w' : mr_Wd) (N' s1' ls' : Nat → Int) (li' : Int), mr_WB (mr_abs f r t mr_Zz mr_Zz) (N 0) W (mr_Lup L t (mr_LA (L t) r)) → mr_Cq (mr_abs f r t mr_Zz mr_Zz) N' → mr_MW w' th tp sz zo fr kd nb ft pl wd sm md (li') sd T (N') R K Sn ik (s1') s2 (ls') → mr_FM w0 w' → mr_J l G RX7 cX7_drawn 7 (some .int) 4 94 Po 37 [some (vR 18 0), some (vI n), some (vI x), some (vI (k + 1)), none, none, none] [] w') : mr_J l G RX7 cX7_drawn 7 (some .int) 4 94 Po 100 [some (vR 18 0), some (vI n), some (vI x), some (vI k), some (vI t), some (vI v), none] [] w := by
  have hWn := mr_Cq_NW hW hC
  obtain ⟨e0, e1, hM0, hW0, hFN, hEQ⟩ := hWn
  have hMM : 1 ≤ N 0 ∧ N 0 ≤ 30 := ⟨by omega, by omega⟩
  have hm3 := mr_m3 hMM
  have hWB' := mr_WB_abs hW ht hr
  have hFo' := hWB'.2.2.2.2.2.1 t ht.1 ht.2
  have eL : mr_Lup L t (mr_LA (L t) r) t = mr_LA (L t) r := if_pos rfl
  rw [eL] at hFo'
  have hvb : 0 ≤ v ∧ v < N 0 * N 0 * N 0 := by rw [hv]; exact mr_ec_bd (by omega) r
  have hcgL : ∀ y : mr_V, mr_LA (L t) (mr_dec (N 0) v) y ↔ mr_LA (L t) r y := fun y => by
    have hLi := mr_Fo_Li (hFN t (by omega) (by omega)).1
    have dd : ∀ j, j < 3 → N 0 ∣ mr_dec (N 0) v j - r j := fun j hj => by rw [hv, mr_dec_ec (by omega) r j hj]; exact mr_dvd_self_emod _ _
    refine ⟨fun ⟨q, hq⟩ => ⟨q, mr_Li_mod hLi (fun j hj => ?_) hq⟩, fun ⟨q, hq⟩ => ⟨q, mr_Li_mod hLi (fun j hj => ?_) hq⟩⟩
    · show N 0 ∣ y j + -q * r j - (y j + -q * mr_dec (N 0) v j)
      rw [show y j + -q * r j - (y j + -q * mr_dec (N 0) v j) = q * (mr_dec (N 0) v j - r j) by rw [Int.mul_sub, Int.neg_mul, Int.neg_mul]; omega]
      exact Int.dvd_trans (dd j hj) (Int.dvd_mul_left _ _)
    · show N 0 ∣ y j + -q * mr_dec (N 0) v j - (y j + -q * r j)
      rw [show y j + -q * mr_dec (N 0) v j - (y j + -q * r j) = -q * (mr_dec (N 0) v j - r j) by rw [Int.mul_sub]; omega]
      exact Int.dvd_trans (dd j hj) (Int.dvd_mul_left _ _)
  have hFo2 : mr_Fo (N 0) W (mr_br (mr_abs f r t mr_Zz mr_Zz) t) (mr_LA (L t) (mr_dec (N 0) v)) := mr_Fo_congr (fun y => (hcgL y).symm) hFo'
  obtain ⟨h18, h19, h20, h21, h22, h23, h24, h25, h26, h27, hs1, hs2, hik⟩ := id hM
  refine mr_aload_n dX7_drawn_100 rfl ?_
  refine mr_aload_n dX7_drawn_101 rfl ?_
  refine mr_get dX7_drawn_102 fl_X7_86 (by first | assumption | exact mr_up_same _ _ _ | (refine mr_lk ?_ (by first | assumption | decide); first | assumption | exact mr_up_same _ _ _ | (refine mr_lk ?_ (by first | assumption | decide); first | assumption | exact mr_up_same _ _ _ | (refine mr_lk ?_ (by first | assumption | decide); first | assumption | exact mr_up_same _ _ _ | (refine mr_lk ?_ (by first | assumption | decide); first | assumption | exact mr_up_same _ _ _))))) rfl ?_
  refine mr_iload dX7_drawn_105 rfl ?_
  refine mr_aload_n dX7_drawn_107 rfl ?_
  refine mr_get dX7_drawn_108 fl_X7_102 (by first | assumption | exact mr_up_same _ _ _ | (refine mr_lk ?_ (by first | assumption | decide); first | assumption | exact mr_up_same _ _ _ | (refine mr_lk ?_ (by first | assumption | decide); first | assumption | exact mr_up_same _ _ _ | (refine mr_lk ?_ (by first | assumption | decide); first | assumption | exact mr_up_same _ _ _ | (refine mr_lk ?_ (by first | assumption | decide); first | assumption | exact mr_up_same _ _ _))))) rfl ?_
  refine mr_callV (as := [_, _, _]) dX7_drawn_111 (ok_X7_laysSet l G) ml_X7_128 cl_X7_laysSet cv_X7_laysSet (by decide) rfl rfl (Nat.le_of_ble_eq_true rfl) (by first | assumption | exact mr_up_same _ _ _ | (refine mr_lk ?_ (by first | assumption | decide); first | assumption | exact mr_up_same _ _ _ | (refine mr_lk ?_ (by first | assumption | decide); first | assumption | exact mr_up_same _ _ _ | (refine mr_lk ?_ (by first | assumption | decide); first | assumption | exact mr_up_same _ _ _ | (refine mr_lk ?_ (by first | assumption | decide); first | assumption | exact mr_up_same _ _ _))))) ?_
  refine mw_lays1 hM rfl hMM ⟨by omega, by omega⟩ (hFN t (by omega) (by omega)) (fun w1 st1 li1 n1 hp1 hM1 hF1 => ?_)
  obtain ⟨h18, h19, h20, h21, h22, h23, h24, h25, h26, h27, hs1, hs2, hik⟩ := id hM1
  dsimp only [Option.toList_some, Option.toList_none, List.cons_append, List.nil_append]
  refine mr_aload_n dX7_drawn_114 rfl ?_
  refine mr_aload_n dX7_drawn_115 rfl ?_
  refine mr_get dX7_drawn_116 fl_X7_86 (by first | assumption | exact mr_up_same _ _ _ | (refine mr_lk ?_ (by first | assumption | decide); first | assumption | exact mr_up_same _ _ _ | (refine mr_lk ?_ (by first | assumption | decide); first | assumption | exact mr_up_same _ _ _ | (refine mr_lk ?_ (by first | assumption | decide); first | assumption | exact mr_up_same _ _ _ | (refine mr_lk ?_ (by first | assumption | decide); first | assumption | exact mr_up_same _ _ _))))) rfl ?_
  refine mr_aload_n dX7_drawn_119 rfl ?_
  refine mr_get dX7_drawn_120 fl_X7_102 (by first | assumption | exact mr_up_same _ _ _ | (refine mr_lk ?_ (by first | assumption | decide); first | assumption | exact mr_up_same _ _ _ | (refine mr_lk ?_ (by first | assumption | decide); first | assumption | exact mr_up_same _ _ _ | (refine mr_lk ?_ (by first | assumption | decide); first | assumption | exact mr_up_same _ _ _ | (refine mr_lk ?_ (by first | assumption | decide); first | assumption | exact mr_up_same _ _ _))))) rfl ?_
  refine mr_iload dX7_drawn_123 rfl ?_
  refine mr_callV (as := [_, _, _]) dX7_drawn_125 (ok_X7_adds l G) ml_X7_132 cl_X7_adds cv_X7_adds (by decide) rfl rfl (Nat.le_of_ble_eq_true rfl) (by first | assumption | exact mr_up_same _ _ _ | (refine mr_lk ?_ (by first | assumption | decide); first | assumption | exact mr_up_same _ _ _ | (refine mr_lk ?_ (by first | assumption | decide); first | assumption | exact mr_up_same _ _ _ | (refine mr_lk ?_ (by first | assumption | decide); first | assumption | exact mr_up_same _ _ _ | (refine mr_lk ?_ (by first | assumption | decide); first | assumption | exact mr_up_same _ _ _))))) ?_
  refine mw_adds (li := 0) hM1 rfl hMM hvb (mr_Fo_Li (hFN t (by omega) (by omega)).1) hp1 (fun w2 st2 li2 n2 hp2 hM2 hF2 => ?_)
  obtain ⟨h18, h19, h20, h21, h22, h23, h24, h25, h26, h27, hs1, hs2, hik⟩ := id hM2
  dsimp only [Option.toList_some, Option.toList_none, List.cons_append, List.nil_append]
  refine mr_aload_n dX7_drawn_128 rfl ?_
  refine mr_get dX7_drawn_129 fl_X7_86 (by first | assumption | exact mr_up_same _ _ _ | (refine mr_lk ?_ (by first | assumption | decide); first | assumption | exact mr_up_same _ _ _ | (refine mr_lk ?_ (by first | assumption | decide); first | assumption | exact mr_up_same _ _ _ | (refine mr_lk ?_ (by first | assumption | decide); first | assumption | exact mr_up_same _ _ _ | (refine mr_lk ?_ (by first | assumption | decide); first | assumption | exact mr_up_same _ _ _))))) rfl ?_
  refine mr_aload_n dX7_drawn_132 rfl ?_
  refine mr_get dX7_drawn_133 fl_X7_102 (by first | assumption | exact mr_up_same _ _ _ | (refine mr_lk ?_ (by first | assumption | decide); first | assumption | exact mr_up_same _ _ _ | (refine mr_lk ?_ (by first | assumption | decide); first | assumption | exact mr_up_same _ _ _ | (refine mr_lk ?_ (by first | assumption | decide); first | assumption | exact mr_up_same _ _ _ | (refine mr_lk ?_ (by first | assumption | decide); first | assumption | exact mr_up_same _ _ _))))) rfl ?_
  refine mr_iload dX7_drawn_136 rfl ?_
  refine mr_callS (as := [_, _, _]) dX7_drawn_138 (ok_X7_keeps l G) ml_X7_136 cl_X7_keeps cs_X7_keeps (by decide) rfl rfl (Nat.le_of_ble_eq_true rfl) ?_
  refine mw_keeps1 (W := W) (F := mr_br (mr_abs f r t mr_Zz mr_Zz) t) (L := mr_LA (L t) (mr_dec (N 0) v)) hM2 rfl hMM ⟨by omega, by omega⟩ hFo2 (mr_Lp_St hp2) (fun w3 hM3 hF3 => ?_)
  obtain ⟨h18, h19, h20, h21, h22, h23, h24, h25, h26, h27, hs1, hs2, hik⟩ := id hM3
  dsimp only [Option.toList_some, Option.toList_none, List.cons_append, List.nil_append]
  refine mr_iinc dX7_drawn_141 rfl (by decide) rfl ?_
  refine mr_goto (tgt := 37) dX7_drawn_144 (by decide) ?_
  refine mr_weak [some (vR 18 0), some (vI n), some (vI x), some (vI (k + 1)), none, none, none] ⟨rfl, rfl, rfl, rfl, trivial⟩ ?_
  exact hK w3 _ _ _ _ hWB' (mr_Cq_abs hW hC ht) hM3 (hFr.tr (hF1.tr (hF2.tr hF3)))
set_option maxHeartbeats 4000000 in
set_option maxRecDepth 20000 in
theorem lp_X7_drawn (l : Launch) (G : mr_G) {Po : Option mr_AV → mr_Wd → Prop} {w0 : mr_Wd} {th tp sz zo fr kd nb ft pl wd sm md : Int} {T R K Sn ik s2 : Nat → Int} {n x M : Int} {W : Nat} (hn60 : n ≤ 60) : ∀ (m : Nat) (k : Int) (sd li : Int) (f s1 ls N : Nat → Int) (L : Int → mr_V → Prop) (w : mr_Wd), 0 ≤ k → k + m = n → N 0 = M → mr_WB f M W L → mr_Cq f N → mr_MW w th tp sz zo fr kd nb ft pl wd sm md li sd T N R K Sn ik s1 s2 ls → mr_FM w0 w → (∀ (w' : mr_Wd) (N' s1' ls' : Nat → Int) (li' sd' : Int) (L' : Int → mr_V → Prop), mr_WB (mr_deeds m (f, sd)).1 M W L' → mr_Cq (mr_deeds m (f, sd)).1 N' → mr_MW w' th tp sz zo fr kd nb ft pl wd sm md (li') (sd') T (N') R K Sn ik (s1') s2 (ls') → mr_FM w0 w' → mr_J l G RX7 cX7_drawn 7 (some .int) 4 94 Po 147 [some (vR 18 0), some (vI n), some (vI x), none, none, none, none] [] w') → mr_J l G RX7 cX7_drawn 7 (some .int) 4 94 Po 37 [some (vR 18 0), some (vI n), some (vI x), some (vI k), none, none, none] [] w := by
  intro m
  induction m with
  | zero =>
    intro k sd li f s1 ls N L w h0 hn hN0 hW hC hM hFr hK
    obtain ⟨h18, h19, h20, h21, h22, h23, h24, h25, h26, h27, hs1, hs2, hik⟩ := id hM
    refine mr_iload_n dX7_drawn_37 rfl ?_
    refine mr_iload_n dX7_drawn_38 rfl ?_
    refine mr_icmp_ge (tgt := 147) dX7_drawn_39 (by decide) ⟨by omega, by omega⟩ ⟨by omega, by omega⟩ (fun hc_39 => ?_) (fun hc_39 => absurd hc_39 (by omega))
    refine mr_weak [some (vR 18 0), some (vI n), some (vI x), none, none, none, none] ⟨rfl, rfl, rfl, trivial⟩ ?_
    exact hK w N s1 ls li sd L hW hC hM hFr
  | succ m ih =>
    intro k sd li f s1 ls N L w h0 hn hN0 hW hC hM hFr hK
    subst hN0
    have hWn := mr_Cq_NW hW hC
    obtain ⟨e0, e1, hM0, hW0, hFN, hEQ⟩ := hWn
    have hMM : 1 ≤ N 0 ∧ N 0 ≤ 30 := ⟨by omega, by omega⟩
    have hdt : 0 ≤ mr_dr sd 4 ∧ mr_dr sd 4 < 4 := mr_dr_bd (show 1 ≤ (4 : Int) ∧ (4 : Int) ≤ 30 by decide) sd
    have hf0 : f 0 = N 0 := hW.1
    have hf1 : (f 1).toNat = W := by rw [hW.2.1]; exact Int.toNat_natCast W
    have e1' : N 1 = (W : Int) := e1
    obtain ⟨h18, h19, h20, h21, h22, h23, h24, h25, h26, h27, hs1, hs2, hik⟩ := id hM
    refine mr_iload_n dX7_drawn_37 rfl ?_
    refine mr_iload_n dX7_drawn_38 rfl ?_
    refine mr_icmp_ge (tgt := 147) dX7_drawn_39 (by decide) ⟨by omega, by omega⟩ ⟨by omega, by omega⟩ (fun hc_39 => absurd hc_39 (by omega)) (fun hc_39 => ?_)
    refine mr_aload_n dX7_drawn_42 rfl ?_
    refine mr_iconst dX7_drawn_43 ?_
    refine mr_callV (as := [_]) dX7_drawn_44 (ok_X7_draw l G) ml_X7_266 cl_X7_draw cv_X7_draw (by decide) rfl rfl (Nat.le_of_ble_eq_true rfl) (by first | assumption | exact mr_up_same _ _ _ | (refine mr_lk ?_ (by first | assumption | decide); first | assumption | exact mr_up_same _ _ _ | (refine mr_lk ?_ (by first | assumption | decide); first | assumption | exact mr_up_same _ _ _ | (refine mr_lk ?_ (by first | assumption | decide); first | assumption | exact mr_up_same _ _ _ | (refine mr_lk ?_ (by first | assumption | decide); first | assumption | exact mr_up_same _ _ _))))) ?_
    refine ⟨_, _, _, _, _, _, _, _, _, _, _, _, _, _, _, _, _, _, _, _, _, _, _, 4, rfl, hM, (by omega), (fun w1 hM1 hF1 => ?_)⟩
    obtain ⟨h18, h19, h20, h21, h22, h23, h24, h25, h26, h27, hs1, hs2, hik⟩ := id hM1
    dsimp only [Option.toList_some, Option.toList_none, List.cons_append, List.nil_append]
    refine mr_istore dX7_drawn_47 rfl (by decide) ?_
    refine mr_iconst dX7_drawn_49 ?_
    refine mr_istore dX7_drawn_50 rfl (by decide) ?_
    refine mr_iconst dX7_drawn_52 ?_
    refine mr_istore dX7_drawn_53 rfl (by decide) ?_
    refine mr_iload dX7_drawn_55 rfl ?_
    refine mr_iconst dX7_drawn_57 ?_
    refine mr_icmp_ge (tgt := 100) dX7_drawn_58 (by decide) (by omega) (by omega) (fun h => absurd h (by decide)) (fun _ => ?_)
    refine mr_aload_n dX7_drawn_61 rfl ?_
    refine mr_callV (as := []) dX7_drawn_62 (ok_X7_by l G) ml_X7_195 cl_X7_by cv_X7_by (by decide) rfl rfl (Nat.le_of_ble_eq_true rfl) (by first | assumption | exact mr_up_same _ _ _ | (refine mr_lk ?_ (by first | assumption | decide); first | assumption | exact mr_up_same _ _ _ | (refine mr_lk ?_ (by first | assumption | decide); first | assumption | exact mr_up_same _ _ _ | (refine mr_lk ?_ (by first | assumption | decide); first | assumption | exact mr_up_same _ _ _ | (refine mr_lk ?_ (by first | assumption | decide); first | assumption | exact mr_up_same _ _ _))))) ?_
    refine ⟨_, _, _, _, _, _, _, _, _, _, _, _, _, _, _, rfl, (by first | assumption | exact mr_up_same _ _ _ | (refine mr_lk ?_ (by first | assumption | decide); first | assumption | exact mr_up_same _ _ _ | (refine mr_lk ?_ (by first | assumption | decide); first | assumption | exact mr_up_same _ _ _ | (refine mr_lk ?_ (by first | assumption | decide); first | assumption | exact mr_up_same _ _ _ | (refine mr_lk ?_ (by first | assumption | decide); first | assumption | exact mr_up_same _ _ _))))), (by first | assumption | exact mr_up_same _ _ _ | (refine mr_lk ?_ (by first | assumption | decide); first | assumption | exact mr_up_same _ _ _ | (refine mr_lk ?_ (by first | assumption | decide); first | assumption | exact mr_up_same _ _ _ | (refine mr_lk ?_ (by first | assumption | decide); first | assumption | exact mr_up_same _ _ _ | (refine mr_lk ?_ (by first | assumption | decide); first | assumption | exact mr_up_same _ _ _))))), ?_⟩
    dsimp only [Option.toList_some, Option.toList_none, List.cons_append, List.nil_append]
    refine mr_iload dX7_drawn_65 rfl ?_
    refine mr_imul dX7_drawn_67 ?_
    refine mr_iload dX7_drawn_68 rfl ?_
    refine mr_aload_n dX7_drawn_70 rfl ?_
    refine mr_get dX7_drawn_71 fl_X7_86 (by first | assumption | exact mr_up_same _ _ _ | (refine mr_lk ?_ (by first | assumption | decide); first | assumption | exact mr_up_same _ _ _ | (refine mr_lk ?_ (by first | assumption | decide); first | assumption | exact mr_up_same _ _ _ | (refine mr_lk ?_ (by first | assumption | decide); first | assumption | exact mr_up_same _ _ _ | (refine mr_lk ?_ (by first | assumption | decide); first | assumption | exact mr_up_same _ _ _))))) rfl ?_
    refine mr_iconst dX7_drawn_74 ?_
    refine mr_ialdK 1 dX7_drawn_75 (by first | assumption | exact mr_up_same _ _ _ | (refine mr_lk ?_ (by first | assumption | decide); first | assumption | exact mr_up_same _ _ _ | (refine mr_lk ?_ (by first | assumption | decide); first | assumption | exact mr_up_same _ _ _ | (refine mr_lk ?_ (by first | assumption | decide); first | assumption | exact mr_up_same _ _ _ | (refine mr_lk ?_ (by first | assumption | decide); first | assumption | exact mr_up_same _ _ _))))) (by decide) (by decide) ?_
    refine mr_icmp_ge (tgt := 90) dX7_drawn_76 (by decide) (by decide) ⟨by omega, by omega⟩ (fun hc_76 => ?_) (fun hc_76 => ?_)
    · refine mr_iconst dX7_drawn_90 ?_
      refine mr_iadd dX7_drawn_91 ?_
      refine mr_istore dX7_drawn_92 rfl (by decide) ?_
      refine mr_iinc dX7_drawn_94 rfl (by decide) rfl ?_
      refine mr_goto (tgt := 55) dX7_drawn_97 (by decide) ?_
      refine mr_iload dX7_drawn_55 rfl ?_
      refine mr_iconst dX7_drawn_57 ?_
      refine mr_icmp_ge (tgt := 100) dX7_drawn_58 (by decide) (by omega) (by omega) (fun h => absurd h (by decide)) (fun _ => ?_)
      refine mr_aload_n dX7_drawn_61 rfl ?_
      refine mr_callV (as := []) dX7_drawn_62 (ok_X7_by l G) ml_X7_195 cl_X7_by cv_X7_by (by decide) rfl rfl (Nat.le_of_ble_eq_true rfl) (by first | assumption | exact mr_up_same _ _ _ | (refine mr_lk ?_ (by first | assumption | decide); first | assumption | exact mr_up_same _ _ _ | (refine mr_lk ?_ (by first | assumption | decide); first | assumption | exact mr_up_same _ _ _ | (refine mr_lk ?_ (by first | assumption | decide); first | assumption | exact mr_up_same _ _ _ | (refine mr_lk ?_ (by first | assumption | decide); first | assumption | exact mr_up_same _ _ _))))) ?_
      refine ⟨_, _, _, _, _, _, _, _, _, _, _, _, _, _, _, rfl, (by first | assumption | exact mr_up_same _ _ _ | (refine mr_lk ?_ (by first | assumption | decide); first | assumption | exact mr_up_same _ _ _ | (refine mr_lk ?_ (by first | assumption | decide); first | assumption | exact mr_up_same _ _ _ | (refine mr_lk ?_ (by first | assumption | decide); first | assumption | exact mr_up_same _ _ _ | (refine mr_lk ?_ (by first | assumption | decide); first | assumption | exact mr_up_same _ _ _))))), (by first | assumption | exact mr_up_same _ _ _ | (refine mr_lk ?_ (by first | assumption | decide); first | assumption | exact mr_up_same _ _ _ | (refine mr_lk ?_ (by first | assumption | decide); first | assumption | exact mr_up_same _ _ _ | (refine mr_lk ?_ (by first | assumption | decide); first | assumption | exact mr_up_same _ _ _ | (refine mr_lk ?_ (by first | assumption | decide); first | assumption | exact mr_up_same _ _ _))))), ?_⟩
      dsimp only [Option.toList_some, Option.toList_none, List.cons_append, List.nil_append]
      refine mr_iload dX7_drawn_65 rfl ?_
      refine mr_imul dX7_drawn_67 ?_
      refine mr_iload dX7_drawn_68 rfl ?_
      refine mr_aload_n dX7_drawn_70 rfl ?_
      refine mr_get dX7_drawn_71 fl_X7_86 (by first | assumption | exact mr_up_same _ _ _ | (refine mr_lk ?_ (by first | assumption | decide); first | assumption | exact mr_up_same _ _ _ | (refine mr_lk ?_ (by first | assumption | decide); first | assumption | exact mr_up_same _ _ _ | (refine mr_lk ?_ (by first | assumption | decide); first | assumption | exact mr_up_same _ _ _ | (refine mr_lk ?_ (by first | assumption | decide); first | assumption | exact mr_up_same _ _ _))))) rfl ?_
      refine mr_iconst dX7_drawn_74 ?_
      refine mr_ialdK 1 dX7_drawn_75 (by first | assumption | exact mr_up_same _ _ _ | (refine mr_lk ?_ (by first | assumption | decide); first | assumption | exact mr_up_same _ _ _ | (refine mr_lk ?_ (by first | assumption | decide); first | assumption | exact mr_up_same _ _ _ | (refine mr_lk ?_ (by first | assumption | decide); first | assumption | exact mr_up_same _ _ _ | (refine mr_lk ?_ (by first | assumption | decide); first | assumption | exact mr_up_same _ _ _))))) (by decide) (by decide) ?_
      refine mr_icmp_ge (tgt := 90) dX7_drawn_76 (by decide) (by decide) ⟨by omega, by omega⟩ (fun hc_76 => ?_) (fun hc_76 => ?_)
      · refine mr_iconst dX7_drawn_90 ?_
        refine mr_iadd dX7_drawn_91 ?_
        refine mr_istore dX7_drawn_92 rfl (by decide) ?_
        refine mr_iinc dX7_drawn_94 rfl (by decide) rfl ?_
        refine mr_goto (tgt := 55) dX7_drawn_97 (by decide) ?_
        refine mr_iload dX7_drawn_55 rfl ?_
        refine mr_iconst dX7_drawn_57 ?_
        refine mr_icmp_ge (tgt := 100) dX7_drawn_58 (by decide) (by omega) (by omega) (fun h => absurd h (by decide)) (fun _ => ?_)
        refine mr_aload_n dX7_drawn_61 rfl ?_
        refine mr_callV (as := []) dX7_drawn_62 (ok_X7_by l G) ml_X7_195 cl_X7_by cv_X7_by (by decide) rfl rfl (Nat.le_of_ble_eq_true rfl) (by first | assumption | exact mr_up_same _ _ _ | (refine mr_lk ?_ (by first | assumption | decide); first | assumption | exact mr_up_same _ _ _ | (refine mr_lk ?_ (by first | assumption | decide); first | assumption | exact mr_up_same _ _ _ | (refine mr_lk ?_ (by first | assumption | decide); first | assumption | exact mr_up_same _ _ _ | (refine mr_lk ?_ (by first | assumption | decide); first | assumption | exact mr_up_same _ _ _))))) ?_
        refine ⟨_, _, _, _, _, _, _, _, _, _, _, _, _, _, _, rfl, (by first | assumption | exact mr_up_same _ _ _ | (refine mr_lk ?_ (by first | assumption | decide); first | assumption | exact mr_up_same _ _ _ | (refine mr_lk ?_ (by first | assumption | decide); first | assumption | exact mr_up_same _ _ _ | (refine mr_lk ?_ (by first | assumption | decide); first | assumption | exact mr_up_same _ _ _ | (refine mr_lk ?_ (by first | assumption | decide); first | assumption | exact mr_up_same _ _ _))))), (by first | assumption | exact mr_up_same _ _ _ | (refine mr_lk ?_ (by first | assumption | decide); first | assumption | exact mr_up_same _ _ _ | (refine mr_lk ?_ (by first | assumption | decide); first | assumption | exact mr_up_same _ _ _ | (refine mr_lk ?_ (by first | assumption | decide); first | assumption | exact mr_up_same _ _ _ | (refine mr_lk ?_ (by first | assumption | decide); first | assumption | exact mr_up_same _ _ _))))), ?_⟩
        dsimp only [Option.toList_some, Option.toList_none, List.cons_append, List.nil_append]
        refine mr_iload dX7_drawn_65 rfl ?_
        refine mr_imul dX7_drawn_67 ?_
        refine mr_iload dX7_drawn_68 rfl ?_
        refine mr_aload_n dX7_drawn_70 rfl ?_
        refine mr_get dX7_drawn_71 fl_X7_86 (by first | assumption | exact mr_up_same _ _ _ | (refine mr_lk ?_ (by first | assumption | decide); first | assumption | exact mr_up_same _ _ _ | (refine mr_lk ?_ (by first | assumption | decide); first | assumption | exact mr_up_same _ _ _ | (refine mr_lk ?_ (by first | assumption | decide); first | assumption | exact mr_up_same _ _ _ | (refine mr_lk ?_ (by first | assumption | decide); first | assumption | exact mr_up_same _ _ _))))) rfl ?_
        refine mr_iconst dX7_drawn_74 ?_
        refine mr_ialdK 1 dX7_drawn_75 (by first | assumption | exact mr_up_same _ _ _ | (refine mr_lk ?_ (by first | assumption | decide); first | assumption | exact mr_up_same _ _ _ | (refine mr_lk ?_ (by first | assumption | decide); first | assumption | exact mr_up_same _ _ _ | (refine mr_lk ?_ (by first | assumption | decide); first | assumption | exact mr_up_same _ _ _ | (refine mr_lk ?_ (by first | assumption | decide); first | assumption | exact mr_up_same _ _ _))))) (by decide) (by decide) ?_
        refine mr_icmp_ge (tgt := 90) dX7_drawn_76 (by decide) (by decide) ⟨by omega, by omega⟩ (fun hc_76 => ?_) (fun hc_76 => ?_)
        · refine mr_iconst dX7_drawn_90 ?_
          refine mr_iadd dX7_drawn_91 ?_
          refine mr_istore dX7_drawn_92 rfl (by decide) ?_
          refine mr_iinc dX7_drawn_94 rfl (by decide) rfl ?_
          refine mr_goto (tgt := 55) dX7_drawn_97 (by decide) ?_
          refine mr_iload dX7_drawn_55 rfl ?_
          refine mr_iconst dX7_drawn_57 ?_
          refine mr_icmp_ge (tgt := 100) dX7_drawn_58 (by decide) (by omega) (by omega) (fun _ => ?_) (fun h => absurd h (by decide))
          first
            | (exfalso; omega)
            | (have hw1 : W = 1 := by omega
               subst hw1
               have hd := mr_dwl_1 hMM (mr_sd sd)
               refine mr_weak [some (vR 18 0), some (vI n), some (vI x), some (vI k), some (vI (mr_dr sd 4)), some (vI (N 0 * (N 0 * (N 0 * 0 + mr_dr (mr_sd sd) (N 0)) + 0) + 0)), none] ⟨rfl, rfl, rfl, rfl, rfl, rfl, trivial⟩ ?_
               refine st_X7_drawn l G (n := n) (x := x) (k := k) (r := (mr_dwl (f 0) (f 1).toNat 0 (mr_l3 0 0 0) (mr_sd sd)).1) hW hC hdt (fun j g1 g2 => by rw [hf0, hf1]; rw [hd.2.2 j g1 g2]; exact mr_dvd_0 _) (by rw [hf0, hf1]; exact hd.1.symm) hM1 (hFr.tr hF1) (fun w' N' s1' ls' li' k1 k2 k3 k4 => ?_)
               have e9 : mr_deed (f, sd) = (mr_abs f (mr_dwl (f 0) (f 1).toNat 0 (mr_l3 0 0 0) (mr_sd sd)).1 (mr_dr sd 4) mr_Zz mr_Zz, mr_sd (mr_sd sd)) := by
                 have e8 : (mr_dwl (f 0) (f 1).toNat 0 (mr_l3 0 0 0) (mr_sd sd)).2 = mr_sd (mr_sd sd) := by rw [hf0, hf1]; exact hd.2.1
                 rw [← e8]
                 rfl
               exact ih (k + 1) _ _ _ _ _ N' _ w' (by omega) (by omega) (k2.1.trans k1.1) k1 k2 k3 k4 (by rw [← e9]; exact hK))
            | (have hw1 : W = 2 := by omega
               subst hw1
               have hd := mr_dwl_2 hMM (mr_sd sd)
               refine mr_weak [some (vR 18 0), some (vI n), some (vI x), some (vI k), some (vI (mr_dr sd 4)), some (vI (N 0 * (N 0 * (N 0 * 0 + mr_dr (mr_sd sd) (N 0)) + mr_dr (mr_sd (mr_sd sd)) (N 0)) + 0)), none] ⟨rfl, rfl, rfl, rfl, rfl, rfl, trivial⟩ ?_
               refine st_X7_drawn l G (n := n) (x := x) (k := k) (r := (mr_dwl (f 0) (f 1).toNat 0 (mr_l3 0 0 0) (mr_sd sd)).1) hW hC hdt (fun j g1 g2 => by rw [hf0, hf1]; rw [hd.2.2 j g1 g2]; exact mr_dvd_0 _) (by rw [hf0, hf1]; exact hd.1.symm) hM1 (hFr.tr hF1) (fun w' N' s1' ls' li' k1 k2 k3 k4 => ?_)
               have e9 : mr_deed (f, sd) = (mr_abs f (mr_dwl (f 0) (f 1).toNat 0 (mr_l3 0 0 0) (mr_sd sd)).1 (mr_dr sd 4) mr_Zz mr_Zz, mr_sd (mr_sd (mr_sd sd))) := by
                 have e8 : (mr_dwl (f 0) (f 1).toNat 0 (mr_l3 0 0 0) (mr_sd sd)).2 = mr_sd (mr_sd (mr_sd sd)) := by rw [hf0, hf1]; exact hd.2.1
                 rw [← e8]
                 rfl
               exact ih (k + 1) _ _ _ _ _ N' _ w' (by omega) (by omega) (k2.1.trans k1.1) k1 k2 k3 k4 (by rw [← e9]; exact hK))
            | (have hw1 : W = 3 := by omega
               subst hw1
               have hd := mr_dwl_3 hMM (mr_sd sd)
               refine mr_weak [some (vR 18 0), some (vI n), some (vI x), some (vI k), some (vI (mr_dr sd 4)), some (vI (N 0 * (N 0 * (N 0 * 0 + mr_dr (mr_sd sd) (N 0)) + mr_dr (mr_sd (mr_sd sd)) (N 0)) + mr_dr (mr_sd (mr_sd (mr_sd sd))) (N 0))), none] ⟨rfl, rfl, rfl, rfl, rfl, rfl, trivial⟩ ?_
               refine st_X7_drawn l G (n := n) (x := x) (k := k) (r := (mr_dwl (f 0) (f 1).toNat 0 (mr_l3 0 0 0) (mr_sd sd)).1) hW hC hdt (fun j g1 g2 => by omega) (by rw [hf0, hf1]; exact hd.1.symm) hM1 (hFr.tr hF1) (fun w' N' s1' ls' li' k1 k2 k3 k4 => ?_)
               have e9 : mr_deed (f, sd) = (mr_abs f (mr_dwl (f 0) (f 1).toNat 0 (mr_l3 0 0 0) (mr_sd sd)).1 (mr_dr sd 4) mr_Zz mr_Zz, mr_sd (mr_sd (mr_sd (mr_sd sd)))) := by
                 have e8 : (mr_dwl (f 0) (f 1).toNat 0 (mr_l3 0 0 0) (mr_sd sd)).2 = mr_sd (mr_sd (mr_sd (mr_sd sd))) := by rw [hf0, hf1]; exact hd.2
                 rw [← e8]
                 rfl
               exact ih (k + 1) _ _ _ _ _ N' _ w' (by omega) (by omega) (k2.1.trans k1.1) k1 k2 k3 k4 (by rw [← e9]; exact hK))
        · refine mr_aload_n dX7_drawn_79 rfl ?_
          refine mr_aload_n dX7_drawn_80 rfl ?_
          refine mr_callV (as := []) dX7_drawn_81 (ok_X7_by l G) ml_X7_195 cl_X7_by cv_X7_by (by decide) rfl rfl (Nat.le_of_ble_eq_true rfl) (by first | assumption | exact mr_up_same _ _ _ | (refine mr_lk ?_ (by first | assumption | decide); first | assumption | exact mr_up_same _ _ _ | (refine mr_lk ?_ (by first | assumption | decide); first | assumption | exact mr_up_same _ _ _ | (refine mr_lk ?_ (by first | assumption | decide); first | assumption | exact mr_up_same _ _ _ | (refine mr_lk ?_ (by first | assumption | decide); first | assumption | exact mr_up_same _ _ _))))) ?_
          refine ⟨_, _, _, _, _, _, _, _, _, _, _, _, _, _, _, rfl, (by first | assumption | exact mr_up_same _ _ _ | (refine mr_lk ?_ (by first | assumption | decide); first | assumption | exact mr_up_same _ _ _ | (refine mr_lk ?_ (by first | assumption | decide); first | assumption | exact mr_up_same _ _ _ | (refine mr_lk ?_ (by first | assumption | decide); first | assumption | exact mr_up_same _ _ _ | (refine mr_lk ?_ (by first | assumption | decide); first | assumption | exact mr_up_same _ _ _))))), (by first | assumption | exact mr_up_same _ _ _ | (refine mr_lk ?_ (by first | assumption | decide); first | assumption | exact mr_up_same _ _ _ | (refine mr_lk ?_ (by first | assumption | decide); first | assumption | exact mr_up_same _ _ _ | (refine mr_lk ?_ (by first | assumption | decide); first | assumption | exact mr_up_same _ _ _ | (refine mr_lk ?_ (by first | assumption | decide); first | assumption | exact mr_up_same _ _ _))))), ?_⟩
          dsimp only [Option.toList_some, Option.toList_none, List.cons_append, List.nil_append]
          refine mr_callV (as := [_]) dX7_drawn_84 (ok_X7_draw l G) ml_X7_266 cl_X7_draw cv_X7_draw (by decide) rfl rfl (Nat.le_of_ble_eq_true rfl) (by first | assumption | exact mr_up_same _ _ _ | (refine mr_lk ?_ (by first | assumption | decide); first | assumption | exact mr_up_same _ _ _ | (refine mr_lk ?_ (by first | assumption | decide); first | assumption | exact mr_up_same _ _ _ | (refine mr_lk ?_ (by first | assumption | decide); first | assumption | exact mr_up_same _ _ _ | (refine mr_lk ?_ (by first | assumption | decide); first | assumption | exact mr_up_same _ _ _))))) ?_
          refine ⟨_, _, _, _, _, _, _, _, _, _, _, _, _, _, _, _, _, _, _, _, _, _, _, (N 0), rfl, hM1, (by omega), (fun w2 hM2 hF2 => ?_)⟩
          obtain ⟨h18, h19, h20, h21, h22, h23, h24, h25, h26, h27, hs1, hs2, hik⟩ := id hM2
          dsimp only [Option.toList_some, Option.toList_none, List.cons_append, List.nil_append]
          refine mr_goto (tgt := 91) dX7_drawn_87 (by decide) ?_
          refine mr_iadd dX7_drawn_91 ?_
          refine mr_istore dX7_drawn_92 rfl (by decide) ?_
          refine mr_iinc dX7_drawn_94 rfl (by decide) rfl ?_
          refine mr_goto (tgt := 55) dX7_drawn_97 (by decide) ?_
          refine mr_iload dX7_drawn_55 rfl ?_
          refine mr_iconst dX7_drawn_57 ?_
          refine mr_icmp_ge (tgt := 100) dX7_drawn_58 (by decide) (by omega) (by omega) (fun _ => ?_) (fun h => absurd h (by decide))
          first
            | (exfalso; omega)
            | (have hw1 : W = 1 := by omega
               subst hw1
               have hd := mr_dwl_1 hMM (mr_sd sd)
               refine mr_weak [some (vR 18 0), some (vI n), some (vI x), some (vI k), some (vI (mr_dr sd 4)), some (vI (N 0 * (N 0 * (N 0 * 0 + mr_dr (mr_sd sd) (N 0)) + 0) + 0)), none] ⟨rfl, rfl, rfl, rfl, rfl, rfl, trivial⟩ ?_
               refine st_X7_drawn l G (n := n) (x := x) (k := k) (r := (mr_dwl (f 0) (f 1).toNat 0 (mr_l3 0 0 0) (mr_sd sd)).1) hW hC hdt (fun j g1 g2 => by rw [hf0, hf1]; rw [hd.2.2 j g1 g2]; exact mr_dvd_0 _) (by rw [hf0, hf1]; exact hd.1.symm) hM2 (hFr.tr (hF1.tr hF2)) (fun w' N' s1' ls' li' k1 k2 k3 k4 => ?_)
               have e9 : mr_deed (f, sd) = (mr_abs f (mr_dwl (f 0) (f 1).toNat 0 (mr_l3 0 0 0) (mr_sd sd)).1 (mr_dr sd 4) mr_Zz mr_Zz, mr_sd (mr_sd sd)) := by
                 have e8 : (mr_dwl (f 0) (f 1).toNat 0 (mr_l3 0 0 0) (mr_sd sd)).2 = mr_sd (mr_sd sd) := by rw [hf0, hf1]; exact hd.2.1
                 rw [← e8]
                 rfl
               exact ih (k + 1) _ _ _ _ _ N' _ w' (by omega) (by omega) (k2.1.trans k1.1) k1 k2 k3 k4 (by rw [← e9]; exact hK))
            | (have hw1 : W = 2 := by omega
               subst hw1
               have hd := mr_dwl_2 hMM (mr_sd sd)
               refine mr_weak [some (vR 18 0), some (vI n), some (vI x), some (vI k), some (vI (mr_dr sd 4)), some (vI (N 0 * (N 0 * (N 0 * 0 + mr_dr (mr_sd sd) (N 0)) + mr_dr (mr_sd (mr_sd sd)) (N 0)) + 0)), none] ⟨rfl, rfl, rfl, rfl, rfl, rfl, trivial⟩ ?_
               refine st_X7_drawn l G (n := n) (x := x) (k := k) (r := (mr_dwl (f 0) (f 1).toNat 0 (mr_l3 0 0 0) (mr_sd sd)).1) hW hC hdt (fun j g1 g2 => by rw [hf0, hf1]; rw [hd.2.2 j g1 g2]; exact mr_dvd_0 _) (by rw [hf0, hf1]; exact hd.1.symm) hM2 (hFr.tr (hF1.tr hF2)) (fun w' N' s1' ls' li' k1 k2 k3 k4 => ?_)
               have e9 : mr_deed (f, sd) = (mr_abs f (mr_dwl (f 0) (f 1).toNat 0 (mr_l3 0 0 0) (mr_sd sd)).1 (mr_dr sd 4) mr_Zz mr_Zz, mr_sd (mr_sd (mr_sd sd))) := by
                 have e8 : (mr_dwl (f 0) (f 1).toNat 0 (mr_l3 0 0 0) (mr_sd sd)).2 = mr_sd (mr_sd (mr_sd sd)) := by rw [hf0, hf1]; exact hd.2.1
                 rw [← e8]
                 rfl
               exact ih (k + 1) _ _ _ _ _ N' _ w' (by omega) (by omega) (k2.1.trans k1.1) k1 k2 k3 k4 (by rw [← e9]; exact hK))
            | (have hw1 : W = 3 := by omega
               subst hw1
               have hd := mr_dwl_3 hMM (mr_sd sd)
               refine mr_weak [some (vR 18 0), some (vI n), some (vI x), some (vI k), some (vI (mr_dr sd 4)), some (vI (N 0 * (N 0 * (N 0 * 0 + mr_dr (mr_sd sd) (N 0)) + mr_dr (mr_sd (mr_sd sd)) (N 0)) + mr_dr (mr_sd (mr_sd (mr_sd sd))) (N 0))), none] ⟨rfl, rfl, rfl, rfl, rfl, rfl, trivial⟩ ?_
               refine st_X7_drawn l G (n := n) (x := x) (k := k) (r := (mr_dwl (f 0) (f 1).toNat 0 (mr_l3 0 0 0) (mr_sd sd)).1) hW hC hdt (fun j g1 g2 => by omega) (by rw [hf0, hf1]; exact hd.1.symm) hM2 (hFr.tr (hF1.tr hF2)) (fun w' N' s1' ls' li' k1 k2 k3 k4 => ?_)
               have e9 : mr_deed (f, sd) = (mr_abs f (mr_dwl (f 0) (f 1).toNat 0 (mr_l3 0 0 0) (mr_sd sd)).1 (mr_dr sd 4) mr_Zz mr_Zz, mr_sd (mr_sd (mr_sd (mr_sd sd)))) := by
                 have e8 : (mr_dwl (f 0) (f 1).toNat 0 (mr_l3 0 0 0) (mr_sd sd)).2 = mr_sd (mr_sd (mr_sd (mr_sd sd))) := by rw [hf0, hf1]; exact hd.2
                 rw [← e8]
                 rfl
               exact ih (k + 1) _ _ _ _ _ N' _ w' (by omega) (by omega) (k2.1.trans k1.1) k1 k2 k3 k4 (by rw [← e9]; exact hK))
      · refine mr_aload_n dX7_drawn_79 rfl ?_
        refine mr_aload_n dX7_drawn_80 rfl ?_
        refine mr_callV (as := []) dX7_drawn_81 (ok_X7_by l G) ml_X7_195 cl_X7_by cv_X7_by (by decide) rfl rfl (Nat.le_of_ble_eq_true rfl) (by first | assumption | exact mr_up_same _ _ _ | (refine mr_lk ?_ (by first | assumption | decide); first | assumption | exact mr_up_same _ _ _ | (refine mr_lk ?_ (by first | assumption | decide); first | assumption | exact mr_up_same _ _ _ | (refine mr_lk ?_ (by first | assumption | decide); first | assumption | exact mr_up_same _ _ _ | (refine mr_lk ?_ (by first | assumption | decide); first | assumption | exact mr_up_same _ _ _))))) ?_
        refine ⟨_, _, _, _, _, _, _, _, _, _, _, _, _, _, _, rfl, (by first | assumption | exact mr_up_same _ _ _ | (refine mr_lk ?_ (by first | assumption | decide); first | assumption | exact mr_up_same _ _ _ | (refine mr_lk ?_ (by first | assumption | decide); first | assumption | exact mr_up_same _ _ _ | (refine mr_lk ?_ (by first | assumption | decide); first | assumption | exact mr_up_same _ _ _ | (refine mr_lk ?_ (by first | assumption | decide); first | assumption | exact mr_up_same _ _ _))))), (by first | assumption | exact mr_up_same _ _ _ | (refine mr_lk ?_ (by first | assumption | decide); first | assumption | exact mr_up_same _ _ _ | (refine mr_lk ?_ (by first | assumption | decide); first | assumption | exact mr_up_same _ _ _ | (refine mr_lk ?_ (by first | assumption | decide); first | assumption | exact mr_up_same _ _ _ | (refine mr_lk ?_ (by first | assumption | decide); first | assumption | exact mr_up_same _ _ _))))), ?_⟩
        dsimp only [Option.toList_some, Option.toList_none, List.cons_append, List.nil_append]
        refine mr_callV (as := [_]) dX7_drawn_84 (ok_X7_draw l G) ml_X7_266 cl_X7_draw cv_X7_draw (by decide) rfl rfl (Nat.le_of_ble_eq_true rfl) (by first | assumption | exact mr_up_same _ _ _ | (refine mr_lk ?_ (by first | assumption | decide); first | assumption | exact mr_up_same _ _ _ | (refine mr_lk ?_ (by first | assumption | decide); first | assumption | exact mr_up_same _ _ _ | (refine mr_lk ?_ (by first | assumption | decide); first | assumption | exact mr_up_same _ _ _ | (refine mr_lk ?_ (by first | assumption | decide); first | assumption | exact mr_up_same _ _ _))))) ?_
        refine ⟨_, _, _, _, _, _, _, _, _, _, _, _, _, _, _, _, _, _, _, _, _, _, _, (N 0), rfl, hM1, (by omega), (fun w3 hM3 hF3 => ?_)⟩
        obtain ⟨h18, h19, h20, h21, h22, h23, h24, h25, h26, h27, hs1, hs2, hik⟩ := id hM3
        dsimp only [Option.toList_some, Option.toList_none, List.cons_append, List.nil_append]
        refine mr_goto (tgt := 91) dX7_drawn_87 (by decide) ?_
        refine mr_iadd dX7_drawn_91 ?_
        refine mr_istore dX7_drawn_92 rfl (by decide) ?_
        refine mr_iinc dX7_drawn_94 rfl (by decide) rfl ?_
        refine mr_goto (tgt := 55) dX7_drawn_97 (by decide) ?_
        refine mr_iload dX7_drawn_55 rfl ?_
        refine mr_iconst dX7_drawn_57 ?_
        refine mr_icmp_ge (tgt := 100) dX7_drawn_58 (by decide) (by omega) (by omega) (fun h => absurd h (by decide)) (fun _ => ?_)
        refine mr_aload_n dX7_drawn_61 rfl ?_
        refine mr_callV (as := []) dX7_drawn_62 (ok_X7_by l G) ml_X7_195 cl_X7_by cv_X7_by (by decide) rfl rfl (Nat.le_of_ble_eq_true rfl) (by first | assumption | exact mr_up_same _ _ _ | (refine mr_lk ?_ (by first | assumption | decide); first | assumption | exact mr_up_same _ _ _ | (refine mr_lk ?_ (by first | assumption | decide); first | assumption | exact mr_up_same _ _ _ | (refine mr_lk ?_ (by first | assumption | decide); first | assumption | exact mr_up_same _ _ _ | (refine mr_lk ?_ (by first | assumption | decide); first | assumption | exact mr_up_same _ _ _))))) ?_
        refine ⟨_, _, _, _, _, _, _, _, _, _, _, _, _, _, _, rfl, (by first | assumption | exact mr_up_same _ _ _ | (refine mr_lk ?_ (by first | assumption | decide); first | assumption | exact mr_up_same _ _ _ | (refine mr_lk ?_ (by first | assumption | decide); first | assumption | exact mr_up_same _ _ _ | (refine mr_lk ?_ (by first | assumption | decide); first | assumption | exact mr_up_same _ _ _ | (refine mr_lk ?_ (by first | assumption | decide); first | assumption | exact mr_up_same _ _ _))))), (by first | assumption | exact mr_up_same _ _ _ | (refine mr_lk ?_ (by first | assumption | decide); first | assumption | exact mr_up_same _ _ _ | (refine mr_lk ?_ (by first | assumption | decide); first | assumption | exact mr_up_same _ _ _ | (refine mr_lk ?_ (by first | assumption | decide); first | assumption | exact mr_up_same _ _ _ | (refine mr_lk ?_ (by first | assumption | decide); first | assumption | exact mr_up_same _ _ _))))), ?_⟩
        dsimp only [Option.toList_some, Option.toList_none, List.cons_append, List.nil_append]
        refine mr_iload dX7_drawn_65 rfl ?_
        refine mr_imul dX7_drawn_67 ?_
        refine mr_iload dX7_drawn_68 rfl ?_
        refine mr_aload_n dX7_drawn_70 rfl ?_
        refine mr_get dX7_drawn_71 fl_X7_86 (by first | assumption | exact mr_up_same _ _ _ | (refine mr_lk ?_ (by first | assumption | decide); first | assumption | exact mr_up_same _ _ _ | (refine mr_lk ?_ (by first | assumption | decide); first | assumption | exact mr_up_same _ _ _ | (refine mr_lk ?_ (by first | assumption | decide); first | assumption | exact mr_up_same _ _ _ | (refine mr_lk ?_ (by first | assumption | decide); first | assumption | exact mr_up_same _ _ _))))) rfl ?_
        refine mr_iconst dX7_drawn_74 ?_
        refine mr_ialdK 1 dX7_drawn_75 (by first | assumption | exact mr_up_same _ _ _ | (refine mr_lk ?_ (by first | assumption | decide); first | assumption | exact mr_up_same _ _ _ | (refine mr_lk ?_ (by first | assumption | decide); first | assumption | exact mr_up_same _ _ _ | (refine mr_lk ?_ (by first | assumption | decide); first | assumption | exact mr_up_same _ _ _ | (refine mr_lk ?_ (by first | assumption | decide); first | assumption | exact mr_up_same _ _ _))))) (by decide) (by decide) ?_
        refine mr_icmp_ge (tgt := 90) dX7_drawn_76 (by decide) (by decide) ⟨by omega, by omega⟩ (fun hc_76 => ?_) (fun hc_76 => ?_)
        · refine mr_iconst dX7_drawn_90 ?_
          refine mr_iadd dX7_drawn_91 ?_
          refine mr_istore dX7_drawn_92 rfl (by decide) ?_
          refine mr_iinc dX7_drawn_94 rfl (by decide) rfl ?_
          refine mr_goto (tgt := 55) dX7_drawn_97 (by decide) ?_
          refine mr_iload dX7_drawn_55 rfl ?_
          refine mr_iconst dX7_drawn_57 ?_
          refine mr_icmp_ge (tgt := 100) dX7_drawn_58 (by decide) (by omega) (by omega) (fun _ => ?_) (fun h => absurd h (by decide))
          first
            | (exfalso; omega)
            | (have hw1 : W = 1 := by omega
               subst hw1
               have hd := mr_dwl_1 hMM (mr_sd sd)
               refine mr_weak [some (vR 18 0), some (vI n), some (vI x), some (vI k), some (vI (mr_dr sd 4)), some (vI (N 0 * (N 0 * (N 0 * 0 + mr_dr (mr_sd sd) (N 0)) + 0) + 0)), none] ⟨rfl, rfl, rfl, rfl, rfl, rfl, trivial⟩ ?_
               refine st_X7_drawn l G (n := n) (x := x) (k := k) (r := (mr_dwl (f 0) (f 1).toNat 0 (mr_l3 0 0 0) (mr_sd sd)).1) hW hC hdt (fun j g1 g2 => by rw [hf0, hf1]; rw [hd.2.2 j g1 g2]; exact mr_dvd_0 _) (by rw [hf0, hf1]; exact hd.1.symm) hM3 (hFr.tr (hF1.tr hF3)) (fun w' N' s1' ls' li' k1 k2 k3 k4 => ?_)
               have e9 : mr_deed (f, sd) = (mr_abs f (mr_dwl (f 0) (f 1).toNat 0 (mr_l3 0 0 0) (mr_sd sd)).1 (mr_dr sd 4) mr_Zz mr_Zz, mr_sd (mr_sd sd)) := by
                 have e8 : (mr_dwl (f 0) (f 1).toNat 0 (mr_l3 0 0 0) (mr_sd sd)).2 = mr_sd (mr_sd sd) := by rw [hf0, hf1]; exact hd.2.1
                 rw [← e8]
                 rfl
               exact ih (k + 1) _ _ _ _ _ N' _ w' (by omega) (by omega) (k2.1.trans k1.1) k1 k2 k3 k4 (by rw [← e9]; exact hK))
            | (have hw1 : W = 2 := by omega
               subst hw1
               have hd := mr_dwl_2 hMM (mr_sd sd)
               refine mr_weak [some (vR 18 0), some (vI n), some (vI x), some (vI k), some (vI (mr_dr sd 4)), some (vI (N 0 * (N 0 * (N 0 * 0 + mr_dr (mr_sd sd) (N 0)) + mr_dr (mr_sd (mr_sd sd)) (N 0)) + 0)), none] ⟨rfl, rfl, rfl, rfl, rfl, rfl, trivial⟩ ?_
               refine st_X7_drawn l G (n := n) (x := x) (k := k) (r := (mr_dwl (f 0) (f 1).toNat 0 (mr_l3 0 0 0) (mr_sd sd)).1) hW hC hdt (fun j g1 g2 => by rw [hf0, hf1]; rw [hd.2.2 j g1 g2]; exact mr_dvd_0 _) (by rw [hf0, hf1]; exact hd.1.symm) hM3 (hFr.tr (hF1.tr hF3)) (fun w' N' s1' ls' li' k1 k2 k3 k4 => ?_)
               have e9 : mr_deed (f, sd) = (mr_abs f (mr_dwl (f 0) (f 1).toNat 0 (mr_l3 0 0 0) (mr_sd sd)).1 (mr_dr sd 4) mr_Zz mr_Zz, mr_sd (mr_sd (mr_sd sd))) := by
                 have e8 : (mr_dwl (f 0) (f 1).toNat 0 (mr_l3 0 0 0) (mr_sd sd)).2 = mr_sd (mr_sd (mr_sd sd)) := by rw [hf0, hf1]; exact hd.2.1
                 rw [← e8]
                 rfl
               exact ih (k + 1) _ _ _ _ _ N' _ w' (by omega) (by omega) (k2.1.trans k1.1) k1 k2 k3 k4 (by rw [← e9]; exact hK))
            | (have hw1 : W = 3 := by omega
               subst hw1
               have hd := mr_dwl_3 hMM (mr_sd sd)
               refine mr_weak [some (vR 18 0), some (vI n), some (vI x), some (vI k), some (vI (mr_dr sd 4)), some (vI (N 0 * (N 0 * (N 0 * 0 + mr_dr (mr_sd sd) (N 0)) + mr_dr (mr_sd (mr_sd sd)) (N 0)) + mr_dr (mr_sd (mr_sd (mr_sd sd))) (N 0))), none] ⟨rfl, rfl, rfl, rfl, rfl, rfl, trivial⟩ ?_
               refine st_X7_drawn l G (n := n) (x := x) (k := k) (r := (mr_dwl (f 0) (f 1).toNat 0 (mr_l3 0 0 0) (mr_sd sd)).1) hW hC hdt (fun j g1 g2 => by omega) (by rw [hf0, hf1]; exact hd.1.symm) hM3 (hFr.tr (hF1.tr hF3)) (fun w' N' s1' ls' li' k1 k2 k3 k4 => ?_)
               have e9 : mr_deed (f, sd) = (mr_abs f (mr_dwl (f 0) (f 1).toNat 0 (mr_l3 0 0 0) (mr_sd sd)).1 (mr_dr sd 4) mr_Zz mr_Zz, mr_sd (mr_sd (mr_sd (mr_sd sd)))) := by
                 have e8 : (mr_dwl (f 0) (f 1).toNat 0 (mr_l3 0 0 0) (mr_sd sd)).2 = mr_sd (mr_sd (mr_sd (mr_sd sd))) := by rw [hf0, hf1]; exact hd.2
                 rw [← e8]
                 rfl
               exact ih (k + 1) _ _ _ _ _ N' _ w' (by omega) (by omega) (k2.1.trans k1.1) k1 k2 k3 k4 (by rw [← e9]; exact hK))
        · refine mr_aload_n dX7_drawn_79 rfl ?_
          refine mr_aload_n dX7_drawn_80 rfl ?_
          refine mr_callV (as := []) dX7_drawn_81 (ok_X7_by l G) ml_X7_195 cl_X7_by cv_X7_by (by decide) rfl rfl (Nat.le_of_ble_eq_true rfl) (by first | assumption | exact mr_up_same _ _ _ | (refine mr_lk ?_ (by first | assumption | decide); first | assumption | exact mr_up_same _ _ _ | (refine mr_lk ?_ (by first | assumption | decide); first | assumption | exact mr_up_same _ _ _ | (refine mr_lk ?_ (by first | assumption | decide); first | assumption | exact mr_up_same _ _ _ | (refine mr_lk ?_ (by first | assumption | decide); first | assumption | exact mr_up_same _ _ _))))) ?_
          refine ⟨_, _, _, _, _, _, _, _, _, _, _, _, _, _, _, rfl, (by first | assumption | exact mr_up_same _ _ _ | (refine mr_lk ?_ (by first | assumption | decide); first | assumption | exact mr_up_same _ _ _ | (refine mr_lk ?_ (by first | assumption | decide); first | assumption | exact mr_up_same _ _ _ | (refine mr_lk ?_ (by first | assumption | decide); first | assumption | exact mr_up_same _ _ _ | (refine mr_lk ?_ (by first | assumption | decide); first | assumption | exact mr_up_same _ _ _))))), (by first | assumption | exact mr_up_same _ _ _ | (refine mr_lk ?_ (by first | assumption | decide); first | assumption | exact mr_up_same _ _ _ | (refine mr_lk ?_ (by first | assumption | decide); first | assumption | exact mr_up_same _ _ _ | (refine mr_lk ?_ (by first | assumption | decide); first | assumption | exact mr_up_same _ _ _ | (refine mr_lk ?_ (by first | assumption | decide); first | assumption | exact mr_up_same _ _ _))))), ?_⟩
          dsimp only [Option.toList_some, Option.toList_none, List.cons_append, List.nil_append]
          refine mr_callV (as := [_]) dX7_drawn_84 (ok_X7_draw l G) ml_X7_266 cl_X7_draw cv_X7_draw (by decide) rfl rfl (Nat.le_of_ble_eq_true rfl) (by first | assumption | exact mr_up_same _ _ _ | (refine mr_lk ?_ (by first | assumption | decide); first | assumption | exact mr_up_same _ _ _ | (refine mr_lk ?_ (by first | assumption | decide); first | assumption | exact mr_up_same _ _ _ | (refine mr_lk ?_ (by first | assumption | decide); first | assumption | exact mr_up_same _ _ _ | (refine mr_lk ?_ (by first | assumption | decide); first | assumption | exact mr_up_same _ _ _))))) ?_
          refine ⟨_, _, _, _, _, _, _, _, _, _, _, _, _, _, _, _, _, _, _, _, _, _, _, (N 0), rfl, hM3, (by omega), (fun w4 hM4 hF4 => ?_)⟩
          obtain ⟨h18, h19, h20, h21, h22, h23, h24, h25, h26, h27, hs1, hs2, hik⟩ := id hM4
          dsimp only [Option.toList_some, Option.toList_none, List.cons_append, List.nil_append]
          refine mr_goto (tgt := 91) dX7_drawn_87 (by decide) ?_
          refine mr_iadd dX7_drawn_91 ?_
          refine mr_istore dX7_drawn_92 rfl (by decide) ?_
          refine mr_iinc dX7_drawn_94 rfl (by decide) rfl ?_
          refine mr_goto (tgt := 55) dX7_drawn_97 (by decide) ?_
          refine mr_iload dX7_drawn_55 rfl ?_
          refine mr_iconst dX7_drawn_57 ?_
          refine mr_icmp_ge (tgt := 100) dX7_drawn_58 (by decide) (by omega) (by omega) (fun _ => ?_) (fun h => absurd h (by decide))
          first
            | (exfalso; omega)
            | (have hw1 : W = 1 := by omega
               subst hw1
               have hd := mr_dwl_1 hMM (mr_sd sd)
               refine mr_weak [some (vR 18 0), some (vI n), some (vI x), some (vI k), some (vI (mr_dr sd 4)), some (vI (N 0 * (N 0 * (N 0 * 0 + mr_dr (mr_sd sd) (N 0)) + 0) + 0)), none] ⟨rfl, rfl, rfl, rfl, rfl, rfl, trivial⟩ ?_
               refine st_X7_drawn l G (n := n) (x := x) (k := k) (r := (mr_dwl (f 0) (f 1).toNat 0 (mr_l3 0 0 0) (mr_sd sd)).1) hW hC hdt (fun j g1 g2 => by rw [hf0, hf1]; rw [hd.2.2 j g1 g2]; exact mr_dvd_0 _) (by rw [hf0, hf1]; exact hd.1.symm) hM4 (hFr.tr (hF1.tr (hF3.tr hF4))) (fun w' N' s1' ls' li' k1 k2 k3 k4 => ?_)
               have e9 : mr_deed (f, sd) = (mr_abs f (mr_dwl (f 0) (f 1).toNat 0 (mr_l3 0 0 0) (mr_sd sd)).1 (mr_dr sd 4) mr_Zz mr_Zz, mr_sd (mr_sd sd)) := by
                 have e8 : (mr_dwl (f 0) (f 1).toNat 0 (mr_l3 0 0 0) (mr_sd sd)).2 = mr_sd (mr_sd sd) := by rw [hf0, hf1]; exact hd.2.1
                 rw [← e8]
                 rfl
               exact ih (k + 1) _ _ _ _ _ N' _ w' (by omega) (by omega) (k2.1.trans k1.1) k1 k2 k3 k4 (by rw [← e9]; exact hK))
            | (have hw1 : W = 2 := by omega
               subst hw1
               have hd := mr_dwl_2 hMM (mr_sd sd)
               refine mr_weak [some (vR 18 0), some (vI n), some (vI x), some (vI k), some (vI (mr_dr sd 4)), some (vI (N 0 * (N 0 * (N 0 * 0 + mr_dr (mr_sd sd) (N 0)) + mr_dr (mr_sd (mr_sd sd)) (N 0)) + 0)), none] ⟨rfl, rfl, rfl, rfl, rfl, rfl, trivial⟩ ?_
               refine st_X7_drawn l G (n := n) (x := x) (k := k) (r := (mr_dwl (f 0) (f 1).toNat 0 (mr_l3 0 0 0) (mr_sd sd)).1) hW hC hdt (fun j g1 g2 => by rw [hf0, hf1]; rw [hd.2.2 j g1 g2]; exact mr_dvd_0 _) (by rw [hf0, hf1]; exact hd.1.symm) hM4 (hFr.tr (hF1.tr (hF3.tr hF4))) (fun w' N' s1' ls' li' k1 k2 k3 k4 => ?_)
               have e9 : mr_deed (f, sd) = (mr_abs f (mr_dwl (f 0) (f 1).toNat 0 (mr_l3 0 0 0) (mr_sd sd)).1 (mr_dr sd 4) mr_Zz mr_Zz, mr_sd (mr_sd (mr_sd sd))) := by
                 have e8 : (mr_dwl (f 0) (f 1).toNat 0 (mr_l3 0 0 0) (mr_sd sd)).2 = mr_sd (mr_sd (mr_sd sd)) := by rw [hf0, hf1]; exact hd.2.1
                 rw [← e8]
                 rfl
               exact ih (k + 1) _ _ _ _ _ N' _ w' (by omega) (by omega) (k2.1.trans k1.1) k1 k2 k3 k4 (by rw [← e9]; exact hK))
            | (have hw1 : W = 3 := by omega
               subst hw1
               have hd := mr_dwl_3 hMM (mr_sd sd)
               refine mr_weak [some (vR 18 0), some (vI n), some (vI x), some (vI k), some (vI (mr_dr sd 4)), some (vI (N 0 * (N 0 * (N 0 * 0 + mr_dr (mr_sd sd) (N 0)) + mr_dr (mr_sd (mr_sd sd)) (N 0)) + mr_dr (mr_sd (mr_sd (mr_sd sd))) (N 0))), none] ⟨rfl, rfl, rfl, rfl, rfl, rfl, trivial⟩ ?_
               refine st_X7_drawn l G (n := n) (x := x) (k := k) (r := (mr_dwl (f 0) (f 1).toNat 0 (mr_l3 0 0 0) (mr_sd sd)).1) hW hC hdt (fun j g1 g2 => by omega) (by rw [hf0, hf1]; exact hd.1.symm) hM4 (hFr.tr (hF1.tr (hF3.tr hF4))) (fun w' N' s1' ls' li' k1 k2 k3 k4 => ?_)
               have e9 : mr_deed (f, sd) = (mr_abs f (mr_dwl (f 0) (f 1).toNat 0 (mr_l3 0 0 0) (mr_sd sd)).1 (mr_dr sd 4) mr_Zz mr_Zz, mr_sd (mr_sd (mr_sd (mr_sd sd)))) := by
                 have e8 : (mr_dwl (f 0) (f 1).toNat 0 (mr_l3 0 0 0) (mr_sd sd)).2 = mr_sd (mr_sd (mr_sd (mr_sd sd))) := by rw [hf0, hf1]; exact hd.2
                 rw [← e8]
                 rfl
               exact ih (k + 1) _ _ _ _ _ N' _ w' (by omega) (by omega) (k2.1.trans k1.1) k1 k2 k3 k4 (by rw [← e9]; exact hK))
    · refine mr_aload_n dX7_drawn_79 rfl ?_
      refine mr_aload_n dX7_drawn_80 rfl ?_
      refine mr_callV (as := []) dX7_drawn_81 (ok_X7_by l G) ml_X7_195 cl_X7_by cv_X7_by (by decide) rfl rfl (Nat.le_of_ble_eq_true rfl) (by first | assumption | exact mr_up_same _ _ _ | (refine mr_lk ?_ (by first | assumption | decide); first | assumption | exact mr_up_same _ _ _ | (refine mr_lk ?_ (by first | assumption | decide); first | assumption | exact mr_up_same _ _ _ | (refine mr_lk ?_ (by first | assumption | decide); first | assumption | exact mr_up_same _ _ _ | (refine mr_lk ?_ (by first | assumption | decide); first | assumption | exact mr_up_same _ _ _))))) ?_
      refine ⟨_, _, _, _, _, _, _, _, _, _, _, _, _, _, _, rfl, (by first | assumption | exact mr_up_same _ _ _ | (refine mr_lk ?_ (by first | assumption | decide); first | assumption | exact mr_up_same _ _ _ | (refine mr_lk ?_ (by first | assumption | decide); first | assumption | exact mr_up_same _ _ _ | (refine mr_lk ?_ (by first | assumption | decide); first | assumption | exact mr_up_same _ _ _ | (refine mr_lk ?_ (by first | assumption | decide); first | assumption | exact mr_up_same _ _ _))))), (by first | assumption | exact mr_up_same _ _ _ | (refine mr_lk ?_ (by first | assumption | decide); first | assumption | exact mr_up_same _ _ _ | (refine mr_lk ?_ (by first | assumption | decide); first | assumption | exact mr_up_same _ _ _ | (refine mr_lk ?_ (by first | assumption | decide); first | assumption | exact mr_up_same _ _ _ | (refine mr_lk ?_ (by first | assumption | decide); first | assumption | exact mr_up_same _ _ _))))), ?_⟩
      dsimp only [Option.toList_some, Option.toList_none, List.cons_append, List.nil_append]
      refine mr_callV (as := [_]) dX7_drawn_84 (ok_X7_draw l G) ml_X7_266 cl_X7_draw cv_X7_draw (by decide) rfl rfl (Nat.le_of_ble_eq_true rfl) (by first | assumption | exact mr_up_same _ _ _ | (refine mr_lk ?_ (by first | assumption | decide); first | assumption | exact mr_up_same _ _ _ | (refine mr_lk ?_ (by first | assumption | decide); first | assumption | exact mr_up_same _ _ _ | (refine mr_lk ?_ (by first | assumption | decide); first | assumption | exact mr_up_same _ _ _ | (refine mr_lk ?_ (by first | assumption | decide); first | assumption | exact mr_up_same _ _ _))))) ?_
      refine ⟨_, _, _, _, _, _, _, _, _, _, _, _, _, _, _, _, _, _, _, _, _, _, _, (N 0), rfl, hM1, (by omega), (fun w5 hM5 hF5 => ?_)⟩
      obtain ⟨h18, h19, h20, h21, h22, h23, h24, h25, h26, h27, hs1, hs2, hik⟩ := id hM5
      dsimp only [Option.toList_some, Option.toList_none, List.cons_append, List.nil_append]
      refine mr_goto (tgt := 91) dX7_drawn_87 (by decide) ?_
      refine mr_iadd dX7_drawn_91 ?_
      refine mr_istore dX7_drawn_92 rfl (by decide) ?_
      refine mr_iinc dX7_drawn_94 rfl (by decide) rfl ?_
      refine mr_goto (tgt := 55) dX7_drawn_97 (by decide) ?_
      refine mr_iload dX7_drawn_55 rfl ?_
      refine mr_iconst dX7_drawn_57 ?_
      refine mr_icmp_ge (tgt := 100) dX7_drawn_58 (by decide) (by omega) (by omega) (fun h => absurd h (by decide)) (fun _ => ?_)
      refine mr_aload_n dX7_drawn_61 rfl ?_
      refine mr_callV (as := []) dX7_drawn_62 (ok_X7_by l G) ml_X7_195 cl_X7_by cv_X7_by (by decide) rfl rfl (Nat.le_of_ble_eq_true rfl) (by first | assumption | exact mr_up_same _ _ _ | (refine mr_lk ?_ (by first | assumption | decide); first | assumption | exact mr_up_same _ _ _ | (refine mr_lk ?_ (by first | assumption | decide); first | assumption | exact mr_up_same _ _ _ | (refine mr_lk ?_ (by first | assumption | decide); first | assumption | exact mr_up_same _ _ _ | (refine mr_lk ?_ (by first | assumption | decide); first | assumption | exact mr_up_same _ _ _))))) ?_
      refine ⟨_, _, _, _, _, _, _, _, _, _, _, _, _, _, _, rfl, (by first | assumption | exact mr_up_same _ _ _ | (refine mr_lk ?_ (by first | assumption | decide); first | assumption | exact mr_up_same _ _ _ | (refine mr_lk ?_ (by first | assumption | decide); first | assumption | exact mr_up_same _ _ _ | (refine mr_lk ?_ (by first | assumption | decide); first | assumption | exact mr_up_same _ _ _ | (refine mr_lk ?_ (by first | assumption | decide); first | assumption | exact mr_up_same _ _ _))))), (by first | assumption | exact mr_up_same _ _ _ | (refine mr_lk ?_ (by first | assumption | decide); first | assumption | exact mr_up_same _ _ _ | (refine mr_lk ?_ (by first | assumption | decide); first | assumption | exact mr_up_same _ _ _ | (refine mr_lk ?_ (by first | assumption | decide); first | assumption | exact mr_up_same _ _ _ | (refine mr_lk ?_ (by first | assumption | decide); first | assumption | exact mr_up_same _ _ _))))), ?_⟩
      dsimp only [Option.toList_some, Option.toList_none, List.cons_append, List.nil_append]
      refine mr_iload dX7_drawn_65 rfl ?_
      refine mr_imul dX7_drawn_67 ?_
      refine mr_iload dX7_drawn_68 rfl ?_
      refine mr_aload_n dX7_drawn_70 rfl ?_
      refine mr_get dX7_drawn_71 fl_X7_86 (by first | assumption | exact mr_up_same _ _ _ | (refine mr_lk ?_ (by first | assumption | decide); first | assumption | exact mr_up_same _ _ _ | (refine mr_lk ?_ (by first | assumption | decide); first | assumption | exact mr_up_same _ _ _ | (refine mr_lk ?_ (by first | assumption | decide); first | assumption | exact mr_up_same _ _ _ | (refine mr_lk ?_ (by first | assumption | decide); first | assumption | exact mr_up_same _ _ _))))) rfl ?_
      refine mr_iconst dX7_drawn_74 ?_
      refine mr_ialdK 1 dX7_drawn_75 (by first | assumption | exact mr_up_same _ _ _ | (refine mr_lk ?_ (by first | assumption | decide); first | assumption | exact mr_up_same _ _ _ | (refine mr_lk ?_ (by first | assumption | decide); first | assumption | exact mr_up_same _ _ _ | (refine mr_lk ?_ (by first | assumption | decide); first | assumption | exact mr_up_same _ _ _ | (refine mr_lk ?_ (by first | assumption | decide); first | assumption | exact mr_up_same _ _ _))))) (by decide) (by decide) ?_
      refine mr_icmp_ge (tgt := 90) dX7_drawn_76 (by decide) (by decide) ⟨by omega, by omega⟩ (fun hc_76 => ?_) (fun hc_76 => ?_)
      · refine mr_iconst dX7_drawn_90 ?_
        refine mr_iadd dX7_drawn_91 ?_
        refine mr_istore dX7_drawn_92 rfl (by decide) ?_
        refine mr_iinc dX7_drawn_94 rfl (by decide) rfl ?_
        refine mr_goto (tgt := 55) dX7_drawn_97 (by decide) ?_
        refine mr_iload dX7_drawn_55 rfl ?_
        refine mr_iconst dX7_drawn_57 ?_
        refine mr_icmp_ge (tgt := 100) dX7_drawn_58 (by decide) (by omega) (by omega) (fun h => absurd h (by decide)) (fun _ => ?_)
        refine mr_aload_n dX7_drawn_61 rfl ?_
        refine mr_callV (as := []) dX7_drawn_62 (ok_X7_by l G) ml_X7_195 cl_X7_by cv_X7_by (by decide) rfl rfl (Nat.le_of_ble_eq_true rfl) (by first | assumption | exact mr_up_same _ _ _ | (refine mr_lk ?_ (by first | assumption | decide); first | assumption | exact mr_up_same _ _ _ | (refine mr_lk ?_ (by first | assumption | decide); first | assumption | exact mr_up_same _ _ _ | (refine mr_lk ?_ (by first | assumption | decide); first | assumption | exact mr_up_same _ _ _ | (refine mr_lk ?_ (by first | assumption | decide); first | assumption | exact mr_up_same _ _ _))))) ?_
        refine ⟨_, _, _, _, _, _, _, _, _, _, _, _, _, _, _, rfl, (by first | assumption | exact mr_up_same _ _ _ | (refine mr_lk ?_ (by first | assumption | decide); first | assumption | exact mr_up_same _ _ _ | (refine mr_lk ?_ (by first | assumption | decide); first | assumption | exact mr_up_same _ _ _ | (refine mr_lk ?_ (by first | assumption | decide); first | assumption | exact mr_up_same _ _ _ | (refine mr_lk ?_ (by first | assumption | decide); first | assumption | exact mr_up_same _ _ _))))), (by first | assumption | exact mr_up_same _ _ _ | (refine mr_lk ?_ (by first | assumption | decide); first | assumption | exact mr_up_same _ _ _ | (refine mr_lk ?_ (by first | assumption | decide); first | assumption | exact mr_up_same _ _ _ | (refine mr_lk ?_ (by first | assumption | decide); first | assumption | exact mr_up_same _ _ _ | (refine mr_lk ?_ (by first | assumption | decide); first | assumption | exact mr_up_same _ _ _))))), ?_⟩
        dsimp only [Option.toList_some, Option.toList_none, List.cons_append, List.nil_append]
        refine mr_iload dX7_drawn_65 rfl ?_
        refine mr_imul dX7_drawn_67 ?_
        refine mr_iload dX7_drawn_68 rfl ?_
        refine mr_aload_n dX7_drawn_70 rfl ?_
        refine mr_get dX7_drawn_71 fl_X7_86 (by first | assumption | exact mr_up_same _ _ _ | (refine mr_lk ?_ (by first | assumption | decide); first | assumption | exact mr_up_same _ _ _ | (refine mr_lk ?_ (by first | assumption | decide); first | assumption | exact mr_up_same _ _ _ | (refine mr_lk ?_ (by first | assumption | decide); first | assumption | exact mr_up_same _ _ _ | (refine mr_lk ?_ (by first | assumption | decide); first | assumption | exact mr_up_same _ _ _))))) rfl ?_
        refine mr_iconst dX7_drawn_74 ?_
        refine mr_ialdK 1 dX7_drawn_75 (by first | assumption | exact mr_up_same _ _ _ | (refine mr_lk ?_ (by first | assumption | decide); first | assumption | exact mr_up_same _ _ _ | (refine mr_lk ?_ (by first | assumption | decide); first | assumption | exact mr_up_same _ _ _ | (refine mr_lk ?_ (by first | assumption | decide); first | assumption | exact mr_up_same _ _ _ | (refine mr_lk ?_ (by first | assumption | decide); first | assumption | exact mr_up_same _ _ _))))) (by decide) (by decide) ?_
        refine mr_icmp_ge (tgt := 90) dX7_drawn_76 (by decide) (by decide) ⟨by omega, by omega⟩ (fun hc_76 => ?_) (fun hc_76 => ?_)
        · refine mr_iconst dX7_drawn_90 ?_
          refine mr_iadd dX7_drawn_91 ?_
          refine mr_istore dX7_drawn_92 rfl (by decide) ?_
          refine mr_iinc dX7_drawn_94 rfl (by decide) rfl ?_
          refine mr_goto (tgt := 55) dX7_drawn_97 (by decide) ?_
          refine mr_iload dX7_drawn_55 rfl ?_
          refine mr_iconst dX7_drawn_57 ?_
          refine mr_icmp_ge (tgt := 100) dX7_drawn_58 (by decide) (by omega) (by omega) (fun _ => ?_) (fun h => absurd h (by decide))
          first
            | (exfalso; omega)
            | (have hw1 : W = 1 := by omega
               subst hw1
               have hd := mr_dwl_1 hMM (mr_sd sd)
               refine mr_weak [some (vR 18 0), some (vI n), some (vI x), some (vI k), some (vI (mr_dr sd 4)), some (vI (N 0 * (N 0 * (N 0 * 0 + mr_dr (mr_sd sd) (N 0)) + 0) + 0)), none] ⟨rfl, rfl, rfl, rfl, rfl, rfl, trivial⟩ ?_
               refine st_X7_drawn l G (n := n) (x := x) (k := k) (r := (mr_dwl (f 0) (f 1).toNat 0 (mr_l3 0 0 0) (mr_sd sd)).1) hW hC hdt (fun j g1 g2 => by rw [hf0, hf1]; rw [hd.2.2 j g1 g2]; exact mr_dvd_0 _) (by rw [hf0, hf1]; exact hd.1.symm) hM5 (hFr.tr (hF1.tr hF5)) (fun w' N' s1' ls' li' k1 k2 k3 k4 => ?_)
               have e9 : mr_deed (f, sd) = (mr_abs f (mr_dwl (f 0) (f 1).toNat 0 (mr_l3 0 0 0) (mr_sd sd)).1 (mr_dr sd 4) mr_Zz mr_Zz, mr_sd (mr_sd sd)) := by
                 have e8 : (mr_dwl (f 0) (f 1).toNat 0 (mr_l3 0 0 0) (mr_sd sd)).2 = mr_sd (mr_sd sd) := by rw [hf0, hf1]; exact hd.2.1
                 rw [← e8]
                 rfl
               exact ih (k + 1) _ _ _ _ _ N' _ w' (by omega) (by omega) (k2.1.trans k1.1) k1 k2 k3 k4 (by rw [← e9]; exact hK))
            | (have hw1 : W = 2 := by omega
               subst hw1
               have hd := mr_dwl_2 hMM (mr_sd sd)
               refine mr_weak [some (vR 18 0), some (vI n), some (vI x), some (vI k), some (vI (mr_dr sd 4)), some (vI (N 0 * (N 0 * (N 0 * 0 + mr_dr (mr_sd sd) (N 0)) + mr_dr (mr_sd (mr_sd sd)) (N 0)) + 0)), none] ⟨rfl, rfl, rfl, rfl, rfl, rfl, trivial⟩ ?_
               refine st_X7_drawn l G (n := n) (x := x) (k := k) (r := (mr_dwl (f 0) (f 1).toNat 0 (mr_l3 0 0 0) (mr_sd sd)).1) hW hC hdt (fun j g1 g2 => by rw [hf0, hf1]; rw [hd.2.2 j g1 g2]; exact mr_dvd_0 _) (by rw [hf0, hf1]; exact hd.1.symm) hM5 (hFr.tr (hF1.tr hF5)) (fun w' N' s1' ls' li' k1 k2 k3 k4 => ?_)
               have e9 : mr_deed (f, sd) = (mr_abs f (mr_dwl (f 0) (f 1).toNat 0 (mr_l3 0 0 0) (mr_sd sd)).1 (mr_dr sd 4) mr_Zz mr_Zz, mr_sd (mr_sd (mr_sd sd))) := by
                 have e8 : (mr_dwl (f 0) (f 1).toNat 0 (mr_l3 0 0 0) (mr_sd sd)).2 = mr_sd (mr_sd (mr_sd sd)) := by rw [hf0, hf1]; exact hd.2.1
                 rw [← e8]
                 rfl
               exact ih (k + 1) _ _ _ _ _ N' _ w' (by omega) (by omega) (k2.1.trans k1.1) k1 k2 k3 k4 (by rw [← e9]; exact hK))
            | (have hw1 : W = 3 := by omega
               subst hw1
               have hd := mr_dwl_3 hMM (mr_sd sd)
               refine mr_weak [some (vR 18 0), some (vI n), some (vI x), some (vI k), some (vI (mr_dr sd 4)), some (vI (N 0 * (N 0 * (N 0 * 0 + mr_dr (mr_sd sd) (N 0)) + mr_dr (mr_sd (mr_sd sd)) (N 0)) + mr_dr (mr_sd (mr_sd (mr_sd sd))) (N 0))), none] ⟨rfl, rfl, rfl, rfl, rfl, rfl, trivial⟩ ?_
               refine st_X7_drawn l G (n := n) (x := x) (k := k) (r := (mr_dwl (f 0) (f 1).toNat 0 (mr_l3 0 0 0) (mr_sd sd)).1) hW hC hdt (fun j g1 g2 => by omega) (by rw [hf0, hf1]; exact hd.1.symm) hM5 (hFr.tr (hF1.tr hF5)) (fun w' N' s1' ls' li' k1 k2 k3 k4 => ?_)
               have e9 : mr_deed (f, sd) = (mr_abs f (mr_dwl (f 0) (f 1).toNat 0 (mr_l3 0 0 0) (mr_sd sd)).1 (mr_dr sd 4) mr_Zz mr_Zz, mr_sd (mr_sd (mr_sd (mr_sd sd)))) := by
                 have e8 : (mr_dwl (f 0) (f 1).toNat 0 (mr_l3 0 0 0) (mr_sd sd)).2 = mr_sd (mr_sd (mr_sd (mr_sd sd))) := by rw [hf0, hf1]; exact hd.2
                 rw [← e8]
                 rfl
               exact ih (k + 1) _ _ _ _ _ N' _ w' (by omega) (by omega) (k2.1.trans k1.1) k1 k2 k3 k4 (by rw [← e9]; exact hK))
        · refine mr_aload_n dX7_drawn_79 rfl ?_
          refine mr_aload_n dX7_drawn_80 rfl ?_
          refine mr_callV (as := []) dX7_drawn_81 (ok_X7_by l G) ml_X7_195 cl_X7_by cv_X7_by (by decide) rfl rfl (Nat.le_of_ble_eq_true rfl) (by first | assumption | exact mr_up_same _ _ _ | (refine mr_lk ?_ (by first | assumption | decide); first | assumption | exact mr_up_same _ _ _ | (refine mr_lk ?_ (by first | assumption | decide); first | assumption | exact mr_up_same _ _ _ | (refine mr_lk ?_ (by first | assumption | decide); first | assumption | exact mr_up_same _ _ _ | (refine mr_lk ?_ (by first | assumption | decide); first | assumption | exact mr_up_same _ _ _))))) ?_
          refine ⟨_, _, _, _, _, _, _, _, _, _, _, _, _, _, _, rfl, (by first | assumption | exact mr_up_same _ _ _ | (refine mr_lk ?_ (by first | assumption | decide); first | assumption | exact mr_up_same _ _ _ | (refine mr_lk ?_ (by first | assumption | decide); first | assumption | exact mr_up_same _ _ _ | (refine mr_lk ?_ (by first | assumption | decide); first | assumption | exact mr_up_same _ _ _ | (refine mr_lk ?_ (by first | assumption | decide); first | assumption | exact mr_up_same _ _ _))))), (by first | assumption | exact mr_up_same _ _ _ | (refine mr_lk ?_ (by first | assumption | decide); first | assumption | exact mr_up_same _ _ _ | (refine mr_lk ?_ (by first | assumption | decide); first | assumption | exact mr_up_same _ _ _ | (refine mr_lk ?_ (by first | assumption | decide); first | assumption | exact mr_up_same _ _ _ | (refine mr_lk ?_ (by first | assumption | decide); first | assumption | exact mr_up_same _ _ _))))), ?_⟩
          dsimp only [Option.toList_some, Option.toList_none, List.cons_append, List.nil_append]
          refine mr_callV (as := [_]) dX7_drawn_84 (ok_X7_draw l G) ml_X7_266 cl_X7_draw cv_X7_draw (by decide) rfl rfl (Nat.le_of_ble_eq_true rfl) (by first | assumption | exact mr_up_same _ _ _ | (refine mr_lk ?_ (by first | assumption | decide); first | assumption | exact mr_up_same _ _ _ | (refine mr_lk ?_ (by first | assumption | decide); first | assumption | exact mr_up_same _ _ _ | (refine mr_lk ?_ (by first | assumption | decide); first | assumption | exact mr_up_same _ _ _ | (refine mr_lk ?_ (by first | assumption | decide); first | assumption | exact mr_up_same _ _ _))))) ?_
          refine ⟨_, _, _, _, _, _, _, _, _, _, _, _, _, _, _, _, _, _, _, _, _, _, _, (N 0), rfl, hM5, (by omega), (fun w6 hM6 hF6 => ?_)⟩
          obtain ⟨h18, h19, h20, h21, h22, h23, h24, h25, h26, h27, hs1, hs2, hik⟩ := id hM6
          dsimp only [Option.toList_some, Option.toList_none, List.cons_append, List.nil_append]
          refine mr_goto (tgt := 91) dX7_drawn_87 (by decide) ?_
          refine mr_iadd dX7_drawn_91 ?_
          refine mr_istore dX7_drawn_92 rfl (by decide) ?_
          refine mr_iinc dX7_drawn_94 rfl (by decide) rfl ?_
          refine mr_goto (tgt := 55) dX7_drawn_97 (by decide) ?_
          refine mr_iload dX7_drawn_55 rfl ?_
          refine mr_iconst dX7_drawn_57 ?_
          refine mr_icmp_ge (tgt := 100) dX7_drawn_58 (by decide) (by omega) (by omega) (fun _ => ?_) (fun h => absurd h (by decide))
          first
            | (exfalso; omega)
            | (have hw1 : W = 1 := by omega
               subst hw1
               have hd := mr_dwl_1 hMM (mr_sd sd)
               refine mr_weak [some (vR 18 0), some (vI n), some (vI x), some (vI k), some (vI (mr_dr sd 4)), some (vI (N 0 * (N 0 * (N 0 * 0 + mr_dr (mr_sd sd) (N 0)) + 0) + 0)), none] ⟨rfl, rfl, rfl, rfl, rfl, rfl, trivial⟩ ?_
               refine st_X7_drawn l G (n := n) (x := x) (k := k) (r := (mr_dwl (f 0) (f 1).toNat 0 (mr_l3 0 0 0) (mr_sd sd)).1) hW hC hdt (fun j g1 g2 => by rw [hf0, hf1]; rw [hd.2.2 j g1 g2]; exact mr_dvd_0 _) (by rw [hf0, hf1]; exact hd.1.symm) hM6 (hFr.tr (hF1.tr (hF5.tr hF6))) (fun w' N' s1' ls' li' k1 k2 k3 k4 => ?_)
               have e9 : mr_deed (f, sd) = (mr_abs f (mr_dwl (f 0) (f 1).toNat 0 (mr_l3 0 0 0) (mr_sd sd)).1 (mr_dr sd 4) mr_Zz mr_Zz, mr_sd (mr_sd sd)) := by
                 have e8 : (mr_dwl (f 0) (f 1).toNat 0 (mr_l3 0 0 0) (mr_sd sd)).2 = mr_sd (mr_sd sd) := by rw [hf0, hf1]; exact hd.2.1
                 rw [← e8]
                 rfl
               exact ih (k + 1) _ _ _ _ _ N' _ w' (by omega) (by omega) (k2.1.trans k1.1) k1 k2 k3 k4 (by rw [← e9]; exact hK))
            | (have hw1 : W = 2 := by omega
               subst hw1
               have hd := mr_dwl_2 hMM (mr_sd sd)
               refine mr_weak [some (vR 18 0), some (vI n), some (vI x), some (vI k), some (vI (mr_dr sd 4)), some (vI (N 0 * (N 0 * (N 0 * 0 + mr_dr (mr_sd sd) (N 0)) + mr_dr (mr_sd (mr_sd sd)) (N 0)) + 0)), none] ⟨rfl, rfl, rfl, rfl, rfl, rfl, trivial⟩ ?_
               refine st_X7_drawn l G (n := n) (x := x) (k := k) (r := (mr_dwl (f 0) (f 1).toNat 0 (mr_l3 0 0 0) (mr_sd sd)).1) hW hC hdt (fun j g1 g2 => by rw [hf0, hf1]; rw [hd.2.2 j g1 g2]; exact mr_dvd_0 _) (by rw [hf0, hf1]; exact hd.1.symm) hM6 (hFr.tr (hF1.tr (hF5.tr hF6))) (fun w' N' s1' ls' li' k1 k2 k3 k4 => ?_)
               have e9 : mr_deed (f, sd) = (mr_abs f (mr_dwl (f 0) (f 1).toNat 0 (mr_l3 0 0 0) (mr_sd sd)).1 (mr_dr sd 4) mr_Zz mr_Zz, mr_sd (mr_sd (mr_sd sd))) := by
                 have e8 : (mr_dwl (f 0) (f 1).toNat 0 (mr_l3 0 0 0) (mr_sd sd)).2 = mr_sd (mr_sd (mr_sd sd)) := by rw [hf0, hf1]; exact hd.2.1
                 rw [← e8]
                 rfl
               exact ih (k + 1) _ _ _ _ _ N' _ w' (by omega) (by omega) (k2.1.trans k1.1) k1 k2 k3 k4 (by rw [← e9]; exact hK))
            | (have hw1 : W = 3 := by omega
               subst hw1
               have hd := mr_dwl_3 hMM (mr_sd sd)
               refine mr_weak [some (vR 18 0), some (vI n), some (vI x), some (vI k), some (vI (mr_dr sd 4)), some (vI (N 0 * (N 0 * (N 0 * 0 + mr_dr (mr_sd sd) (N 0)) + mr_dr (mr_sd (mr_sd sd)) (N 0)) + mr_dr (mr_sd (mr_sd (mr_sd sd))) (N 0))), none] ⟨rfl, rfl, rfl, rfl, rfl, rfl, trivial⟩ ?_
               refine st_X7_drawn l G (n := n) (x := x) (k := k) (r := (mr_dwl (f 0) (f 1).toNat 0 (mr_l3 0 0 0) (mr_sd sd)).1) hW hC hdt (fun j g1 g2 => by omega) (by rw [hf0, hf1]; exact hd.1.symm) hM6 (hFr.tr (hF1.tr (hF5.tr hF6))) (fun w' N' s1' ls' li' k1 k2 k3 k4 => ?_)
               have e9 : mr_deed (f, sd) = (mr_abs f (mr_dwl (f 0) (f 1).toNat 0 (mr_l3 0 0 0) (mr_sd sd)).1 (mr_dr sd 4) mr_Zz mr_Zz, mr_sd (mr_sd (mr_sd (mr_sd sd)))) := by
                 have e8 : (mr_dwl (f 0) (f 1).toNat 0 (mr_l3 0 0 0) (mr_sd sd)).2 = mr_sd (mr_sd (mr_sd (mr_sd sd))) := by rw [hf0, hf1]; exact hd.2
                 rw [← e8]
                 rfl
               exact ih (k + 1) _ _ _ _ _ N' _ w' (by omega) (by omega) (k2.1.trans k1.1) k1 k2 k3 k4 (by rw [← e9]; exact hK))
      · refine mr_aload_n dX7_drawn_79 rfl ?_
        refine mr_aload_n dX7_drawn_80 rfl ?_
        refine mr_callV (as := []) dX7_drawn_81 (ok_X7_by l G) ml_X7_195 cl_X7_by cv_X7_by (by decide) rfl rfl (Nat.le_of_ble_eq_true rfl) (by first | assumption | exact mr_up_same _ _ _ | (refine mr_lk ?_ (by first | assumption | decide); first | assumption | exact mr_up_same _ _ _ | (refine mr_lk ?_ (by first | assumption | decide); first | assumption | exact mr_up_same _ _ _ | (refine mr_lk ?_ (by first | assumption | decide); first | assumption | exact mr_up_same _ _ _ | (refine mr_lk ?_ (by first | assumption | decide); first | assumption | exact mr_up_same _ _ _))))) ?_
        refine ⟨_, _, _, _, _, _, _, _, _, _, _, _, _, _, _, rfl, (by first | assumption | exact mr_up_same _ _ _ | (refine mr_lk ?_ (by first | assumption | decide); first | assumption | exact mr_up_same _ _ _ | (refine mr_lk ?_ (by first | assumption | decide); first | assumption | exact mr_up_same _ _ _ | (refine mr_lk ?_ (by first | assumption | decide); first | assumption | exact mr_up_same _ _ _ | (refine mr_lk ?_ (by first | assumption | decide); first | assumption | exact mr_up_same _ _ _))))), (by first | assumption | exact mr_up_same _ _ _ | (refine mr_lk ?_ (by first | assumption | decide); first | assumption | exact mr_up_same _ _ _ | (refine mr_lk ?_ (by first | assumption | decide); first | assumption | exact mr_up_same _ _ _ | (refine mr_lk ?_ (by first | assumption | decide); first | assumption | exact mr_up_same _ _ _ | (refine mr_lk ?_ (by first | assumption | decide); first | assumption | exact mr_up_same _ _ _))))), ?_⟩
        dsimp only [Option.toList_some, Option.toList_none, List.cons_append, List.nil_append]
        refine mr_callV (as := [_]) dX7_drawn_84 (ok_X7_draw l G) ml_X7_266 cl_X7_draw cv_X7_draw (by decide) rfl rfl (Nat.le_of_ble_eq_true rfl) (by first | assumption | exact mr_up_same _ _ _ | (refine mr_lk ?_ (by first | assumption | decide); first | assumption | exact mr_up_same _ _ _ | (refine mr_lk ?_ (by first | assumption | decide); first | assumption | exact mr_up_same _ _ _ | (refine mr_lk ?_ (by first | assumption | decide); first | assumption | exact mr_up_same _ _ _ | (refine mr_lk ?_ (by first | assumption | decide); first | assumption | exact mr_up_same _ _ _))))) ?_
        refine ⟨_, _, _, _, _, _, _, _, _, _, _, _, _, _, _, _, _, _, _, _, _, _, _, (N 0), rfl, hM5, (by omega), (fun w7 hM7 hF7 => ?_)⟩
        obtain ⟨h18, h19, h20, h21, h22, h23, h24, h25, h26, h27, hs1, hs2, hik⟩ := id hM7
        dsimp only [Option.toList_some, Option.toList_none, List.cons_append, List.nil_append]
        refine mr_goto (tgt := 91) dX7_drawn_87 (by decide) ?_
        refine mr_iadd dX7_drawn_91 ?_
        refine mr_istore dX7_drawn_92 rfl (by decide) ?_
        refine mr_iinc dX7_drawn_94 rfl (by decide) rfl ?_
        refine mr_goto (tgt := 55) dX7_drawn_97 (by decide) ?_
        refine mr_iload dX7_drawn_55 rfl ?_
        refine mr_iconst dX7_drawn_57 ?_
        refine mr_icmp_ge (tgt := 100) dX7_drawn_58 (by decide) (by omega) (by omega) (fun h => absurd h (by decide)) (fun _ => ?_)
        refine mr_aload_n dX7_drawn_61 rfl ?_
        refine mr_callV (as := []) dX7_drawn_62 (ok_X7_by l G) ml_X7_195 cl_X7_by cv_X7_by (by decide) rfl rfl (Nat.le_of_ble_eq_true rfl) (by first | assumption | exact mr_up_same _ _ _ | (refine mr_lk ?_ (by first | assumption | decide); first | assumption | exact mr_up_same _ _ _ | (refine mr_lk ?_ (by first | assumption | decide); first | assumption | exact mr_up_same _ _ _ | (refine mr_lk ?_ (by first | assumption | decide); first | assumption | exact mr_up_same _ _ _ | (refine mr_lk ?_ (by first | assumption | decide); first | assumption | exact mr_up_same _ _ _))))) ?_
        refine ⟨_, _, _, _, _, _, _, _, _, _, _, _, _, _, _, rfl, (by first | assumption | exact mr_up_same _ _ _ | (refine mr_lk ?_ (by first | assumption | decide); first | assumption | exact mr_up_same _ _ _ | (refine mr_lk ?_ (by first | assumption | decide); first | assumption | exact mr_up_same _ _ _ | (refine mr_lk ?_ (by first | assumption | decide); first | assumption | exact mr_up_same _ _ _ | (refine mr_lk ?_ (by first | assumption | decide); first | assumption | exact mr_up_same _ _ _))))), (by first | assumption | exact mr_up_same _ _ _ | (refine mr_lk ?_ (by first | assumption | decide); first | assumption | exact mr_up_same _ _ _ | (refine mr_lk ?_ (by first | assumption | decide); first | assumption | exact mr_up_same _ _ _ | (refine mr_lk ?_ (by first | assumption | decide); first | assumption | exact mr_up_same _ _ _ | (refine mr_lk ?_ (by first | assumption | decide); first | assumption | exact mr_up_same _ _ _))))), ?_⟩
        dsimp only [Option.toList_some, Option.toList_none, List.cons_append, List.nil_append]
        refine mr_iload dX7_drawn_65 rfl ?_
        refine mr_imul dX7_drawn_67 ?_
        refine mr_iload dX7_drawn_68 rfl ?_
        refine mr_aload_n dX7_drawn_70 rfl ?_
        refine mr_get dX7_drawn_71 fl_X7_86 (by first | assumption | exact mr_up_same _ _ _ | (refine mr_lk ?_ (by first | assumption | decide); first | assumption | exact mr_up_same _ _ _ | (refine mr_lk ?_ (by first | assumption | decide); first | assumption | exact mr_up_same _ _ _ | (refine mr_lk ?_ (by first | assumption | decide); first | assumption | exact mr_up_same _ _ _ | (refine mr_lk ?_ (by first | assumption | decide); first | assumption | exact mr_up_same _ _ _))))) rfl ?_
        refine mr_iconst dX7_drawn_74 ?_
        refine mr_ialdK 1 dX7_drawn_75 (by first | assumption | exact mr_up_same _ _ _ | (refine mr_lk ?_ (by first | assumption | decide); first | assumption | exact mr_up_same _ _ _ | (refine mr_lk ?_ (by first | assumption | decide); first | assumption | exact mr_up_same _ _ _ | (refine mr_lk ?_ (by first | assumption | decide); first | assumption | exact mr_up_same _ _ _ | (refine mr_lk ?_ (by first | assumption | decide); first | assumption | exact mr_up_same _ _ _))))) (by decide) (by decide) ?_
        refine mr_icmp_ge (tgt := 90) dX7_drawn_76 (by decide) (by decide) ⟨by omega, by omega⟩ (fun hc_76 => ?_) (fun hc_76 => ?_)
        · refine mr_iconst dX7_drawn_90 ?_
          refine mr_iadd dX7_drawn_91 ?_
          refine mr_istore dX7_drawn_92 rfl (by decide) ?_
          refine mr_iinc dX7_drawn_94 rfl (by decide) rfl ?_
          refine mr_goto (tgt := 55) dX7_drawn_97 (by decide) ?_
          refine mr_iload dX7_drawn_55 rfl ?_
          refine mr_iconst dX7_drawn_57 ?_
          refine mr_icmp_ge (tgt := 100) dX7_drawn_58 (by decide) (by omega) (by omega) (fun _ => ?_) (fun h => absurd h (by decide))
          first
            | (exfalso; omega)
            | (have hw1 : W = 1 := by omega
               subst hw1
               have hd := mr_dwl_1 hMM (mr_sd sd)
               refine mr_weak [some (vR 18 0), some (vI n), some (vI x), some (vI k), some (vI (mr_dr sd 4)), some (vI (N 0 * (N 0 * (N 0 * 0 + mr_dr (mr_sd sd) (N 0)) + 0) + 0)), none] ⟨rfl, rfl, rfl, rfl, rfl, rfl, trivial⟩ ?_
               refine st_X7_drawn l G (n := n) (x := x) (k := k) (r := (mr_dwl (f 0) (f 1).toNat 0 (mr_l3 0 0 0) (mr_sd sd)).1) hW hC hdt (fun j g1 g2 => by rw [hf0, hf1]; rw [hd.2.2 j g1 g2]; exact mr_dvd_0 _) (by rw [hf0, hf1]; exact hd.1.symm) hM7 (hFr.tr (hF1.tr (hF5.tr hF7))) (fun w' N' s1' ls' li' k1 k2 k3 k4 => ?_)
               have e9 : mr_deed (f, sd) = (mr_abs f (mr_dwl (f 0) (f 1).toNat 0 (mr_l3 0 0 0) (mr_sd sd)).1 (mr_dr sd 4) mr_Zz mr_Zz, mr_sd (mr_sd sd)) := by
                 have e8 : (mr_dwl (f 0) (f 1).toNat 0 (mr_l3 0 0 0) (mr_sd sd)).2 = mr_sd (mr_sd sd) := by rw [hf0, hf1]; exact hd.2.1
                 rw [← e8]
                 rfl
               exact ih (k + 1) _ _ _ _ _ N' _ w' (by omega) (by omega) (k2.1.trans k1.1) k1 k2 k3 k4 (by rw [← e9]; exact hK))
            | (have hw1 : W = 2 := by omega
               subst hw1
               have hd := mr_dwl_2 hMM (mr_sd sd)
               refine mr_weak [some (vR 18 0), some (vI n), some (vI x), some (vI k), some (vI (mr_dr sd 4)), some (vI (N 0 * (N 0 * (N 0 * 0 + mr_dr (mr_sd sd) (N 0)) + mr_dr (mr_sd (mr_sd sd)) (N 0)) + 0)), none] ⟨rfl, rfl, rfl, rfl, rfl, rfl, trivial⟩ ?_
               refine st_X7_drawn l G (n := n) (x := x) (k := k) (r := (mr_dwl (f 0) (f 1).toNat 0 (mr_l3 0 0 0) (mr_sd sd)).1) hW hC hdt (fun j g1 g2 => by rw [hf0, hf1]; rw [hd.2.2 j g1 g2]; exact mr_dvd_0 _) (by rw [hf0, hf1]; exact hd.1.symm) hM7 (hFr.tr (hF1.tr (hF5.tr hF7))) (fun w' N' s1' ls' li' k1 k2 k3 k4 => ?_)
               have e9 : mr_deed (f, sd) = (mr_abs f (mr_dwl (f 0) (f 1).toNat 0 (mr_l3 0 0 0) (mr_sd sd)).1 (mr_dr sd 4) mr_Zz mr_Zz, mr_sd (mr_sd (mr_sd sd))) := by
                 have e8 : (mr_dwl (f 0) (f 1).toNat 0 (mr_l3 0 0 0) (mr_sd sd)).2 = mr_sd (mr_sd (mr_sd sd)) := by rw [hf0, hf1]; exact hd.2.1
                 rw [← e8]
                 rfl
               exact ih (k + 1) _ _ _ _ _ N' _ w' (by omega) (by omega) (k2.1.trans k1.1) k1 k2 k3 k4 (by rw [← e9]; exact hK))
            | (have hw1 : W = 3 := by omega
               subst hw1
               have hd := mr_dwl_3 hMM (mr_sd sd)
               refine mr_weak [some (vR 18 0), some (vI n), some (vI x), some (vI k), some (vI (mr_dr sd 4)), some (vI (N 0 * (N 0 * (N 0 * 0 + mr_dr (mr_sd sd) (N 0)) + mr_dr (mr_sd (mr_sd sd)) (N 0)) + mr_dr (mr_sd (mr_sd (mr_sd sd))) (N 0))), none] ⟨rfl, rfl, rfl, rfl, rfl, rfl, trivial⟩ ?_
               refine st_X7_drawn l G (n := n) (x := x) (k := k) (r := (mr_dwl (f 0) (f 1).toNat 0 (mr_l3 0 0 0) (mr_sd sd)).1) hW hC hdt (fun j g1 g2 => by omega) (by rw [hf0, hf1]; exact hd.1.symm) hM7 (hFr.tr (hF1.tr (hF5.tr hF7))) (fun w' N' s1' ls' li' k1 k2 k3 k4 => ?_)
               have e9 : mr_deed (f, sd) = (mr_abs f (mr_dwl (f 0) (f 1).toNat 0 (mr_l3 0 0 0) (mr_sd sd)).1 (mr_dr sd 4) mr_Zz mr_Zz, mr_sd (mr_sd (mr_sd (mr_sd sd)))) := by
                 have e8 : (mr_dwl (f 0) (f 1).toNat 0 (mr_l3 0 0 0) (mr_sd sd)).2 = mr_sd (mr_sd (mr_sd (mr_sd sd))) := by rw [hf0, hf1]; exact hd.2
                 rw [← e8]
                 rfl
               exact ih (k + 1) _ _ _ _ _ N' _ w' (by omega) (by omega) (k2.1.trans k1.1) k1 k2 k3 k4 (by rw [← e9]; exact hK))
        · refine mr_aload_n dX7_drawn_79 rfl ?_
          refine mr_aload_n dX7_drawn_80 rfl ?_
          refine mr_callV (as := []) dX7_drawn_81 (ok_X7_by l G) ml_X7_195 cl_X7_by cv_X7_by (by decide) rfl rfl (Nat.le_of_ble_eq_true rfl) (by first | assumption | exact mr_up_same _ _ _ | (refine mr_lk ?_ (by first | assumption | decide); first | assumption | exact mr_up_same _ _ _ | (refine mr_lk ?_ (by first | assumption | decide); first | assumption | exact mr_up_same _ _ _ | (refine mr_lk ?_ (by first | assumption | decide); first | assumption | exact mr_up_same _ _ _ | (refine mr_lk ?_ (by first | assumption | decide); first | assumption | exact mr_up_same _ _ _))))) ?_
          refine ⟨_, _, _, _, _, _, _, _, _, _, _, _, _, _, _, rfl, (by first | assumption | exact mr_up_same _ _ _ | (refine mr_lk ?_ (by first | assumption | decide); first | assumption | exact mr_up_same _ _ _ | (refine mr_lk ?_ (by first | assumption | decide); first | assumption | exact mr_up_same _ _ _ | (refine mr_lk ?_ (by first | assumption | decide); first | assumption | exact mr_up_same _ _ _ | (refine mr_lk ?_ (by first | assumption | decide); first | assumption | exact mr_up_same _ _ _))))), (by first | assumption | exact mr_up_same _ _ _ | (refine mr_lk ?_ (by first | assumption | decide); first | assumption | exact mr_up_same _ _ _ | (refine mr_lk ?_ (by first | assumption | decide); first | assumption | exact mr_up_same _ _ _ | (refine mr_lk ?_ (by first | assumption | decide); first | assumption | exact mr_up_same _ _ _ | (refine mr_lk ?_ (by first | assumption | decide); first | assumption | exact mr_up_same _ _ _))))), ?_⟩
          dsimp only [Option.toList_some, Option.toList_none, List.cons_append, List.nil_append]
          refine mr_callV (as := [_]) dX7_drawn_84 (ok_X7_draw l G) ml_X7_266 cl_X7_draw cv_X7_draw (by decide) rfl rfl (Nat.le_of_ble_eq_true rfl) (by first | assumption | exact mr_up_same _ _ _ | (refine mr_lk ?_ (by first | assumption | decide); first | assumption | exact mr_up_same _ _ _ | (refine mr_lk ?_ (by first | assumption | decide); first | assumption | exact mr_up_same _ _ _ | (refine mr_lk ?_ (by first | assumption | decide); first | assumption | exact mr_up_same _ _ _ | (refine mr_lk ?_ (by first | assumption | decide); first | assumption | exact mr_up_same _ _ _))))) ?_
          refine ⟨_, _, _, _, _, _, _, _, _, _, _, _, _, _, _, _, _, _, _, _, _, _, _, (N 0), rfl, hM7, (by omega), (fun w8 hM8 hF8 => ?_)⟩
          obtain ⟨h18, h19, h20, h21, h22, h23, h24, h25, h26, h27, hs1, hs2, hik⟩ := id hM8
          dsimp only [Option.toList_some, Option.toList_none, List.cons_append, List.nil_append]
          refine mr_goto (tgt := 91) dX7_drawn_87 (by decide) ?_
          refine mr_iadd dX7_drawn_91 ?_
          refine mr_istore dX7_drawn_92 rfl (by decide) ?_
          refine mr_iinc dX7_drawn_94 rfl (by decide) rfl ?_
          refine mr_goto (tgt := 55) dX7_drawn_97 (by decide) ?_
          refine mr_iload dX7_drawn_55 rfl ?_
          refine mr_iconst dX7_drawn_57 ?_
          refine mr_icmp_ge (tgt := 100) dX7_drawn_58 (by decide) (by omega) (by omega) (fun _ => ?_) (fun h => absurd h (by decide))
          first
            | (exfalso; omega)
            | (have hw1 : W = 1 := by omega
               subst hw1
               have hd := mr_dwl_1 hMM (mr_sd sd)
               refine mr_weak [some (vR 18 0), some (vI n), some (vI x), some (vI k), some (vI (mr_dr sd 4)), some (vI (N 0 * (N 0 * (N 0 * 0 + mr_dr (mr_sd sd) (N 0)) + 0) + 0)), none] ⟨rfl, rfl, rfl, rfl, rfl, rfl, trivial⟩ ?_
               refine st_X7_drawn l G (n := n) (x := x) (k := k) (r := (mr_dwl (f 0) (f 1).toNat 0 (mr_l3 0 0 0) (mr_sd sd)).1) hW hC hdt (fun j g1 g2 => by rw [hf0, hf1]; rw [hd.2.2 j g1 g2]; exact mr_dvd_0 _) (by rw [hf0, hf1]; exact hd.1.symm) hM8 (hFr.tr (hF1.tr (hF5.tr (hF7.tr hF8)))) (fun w' N' s1' ls' li' k1 k2 k3 k4 => ?_)
               have e9 : mr_deed (f, sd) = (mr_abs f (mr_dwl (f 0) (f 1).toNat 0 (mr_l3 0 0 0) (mr_sd sd)).1 (mr_dr sd 4) mr_Zz mr_Zz, mr_sd (mr_sd sd)) := by
                 have e8 : (mr_dwl (f 0) (f 1).toNat 0 (mr_l3 0 0 0) (mr_sd sd)).2 = mr_sd (mr_sd sd) := by rw [hf0, hf1]; exact hd.2.1
                 rw [← e8]
                 rfl
               exact ih (k + 1) _ _ _ _ _ N' _ w' (by omega) (by omega) (k2.1.trans k1.1) k1 k2 k3 k4 (by rw [← e9]; exact hK))
            | (have hw1 : W = 2 := by omega
               subst hw1
               have hd := mr_dwl_2 hMM (mr_sd sd)
               refine mr_weak [some (vR 18 0), some (vI n), some (vI x), some (vI k), some (vI (mr_dr sd 4)), some (vI (N 0 * (N 0 * (N 0 * 0 + mr_dr (mr_sd sd) (N 0)) + mr_dr (mr_sd (mr_sd sd)) (N 0)) + 0)), none] ⟨rfl, rfl, rfl, rfl, rfl, rfl, trivial⟩ ?_
               refine st_X7_drawn l G (n := n) (x := x) (k := k) (r := (mr_dwl (f 0) (f 1).toNat 0 (mr_l3 0 0 0) (mr_sd sd)).1) hW hC hdt (fun j g1 g2 => by rw [hf0, hf1]; rw [hd.2.2 j g1 g2]; exact mr_dvd_0 _) (by rw [hf0, hf1]; exact hd.1.symm) hM8 (hFr.tr (hF1.tr (hF5.tr (hF7.tr hF8)))) (fun w' N' s1' ls' li' k1 k2 k3 k4 => ?_)
               have e9 : mr_deed (f, sd) = (mr_abs f (mr_dwl (f 0) (f 1).toNat 0 (mr_l3 0 0 0) (mr_sd sd)).1 (mr_dr sd 4) mr_Zz mr_Zz, mr_sd (mr_sd (mr_sd sd))) := by
                 have e8 : (mr_dwl (f 0) (f 1).toNat 0 (mr_l3 0 0 0) (mr_sd sd)).2 = mr_sd (mr_sd (mr_sd sd)) := by rw [hf0, hf1]; exact hd.2.1
                 rw [← e8]
                 rfl
               exact ih (k + 1) _ _ _ _ _ N' _ w' (by omega) (by omega) (k2.1.trans k1.1) k1 k2 k3 k4 (by rw [← e9]; exact hK))
            | (have hw1 : W = 3 := by omega
               subst hw1
               have hd := mr_dwl_3 hMM (mr_sd sd)
               refine mr_weak [some (vR 18 0), some (vI n), some (vI x), some (vI k), some (vI (mr_dr sd 4)), some (vI (N 0 * (N 0 * (N 0 * 0 + mr_dr (mr_sd sd) (N 0)) + mr_dr (mr_sd (mr_sd sd)) (N 0)) + mr_dr (mr_sd (mr_sd (mr_sd sd))) (N 0))), none] ⟨rfl, rfl, rfl, rfl, rfl, rfl, trivial⟩ ?_
               refine st_X7_drawn l G (n := n) (x := x) (k := k) (r := (mr_dwl (f 0) (f 1).toNat 0 (mr_l3 0 0 0) (mr_sd sd)).1) hW hC hdt (fun j g1 g2 => by omega) (by rw [hf0, hf1]; exact hd.1.symm) hM8 (hFr.tr (hF1.tr (hF5.tr (hF7.tr hF8)))) (fun w' N' s1' ls' li' k1 k2 k3 k4 => ?_)
               have e9 : mr_deed (f, sd) = (mr_abs f (mr_dwl (f 0) (f 1).toNat 0 (mr_l3 0 0 0) (mr_sd sd)).1 (mr_dr sd 4) mr_Zz mr_Zz, mr_sd (mr_sd (mr_sd (mr_sd sd)))) := by
                 have e8 : (mr_dwl (f 0) (f 1).toNat 0 (mr_l3 0 0 0) (mr_sd sd)).2 = mr_sd (mr_sd (mr_sd (mr_sd sd))) := by rw [hf0, hf1]; exact hd.2
                 rw [← e8]
                 rfl
               exact ih (k + 1) _ _ _ _ _ N' _ w' (by omega) (by omega) (k2.1.trans k1.1) k1 k2 k3 k4 (by rw [← e9]; exact hK))
