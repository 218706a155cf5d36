theorem mr_Lp_same {M : Int} {st li : Nat → Int} {n : Nat} {S : Int → Prop} (h : mr_Lp M st li n S) {r : Int} (h1 : st r.toNat = 1) : mr_Lp M (mr_fs st r.toNat 1) li n S := by
  have e : mr_fs st r.toNat 1 = st := by
    funext j
    unfold mr_fs
    split
    · rename_i hj; rw [hj, h1]
    · rfl
  rw [e]
  exact h
theorem mr_Lp_nil {M : Int} (hM : M * M * M ≤ 27000) {s2 li : Nat → Int} (h01 : ∀ r : Nat, s2 r = 0 ∨ s2 r = 1) (S : Int → Prop) (hS : ∀ r : Int, ¬ S r) : mr_Lp M (fun r : Nat => if (r : Int) < 27000 then 0 else s2 r) li 0 S := by
  refine ⟨fun r => ?_, fun r hr => ?_, fun k hk => by omega, fun r hr hs => absurd hs (hS _), fun i k hi hk _ => by omega⟩
  · show (if (r : Int) < 27000 then (0 : Int) else s2 r) = 0 ∨ (if (r : Int) < 27000 then (0 : Int) else s2 r) = 1
    split
    · exact Or.inl rfl
    · exact h01 r
  · have e : (if (r : Int) < 27000 then (0 : Int) else s2 r) = 0 := if_pos (by omega)
    exact ⟨fun z => absurd (e.symm.trans z) (by decide), fun z => absurd z (hS _)⟩
set_option maxHeartbeats 4000000 in
set_option maxRecDepth 20000 in
theorem lp2_X7_manyTimes (l : Launch) (G : mr_G) {Po : Option mr_AV → mr_Wd → Prop} {w0 : mr_Wd} {th tp sz zo fr kd nb ft pl wd sm md li sd : Int} {T N R K Sn ik s1 s2 ls : Nat → Int} {u : Int} {n0 : Nat} (hMM : 1 ≤ N 0 ∧ N 0 ≤ 30) (hu : 0 ≤ u ∧ u ≤ 30) (hn0 : (n0 : Int) ≤ 27000) (hls : ∀ i : Nat, i < n0 → 0 ≤ ls i ∧ ls i < N 0 * N 0 * N 0) (hP : ∀ (w' : mr_Wd) (s2' l2 : Nat → Int) (c : Nat), mr_Lp (N 0) s2' l2 c (fun r : Int => ∃ i : Nat, i < n0 ∧ r = mr_of (N 0) (ls i) u) → mr_MW w' th tp sz zo fr kd nb ft pl wd sm md ((n0 : Int)) sd T N R K Sn ik s1 (s2') ls → mr_FM w0 w' → Po (some (vI c)) w') : ∀ (m kk c : Nat) (st l2 : Nat → Int) (w : mr_Wd), kk + m = n0 → mr_Lp (N 0) st l2 c (fun r : Int => ∃ i : Nat, i < kk ∧ r = mr_of (N 0) (ls i) u) → mr_MW w th tp sz zo fr kd nb ft pl wd sm md ((n0 : Int)) sd T N R K Sn ik s1 (st) ls → mr_FM w0 w → mr_J l G RX7 cX7_manyTimes 5 (some .int) 1 22 Po 26 [some (vR 18 0), some (vI u), some (vI c), some (vI kk), none] [] w := by
  intro m
  have hm3 := mr_m3 hMM
  induction m with
  | zero =>
    intro kk c st l2 w hn hp hM hFr
    have e : kk = n0 := by omega
    subst e
    obtain ⟨h18, h19, h20, h21, h22, h23, h24, h25, h26, h27, hs1, hs2, hik⟩ := id hM
    refine mr_iload_n dX7_manyTimes_26 rfl ?_
    refine mr_aload_n dX7_manyTimes_27 rfl ?_
    refine mr_get dX7_manyTimes_28 fl_X7_180 (by first | assumption | exact mr_up_same _ _ _ | (refine mr_lk ?_ (by first | assumption | decide); first | assumption | exact mr_up_same _ _ _ | (refine mr_lk ?_ (by first | assumption | decide); first | assumption | exact mr_up_same _ _ _ | (refine mr_lk ?_ (by first | assumption | decide); first | assumption | exact mr_up_same _ _ _ | (refine mr_lk ?_ (by first | assumption | decide); first | assumption | exact mr_up_same _ _ _))))) rfl ?_
    refine mr_icmp_ge (tgt := 77) dX7_manyTimes_31 (by decide) ⟨by omega, by omega⟩ ⟨by omega, by omega⟩ (fun hc_31 => ?_) (fun hc_31 => absurd hc_31 (by omega))
    refine mr_iload_n dX7_manyTimes_77 rfl ?_
    refine mr_iret rfl dX7_manyTimes_78 ?_
    exact hP w st l2 c hp hM hFr
  | succ m ih =>
    intro kk c st l2 w hn hp hM hFr
    have hof := mr_of_bd (M := N 0) (by omega) (ls kk) u
    have hat := mr_St_at (mr_Lp_St hp) hof.1 hof.2
    have h01 := hp.1 (mr_of (N 0) (ls kk) u).toNat
    have hcl := mr_Lp_le (by omega) hp
    have hcg : ∀ r : Int, 0 ≤ r → r < N 0 * N 0 * N 0 → ((∃ i : Nat, i < kk ∧ r = mr_of (N 0) (ls i) u) ∨ r = mr_of (N 0) (ls kk) u ↔ ∃ i : Nat, i < kk + 1 ∧ r = mr_of (N 0) (ls i) u) := fun r _ _ => ⟨fun zz => zz.elim (fun ⟨i, hi, e⟩ => ⟨i, by omega, e⟩) (fun e => ⟨kk, by omega, e⟩), fun ⟨i, hi, e⟩ => by
      by_cases ei : i = kk
      · subst ei; exact Or.inr e
      · exact Or.inl ⟨i, by omega, e⟩⟩
    obtain ⟨h18, h19, h20, h21, h22, h23, h24, h25, h26, h27, hs1, hs2, hik⟩ := id hM
    refine mr_iload_n dX7_manyTimes_26 rfl ?_
    refine mr_aload_n dX7_manyTimes_27 rfl ?_
    refine mr_get dX7_manyTimes_28 fl_X7_180 (by first | assumption | exact mr_up_same _ _ _ | (refine mr_lk ?_ (by first | assumption | decide); first | assumption | exact mr_up_same _ _ _ | (refine mr_lk ?_ (by first | assumption | decide); first | assumption | exact mr_up_same _ _ _ | (refine mr_lk ?_ (by first | assumption | decide); first | assumption | exact mr_up_same _ _ _ | (refine mr_lk ?_ (by first | assumption | decide); first | assumption | exact mr_up_same _ _ _))))) rfl ?_
    refine mr_icmp_ge (tgt := 77) dX7_manyTimes_31 (by decide) ⟨by omega, by omega⟩ ⟨by omega, by omega⟩ (fun hc_31 => absurd hc_31 (by omega)) (fun hc_31 => ?_)
    refine mr_aload_n dX7_manyTimes_34 rfl ?_
    refine mr_get dX7_manyTimes_35 fl_X7_108 (by first | assumption | exact mr_up_same _ _ _ | (refine mr_lk ?_ (by first | assumption | decide); first | assumption | exact mr_up_same _ _ _ | (refine mr_lk ?_ (by first | assumption | decide); first | assumption | exact mr_up_same _ _ _ | (refine mr_lk ?_ (by first | assumption | decide); first | assumption | exact mr_up_same _ _ _ | (refine mr_lk ?_ (by first | assumption | decide); first | assumption | exact mr_up_same _ _ _))))) rfl ?_
    refine mr_iload_n dX7_manyTimes_38 rfl ?_
    refine mr_iald dX7_manyTimes_39 (by first | assumption | exact mr_up_same _ _ _ | (refine mr_lk ?_ (by first | assumption | decide); first | assumption | exact mr_up_same _ _ _ | (refine mr_lk ?_ (by first | assumption | decide); first | assumption | exact mr_up_same _ _ _ | (refine mr_lk ?_ (by first | assumption | decide); first | assumption | exact mr_up_same _ _ _ | (refine mr_lk ?_ (by first | assumption | decide); first | assumption | exact mr_up_same _ _ _))))) (by omega) (by omega) (by decide) ?_
    refine mr_iload_n dX7_manyTimes_40 rfl ?_
    refine mr_aload_n dX7_manyTimes_41 rfl ?_
    refine mr_callV (as := []) dX7_manyTimes_42 (ok_X7_by l G) ml_X7_195 cl_X7_by cv_X7_by (by decide) rfl rfl (Nat.le_of_ble_eq_true rfl) (by first | assumption | exact mr_up_same _ _ _ | (refine mr_lk ?_ (by first | assumption | decide); first | assumption | exact mr_up_same _ _ _ | (refine mr_lk ?_ (by first | assumption | decide); first | assumption | exact mr_up_same _ _ _ | (refine mr_lk ?_ (by first | assumption | decide); first | assumption | exact mr_up_same _ _ _ | (refine mr_lk ?_ (by first | assumption | decide); first | assumption | exact mr_up_same _ _ _))))) ?_
    refine ⟨_, _, _, _, _, _, _, _, _, _, _, _, _, _, _, rfl, (by first | assumption | exact mr_up_same _ _ _ | (refine mr_lk ?_ (by first | assumption | decide); first | assumption | exact mr_up_same _ _ _ | (refine mr_lk ?_ (by first | assumption | decide); first | assumption | exact mr_up_same _ _ _ | (refine mr_lk ?_ (by first | assumption | decide); first | assumption | exact mr_up_same _ _ _ | (refine mr_lk ?_ (by first | assumption | decide); first | assumption | exact mr_up_same _ _ _))))), (by first | assumption | exact mr_up_same _ _ _ | (refine mr_lk ?_ (by first | assumption | decide); first | assumption | exact mr_up_same _ _ _ | (refine mr_lk ?_ (by first | assumption | decide); first | assumption | exact mr_up_same _ _ _ | (refine mr_lk ?_ (by first | assumption | decide); first | assumption | exact mr_up_same _ _ _ | (refine mr_lk ?_ (by first | assumption | decide); first | assumption | exact mr_up_same _ _ _))))), ?_⟩
    dsimp only [Option.toList_some, Option.toList_none, List.cons_append, List.nil_append]
    refine mr_callS (as := [_, _, _]) dX7_manyTimes_45 (ok_X7_often l G) ml_X7_214 cl_X7_often cs_X7_often (by decide) rfl rfl (Nat.le_of_ble_eq_true rfl) ?_
    refine ⟨_, _, _, rfl, ⟨by have := (hls kk (by omega)).1; rw [Int.toNat_natCast]; omega, by have := (hls kk (by omega)).2; rw [Int.toNat_natCast]; omega⟩, hu, hMM, ?_⟩
    rw [Int.toNat_natCast]
    dsimp only [Option.toList_some, Option.toList_none, List.cons_append, List.nil_append]
    refine mr_istore dX7_manyTimes_48 rfl (by decide) ?_
    refine mr_aload_n dX7_manyTimes_50 rfl ?_
    refine mr_get dX7_manyTimes_51 fl_X7_105 (by first | assumption | exact mr_up_same _ _ _ | (refine mr_lk ?_ (by first | assumption | decide); first | assumption | exact mr_up_same _ _ _ | (refine mr_lk ?_ (by first | assumption | decide); first | assumption | exact mr_up_same _ _ _ | (refine mr_lk ?_ (by first | assumption | decide); first | assumption | exact mr_up_same _ _ _ | (refine mr_lk ?_ (by first | assumption | decide); first | assumption | exact mr_up_same _ _ _))))) rfl ?_
    refine mr_iload dX7_manyTimes_54 rfl ?_
    refine mr_zald dX7_manyTimes_56 (by first | assumption | exact mr_up_same _ _ _ | (refine mr_lk ?_ (by first | assumption | decide); first | assumption | exact mr_up_same _ _ _ | (refine mr_lk ?_ (by first | assumption | decide); first | assumption | exact mr_up_same _ _ _ | (refine mr_lk ?_ (by first | assumption | decide); first | assumption | exact mr_up_same _ _ _ | (refine mr_lk ?_ (by first | assumption | decide); first | assumption | exact mr_up_same _ _ _))))) (by omega) (by omega) (by decide) ?_
    refine mr_if_ne (tgt := 63) dX7_manyTimes_57 (by decide) ⟨by omega, by omega⟩ (fun hc_57 => ?_) (fun hc_57 => ?_)
    · refine mr_aload_n dX7_manyTimes_63 rfl ?_
      refine mr_get dX7_manyTimes_64 fl_X7_105 (by first | assumption | exact mr_up_same _ _ _ | (refine mr_lk ?_ (by first | assumption | decide); first | assumption | exact mr_up_same _ _ _ | (refine mr_lk ?_ (by first | assumption | decide); first | assumption | exact mr_up_same _ _ _ | (refine mr_lk ?_ (by first | assumption | decide); first | assumption | exact mr_up_same _ _ _ | (refine mr_lk ?_ (by first | assumption | decide); first | assumption | exact mr_up_same _ _ _))))) rfl ?_
      refine mr_iload dX7_manyTimes_67 rfl ?_
      refine mr_iconst dX7_manyTimes_69 ?_
      refine mr_zast dX7_manyTimes_70 (by first | assumption | exact mr_up_same _ _ _ | (refine mr_lk ?_ (by first | assumption | decide); first | assumption | exact mr_up_same _ _ _ | (refine mr_lk ?_ (by first | assumption | decide); first | assumption | exact mr_up_same _ _ _ | (refine mr_lk ?_ (by first | assumption | decide); first | assumption | exact mr_up_same _ _ _ | (refine mr_lk ?_ (by first | assumption | decide); first | assumption | exact mr_up_same _ _ _))))) (by omega) (by omega) (by decide) (Or.inr rfl) ?_
      refine mw_a26 hM (mr_b01 (by assumption) _ (by first | exact Or.inl rfl | exact Or.inr rfl | assumption)) (fun w1 hM1 hF1 => ?_)
      obtain ⟨h18, h19, h20, h21, h22, h23, h24, h25, h26, h27, hs1, hs2, hik⟩ := id hM1
      refine mr_iinc dX7_manyTimes_71 rfl (by decide) rfl ?_
      refine mr_goto (tgt := 26) dX7_manyTimes_74 (by decide) ?_
      first
        | (refine mr_weak [some (vR 18 0), some (vI u), some (vI ((c + 1 : Nat) : Int)), some (vI ((kk + 1 : Nat) : Int)), none] ⟨rfl, rfl, rfl, rfl, trivial⟩ ?_
           exact ih (kk + 1) (c + 1) _ _ w1 (by omega) (mr_Lp_cg (mr_Lp_add hp hof (fun zz => by have := hat.mpr zz; omega)) (hcg)) hM1 (hFr.tr hF1))
        | (refine mr_weak [some (vR 18 0), some (vI u), some (vI c), some (vI ((kk + 1 : Nat) : Int)), none] ⟨rfl, rfl, rfl, rfl, trivial⟩ ?_
           exact ih (kk + 1) c _ l2 w1 (by omega) (mr_Lp_cg (mr_Lp_same hp (by omega)) (fun r g1 g2 => ⟨fun zz => (hcg r g1 g2).mp (Or.inl zz), fun zz => ((hcg r g1 g2).mpr zz).elim id (fun e => e ▸ hat.mp (by omega))⟩)) hM1 (hFr.tr hF1))
    · refine mr_iinc dX7_manyTimes_60 rfl (by decide) rfl ?_
      refine mr_aload_n dX7_manyTimes_63 rfl ?_
      refine mr_get dX7_manyTimes_64 fl_X7_105 (by first | assumption | exact mr_up_same _ _ _ | (refine mr_lk ?_ (by first | assumption | decide); first | assumption | exact mr_up_same _ _ _ | (refine mr_lk ?_ (by first | assumption | decide); first | assumption | exact mr_up_same _ _ _ | (refine mr_lk ?_ (by first | assumption | decide); first | assumption | exact mr_up_same _ _ _ | (refine mr_lk ?_ (by first | assumption | decide); first | assumption | exact mr_up_same _ _ _))))) rfl ?_
      refine mr_iload dX7_manyTimes_67 rfl ?_
      refine mr_iconst dX7_manyTimes_69 ?_
      refine mr_zast dX7_manyTimes_70 (by first | assumption | exact mr_up_same _ _ _ | (refine mr_lk ?_ (by first | assumption | decide); first | assumption | exact mr_up_same _ _ _ | (refine mr_lk ?_ (by first | assumption | decide); first | assumption | exact mr_up_same _ _ _ | (refine mr_lk ?_ (by first | assumption | decide); first | assumption | exact mr_up_same _ _ _ | (refine mr_lk ?_ (by first | assumption | decide); first | assumption | exact mr_up_same _ _ _))))) (by omega) (by omega) (by decide) (Or.inr rfl) ?_
      refine mw_a26 hM (mr_b01 (by assumption) _ (by first | exact Or.inl rfl | exact Or.inr rfl | assumption)) (fun w2 hM2 hF2 => ?_)
      obtain ⟨h18, h19, h20, h21, h22, h23, h24, h25, h26, h27, hs1, hs2, hik⟩ := id hM2
      refine mr_iinc dX7_manyTimes_71 rfl (by decide) rfl ?_
      refine mr_goto (tgt := 26) dX7_manyTimes_74 (by decide) ?_
      first
        | (refine mr_weak [some (vR 18 0), some (vI u), some (vI ((c + 1 : Nat) : Int)), some (vI ((kk + 1 : Nat) : Int)), none] ⟨rfl, rfl, rfl, rfl, trivial⟩ ?_
           exact ih (kk + 1) (c + 1) _ _ w2 (by omega) (mr_Lp_cg (mr_Lp_add hp hof (fun zz => by have := hat.mpr zz; omega)) (hcg)) hM2 (hFr.tr hF2))
        | (refine mr_weak [some (vR 18 0), some (vI u), some (vI c), some (vI ((kk + 1 : Nat) : Int)), none] ⟨rfl, rfl, rfl, rfl, trivial⟩ ?_
           exact ih (kk + 1) c _ l2 w2 (by omega) (mr_Lp_cg (mr_Lp_same hp (by omega)) (fun r g1 g2 => ⟨fun zz => (hcg r g1 g2).mp (Or.inl zz), fun zz => ((hcg r g1 g2).mpr zz).elim id (fun e => e ▸ hat.mp (by omega))⟩)) hM2 (hFr.tr hF2))
set_option maxHeartbeats 4000000 in
set_option maxRecDepth 20000 in
theorem lp1_X7_manyTimes (l : Launch) (G : mr_G) {Po : Option mr_AV → mr_Wd → Prop} {w0 : mr_Wd} {th tp sz zo fr kd nb ft pl wd sm md li sd : Int} {T N R K Sn ik s1 s2 ls : Nat → Int} {u : Int} {n0 : Nat} (hMM : 1 ≤ N 0 ∧ N 0 ≤ 30) (hu : 0 ≤ u ∧ u ≤ 30) (hn0 : (n0 : Int) ≤ 27000) (hls : ∀ i : Nat, i < n0 → 0 ≤ ls i ∧ ls i < N 0 * N 0 * N 0) (h201 : ∀ r : Nat, s2 r = 0 ∨ s2 r = 1) (hP : ∀ (w' : mr_Wd) (s2' l2 : Nat → Int) (c : Nat), mr_Lp (N 0) s2' l2 c (fun r : Int => ∃ i : Nat, i < n0 ∧ r = mr_of (N 0) (ls i) u) → mr_MW w' th tp sz zo fr kd nb ft pl wd sm md ((n0 : Int)) sd T N R K Sn ik s1 (s2') ls → mr_FM w0 w' → Po (some (vI c)) w') : ∀ (m : Nat) (c : Int) (w : mr_Wd), 0 ≤ c → c + m = 27000 → mr_MW w th tp sz zo fr kd nb ft pl wd sm md ((n0 : Int)) sd T N R K Sn ik s1 (fun r : Nat => if (r : Int) < c then 0 else s2 r) ls → mr_FM w0 w → mr_J l G RX7 cX7_manyTimes 5 (some .int) 1 22 Po 2 [some (vR 18 0), some (vI u), some (vI c), none, none] [] w := by
  intro m
  have hm3 := mr_m3 hMM
  induction m with
  | zero =>
    intro c w h0 hn hM hFr
    have e : c = 27000 := by omega
    subst e
    obtain ⟨h18, h19, h20, h21, h22, h23, h24, h25, h26, h27, hs1, hs2, hik⟩ := id hM
    refine mr_iload_n dX7_manyTimes_2 rfl ?_
    refine mr_sipush dX7_manyTimes_3 rfl ?_
    refine mr_icmp_ge (tgt := 22) dX7_manyTimes_6 (by decide) ⟨by omega, by omega⟩ (by decide) (fun hc_6 => ?_) (fun hc_6 => absurd hc_6 (by omega))
    refine mr_iconst dX7_manyTimes_22 ?_
    refine mr_istore_n dX7_manyTimes_23 rfl (by decide) ?_
    refine mr_iconst dX7_manyTimes_24 ?_
    refine mr_istore_n dX7_manyTimes_25 rfl (by decide) ?_
    refine mr_weak [some (vR 18 0), some (vI u), some (vI ((0 : Nat) : Int)), some (vI ((0 : Nat) : Int)), none] ⟨rfl, rfl, rfl, rfl, trivial⟩ ?_
    exact lp2_X7_manyTimes l G (s2 := s2) (li := 0) hMM hu hn0 hls hP n0 0 0 _ (fun _ => 0) w (by omega) (mr_Lp_nil hm3.2.1 h201 _ (fun r ⟨i, hi, _⟩ => by omega)) hM hFr
  | succ m ih =>
    intro c w h0 hn hM hFr
    obtain ⟨h18, h19, h20, h21, h22, h23, h24, h25, h26, h27, hs1, hs2, hik⟩ := id hM
    refine mr_iload_n dX7_manyTimes_2 rfl ?_
    refine mr_sipush dX7_manyTimes_3 rfl ?_
    refine mr_icmp_ge (tgt := 22) dX7_manyTimes_6 (by decide) ⟨by omega, by omega⟩ (by decide) (fun hc_6 => absurd hc_6 (by omega)) (fun hc_6 => ?_)
    refine mr_aload_n dX7_manyTimes_9 rfl ?_
    refine mr_get dX7_manyTimes_10 fl_X7_105 (by first | assumption | exact mr_up_same _ _ _ | (refine mr_lk ?_ (by first | assumption | decide); first | assumption | exact mr_up_same _ _ _ | (refine mr_lk ?_ (by first | assumption | decide); first | assumption | exact mr_up_same _ _ _ | (refine mr_lk ?_ (by first | assumption | decide); first | assumption | exact mr_up_same _ _ _ | (refine mr_lk ?_ (by first | assumption | decide); first | assumption | exact mr_up_same _ _ _))))) rfl ?_
    refine mr_iload_n dX7_manyTimes_13 rfl ?_
    refine mr_iconst dX7_manyTimes_14 ?_
    refine mr_zast dX7_manyTimes_15 (by first | assumption | exact mr_up_same _ _ _ | (refine mr_lk ?_ (by first | assumption | decide); first | assumption | exact mr_up_same _ _ _ | (refine mr_lk ?_ (by first | assumption | decide); first | assumption | exact mr_up_same _ _ _ | (refine mr_lk ?_ (by first | assumption | decide); first | assumption | exact mr_up_same _ _ _ | (refine mr_lk ?_ (by first | assumption | decide); first | assumption | exact mr_up_same _ _ _))))) (by omega) (by omega) (by decide) (Or.inl rfl) ?_
    refine mw_a26 hM (mr_b01 (by assumption) _ (by first | exact Or.inl rfl | exact Or.inr rfl | assumption)) (fun w1 hM1 hF1 => ?_)
    obtain ⟨h18, h19, h20, h21, h22, h23, h24, h25, h26, h27, hs1, hs2, hik⟩ := id hM1
    refine mr_iinc dX7_manyTimes_16 rfl (by decide) rfl ?_
    refine mr_goto (tgt := 2) dX7_manyTimes_19 (by decide) ?_
    rw [mr_zk h0] at hM1
    exact ih (c + 1) w1 (by omega) (by omega) hM1 (hFr.tr hF1)
def T_X7_manyTimes (a : List mr_AV) (w : mr_Wd) (Po : Option mr_AV → mr_Wd → Prop) : Prop := ∃ (th tp sz zo fr kd nb ft pl wd sm md sd : Int) (T N R K Sn ik s1 s2 ls : Nat → Int) (u : Int) (n0 : Nat), a = [vR 18 0, vI u] ∧ mr_MW w th tp sz zo fr kd nb ft pl wd sm md ((n0 : Int)) sd T N R K Sn ik s1 s2 ls ∧ (1 ≤ N 0 ∧ N 0 ≤ 30) ∧ (0 ≤ u ∧ u ≤ 30) ∧ (n0 : Int) ≤ 27000 ∧ (∀ i : Nat, i < n0 → 0 ≤ ls i ∧ ls i < N 0 * N 0 * N 0) ∧ ∀ (w' : mr_Wd) (s2' l2 : Nat → Int) (c : Nat), mr_Lp (N 0) s2' l2 c (fun r : Int => ∃ i : Nat, i < n0 ∧ r = mr_of (N 0) (ls i) u) → mr_MW w' th tp sz zo fr kd nb ft pl wd sm md ((n0 : Int)) sd T N R K Sn ik s1 (s2') ls → mr_FM w w' → Po (some (vI c)) w'
set_option maxHeartbeats 4000000 in
set_option maxRecDepth 20000 in
theorem ok_X7_manyTimes (l : Launch) (G : mr_G) : mr_Ok l G yX7_manyTimes cX7_manyTimes 5 (some .int) 1 22 T_X7_manyTimes := by
  refine mr_Ok.of (by decide +kernel) ?_
  rintro a w Po ⟨th, tp, sz, zo, fr, kd, nb, ft, pl, wd, sm, md, sd, T, N, R, K, Sn, ik, s1, s2, ls, u, n0, rfl, hM, hMM, hu, hn0, hls, hP⟩
  refine ⟨Nat.le_of_ble_eq_true rfl, ?_⟩
  show mr_J l G RX7 cX7_manyTimes 5 (some .int) 1 22 Po 0 [some (vR 18 0), some (vI u), none, none, none] [] w
  obtain ⟨h18, h19, h20, h21, h22, h23, h24, h25, h26, h27, hs1, hs2, hik⟩ := id hM
  refine mr_iconst dX7_manyTimes_0 ?_
  refine mr_istore_n dX7_manyTimes_1 rfl (by decide) ?_
  refine lp1_X7_manyTimes l G (s2 := s2) (li := 0) (w0 := w) hMM hu hn0 hls hs2 hP 27000 0 w (by decide) (by decide) ?_ (mr_FM.rf w)
  rw [mr_zk0]
  exact hM
