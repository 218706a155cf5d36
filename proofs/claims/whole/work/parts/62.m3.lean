/-- three cells of a set: which, the list, how many -/
def mr_w3 (w : mr_Wd) (q : Nat) (st ls : Nat → Int) (mo : mr_AE) : mr_Wd := mr_up (mr_up (mr_up w q (eA 1 27000 st)) 27 (eA 0 27000 ls)) 18 mo
theorem mr_w3_18 (w : mr_Wd) (q : Nat) (st ls : Nat → Int) (mo : mr_AE) : mr_w3 w q st ls mo 18 = mo := mr_up_same _ _ _
theorem mr_w3_27 (w : mr_Wd) (q : Nat) (st ls : Nat → Int) (mo : mr_AE) : mr_w3 w q st ls mo 27 = eA 0 27000 ls := (mr_up_ne _ _ (by decide)).trans (mr_up_same _ _ _)
theorem mr_w3_q (w : mr_Wd) {q : Nat} (st ls : Nat → Int) (mo : mr_AE) (h1 : q ≠ 18) (h2 : q ≠ 27) : mr_w3 w q st ls mo q = eA 1 27000 st := (mr_up_ne _ _ h1).trans ((mr_up_ne _ _ h2).trans (mr_up_same _ _ _))
theorem mr_w3_ne (w : mr_Wd) {q j : Nat} (st ls : Nat → Int) (mo : mr_AE) (h1 : j ≠ 18) (h2 : j ≠ 27) (h3 : j ≠ q) : mr_w3 w q st ls mo j = w j := (mr_up_ne _ _ h1).trans ((mr_up_ne _ _ h2).trans (mr_up_ne _ _ h3))
theorem mr_w3_up (w : mr_Wd) (q : Nat) (st ls st' ls' : Nat → Int) (mo mo' : mr_AE) : mr_up (mr_up (mr_up (mr_w3 w q st ls mo) q (eA 1 27000 st')) 27 (eA 0 27000 ls')) 18 mo' = mr_w3 w q st' ls' mo' := by
  funext j
  unfold mr_w3 mr_up
  by_cases e1 : j = 18
  · simp only [if_pos e1]
  · by_cases e2 : j = 27
    · simp only [if_neg e1, if_pos e2]
    · by_cases e3 : j = q
      · simp only [if_neg e1, if_neg e2, if_pos e3]
      · simp only [if_neg e1, if_neg e2, if_neg e3]
set_option maxHeartbeats 4000000 in
set_option maxRecDepth 20000 in
theorem lp1_X7_adds (l : Launch) (G : mr_G) {Po : Option mr_AV → mr_Wd → Prop} {w : mr_Wd} {th tp sz zo fr kd nb ft pl wd sm md sd : Int} {q c : Nat} {N : Nat → Int} {M v0 : Int} {L : mr_V → Prop} {m n0 : Nat} {l0 : Nat → Int} (hq : q = 25 ∨ q = 26) (hc : c = 20 ∨ c = 21) (hcN : w c = eA 0 21 N) (hN0 : N 0 = M) (hM : 1 ≤ M ∧ M ≤ 30) (hL : mr_Li M L) (hb : ¬ mr_Am M L (mr_dec M v0) m (mr_Bm M (mr_dec M v0) m)) (h0 : ∀ i, i < n0 → (0 ≤ l0 i ∧ l0 i < M * M * M) ∧ mr_S M L (l0 i)) (hinj : ∀ i j, i < n0 → j < n0 → l0 i = l0 j → i = j) : ∀ (t kk : Nat) (st li : Nat → Int) (n : Nat), kk + t = n0 → n0 ≤ n → mr_Lp M st li n (mr_Ai M L (mr_dec M v0) m l0 kk) → (∀ i, i < n0 → li i = l0 i) → (∀ (st' li' : Nat → Int) (n' : Nat), mr_Lp M st' li' n' (mr_Ai M L (mr_dec M v0) m l0 n0) → (∀ i, i < n0 → li' i = l0 i) → n0 ≤ n' → n + t ≤ n' → mr_J l G RX7 cX7_adds 8 none 1 22 Po 75 [some (vR 18 0), some (vR c 0), some (vR q 0), some (vI v0), some (vI n0), some (vI (mr_Bm M (mr_dec M v0) m)), none, none] [] (mr_w3 w q st' li' (eMo th tp sz zo fr kd nb ft pl wd sm md ((n' : Int)) sd))) → mr_J l G RX7 cX7_adds 8 none 1 22 Po 19 [some (vR 18 0), some (vR c 0), some (vR q 0), some (vI v0), some (vI n0), some (vI (mr_Bm M (mr_dec M v0) m)), some (vI kk), none] [] (mr_w3 w q st li (eMo th tp sz zo fr kd nb ft pl wd sm md ((n : Int)) sd)) := by
  intro t
  have hm3 := mr_m3 hM
  have hq18 : q ≠ 18 := by omega
  have hq27 : q ≠ 27 := by omega
  have hc18 : c ≠ 18 := by omega
  have hc27 : c ≠ 27 := by omega
  have hcq : c ≠ q := by omega
  have hBb : 0 ≤ (mr_Bm M (mr_dec M v0) m) ∧ (mr_Bm M (mr_dec M v0) m) < M * M * M := mr_ec_bd (M := M) (by omega) (fun j => (m : Int) * mr_dec M v0 j)
  induction t with
  | zero =>
    intro kk st li n hk hn hp hpx hK
    have e : kk = n0 := by omega
    subst e
    have hnn := mr_Lp_le (by omega) hp
    refine mr_iload dX7_adds_19 rfl ?_
    refine mr_iload dX7_adds_21 rfl ?_
    refine mr_icmp_ge (tgt := 75) dX7_adds_23 (by decide) ⟨by omega, by omega⟩ ⟨by omega, by omega⟩ (fun hc_23 => ?_) (fun hc_23 => absurd hc_23 (by omega))
    refine mr_weak [some (vR 18 0), some (vR c 0), some (vR q 0), some (vI v0), some (vI kk), some (vI (mr_Bm M (mr_dec M v0) m)), none, none] ⟨rfl, rfl, rfl, rfl, rfl, rfl, trivial⟩ ?_
    exact hK st li n hp hpx hn (by omega)
  | succ t ih =>
    intro kk st li n hk hn hp hpx hK
    have hst := mr_Ai_step (show 0 < M by omega) hL hb h0 hinj (show kk < n0 by omega) hp
    have hnn := mr_Lp_le (by omega) hst
    have hkk := (h0 kk (by omega)).1
    have htg := mr_tg_bd (M := M) (by omega) (l0 kk) (mr_Bm M (mr_dec M v0) m)
    refine mr_iload dX7_adds_19 rfl ?_
    refine mr_iload dX7_adds_21 rfl ?_
    refine mr_icmp_ge (tgt := 75) dX7_adds_23 (by decide) ⟨by omega, by omega⟩ ⟨by omega, by omega⟩ (fun hc_23 => absurd hc_23 (by omega)) (fun hc_23 => ?_)
    refine mr_aload_n dX7_adds_26 rfl ?_
    refine mr_get dX7_adds_27 fl_X7_108 (mr_w3_18 _ _ _ _ _) rfl ?_
    refine mr_iload dX7_adds_30 rfl ?_
    refine mr_iald dX7_adds_32 (mr_w3_27 _ _ _ _ _) (by omega) (by omega) (by decide) ?_
    refine mr_iload dX7_adds_33 rfl ?_
    refine mr_aload_n dX7_adds_35 rfl ?_
    refine mr_iconst dX7_adds_36 ?_
    refine mr_iald dX7_adds_37 ((mr_w3_ne _ _ _ _ hc18 hc27 hcq).trans hcN) (by omega) (by omega) (by decide) ?_
    refine mr_callS (as := [_, _, _]) dX7_adds_38 (ok_X7_together l G) ml_X7_183 cl_X7_together cs_X7_together (by decide) rfl rfl (Nat.le_of_ble_eq_true rfl) ?_
    refine ⟨_, _, _, rfl, ⟨by show 0 ≤ li (kk : Int).toNat; rw [Int.toNat_natCast, hpx kk (by omega)]; omega, by show li (kk : Int).toNat ≤ 27000; rw [Int.toNat_natCast, hpx kk (by omega)]; omega⟩, ⟨by omega, by omega⟩, ⟨by show 1 ≤ N 0; omega, by show N 0 ≤ 30; omega⟩, ?_⟩
    rw [show N (Int.toNat 0) = M from hN0, show li (kk : Int).toNat = l0 kk by rw [Int.toNat_natCast]; exact hpx kk (by omega)]
    dsimp only [Option.toList_some, Option.toList_none, List.cons_append, List.nil_append]
    refine mr_istore dX7_adds_41 rfl (by decide) ?_
    refine mr_aload_n dX7_adds_43 rfl ?_
    refine mr_iload dX7_adds_44 rfl ?_
    refine mr_iconst dX7_adds_46 ?_
    refine mr_zast dX7_adds_47 (mr_w3_q _ _ _ _ hq18 hq27) (by omega) (by omega) (by decide) (Or.inr rfl) ?_
    refine mr_aload_n dX7_adds_48 rfl ?_
    refine mr_get dX7_adds_49 fl_X7_108 (mr_lk (mr_w3_18 _ _ _ _ _) hq18.symm) rfl ?_
    refine mr_aload_n dX7_adds_52 rfl ?_
    refine mr_get dX7_adds_53 fl_X7_180 (mr_lk (mr_w3_18 _ _ _ _ _) hq18.symm) rfl ?_
    refine mr_iload dX7_adds_56 rfl ?_
    refine mr_iast dX7_adds_58 (mr_lk (mr_w3_27 _ _ _ _ _) hq27.symm) (by omega) (by omega) (by decide) ?_
    refine mr_aload_n dX7_adds_59 rfl ?_
    refine mr_dup dX7_adds_60 rfl ?_
    refine mr_get dX7_adds_61 fl_X7_180 (mr_lk (mr_lk (mr_w3_18 _ _ _ _ _) hq18.symm) (by decide)) rfl ?_
    refine mr_iconst dX7_adds_64 ?_
    refine mr_iadd dX7_adds_65 ?_
    refine mr_put dX7_adds_66 fl_X7_180 pf_X7_21 rfl rfl (mr_lk (mr_lk (mr_w3_18 _ _ _ _ _) hq18.symm) (by decide)) (Nat.le_of_ble_eq_true rfl) ?_
    refine mr_iinc dX7_adds_69 rfl (by decide) rfl ?_
    refine mr_goto (tgt := 19) dX7_adds_72 (by decide) ?_
    refine mr_cw (w' := (mr_w3 w q (mr_fs st (mr_tg M (l0 kk) (mr_Bm M (mr_dec M v0) m)).toNat 1) (mr_fs li n (mr_tg M (l0 kk) (mr_Bm M (mr_dec M v0) m))) (eMo th tp sz zo fr kd nb ft pl wd sm md (((n + 1 : Nat) : Int)) sd))) ?_ ?_
    · have e9 : ((n : Int)).toNat = n := Int.toNat_natCast n
      rw [e9]
      exact mr_w3_up _ _ _ _ _ _ _ _
    · refine mr_weak [some (vR 18 0), some (vR c 0), some (vR q 0), some (vI v0), some (vI n0), some (vI (mr_Bm M (mr_dec M v0) m)), some (vI ((kk + 1 : Nat) : Int)), none] ⟨rfl, rfl, rfl, rfl, rfl, rfl, rfl, trivial⟩ ?_
      refine ih (kk + 1) _ _ (n + 1) (by omega) (by omega) hst (fun i hi => ?_) (fun st' li' n' g1 g2 g3 g4 => hK st' li' n' g1 g2 g3 (by omega))
      rw [mr_fs_ne _ _ (by omega)]
      exact hpx i hi
set_option maxHeartbeats 4000000 in
set_option maxRecDepth 20000 in
theorem lp2_X7_adds (l : Launch) (G : mr_G) {Po : Option mr_AV → mr_Wd → Prop} {w : mr_Wd} {th tp sz zo fr kd nb ft pl wd sm md sd : Int} {q c : Nat} {N : Nat → Int} {M v0 : Int} {L : mr_V → Prop} {n0 : Nat} {l0 : Nat → Int} (hq : q = 25 ∨ q = 26) (hc : c = 20 ∨ c = 21) (hcN : w c = eA 0 21 N) (hN0 : N 0 = M) (hM : 1 ≤ M ∧ M ≤ 30) (hv : 0 ≤ v0 ∧ v0 < M * M * M) (hL : mr_Li M L) (h0 : ∀ i, i < n0 → (0 ≤ l0 i ∧ l0 i < M * M * M) ∧ mr_S M L (l0 i)) (hinj : ∀ i j, i < n0 → j < n0 → l0 i = l0 j → i = j) (hall : ∀ r : Nat, (r : Int) < M * M * M → mr_S M L r → ∃ k, k < n0 ∧ l0 k = r) (hn0 : 1 ≤ n0) (hP : ∀ (st' li' : Nat → Int) (n' : Nat), mr_Lp M st' li' n' (mr_S M (mr_LA L (mr_dec M v0))) → Po none (mr_w3 w q st' li' (eMo th tp sz zo fr kd nb ft pl wd sm md ((n' : Int)) sd))) : ∀ (t m : Nat) (st li : Nat → Int) (n : Nat), 1 ≤ m → M * M * M < (n : Int) + t → mr_Lp M st li n (mr_Am M L (mr_dec M v0) m) → (∀ i, i < n0 → li i = l0 i) → n0 ≤ n → mr_J l G RX7 cX7_adds 8 none 1 22 Po 9 [some (vR 18 0), some (vR c 0), some (vR q 0), some (vI v0), some (vI n0), some (vI (mr_Bm M (mr_dec M v0) m)), none, none] [] (mr_w3 w q st li (eMo th tp sz zo fr kd nb ft pl wd sm md ((n : Int)) sd)) := by
  intro t
  have hm3 := mr_m3 hM
  have hq18 : q ≠ 18 := by omega
  have hq27 : q ≠ 27 := by omega
  have hc18 : c ≠ 18 := by omega
  have hc27 : c ≠ 27 := by omega
  have hcq : c ≠ q := by omega
  induction t with
  | zero =>
    intro m st li n hm hn2 hp hpx hn
    have hnn := mr_Lp_le (by omega) hp
    omega
  | succ t ih =>
    intro m st li n hm hn2 hp hpx hn
    have hnn := mr_Lp_le (by omega) hp
    have hBb : 0 ≤ (mr_Bm M (mr_dec M v0) m) ∧ (mr_Bm M (mr_dec M v0) m) < M * M * M := mr_ec_bd (M := M) (by omega) (fun j => (m : Int) * mr_dec M v0 j)
    have h12 := hp.2.1 (mr_Bm M (mr_dec M v0) m).toNat (by omega)
    rw [Int.toNat_of_nonneg hBb.1] at h12
    have h13 := hp.1 (mr_Bm M (mr_dec M v0) m).toNat
    refine mr_aload_n dX7_adds_9 rfl ?_
    refine mr_iload dX7_adds_10 rfl ?_
    refine mr_zald dX7_adds_12 (mr_w3_q _ _ _ _ hq18 hq27) (by omega) (by omega) (by decide) ?_
    refine mr_if_ne (tgt := 89) dX7_adds_13 (by decide) ⟨by omega, by omega⟩ (fun hc_13 => ?_) (fun hc_13 => ?_)
    · refine mr_vret rfl dX7_adds_89 ?_
      exact hP st li n (mr_Lp_cg hp (fun r _ _ => mr_Am_end (show 0 < M by omega) hL (h12.mp (by omega)) r))
    · refine mr_iconst dX7_adds_16 ?_
      refine mr_istore dX7_adds_17 rfl (by decide) ?_
      refine mr_weak [some (vR 18 0), some (vR c 0), some (vR q 0), some (vI v0), some (vI n0), some (vI (mr_Bm M (mr_dec M v0) m)), some (vI ((0 : Nat) : Int)), none] ⟨rfl, rfl, rfl, rfl, rfl, rfl, rfl, trivial⟩ ?_
      refine lp1_X7_adds l G hq hc hcN hN0 hM hL (fun z => by have := h12.mpr z; omega) h0 hinj n0 0 st li n (by omega) hn (mr_Lp_cg hp (fun r _ _ => ⟨fun z => Or.inl z, fun z => z.elim id (fun ⟨i, hi, _⟩ => absurd hi (by omega))⟩)) hpx (fun st' li' n' g1 g2 g3 g4 => ?_)
      have g5 := mr_Lp_cg g1 (fun r hr hr1 => mr_Ai_end (show 0 < M by omega) hL h0 hall hr hr1)
      have hnn2 := mr_Lp_le (by omega) g5
      refine mr_iload dX7_adds_75 rfl ?_
      refine mr_iload_n dX7_adds_77 rfl ?_
      refine mr_aload_n dX7_adds_78 rfl ?_
      refine mr_iconst dX7_adds_79 ?_
      refine mr_iald dX7_adds_80 ((mr_w3_ne _ _ _ _ hc18 hc27 hcq).trans hcN) (by omega) (by omega) (by decide) ?_
      refine mr_callS (as := [_, _, _]) dX7_adds_81 (ok_X7_together l G) ml_X7_183 cl_X7_together cs_X7_together (by decide) rfl rfl (Nat.le_of_ble_eq_true rfl) ?_
      refine ⟨_, _, _, rfl, ⟨by omega, by omega⟩, ⟨by omega, by omega⟩, ⟨by show 1 ≤ N 0; omega, by show N 0 ≤ 30; omega⟩, ?_⟩
      rw [show N (Int.toNat 0) = M from hN0, mr_Bm_next (show 0 < M by omega) v0 m]
      dsimp only [Option.toList_some, Option.toList_none, List.cons_append, List.nil_append]
      refine mr_istore dX7_adds_84 rfl (by decide) ?_
      refine mr_goto (tgt := 9) dX7_adds_86 (by decide) ?_
      exact ih (m + 1) st' li' n' (by omega) (by omega) g5 g2 g3
def T_X7_adds (a : List mr_AV) (w : mr_Wd) (Po : Option mr_AV → mr_Wd → Prop) : Prop := ∃ (th tp sz zo fr kd nb ft pl wd sm md sd : Int) (q c : Nat) (N st li : Nat → Int) (n : Nat) (M v0 : Int) (L : mr_V → Prop), a = [vR 18 0, vR c 0, vR q 0, vI v0] ∧ (q = 25 ∨ q = 26) ∧ (c = 20 ∨ c = 21) ∧ w 18 = eMo th tp sz zo fr kd nb ft pl wd sm md ((n : Int)) sd ∧ w c = eA 0 21 N ∧ w q = eA 1 27000 st ∧ w 27 = eA 0 27000 li ∧ N 0 = M ∧ (1 ≤ M ∧ M ≤ 30) ∧ (0 ≤ v0 ∧ v0 < M * M * M) ∧ mr_Li M L ∧ mr_Lp M st li n (mr_S M L) ∧ ∀ (st' li' : Nat → Int) (n' : Nat), mr_Lp M st' li' n' (mr_S M (mr_LA L (mr_dec M v0))) → Po none (mr_w3 w q st' li' (eMo th tp sz zo fr kd nb ft pl wd sm md ((n' : Int)) sd))
set_option maxHeartbeats 4000000 in
set_option maxRecDepth 20000 in
theorem ok_X7_adds (l : Launch) (G : mr_G) : mr_Ok l G yX7_adds cX7_adds 8 none 1 22 T_X7_adds := by
  refine mr_Ok.of (by decide +kernel) ?_
  rintro a w Po ⟨th, tp, sz, zo, fr, kd, nb, ft, pl, wd, sm, md, sd, q, c, N, st, li, n, M, v0, L, rfl, hq, hc, h18, hcN, hqs, h27, hN0, hM, hv, hL, hp, hP⟩
  refine ⟨Nat.le_of_ble_eq_true rfl, ?_⟩
  show mr_J l G RX7 cX7_adds 8 none 1 22 Po 0 [some (vR 18 0), some (vR c 0), some (vR q 0), some (vI v0), none, none, none, none] [] w
  have hm3 := mr_m3 hM
  have hnn := mr_Lp_le (by omega) hp
  obtain ⟨i0, hi0, -⟩ := hp.2.2.2.1 0 (by omega) ((mr_Li_mod hL (x := fun _ => 0) (fun j _ => by rw [Int.sub_zero]; exact (mr_dec_z M j) ▸ mr_dvd_0 M) hL.1.2.1))
  have hself : w = (mr_w3 w q st li (eMo th tp sz zo fr kd nb ft pl wd sm md ((n : Int)) sd)) := by
    unfold mr_w3
    rw [mr_up_self hqs, mr_up_self h27, mr_up_self h18]
  have hB1 := mr_Bm_1 (M := M) (by omega) hv.1 hv.2
  refine mr_aload_n dX7_adds_0 rfl ?_
  refine mr_get dX7_adds_1 fl_X7_180 (by first | assumption | exact mr_up_same _ _ _ | (refine mr_lk ?_ (by first | assumption | decide); first | assumption | exact mr_up_same _ _ _ | (refine mr_lk ?_ (by first | assumption | decide); first | assumption | exact mr_up_same _ _ _ | (refine mr_lk ?_ (by first | assumption | decide); first | assumption | exact mr_up_same _ _ _ | (refine mr_lk ?_ (by first | assumption | decide); first | assumption | exact mr_up_same _ _ _))))) rfl ?_
  refine mr_istore dX7_adds_4 rfl (by decide) ?_
  refine mr_iload_n dX7_adds_6 rfl ?_
  refine mr_istore dX7_adds_7 rfl (by decide) ?_
  rw [hself]
  refine mr_weak [some (vR 18 0), some (vR c 0), some (vR q 0), some (vI v0), some (vI n), some (vI v0), none, none] ⟨rfl, rfl, rfl, rfl, rfl, rfl, trivial⟩ ?_
  have key := lp2_X7_adds l G (w := w) (q := q) (c := c) (v0 := v0) (l0 := li) (n0 := n) hq hc hcN hN0 hM hv hL (fun i hi => hp.2.2.1 i hi) hp.2.2.2.2 hp.2.2.2.1 (by omega) hP (M * M * M + 1).toNat 1 st li n (Nat.le_refl 1) (by omega) (mr_Lp_cg hp (fun r _ _ => (mr_Am_1 hL _ r).symm)) (fun _ _ => rfl) (Nat.le_refl n)
  rw [hB1] at key
  exact key
