/-! TOKENS -/
def mr_let (n0 : Int) (g : Nat → Int) (x : Int) : Prop := 97 ≤ mr_ba n0 g x ∧ mr_ba n0 g x ≤ 122
def mr_dig (n0 : Int) (g : Nat → Int) (x : Int) : Prop := 48 ≤ mr_ba n0 g x ∧ mr_ba n0 g x ≤ 57
def mr_bla (n0 : Int) (g : Nat → Int) (x : Int) : Prop := mr_ba n0 g x = 32 ∨ mr_ba n0 g x = 10
theorem mr_ba_in (n0 : Int) (g : Nat → Int) (x : Int) : InR (mr_ba n0 g x) := by unfold mr_ba; split <;> omega
/-- a run of letters and digits from p to q -/
def mr_run (n0 : Int) (g : Nat → Int) (p q : Int) : Prop := p ≤ q ∧ q ≤ n0 ∧ (∀ x : Int, p ≤ x → x < q → mr_let n0 g x ∨ mr_dig n0 g x) ∧ (q = n0 ∨ ¬ (mr_let n0 g q ∨ mr_dig n0 g q))
def mr_nv (n0 : Int) (g : Nat → Int) (p q : Int) : Int := if q = p then 0 else if q = p + 1 then mr_ba n0 g p - 48 else 10 * (mr_ba n0 g p - 48) + mr_ba n0 g (p + 1) - 48
/-- what is counted on the way: letters, digits, the number so far -/
def mr_cnt (n0 : Int) (g : Nat → Int) (p i L D N : Int) : Prop := 0 ≤ L ∧ 0 ≤ D ∧ L + D = i - p ∧ (D = 0 → ∀ x : Int, p ≤ x → x < i → mr_let n0 g x) ∧ (0 < D → ∃ x : Int, p ≤ x ∧ x < i ∧ ¬ mr_let n0 g x) ∧ (L = 0 → ∀ x : Int, p ≤ x → x < i → mr_dig n0 g x) ∧ (0 < L → ∃ x : Int, p ≤ x ∧ x < i ∧ ¬ mr_dig n0 g x) ∧ (L = 0 → i - p ≤ 2 → N = mr_nv n0 g p i)
theorem mr_cnt_0 (n0 : Int) (g : Nat → Int) (p : Int) : mr_cnt n0 g p p 0 0 0 := by
  refine ⟨by decide, by decide, by omega, fun _ x h1 h2 => by omega, fun h => by omega, fun _ x h1 h2 => by omega, fun h => by omega, fun _ _ => ?_⟩
  unfold mr_nv
  rw [if_pos rfl]
theorem mr_cnt_L {n0 : Int} {g : Nat → Int} {p i L D N : Int} (h : mr_cnt n0 g p i L D N) (hp : p ≤ i) (hl : mr_let n0 g i) : mr_cnt n0 g p (i + 1) (L + 1) D N := by
  obtain ⟨h1, h2, h3, h4, h5, h6, h7, h8⟩ := h
  refine ⟨by omega, h2, by omega, fun z x g1 g2 => ?_, fun z => ?_, fun z => by omega, fun _ => ⟨i, hp, by omega, fun q => ?_⟩, fun z => by omega⟩
  · by_cases e : x = i
    · subst e; exact hl
    · exact h4 z x g1 (by omega)
  · obtain ⟨x, g1, g2, g3⟩ := h5 z
    exact ⟨x, g1, by omega, g3⟩
  · unfold mr_let at hl
    unfold mr_dig at q
    omega
theorem mr_cnt_D {n0 : Int} {g : Nat → Int} {p i L D N N' : Int} (h : mr_cnt n0 g p i L D N) (hp : p ≤ i) (hl : ¬ mr_let n0 g i) (hd : mr_dig n0 g i) (hN : D + 1 ≤ 2 → N' = 10 * N + mr_ba n0 g i - 48) : mr_cnt n0 g p (i + 1) L (D + 1) N' := by
  obtain ⟨h1, h2, h3, h4, h5, h6, h7, h8⟩ := h
  refine ⟨h1, by omega, by omega, fun z => by omega, fun _ => ⟨i, hp, by omega, hl⟩, fun z x g1 g2 => ?_, fun z => ?_, fun z1 z2 => ?_⟩
  · by_cases e : x = i
    · subst e; exact hd
    · exact h6 z x g1 (by omega)
  · obtain ⟨x, g1, g2, g3⟩ := h7 z
    exact ⟨x, g1, by omega, g3⟩
  · rw [hN (by omega), h8 z1 (by omega)]
    unfold mr_nv
    by_cases e : i = p
    · subst e
      rw [if_pos rfl, if_neg (by omega), if_pos rfl]
      omega
    · have e2 : i = p + 1 := by omega
      subst e2
      rw [if_neg e, if_pos rfl, if_neg (by omega), if_neg (by omega)]
set_option maxHeartbeats 4000000 in
set_option maxRecDepth 20000 in
theorem lp_X2_scanRun (l : Launch) (G : mr_G) {Po : Option mr_AV → mr_Wd → Prop} {w : mr_Wd} {v k s op sl ln md fk fp n0 p : Int} {g : Nat → Int} (h1 : w 1 = eO 5 [vR 2 0, vI n0]) (h2 : w 2 = eA 2 540 g) (hn0 : 0 ≤ n0 ∧ n0 ≤ 540) (hp0 : 0 ≤ p) (hP1 : ∀ q : Int, mr_run n0 g p q → (∀ x : Int, p ≤ x → x < q → mr_let n0 g x) → Po none (mr_up w 11 (eRD v 2 s q op sl ln md fk fp))) (hP2 : ∀ q : Int, mr_run n0 g p q → p < q → (∀ x : Int, p ≤ x → x < q → mr_dig n0 g x) → q - p ≤ 2 → Po none (mr_up w 11 (eRD (mr_nv n0 g p q) 3 s q op sl ln md fk fp))) (hP3 : ∀ q : Int, mr_run n0 g p q → ¬ (∀ x : Int, p ≤ x → x < q → mr_let n0 g x) → ((∀ x : Int, p ≤ x → x < q → mr_dig n0 g x) → 2 < q - p) → Po none (mr_up w 11 (eRD v 0 s q op sl ln md fk fp))) : ∀ (m : Nat) (i L D N : Int), p ≤ i ∧ i ≤ n0 → i + m = n0 → (∀ x : Int, p ≤ x → x < i → mr_let n0 g x ∨ mr_dig n0 g x) → mr_cnt n0 g p i L D N → mr_J l G RX2 cX2_scanRun 4 none 1 21 Po 6 [some (vR 11 0), some (vI L), some (vI D), some (vI N)] [] (mr_up w 11 (eRD v k s i op sl ln md fk fp)) := by
  intro m
  induction m with
  | zero =>
    intro i L D N hpi hm hall hcn
    have hLD := hcn.2.2.1
    have hL0 := hcn.1
    have hD0 := hcn.2.1
    refine mr_aload_n dX2_scanRun_6 rfl ?_
    refine mr_get dX2_scanRun_7 fl_X2_75 (by first | assumption | exact mr_up_same _ _ _ | exact mr_lk (by assumption) (by decide) | exact mr_lk (mr_up_same _ _ _) (by decide) | exact mr_lk (mr_lk (by assumption) (by decide)) (by decide) | exact mr_wS_8 _ _ _ _ _ _ | exact mr_wS_9 _ _ _ _ _ _ | exact mr_wS_10 _ _ _ _ _ _ | exact (mr_wS_ne _ _ _ _ _ _ (by decide)).trans (by assumption) | exact (mr_wS_ne _ _ _ _ _ _ (by decide)).trans (mr_up_same _ _ _) | exact (mr_wS_ne _ _ _ _ _ _ (by decide)).trans (mr_lk (by assumption) (by decide))) rfl ?_
    refine mr_aload_n dX2_scanRun_10 rfl ?_
    refine mr_get dX2_scanRun_11 fl_X2_22 (by first | assumption | exact mr_up_same _ _ _ | exact mr_lk (by assumption) (by decide) | exact mr_lk (mr_up_same _ _ _) (by decide) | exact mr_lk (mr_lk (by assumption) (by decide)) (by decide) | exact mr_wS_8 _ _ _ _ _ _ | exact mr_wS_9 _ _ _ _ _ _ | exact mr_wS_10 _ _ _ _ _ _ | exact (mr_wS_ne _ _ _ _ _ _ (by decide)).trans (by assumption) | exact (mr_wS_ne _ _ _ _ _ _ (by decide)).trans (mr_up_same _ _ _) | exact (mr_wS_ne _ _ _ _ _ _ (by decide)).trans (mr_lk (by assumption) (by decide))) rfl ?_
    refine mr_callV (as := []) dX2_scanRun_14 (ok_X5_length l G) ml_X2_61 cl_X5_length cv_X5_length (by decide) rfl rfl (Nat.le_of_ble_eq_true rfl) (by first | assumption | exact mr_up_same _ _ _ | exact mr_lk (by assumption) (by decide) | exact mr_lk (mr_up_same _ _ _) (by decide) | exact mr_lk (mr_lk (by assumption) (by decide)) (by decide) | exact mr_wS_8 _ _ _ _ _ _ | exact mr_wS_9 _ _ _ _ _ _ | exact mr_wS_10 _ _ _ _ _ _ | exact (mr_wS_ne _ _ _ _ _ _ (by decide)).trans (by assumption) | exact (mr_wS_ne _ _ _ _ _ _ (by decide)).trans (mr_up_same _ _ _) | exact (mr_wS_ne _ _ _ _ _ _ (by decide)).trans (mr_lk (by assumption) (by decide))) ?_
    refine ⟨_, _, rfl, ⟨(by first | assumption | exact mr_up_same _ _ _ | exact mr_lk (by assumption) (by decide) | exact mr_lk (mr_up_same _ _ _) (by decide) | exact mr_lk (mr_lk (by assumption) (by decide)) (by decide) | exact mr_wS_8 _ _ _ _ _ _ | exact mr_wS_9 _ _ _ _ _ _ | exact mr_wS_10 _ _ _ _ _ _ | exact (mr_wS_ne _ _ _ _ _ _ (by decide)).trans (by assumption) | exact (mr_wS_ne _ _ _ _ _ _ (by decide)).trans (mr_up_same _ _ _) | exact (mr_wS_ne _ _ _ _ _ _ (by decide)).trans (mr_lk (by assumption) (by decide))), (by first | assumption | exact mr_up_same _ _ _ | exact mr_lk (by assumption) (by decide) | exact mr_lk (mr_up_same _ _ _) (by decide) | exact mr_lk (mr_lk (by assumption) (by decide)) (by decide) | exact mr_wS_8 _ _ _ _ _ _ | exact mr_wS_9 _ _ _ _ _ _ | exact mr_wS_10 _ _ _ _ _ _ | exact (mr_wS_ne _ _ _ _ _ _ (by decide)).trans (by assumption) | exact (mr_wS_ne _ _ _ _ _ _ (by decide)).trans (mr_up_same _ _ _) | exact (mr_wS_ne _ _ _ _ _ _ (by decide)).trans (mr_lk (by assumption) (by decide)))⟩, ?_⟩
    dsimp only [Option.toList_some, Option.toList_none, List.cons_append, List.nil_append]
    refine mr_icmp_ge (tgt := 122) dX2_scanRun_17 (by decide) (by omega) (by omega) (fun hc_17 => ?_) (fun hc_17 => absurd hc_17 (by omega))
    obtain ⟨c1, c2, c3, c4, c5, c6, c7, c8⟩ := hcn
    have hrun : mr_run n0 g p i := ⟨hpi.1, hpi.2, hall, Or.inl (by omega)⟩
    refine mr_iload_n dX2_scanRun_122 rfl ?_
    refine mr_if_ne (tgt := 134) dX2_scanRun_123 (by decide) (by omega) (fun hc_123 => ?_) (fun hc_123 => ?_)
    · refine mr_iload_n dX2_scanRun_134 rfl ?_
      refine mr_if_ne (tgt := 156) dX2_scanRun_135 (by decide) (by omega) (fun hc_135 => ?_) (fun hc_135 => ?_)
      · refine mr_aload_n dX2_scanRun_156 rfl ?_
        refine mr_iconst dX2_scanRun_157 ?_
        refine mr_put dX2_scanRun_158 fl_X2_55 pf_X2_5 rfl rfl (by first | assumption | exact mr_up_same _ _ _ | exact mr_lk (by assumption) (by decide) | exact mr_lk (mr_up_same _ _ _) (by decide) | exact mr_lk (mr_lk (by assumption) (by decide)) (by decide) | exact mr_wS_8 _ _ _ _ _ _ | exact mr_wS_9 _ _ _ _ _ _ | exact mr_wS_10 _ _ _ _ _ _ | exact (mr_wS_ne _ _ _ _ _ _ (by decide)).trans (by assumption) | exact (mr_wS_ne _ _ _ _ _ _ (by decide)).trans (mr_up_same _ _ _) | exact (mr_wS_ne _ _ _ _ _ _ (by decide)).trans (mr_lk (by assumption) (by decide))) (Nat.le_of_ble_eq_true rfl) ?_
        rw [mr_up_up]
        refine mr_vret rfl dX2_scanRun_161 ?_
        first
          | exact hP1 i hrun (c4 hc_123)
          | (have h9 := hP2 i hrun (by omega) (c6 hc_135) (by omega); rw [← c8 hc_135 (by omega)] at h9; exact h9)
          | (refine hP3 i hrun (fun z => ?_) (fun z => ?_)
             · obtain ⟨x, g1, g2, g3⟩ := c5 (by omega)
               exact g3 (z x g1 g2)
             · first
                 | omega
                 | (obtain ⟨x, g1, g2, g3⟩ := c7 (by omega); exact absurd (z x g1 g2) g3))
      · refine mr_iload_n dX2_scanRun_138 rfl ?_
        refine mr_iconst dX2_scanRun_139 ?_
        refine mr_icmp_gt (tgt := 156) dX2_scanRun_140 (by decide) (by omega) (by omega) (fun hc_140 => ?_) (fun hc_140 => ?_)
        · refine mr_aload_n dX2_scanRun_156 rfl ?_
          refine mr_iconst dX2_scanRun_157 ?_
          refine mr_put dX2_scanRun_158 fl_X2_55 pf_X2_5 rfl rfl (by first | assumption | exact mr_up_same _ _ _ | exact mr_lk (by assumption) (by decide) | exact mr_lk (mr_up_same _ _ _) (by decide) | exact mr_lk (mr_lk (by assumption) (by decide)) (by decide) | exact mr_wS_8 _ _ _ _ _ _ | exact mr_wS_9 _ _ _ _ _ _ | exact mr_wS_10 _ _ _ _ _ _ | exact (mr_wS_ne _ _ _ _ _ _ (by decide)).trans (by assumption) | exact (mr_wS_ne _ _ _ _ _ _ (by decide)).trans (mr_up_same _ _ _) | exact (mr_wS_ne _ _ _ _ _ _ (by decide)).trans (mr_lk (by assumption) (by decide))) (Nat.le_of_ble_eq_true rfl) ?_
          rw [mr_up_up]
          refine mr_vret rfl dX2_scanRun_161 ?_
          first
            | exact hP1 i hrun (c4 hc_123)
            | (have h9 := hP2 i hrun (by omega) (c6 hc_135) (by omega); rw [← c8 hc_135 (by omega)] at h9; exact h9)
            | (refine hP3 i hrun (fun z => ?_) (fun z => ?_)
               · obtain ⟨x, g1, g2, g3⟩ := c5 (by omega)
                 exact g3 (z x g1 g2)
               · first
                   | omega
                   | (obtain ⟨x, g1, g2, g3⟩ := c7 (by omega); exact absurd (z x g1 g2) g3))
        · refine mr_aload_n dX2_scanRun_143 rfl ?_
          refine mr_iconst dX2_scanRun_144 ?_
          refine mr_put dX2_scanRun_145 fl_X2_55 pf_X2_5 rfl rfl (by first | assumption | exact mr_up_same _ _ _ | exact mr_lk (by assumption) (by decide) | exact mr_lk (mr_up_same _ _ _) (by decide) | exact mr_lk (mr_lk (by assumption) (by decide)) (by decide) | exact mr_wS_8 _ _ _ _ _ _ | exact mr_wS_9 _ _ _ _ _ _ | exact mr_wS_10 _ _ _ _ _ _ | exact (mr_wS_ne _ _ _ _ _ _ (by decide)).trans (by assumption) | exact (mr_wS_ne _ _ _ _ _ _ (by decide)).trans (mr_up_same _ _ _) | exact (mr_wS_ne _ _ _ _ _ _ (by decide)).trans (mr_lk (by assumption) (by decide))) (Nat.le_of_ble_eq_true rfl) ?_
          rw [mr_up_up]
          refine mr_aload_n dX2_scanRun_148 rfl ?_
          refine mr_iload_n dX2_scanRun_149 rfl ?_
          refine mr_put dX2_scanRun_150 fl_X2_131 pf_X2_4 rfl rfl (by first | assumption | exact mr_up_same _ _ _ | exact mr_lk (by assumption) (by decide) | exact mr_lk (mr_up_same _ _ _) (by decide) | exact mr_lk (mr_lk (by assumption) (by decide)) (by decide) | exact mr_wS_8 _ _ _ _ _ _ | exact mr_wS_9 _ _ _ _ _ _ | exact mr_wS_10 _ _ _ _ _ _ | exact (mr_wS_ne _ _ _ _ _ _ (by decide)).trans (by assumption) | exact (mr_wS_ne _ _ _ _ _ _ (by decide)).trans (mr_up_same _ _ _) | exact (mr_wS_ne _ _ _ _ _ _ (by decide)).trans (mr_lk (by assumption) (by decide))) (Nat.le_of_ble_eq_true rfl) ?_
          rw [mr_up_up]
          refine mr_goto (tgt := 161) dX2_scanRun_153 (by decide) ?_
          refine mr_vret rfl dX2_scanRun_161 ?_
          first
            | exact hP1 i hrun (c4 hc_123)
            | (have h9 := hP2 i hrun (by omega) (c6 hc_135) (by omega); rw [← c8 hc_135 (by omega)] at h9; exact h9)
            | (refine hP3 i hrun (fun z => ?_) (fun z => ?_)
               · obtain ⟨x, g1, g2, g3⟩ := c5 (by omega)
                 exact g3 (z x g1 g2)
               · first
                   | omega
                   | (obtain ⟨x, g1, g2, g3⟩ := c7 (by omega); exact absurd (z x g1 g2) g3))
    · refine mr_aload_n dX2_scanRun_126 rfl ?_
      refine mr_iconst dX2_scanRun_127 ?_
      refine mr_put dX2_scanRun_128 fl_X2_55 pf_X2_5 rfl rfl (by first | assumption | exact mr_up_same _ _ _ | exact mr_lk (by assumption) (by decide) | exact mr_lk (mr_up_same _ _ _) (by decide) | exact mr_lk (mr_lk (by assumption) (by decide)) (by decide) | exact mr_wS_8 _ _ _ _ _ _ | exact mr_wS_9 _ _ _ _ _ _ | exact mr_wS_10 _ _ _ _ _ _ | exact (mr_wS_ne _ _ _ _ _ _ (by decide)).trans (by assumption) | exact (mr_wS_ne _ _ _ _ _ _ (by decide)).trans (mr_up_same _ _ _) | exact (mr_wS_ne _ _ _ _ _ _ (by decide)).trans (mr_lk (by assumption) (by decide))) (Nat.le_of_ble_eq_true rfl) ?_
      rw [mr_up_up]
      refine mr_goto (tgt := 161) dX2_scanRun_131 (by decide) ?_
      refine mr_vret rfl dX2_scanRun_161 ?_
      first
        | exact hP1 i hrun (c4 hc_123)
        | (have h9 := hP2 i hrun (by omega) (c6 hc_135) (by omega); rw [← c8 hc_135 (by omega)] at h9; exact h9)
        | (refine hP3 i hrun (fun z => ?_) (fun z => ?_)
           · obtain ⟨x, g1, g2, g3⟩ := c5 (by omega)
             exact g3 (z x g1 g2)
           · first
               | omega
               | (obtain ⟨x, g1, g2, g3⟩ := c7 (by omega); exact absurd (z x g1 g2) g3))
  | succ m ih =>
    intro i L D N hpi hm hall hcn
    have hLD := hcn.2.2.1
    have hL0 := hcn.1
    have hD0 := hcn.2.1
    refine mr_aload_n dX2_scanRun_6 rfl ?_
    refine mr_get dX2_scanRun_7 fl_X2_75 (by first | assumption | exact mr_up_same _ _ _ | exact mr_lk (by assumption) (by decide) | exact mr_lk (mr_up_same _ _ _) (by decide) | exact mr_lk (mr_lk (by assumption) (by decide)) (by decide) | exact mr_wS_8 _ _ _ _ _ _ | exact mr_wS_9 _ _ _ _ _ _ | exact mr_wS_10 _ _ _ _ _ _ | exact (mr_wS_ne _ _ _ _ _ _ (by decide)).trans (by assumption) | exact (mr_wS_ne _ _ _ _ _ _ (by decide)).trans (mr_up_same _ _ _) | exact (mr_wS_ne _ _ _ _ _ _ (by decide)).trans (mr_lk (by assumption) (by decide))) rfl ?_
    refine mr_aload_n dX2_scanRun_10 rfl ?_
    refine mr_get dX2_scanRun_11 fl_X2_22 (by first | assumption | exact mr_up_same _ _ _ | exact mr_lk (by assumption) (by decide) | exact mr_lk (mr_up_same _ _ _) (by decide) | exact mr_lk (mr_lk (by assumption) (by decide)) (by decide) | exact mr_wS_8 _ _ _ _ _ _ | exact mr_wS_9 _ _ _ _ _ _ | exact mr_wS_10 _ _ _ _ _ _ | exact (mr_wS_ne _ _ _ _ _ _ (by decide)).trans (by assumption) | exact (mr_wS_ne _ _ _ _ _ _ (by decide)).trans (mr_up_same _ _ _) | exact (mr_wS_ne _ _ _ _ _ _ (by decide)).trans (mr_lk (by assumption) (by decide))) rfl ?_
    refine mr_callV (as := []) dX2_scanRun_14 (ok_X5_length l G) ml_X2_61 cl_X5_length cv_X5_length (by decide) rfl rfl (Nat.le_of_ble_eq_true rfl) (by first | assumption | exact mr_up_same _ _ _ | exact mr_lk (by assumption) (by decide) | exact mr_lk (mr_up_same _ _ _) (by decide) | exact mr_lk (mr_lk (by assumption) (by decide)) (by decide) | exact mr_wS_8 _ _ _ _ _ _ | exact mr_wS_9 _ _ _ _ _ _ | exact mr_wS_10 _ _ _ _ _ _ | exact (mr_wS_ne _ _ _ _ _ _ (by decide)).trans (by assumption) | exact (mr_wS_ne _ _ _ _ _ _ (by decide)).trans (mr_up_same _ _ _) | exact (mr_wS_ne _ _ _ _ _ _ (by decide)).trans (mr_lk (by assumption) (by decide))) ?_
    refine ⟨_, _, rfl, ⟨(by first | assumption | exact mr_up_same _ _ _ | exact mr_lk (by assumption) (by decide) | exact mr_lk (mr_up_same _ _ _) (by decide) | exact mr_lk (mr_lk (by assumption) (by decide)) (by decide) | exact mr_wS_8 _ _ _ _ _ _ | exact mr_wS_9 _ _ _ _ _ _ | exact mr_wS_10 _ _ _ _ _ _ | exact (mr_wS_ne _ _ _ _ _ _ (by decide)).trans (by assumption) | exact (mr_wS_ne _ _ _ _ _ _ (by decide)).trans (mr_up_same _ _ _) | exact (mr_wS_ne _ _ _ _ _ _ (by decide)).trans (mr_lk (by assumption) (by decide))), (by first | assumption | exact mr_up_same _ _ _ | exact mr_lk (by assumption) (by decide) | exact mr_lk (mr_up_same _ _ _) (by decide) | exact mr_lk (mr_lk (by assumption) (by decide)) (by decide) | exact mr_wS_8 _ _ _ _ _ _ | exact mr_wS_9 _ _ _ _ _ _ | exact mr_wS_10 _ _ _ _ _ _ | exact (mr_wS_ne _ _ _ _ _ _ (by decide)).trans (by assumption) | exact (mr_wS_ne _ _ _ _ _ _ (by decide)).trans (mr_up_same _ _ _) | exact (mr_wS_ne _ _ _ _ _ _ (by decide)).trans (mr_lk (by assumption) (by decide)))⟩, ?_⟩
    dsimp only [Option.toList_some, Option.toList_none, List.cons_append, List.nil_append]
    refine mr_icmp_ge (tgt := 122) dX2_scanRun_17 (by decide) (by omega) (by omega) (fun hc_17 => absurd hc_17 (by omega)) (fun hc_17 => ?_)
    refine mr_aload_n dX2_scanRun_20 rfl ?_
    refine mr_get dX2_scanRun_21 fl_X2_22 (by first | assumption | exact mr_up_same _ _ _ | exact mr_lk (by assumption) (by decide) | exact mr_lk (mr_up_same _ _ _) (by decide) | exact mr_lk (mr_lk (by assumption) (by decide)) (by decide) | exact mr_wS_8 _ _ _ _ _ _ | exact mr_wS_9 _ _ _ _ _ _ | exact mr_wS_10 _ _ _ _ _ _ | exact (mr_wS_ne _ _ _ _ _ _ (by decide)).trans (by assumption) | exact (mr_wS_ne _ _ _ _ _ _ (by decide)).trans (mr_up_same _ _ _) | exact (mr_wS_ne _ _ _ _ _ _ (by decide)).trans (mr_lk (by assumption) (by decide))) rfl ?_
    refine mr_aload_n dX2_scanRun_24 rfl ?_
    refine mr_get dX2_scanRun_25 fl_X2_75 (by first | assumption | exact mr_up_same _ _ _ | exact mr_lk (by assumption) (by decide) | exact mr_lk (mr_up_same _ _ _) (by decide) | exact mr_lk (mr_lk (by assumption) (by decide)) (by decide) | exact mr_wS_8 _ _ _ _ _ _ | exact mr_wS_9 _ _ _ _ _ _ | exact mr_wS_10 _ _ _ _ _ _ | exact (mr_wS_ne _ _ _ _ _ _ (by decide)).trans (by assumption) | exact (mr_wS_ne _ _ _ _ _ _ (by decide)).trans (mr_up_same _ _ _) | exact (mr_wS_ne _ _ _ _ _ _ (by decide)).trans (mr_lk (by assumption) (by decide))) rfl ?_
    refine mr_callV (as := [_]) dX2_scanRun_28 (ok_X5_byteAt l G) ml_X2_164 cl_X5_byteAt cv_X5_byteAt (by decide) rfl rfl (Nat.le_of_ble_eq_true rfl) (by first | assumption | exact mr_up_same _ _ _ | exact mr_lk (by assumption) (by decide) | exact mr_lk (mr_up_same _ _ _) (by decide) | exact mr_lk (mr_lk (by assumption) (by decide)) (by decide) | exact mr_wS_8 _ _ _ _ _ _ | exact mr_wS_9 _ _ _ _ _ _ | exact mr_wS_10 _ _ _ _ _ _ | exact (mr_wS_ne _ _ _ _ _ _ (by decide)).trans (by assumption) | exact (mr_wS_ne _ _ _ _ _ _ (by decide)).trans (mr_up_same _ _ _) | exact (mr_wS_ne _ _ _ _ _ _ (by decide)).trans (mr_lk (by assumption) (by decide))) ?_
    refine ⟨_, _, _, rfl, ⟨(by first | assumption | exact mr_up_same _ _ _ | exact mr_lk (by assumption) (by decide) | exact mr_lk (mr_up_same _ _ _) (by decide) | exact mr_lk (mr_lk (by assumption) (by decide)) (by decide) | exact mr_wS_8 _ _ _ _ _ _ | exact mr_wS_9 _ _ _ _ _ _ | exact mr_wS_10 _ _ _ _ _ _ | exact (mr_wS_ne _ _ _ _ _ _ (by decide)).trans (by assumption) | exact (mr_wS_ne _ _ _ _ _ _ (by decide)).trans (mr_up_same _ _ _) | exact (mr_wS_ne _ _ _ _ _ _ (by decide)).trans (mr_lk (by assumption) (by decide))), (by first | assumption | exact mr_up_same _ _ _ | exact mr_lk (by assumption) (by decide) | exact mr_lk (mr_up_same _ _ _) (by decide) | exact mr_lk (mr_lk (by assumption) (by decide)) (by decide) | exact mr_wS_8 _ _ _ _ _ _ | exact mr_wS_9 _ _ _ _ _ _ | exact mr_wS_10 _ _ _ _ _ _ | exact (mr_wS_ne _ _ _ _ _ _ (by decide)).trans (by assumption) | exact (mr_wS_ne _ _ _ _ _ _ (by decide)).trans (mr_up_same _ _ _) | exact (mr_wS_ne _ _ _ _ _ _ (by decide)).trans (mr_lk (by assumption) (by decide)))⟩, hn0, ⟨by omega, by omega⟩, ?_⟩
    dsimp only [Option.toList_some, Option.toList_none, List.cons_append, List.nil_append]
    refine mr_callS (as := [_]) dX2_scanRun_31 (ok_X2_isLetter l G) ml_X2_172 cl_X2_isLetter cs_X2_isLetter (by decide) rfl rfl (Nat.le_of_ble_eq_true rfl) ?_
    refine ⟨_, rfl, mr_ba_in _ _ _, ?_, ?_⟩
    · intro y1
      dsimp only [Option.toList_some, Option.toList_none, List.cons_append, List.nil_append]
      refine mr_if_ne (tgt := 54) dX2_scanRun_34 (by decide) (by omega) (fun _ => ?_) (fun h => absurd h (by decide))
      refine mr_aload_n dX2_scanRun_54 rfl ?_
      refine mr_get dX2_scanRun_55 fl_X2_22 (by first | assumption | exact mr_up_same _ _ _ | exact mr_lk (by assumption) (by decide) | exact mr_lk (mr_up_same _ _ _) (by decide) | exact mr_lk (mr_lk (by assumption) (by decide)) (by decide) | exact mr_wS_8 _ _ _ _ _ _ | exact mr_wS_9 _ _ _ _ _ _ | exact mr_wS_10 _ _ _ _ _ _ | exact (mr_wS_ne _ _ _ _ _ _ (by decide)).trans (by assumption) | exact (mr_wS_ne _ _ _ _ _ _ (by decide)).trans (mr_up_same _ _ _) | exact (mr_wS_ne _ _ _ _ _ _ (by decide)).trans (mr_lk (by assumption) (by decide))) rfl ?_
      refine mr_aload_n dX2_scanRun_58 rfl ?_
      refine mr_get dX2_scanRun_59 fl_X2_75 (by first | assumption | exact mr_up_same _ _ _ | exact mr_lk (by assumption) (by decide) | exact mr_lk (mr_up_same _ _ _) (by decide) | exact mr_lk (mr_lk (by assumption) (by decide)) (by decide) | exact mr_wS_8 _ _ _ _ _ _ | exact mr_wS_9 _ _ _ _ _ _ | exact mr_wS_10 _ _ _ _ _ _ | exact (mr_wS_ne _ _ _ _ _ _ (by decide)).trans (by assumption) | exact (mr_wS_ne _ _ _ _ _ _ (by decide)).trans (mr_up_same _ _ _) | exact (mr_wS_ne _ _ _ _ _ _ (by decide)).trans (mr_lk (by assumption) (by decide))) rfl ?_
      refine mr_callV (as := [_]) dX2_scanRun_62 (ok_X5_byteAt l G) ml_X2_164 cl_X5_byteAt cv_X5_byteAt (by decide) rfl rfl (Nat.le_of_ble_eq_true rfl) (by first | assumption | exact mr_up_same _ _ _ | exact mr_lk (by assumption) (by decide) | exact mr_lk (mr_up_same _ _ _) (by decide) | exact mr_lk (mr_lk (by assumption) (by decide)) (by decide) | exact mr_wS_8 _ _ _ _ _ _ | exact mr_wS_9 _ _ _ _ _ _ | exact mr_wS_10 _ _ _ _ _ _ | exact (mr_wS_ne _ _ _ _ _ _ (by decide)).trans (by assumption) | exact (mr_wS_ne _ _ _ _ _ _ (by decide)).trans (mr_up_same _ _ _) | exact (mr_wS_ne _ _ _ _ _ _ (by decide)).trans (mr_lk (by assumption) (by decide))) ?_
      refine ⟨_, _, _, rfl, ⟨(by first | assumption | exact mr_up_same _ _ _ | exact mr_lk (by assumption) (by decide) | exact mr_lk (mr_up_same _ _ _) (by decide) | exact mr_lk (mr_lk (by assumption) (by decide)) (by decide) | exact mr_wS_8 _ _ _ _ _ _ | exact mr_wS_9 _ _ _ _ _ _ | exact mr_wS_10 _ _ _ _ _ _ | exact (mr_wS_ne _ _ _ _ _ _ (by decide)).trans (by assumption) | exact (mr_wS_ne _ _ _ _ _ _ (by decide)).trans (mr_up_same _ _ _) | exact (mr_wS_ne _ _ _ _ _ _ (by decide)).trans (mr_lk (by assumption) (by decide))), (by first | assumption | exact mr_up_same _ _ _ | exact mr_lk (by assumption) (by decide) | exact mr_lk (mr_up_same _ _ _) (by decide) | exact mr_lk (mr_lk (by assumption) (by decide)) (by decide) | exact mr_wS_8 _ _ _ _ _ _ | exact mr_wS_9 _ _ _ _ _ _ | exact mr_wS_10 _ _ _ _ _ _ | exact (mr_wS_ne _ _ _ _ _ _ (by decide)).trans (by assumption) | exact (mr_wS_ne _ _ _ _ _ _ (by decide)).trans (mr_up_same _ _ _) | exact (mr_wS_ne _ _ _ _ _ _ (by decide)).trans (mr_lk (by assumption) (by decide)))⟩, hn0, ⟨by omega, by omega⟩, ?_⟩
      dsimp only [Option.toList_some, Option.toList_none, List.cons_append, List.nil_append]
      refine mr_callS (as := [_]) dX2_scanRun_65 (ok_X2_isLetter l G) ml_X2_172 cl_X2_isLetter cs_X2_isLetter (by decide) rfl rfl (Nat.le_of_ble_eq_true rfl) ?_
      refine ⟨_, rfl, mr_ba_in _ _ _, ?_, ?_⟩
      · intro y3
        dsimp only [Option.toList_some, Option.toList_none, List.cons_append, List.nil_append]
        refine mr_if_eq (tgt := 77) dX2_scanRun_68 (by decide) (by omega) (fun h => absurd h (by decide)) (fun _ => ?_)
        refine mr_iinc dX2_scanRun_71 rfl (by decide) rfl ?_
        refine mr_goto (tgt := 109) dX2_scanRun_74 (by decide) ?_
        refine mr_aload_n dX2_scanRun_109 rfl ?_
        refine mr_dup dX2_scanRun_110 rfl ?_
        refine mr_get dX2_scanRun_111 fl_X2_75 (by first | assumption | exact mr_up_same _ _ _ | exact mr_lk (by assumption) (by decide) | exact mr_lk (mr_up_same _ _ _) (by decide) | exact mr_lk (mr_lk (by assumption) (by decide)) (by decide) | exact mr_wS_8 _ _ _ _ _ _ | exact mr_wS_9 _ _ _ _ _ _ | exact mr_wS_10 _ _ _ _ _ _ | exact (mr_wS_ne _ _ _ _ _ _ (by decide)).trans (by assumption) | exact (mr_wS_ne _ _ _ _ _ _ (by decide)).trans (mr_up_same _ _ _) | exact (mr_wS_ne _ _ _ _ _ _ (by decide)).trans (mr_lk (by assumption) (by decide))) rfl ?_
        refine mr_iconst dX2_scanRun_114 ?_
        refine mr_iadd dX2_scanRun_115 ?_
        refine mr_put dX2_scanRun_116 fl_X2_75 pf_X2_7 rfl rfl (by first | assumption | exact mr_up_same _ _ _ | exact mr_lk (by assumption) (by decide) | exact mr_lk (mr_up_same _ _ _) (by decide) | exact mr_lk (mr_lk (by assumption) (by decide)) (by decide) | exact mr_wS_8 _ _ _ _ _ _ | exact mr_wS_9 _ _ _ _ _ _ | exact mr_wS_10 _ _ _ _ _ _ | exact (mr_wS_ne _ _ _ _ _ _ (by decide)).trans (by assumption) | exact (mr_wS_ne _ _ _ _ _ _ (by decide)).trans (mr_up_same _ _ _) | exact (mr_wS_ne _ _ _ _ _ _ (by decide)).trans (mr_lk (by assumption) (by decide))) (Nat.le_of_ble_eq_true rfl) ?_
        rw [mr_up_up]
        refine mr_goto (tgt := 6) dX2_scanRun_119 (by decide) ?_
        refine ih (i + 1) _ _ _ (by omega) (by omega) (fun x g1 g2 => ?_) ?_
        · by_cases e : x = i
          · subst e
            first | exact Or.inl y1 | exact Or.inr y2
          · exact hall x g1 (by omega)
        · first | exact mr_cnt_L hcn hpi.1 y3 | exact absurd y1 y3 | exact mr_cnt_D hcn hpi.1 y3 y2 (fun z => by first | rfl | omega)
      · intro y3
        dsimp only [Option.toList_some, Option.toList_none, List.cons_append, List.nil_append]
        refine mr_if_eq (tgt := 77) dX2_scanRun_68 (by decide) (by omega) (fun _ => ?_) (fun h => absurd h (by decide))
        refine mr_iinc dX2_scanRun_77 rfl (by decide) rfl ?_
        refine mr_iload_n dX2_scanRun_80 rfl ?_
        refine mr_iconst dX2_scanRun_81 ?_
        refine mr_icmp_gt (tgt := 107) dX2_scanRun_82 (by decide) (by omega) (by omega) (fun hc_82 => ?_) (fun hc_82 => ?_)
        · refine mr_iload_n dX2_scanRun_107 rfl ?_
          refine mr_istore_n dX2_scanRun_108 rfl (by decide) ?_
          refine mr_aload_n dX2_scanRun_109 rfl ?_
          refine mr_dup dX2_scanRun_110 rfl ?_
          refine mr_get dX2_scanRun_111 fl_X2_75 (by first | assumption | exact mr_up_same _ _ _ | exact mr_lk (by assumption) (by decide) | exact mr_lk (mr_up_same _ _ _) (by decide) | exact mr_lk (mr_lk (by assumption) (by decide)) (by decide) | exact mr_wS_8 _ _ _ _ _ _ | exact mr_wS_9 _ _ _ _ _ _ | exact mr_wS_10 _ _ _ _ _ _ | exact (mr_wS_ne _ _ _ _ _ _ (by decide)).trans (by assumption) | exact (mr_wS_ne _ _ _ _ _ _ (by decide)).trans (mr_up_same _ _ _) | exact (mr_wS_ne _ _ _ _ _ _ (by decide)).trans (mr_lk (by assumption) (by decide))) rfl ?_
          refine mr_iconst dX2_scanRun_114 ?_
          refine mr_iadd dX2_scanRun_115 ?_
          refine mr_put dX2_scanRun_116 fl_X2_75 pf_X2_7 rfl rfl (by first | assumption | exact mr_up_same _ _ _ | exact mr_lk (by assumption) (by decide) | exact mr_lk (mr_up_same _ _ _) (by decide) | exact mr_lk (mr_lk (by assumption) (by decide)) (by decide) | exact mr_wS_8 _ _ _ _ _ _ | exact mr_wS_9 _ _ _ _ _ _ | exact mr_wS_10 _ _ _ _ _ _ | exact (mr_wS_ne _ _ _ _ _ _ (by decide)).trans (by assumption) | exact (mr_wS_ne _ _ _ _ _ _ (by decide)).trans (mr_up_same _ _ _) | exact (mr_wS_ne _ _ _ _ _ _ (by decide)).trans (mr_lk (by assumption) (by decide))) (Nat.le_of_ble_eq_true rfl) ?_
          rw [mr_up_up]
          refine mr_goto (tgt := 6) dX2_scanRun_119 (by decide) ?_
          refine ih (i + 1) _ _ _ (by omega) (by omega) (fun x g1 g2 => ?_) ?_
          · by_cases e : x = i
            · subst e
              first | exact Or.inl y1 | exact Or.inr y2
            · exact hall x g1 (by omega)
          · first | exact mr_cnt_L hcn hpi.1 y3 | exact absurd y1 y3 | exact mr_cnt_D hcn hpi.1 y3 y2 (fun z => by first | rfl | omega)
        · refine mr_bipush dX2_scanRun_85 rfl ?_
          refine mr_iload_n dX2_scanRun_87 rfl ?_
          refine mr_imul dX2_scanRun_88 ?_
          refine mr_aload_n dX2_scanRun_89 rfl ?_
          refine mr_get dX2_scanRun_90 fl_X2_22 (by first | assumption | exact mr_up_same _ _ _ | exact mr_lk (by assumption) (by decide) | exact mr_lk (mr_up_same _ _ _) (by decide) | exact mr_lk (mr_lk (by assumption) (by decide)) (by decide) | exact mr_wS_8 _ _ _ _ _ _ | exact mr_wS_9 _ _ _ _ _ _ | exact mr_wS_10 _ _ _ _ _ _ | exact (mr_wS_ne _ _ _ _ _ _ (by decide)).trans (by assumption) | exact (mr_wS_ne _ _ _ _ _ _ (by decide)).trans (mr_up_same _ _ _) | exact (mr_wS_ne _ _ _ _ _ _ (by decide)).trans (mr_lk (by assumption) (by decide))) rfl ?_
          refine mr_aload_n dX2_scanRun_93 rfl ?_
          refine mr_get dX2_scanRun_94 fl_X2_75 (by first | assumption | exact mr_up_same _ _ _ | exact mr_lk (by assumption) (by decide) | exact mr_lk (mr_up_same _ _ _) (by decide) | exact mr_lk (mr_lk (by assumption) (by decide)) (by decide) | exact mr_wS_8 _ _ _ _ _ _ | exact mr_wS_9 _ _ _ _ _ _ | exact mr_wS_10 _ _ _ _ _ _ | exact (mr_wS_ne _ _ _ _ _ _ (by decide)).trans (by assumption) | exact (mr_wS_ne _ _ _ _ _ _ (by decide)).trans (mr_up_same _ _ _) | exact (mr_wS_ne _ _ _ _ _ _ (by decide)).trans (mr_lk (by assumption) (by decide))) rfl ?_
          refine mr_callV (as := [_]) dX2_scanRun_97 (ok_X5_byteAt l G) ml_X2_164 cl_X5_byteAt cv_X5_byteAt (by decide) rfl rfl (Nat.le_of_ble_eq_true rfl) (by first | assumption | exact mr_up_same _ _ _ | exact mr_lk (by assumption) (by decide) | exact mr_lk (mr_up_same _ _ _) (by decide) | exact mr_lk (mr_lk (by assumption) (by decide)) (by decide) | exact mr_wS_8 _ _ _ _ _ _ | exact mr_wS_9 _ _ _ _ _ _ | exact mr_wS_10 _ _ _ _ _ _ | exact (mr_wS_ne _ _ _ _ _ _ (by decide)).trans (by assumption) | exact (mr_wS_ne _ _ _ _ _ _ (by decide)).trans (mr_up_same _ _ _) | exact (mr_wS_ne _ _ _ _ _ _ (by decide)).trans (mr_lk (by assumption) (by decide))) ?_
          refine ⟨_, _, _, rfl, ⟨(by first | assumption | exact mr_up_same _ _ _ | exact mr_lk (by assumption) (by decide) | exact mr_lk (mr_up_same _ _ _) (by decide) | exact mr_lk (mr_lk (by assumption) (by decide)) (by decide) | exact mr_wS_8 _ _ _ _ _ _ | exact mr_wS_9 _ _ _ _ _ _ | exact mr_wS_10 _ _ _ _ _ _ | exact (mr_wS_ne _ _ _ _ _ _ (by decide)).trans (by assumption) | exact (mr_wS_ne _ _ _ _ _ _ (by decide)).trans (mr_up_same _ _ _) | exact (mr_wS_ne _ _ _ _ _ _ (by decide)).trans (mr_lk (by assumption) (by decide))), (by first | assumption | exact mr_up_same _ _ _ | exact mr_lk (by assumption) (by decide) | exact mr_lk (mr_up_same _ _ _) (by decide) | exact mr_lk (mr_lk (by assumption) (by decide)) (by decide) | exact mr_wS_8 _ _ _ _ _ _ | exact mr_wS_9 _ _ _ _ _ _ | exact mr_wS_10 _ _ _ _ _ _ | exact (mr_wS_ne _ _ _ _ _ _ (by decide)).trans (by assumption) | exact (mr_wS_ne _ _ _ _ _ _ (by decide)).trans (mr_up_same _ _ _) | exact (mr_wS_ne _ _ _ _ _ _ (by decide)).trans (mr_lk (by assumption) (by decide)))⟩, hn0, ⟨by omega, by omega⟩, ?_⟩
          dsimp only [Option.toList_some, Option.toList_none, List.cons_append, List.nil_append]
          refine mr_iadd dX2_scanRun_100 ?_
          refine mr_bipush dX2_scanRun_101 rfl ?_
          refine mr_isub dX2_scanRun_103 ?_
          refine mr_goto (tgt := 108) dX2_scanRun_104 (by decide) ?_
          refine mr_istore_n dX2_scanRun_108 rfl (by decide) ?_
          refine mr_aload_n dX2_scanRun_109 rfl ?_
          refine mr_dup dX2_scanRun_110 rfl ?_
          refine mr_get dX2_scanRun_111 fl_X2_75 (by first | assumption | exact mr_up_same _ _ _ | exact mr_lk (by assumption) (by decide) | exact mr_lk (mr_up_same _ _ _) (by decide) | exact mr_lk (mr_lk (by assumption) (by decide)) (by decide) | exact mr_wS_8 _ _ _ _ _ _ | exact mr_wS_9 _ _ _ _ _ _ | exact mr_wS_10 _ _ _ _ _ _ | exact (mr_wS_ne _ _ _ _ _ _ (by decide)).trans (by assumption) | exact (mr_wS_ne _ _ _ _ _ _ (by decide)).trans (mr_up_same _ _ _) | exact (mr_wS_ne _ _ _ _ _ _ (by decide)).trans (mr_lk (by assumption) (by decide))) rfl ?_
          refine mr_iconst dX2_scanRun_114 ?_
          refine mr_iadd dX2_scanRun_115 ?_
          refine mr_put dX2_scanRun_116 fl_X2_75 pf_X2_7 rfl rfl (by first | assumption | exact mr_up_same _ _ _ | exact mr_lk (by assumption) (by decide) | exact mr_lk (mr_up_same _ _ _) (by decide) | exact mr_lk (mr_lk (by assumption) (by decide)) (by decide) | exact mr_wS_8 _ _ _ _ _ _ | exact mr_wS_9 _ _ _ _ _ _ | exact mr_wS_10 _ _ _ _ _ _ | exact (mr_wS_ne _ _ _ _ _ _ (by decide)).trans (by assumption) | exact (mr_wS_ne _ _ _ _ _ _ (by decide)).trans (mr_up_same _ _ _) | exact (mr_wS_ne _ _ _ _ _ _ (by decide)).trans (mr_lk (by assumption) (by decide))) (Nat.le_of_ble_eq_true rfl) ?_
          rw [mr_up_up]
          refine mr_goto (tgt := 6) dX2_scanRun_119 (by decide) ?_
          refine ih (i + 1) _ _ _ (by omega) (by omega) (fun x g1 g2 => ?_) ?_
          · by_cases e : x = i
            · subst e
              first | exact Or.inl y1 | exact Or.inr y2
            · exact hall x g1 (by omega)
          · first | exact mr_cnt_L hcn hpi.1 y3 | exact absurd y1 y3 | exact mr_cnt_D hcn hpi.1 y3 y2 (fun z => by first | rfl | omega)
    · intro y1
      dsimp only [Option.toList_some, Option.toList_none, List.cons_append, List.nil_append]
      refine mr_if_ne (tgt := 54) dX2_scanRun_34 (by decide) (by omega) (fun h => absurd h (by decide)) (fun _ => ?_)
      refine mr_aload_n dX2_scanRun_37 rfl ?_
      refine mr_get dX2_scanRun_38 fl_X2_22 (by first | assumption | exact mr_up_same _ _ _ | exact mr_lk (by assumption) (by decide) | exact mr_lk (mr_up_same _ _ _) (by decide) | exact mr_lk (mr_lk (by assumption) (by decide)) (by decide) | exact mr_wS_8 _ _ _ _ _ _ | exact mr_wS_9 _ _ _ _ _ _ | exact mr_wS_10 _ _ _ _ _ _ | exact (mr_wS_ne _ _ _ _ _ _ (by decide)).trans (by assumption) | exact (mr_wS_ne _ _ _ _ _ _ (by decide)).trans (mr_up_same _ _ _) | exact (mr_wS_ne _ _ _ _ _ _ (by decide)).trans (mr_lk (by assumption) (by decide))) rfl ?_
      refine mr_aload_n dX2_scanRun_41 rfl ?_
      refine mr_get dX2_scanRun_42 fl_X2_75 (by first | assumption | exact mr_up_same _ _ _ | exact mr_lk (by assumption) (by decide) | exact mr_lk (mr_up_same _ _ _) (by decide) | exact mr_lk (mr_lk (by assumption) (by decide)) (by decide) | exact mr_wS_8 _ _ _ _ _ _ | exact mr_wS_9 _ _ _ _ _ _ | exact mr_wS_10 _ _ _ _ _ _ | exact (mr_wS_ne _ _ _ _ _ _ (by decide)).trans (by assumption) | exact (mr_wS_ne _ _ _ _ _ _ (by decide)).trans (mr_up_same _ _ _) | exact (mr_wS_ne _ _ _ _ _ _ (by decide)).trans (mr_lk (by assumption) (by decide))) rfl ?_
      refine mr_callV (as := [_]) dX2_scanRun_45 (ok_X5_byteAt l G) ml_X2_164 cl_X5_byteAt cv_X5_byteAt (by decide) rfl rfl (Nat.le_of_ble_eq_true rfl) (by first | assumption | exact mr_up_same _ _ _ | exact mr_lk (by assumption) (by decide) | exact mr_lk (mr_up_same _ _ _) (by decide) | exact mr_lk (mr_lk (by assumption) (by decide)) (by decide) | exact mr_wS_8 _ _ _ _ _ _ | exact mr_wS_9 _ _ _ _ _ _ | exact mr_wS_10 _ _ _ _ _ _ | exact (mr_wS_ne _ _ _ _ _ _ (by decide)).trans (by assumption) | exact (mr_wS_ne _ _ _ _ _ _ (by decide)).trans (mr_up_same _ _ _) | exact (mr_wS_ne _ _ _ _ _ _ (by decide)).trans (mr_lk (by assumption) (by decide))) ?_
      refine ⟨_, _, _, rfl, ⟨(by first | assumption | exact mr_up_same _ _ _ | exact mr_lk (by assumption) (by decide) | exact mr_lk (mr_up_same _ _ _) (by decide) | exact mr_lk (mr_lk (by assumption) (by decide)) (by decide) | exact mr_wS_8 _ _ _ _ _ _ | exact mr_wS_9 _ _ _ _ _ _ | exact mr_wS_10 _ _ _ _ _ _ | exact (mr_wS_ne _ _ _ _ _ _ (by decide)).trans (by assumption) | exact (mr_wS_ne _ _ _ _ _ _ (by decide)).trans (mr_up_same _ _ _) | exact (mr_wS_ne _ _ _ _ _ _ (by decide)).trans (mr_lk (by assumption) (by decide))), (by first | assumption | exact mr_up_same _ _ _ | exact mr_lk (by assumption) (by decide) | exact mr_lk (mr_up_same _ _ _) (by decide) | exact mr_lk (mr_lk (by assumption) (by decide)) (by decide) | exact mr_wS_8 _ _ _ _ _ _ | exact mr_wS_9 _ _ _ _ _ _ | exact mr_wS_10 _ _ _ _ _ _ | exact (mr_wS_ne _ _ _ _ _ _ (by decide)).trans (by assumption) | exact (mr_wS_ne _ _ _ _ _ _ (by decide)).trans (mr_up_same _ _ _) | exact (mr_wS_ne _ _ _ _ _ _ (by decide)).trans (mr_lk (by assumption) (by decide)))⟩, hn0, ⟨by omega, by omega⟩, ?_⟩
      dsimp only [Option.toList_some, Option.toList_none, List.cons_append, List.nil_append]
      refine mr_callS (as := [_]) dX2_scanRun_48 (ok_X2_isDigit l G) ml_X2_175 cl_X2_isDigit cs_X2_isDigit (by decide) rfl rfl (Nat.le_of_ble_eq_true rfl) ?_
      refine ⟨_, rfl, mr_ba_in _ _ _, ?_, ?_⟩
      · intro y2
        dsimp only [Option.toList_some, Option.toList_none, List.cons_append, List.nil_append]
        refine mr_if_eq (tgt := 122) dX2_scanRun_51 (by decide) (by omega) (fun h => absurd h (by decide)) (fun _ => ?_)
        refine mr_aload_n dX2_scanRun_54 rfl ?_
        refine mr_get dX2_scanRun_55 fl_X2_22 (by first | assumption | exact mr_up_same _ _ _ | exact mr_lk (by assumption) (by decide) | exact mr_lk (mr_up_same _ _ _) (by decide) | exact mr_lk (mr_lk (by assumption) (by decide)) (by decide) | exact mr_wS_8 _ _ _ _ _ _ | exact mr_wS_9 _ _ _ _ _ _ | exact mr_wS_10 _ _ _ _ _ _ | exact (mr_wS_ne _ _ _ _ _ _ (by decide)).trans (by assumption) | exact (mr_wS_ne _ _ _ _ _ _ (by decide)).trans (mr_up_same _ _ _) | exact (mr_wS_ne _ _ _ _ _ _ (by decide)).trans (mr_lk (by assumption) (by decide))) rfl ?_
        refine mr_aload_n dX2_scanRun_58 rfl ?_
        refine mr_get dX2_scanRun_59 fl_X2_75 (by first | assumption | exact mr_up_same _ _ _ | exact mr_lk (by assumption) (by decide) | exact mr_lk (mr_up_same _ _ _) (by decide) | exact mr_lk (mr_lk (by assumption) (by decide)) (by decide) | exact mr_wS_8 _ _ _ _ _ _ | exact mr_wS_9 _ _ _ _ _ _ | exact mr_wS_10 _ _ _ _ _ _ | exact (mr_wS_ne _ _ _ _ _ _ (by decide)).trans (by assumption) | exact (mr_wS_ne _ _ _ _ _ _ (by decide)).trans (mr_up_same _ _ _) | exact (mr_wS_ne _ _ _ _ _ _ (by decide)).trans (mr_lk (by assumption) (by decide))) rfl ?_
        refine mr_callV (as := [_]) dX2_scanRun_62 (ok_X5_byteAt l G) ml_X2_164 cl_X5_byteAt cv_X5_byteAt (by decide) rfl rfl (Nat.le_of_ble_eq_true rfl) (by first | assumption | exact mr_up_same _ _ _ | exact mr_lk (by assumption) (by decide) | exact mr_lk (mr_up_same _ _ _) (by decide) | exact mr_lk (mr_lk (by assumption) (by decide)) (by decide) | exact mr_wS_8 _ _ _ _ _ _ | exact mr_wS_9 _ _ _ _ _ _ | exact mr_wS_10 _ _ _ _ _ _ | exact (mr_wS_ne _ _ _ _ _ _ (by decide)).trans (by assumption) | exact (mr_wS_ne _ _ _ _ _ _ (by decide)).trans (mr_up_same _ _ _) | exact (mr_wS_ne _ _ _ _ _ _ (by decide)).trans (mr_lk (by assumption) (by decide))) ?_
        refine ⟨_, _, _, rfl, ⟨(by first | assumption | exact mr_up_same _ _ _ | exact mr_lk (by assumption) (by decide) | exact mr_lk (mr_up_same _ _ _) (by decide) | exact mr_lk (mr_lk (by assumption) (by decide)) (by decide) | exact mr_wS_8 _ _ _ _ _ _ | exact mr_wS_9 _ _ _ _ _ _ | exact mr_wS_10 _ _ _ _ _ _ | exact (mr_wS_ne _ _ _ _ _ _ (by decide)).trans (by assumption) | exact (mr_wS_ne _ _ _ _ _ _ (by decide)).trans (mr_up_same _ _ _) | exact (mr_wS_ne _ _ _ _ _ _ (by decide)).trans (mr_lk (by assumption) (by decide))), (by first | assumption | exact mr_up_same _ _ _ | exact mr_lk (by assumption) (by decide) | exact mr_lk (mr_up_same _ _ _) (by decide) | exact mr_lk (mr_lk (by assumption) (by decide)) (by decide) | exact mr_wS_8 _ _ _ _ _ _ | exact mr_wS_9 _ _ _ _ _ _ | exact mr_wS_10 _ _ _ _ _ _ | exact (mr_wS_ne _ _ _ _ _ _ (by decide)).trans (by assumption) | exact (mr_wS_ne _ _ _ _ _ _ (by decide)).trans (mr_up_same _ _ _) | exact (mr_wS_ne _ _ _ _ _ _ (by decide)).trans (mr_lk (by assumption) (by decide)))⟩, hn0, ⟨by omega, by omega⟩, ?_⟩
        dsimp only [Option.toList_some, Option.toList_none, List.cons_append, List.nil_append]
        refine mr_callS (as := [_]) dX2_scanRun_65 (ok_X2_isLetter l G) ml_X2_172 cl_X2_isLetter cs_X2_isLetter (by decide) rfl rfl (Nat.le_of_ble_eq_true rfl) ?_
        refine ⟨_, rfl, mr_ba_in _ _ _, ?_, ?_⟩
        · intro y3
          dsimp only [Option.toList_some, Option.toList_none, List.cons_append, List.nil_append]
          refine mr_if_eq (tgt := 77) dX2_scanRun_68 (by decide) (by omega) (fun h => absurd h (by decide)) (fun _ => ?_)
          refine mr_iinc dX2_scanRun_71 rfl (by decide) rfl ?_
          refine mr_goto (tgt := 109) dX2_scanRun_74 (by decide) ?_
          refine mr_aload_n dX2_scanRun_109 rfl ?_
          refine mr_dup dX2_scanRun_110 rfl ?_
          refine mr_get dX2_scanRun_111 fl_X2_75 (by first | assumption | exact mr_up_same _ _ _ | exact mr_lk (by assumption) (by decide) | exact mr_lk (mr_up_same _ _ _) (by decide) | exact mr_lk (mr_lk (by assumption) (by decide)) (by decide) | exact mr_wS_8 _ _ _ _ _ _ | exact mr_wS_9 _ _ _ _ _ _ | exact mr_wS_10 _ _ _ _ _ _ | exact (mr_wS_ne _ _ _ _ _ _ (by decide)).trans (by assumption) | exact (mr_wS_ne _ _ _ _ _ _ (by decide)).trans (mr_up_same _ _ _) | exact (mr_wS_ne _ _ _ _ _ _ (by decide)).trans (mr_lk (by assumption) (by decide))) rfl ?_
          refine mr_iconst dX2_scanRun_114 ?_
          refine mr_iadd dX2_scanRun_115 ?_
          refine mr_put dX2_scanRun_116 fl_X2_75 pf_X2_7 rfl rfl (by first | assumption | exact mr_up_same _ _ _ | exact mr_lk (by assumption) (by decide) | exact mr_lk (mr_up_same _ _ _) (by decide) | exact mr_lk (mr_lk (by assumption) (by decide)) (by decide) | exact mr_wS_8 _ _ _ _ _ _ | exact mr_wS_9 _ _ _ _ _ _ | exact mr_wS_10 _ _ _ _ _ _ | exact (mr_wS_ne _ _ _ _ _ _ (by decide)).trans (by assumption) | exact (mr_wS_ne _ _ _ _ _ _ (by decide)).trans (mr_up_same _ _ _) | exact (mr_wS_ne _ _ _ _ _ _ (by decide)).trans (mr_lk (by assumption) (by decide))) (Nat.le_of_ble_eq_true rfl) ?_
          rw [mr_up_up]
          refine mr_goto (tgt := 6) dX2_scanRun_119 (by decide) ?_
          refine ih (i + 1) _ _ _ (by omega) (by omega) (fun x g1 g2 => ?_) ?_
          · by_cases e : x = i
            · subst e
              first | exact Or.inl y1 | exact Or.inr y2
            · exact hall x g1 (by omega)
          · first | exact mr_cnt_L hcn hpi.1 y3 | exact absurd y1 y3 | exact mr_cnt_D hcn hpi.1 y3 y2 (fun z => by first | rfl | omega)
        · intro y3
          dsimp only [Option.toList_some, Option.toList_none, List.cons_append, List.nil_append]
          refine mr_if_eq (tgt := 77) dX2_scanRun_68 (by decide) (by omega) (fun _ => ?_) (fun h => absurd h (by decide))
          refine mr_iinc dX2_scanRun_77 rfl (by decide) rfl ?_
          refine mr_iload_n dX2_scanRun_80 rfl ?_
          refine mr_iconst dX2_scanRun_81 ?_
          refine mr_icmp_gt (tgt := 107) dX2_scanRun_82 (by decide) (by omega) (by omega) (fun hc_82 => ?_) (fun hc_82 => ?_)
          · refine mr_iload_n dX2_scanRun_107 rfl ?_
            refine mr_istore_n dX2_scanRun_108 rfl (by decide) ?_
            refine mr_aload_n dX2_scanRun_109 rfl ?_
            refine mr_dup dX2_scanRun_110 rfl ?_
            refine mr_get dX2_scanRun_111 fl_X2_75 (by first | assumption | exact mr_up_same _ _ _ | exact mr_lk (by assumption) (by decide) | exact mr_lk (mr_up_same _ _ _) (by decide) | exact mr_lk (mr_lk (by assumption) (by decide)) (by decide) | exact mr_wS_8 _ _ _ _ _ _ | exact mr_wS_9 _ _ _ _ _ _ | exact mr_wS_10 _ _ _ _ _ _ | exact (mr_wS_ne _ _ _ _ _ _ (by decide)).trans (by assumption) | exact (mr_wS_ne _ _ _ _ _ _ (by decide)).trans (mr_up_same _ _ _) | exact (mr_wS_ne _ _ _ _ _ _ (by decide)).trans (mr_lk (by assumption) (by decide))) rfl ?_
            refine mr_iconst dX2_scanRun_114 ?_
            refine mr_iadd dX2_scanRun_115 ?_
            refine mr_put dX2_scanRun_116 fl_X2_75 pf_X2_7 rfl rfl (by first | assumption | exact mr_up_same _ _ _ | exact mr_lk (by assumption) (by decide) | exact mr_lk (mr_up_same _ _ _) (by decide) | exact mr_lk (mr_lk (by assumption) (by decide)) (by decide) | exact mr_wS_8 _ _ _ _ _ _ | exact mr_wS_9 _ _ _ _ _ _ | exact mr_wS_10 _ _ _ _ _ _ | exact (mr_wS_ne _ _ _ _ _ _ (by decide)).trans (by assumption) | exact (mr_wS_ne _ _ _ _ _ _ (by decide)).trans (mr_up_same _ _ _) | exact (mr_wS_ne _ _ _ _ _ _ (by decide)).trans (mr_lk (by assumption) (by decide))) (Nat.le_of_ble_eq_true rfl) ?_
            rw [mr_up_up]
            refine mr_goto (tgt := 6) dX2_scanRun_119 (by decide) ?_
            refine ih (i + 1) _ _ _ (by omega) (by omega) (fun x g1 g2 => ?_) ?_
            · by_cases e : x = i
              · subst e
                first | exact Or.inl y1 | exact Or.inr y2
              · exact hall x g1 (by omega)
            · first | exact mr_cnt_L hcn hpi.1 y3 | exact absurd y1 y3 | exact mr_cnt_D hcn hpi.1 y3 y2 (fun z => by first | rfl | omega)
          · refine mr_bipush dX2_scanRun_85 rfl ?_
            refine mr_iload_n dX2_scanRun_87 rfl ?_
            refine mr_imul dX2_scanRun_88 ?_
            refine mr_aload_n dX2_scanRun_89 rfl ?_
            refine mr_get dX2_scanRun_90 fl_X2_22 (by first | assumption | exact mr_up_same _ _ _ | exact mr_lk (by assumption) (by decide) | exact mr_lk (mr_up_same _ _ _) (by decide) | exact mr_lk (mr_lk (by assumption) (by decide)) (by decide) | exact mr_wS_8 _ _ _ _ _ _ | exact mr_wS_9 _ _ _ _ _ _ | exact mr_wS_10 _ _ _ _ _ _ | exact (mr_wS_ne _ _ _ _ _ _ (by decide)).trans (by assumption) | exact (mr_wS_ne _ _ _ _ _ _ (by decide)).trans (mr_up_same _ _ _) | exact (mr_wS_ne _ _ _ _ _ _ (by decide)).trans (mr_lk (by assumption) (by decide))) rfl ?_
            refine mr_aload_n dX2_scanRun_93 rfl ?_
            refine mr_get dX2_scanRun_94 fl_X2_75 (by first | assumption | exact mr_up_same _ _ _ | exact mr_lk (by assumption) (by decide) | exact mr_lk (mr_up_same _ _ _) (by decide) | exact mr_lk (mr_lk (by assumption) (by decide)) (by decide) | exact mr_wS_8 _ _ _ _ _ _ | exact mr_wS_9 _ _ _ _ _ _ | exact mr_wS_10 _ _ _ _ _ _ | exact (mr_wS_ne _ _ _ _ _ _ (by decide)).trans (by assumption) | exact (mr_wS_ne _ _ _ _ _ _ (by decide)).trans (mr_up_same _ _ _) | exact (mr_wS_ne _ _ _ _ _ _ (by decide)).trans (mr_lk (by assumption) (by decide))) rfl ?_
            refine mr_callV (as := [_]) dX2_scanRun_97 (ok_X5_byteAt l G) ml_X2_164 cl_X5_byteAt cv_X5_byteAt (by decide) rfl rfl (Nat.le_of_ble_eq_true rfl) (by first | assumption | exact mr_up_same _ _ _ | exact mr_lk (by assumption) (by decide) | exact mr_lk (mr_up_same _ _ _) (by decide) | exact mr_lk (mr_lk (by assumption) (by decide)) (by decide) | exact mr_wS_8 _ _ _ _ _ _ | exact mr_wS_9 _ _ _ _ _ _ | exact mr_wS_10 _ _ _ _ _ _ | exact (mr_wS_ne _ _ _ _ _ _ (by decide)).trans (by assumption) | exact (mr_wS_ne _ _ _ _ _ _ (by decide)).trans (mr_up_same _ _ _) | exact (mr_wS_ne _ _ _ _ _ _ (by decide)).trans (mr_lk (by assumption) (by decide))) ?_
            refine ⟨_, _, _, rfl, ⟨(by first | assumption | exact mr_up_same _ _ _ | exact mr_lk (by assumption) (by decide) | exact mr_lk (mr_up_same _ _ _) (by decide) | exact mr_lk (mr_lk (by assumption) (by decide)) (by decide) | exact mr_wS_8 _ _ _ _ _ _ | exact mr_wS_9 _ _ _ _ _ _ | exact mr_wS_10 _ _ _ _ _ _ | exact (mr_wS_ne _ _ _ _ _ _ (by decide)).trans (by assumption) | exact (mr_wS_ne _ _ _ _ _ _ (by decide)).trans (mr_up_same _ _ _) | exact (mr_wS_ne _ _ _ _ _ _ (by decide)).trans (mr_lk (by assumption) (by decide))), (by first | assumption | exact mr_up_same _ _ _ | exact mr_lk (by assumption) (by decide) | exact mr_lk (mr_up_same _ _ _) (by decide) | exact mr_lk (mr_lk (by assumption) (by decide)) (by decide) | exact mr_wS_8 _ _ _ _ _ _ | exact mr_wS_9 _ _ _ _ _ _ | exact mr_wS_10 _ _ _ _ _ _ | exact (mr_wS_ne _ _ _ _ _ _ (by decide)).trans (by assumption) | exact (mr_wS_ne _ _ _ _ _ _ (by decide)).trans (mr_up_same _ _ _) | exact (mr_wS_ne _ _ _ _ _ _ (by decide)).trans (mr_lk (by assumption) (by decide)))⟩, hn0, ⟨by omega, by omega⟩, ?_⟩
            dsimp only [Option.toList_some, Option.toList_none, List.cons_append, List.nil_append]
            refine mr_iadd dX2_scanRun_100 ?_
            refine mr_bipush dX2_scanRun_101 rfl ?_
            refine mr_isub dX2_scanRun_103 ?_
            refine mr_goto (tgt := 108) dX2_scanRun_104 (by decide) ?_
            refine mr_istore_n dX2_scanRun_108 rfl (by decide) ?_
            refine mr_aload_n dX2_scanRun_109 rfl ?_
            refine mr_dup dX2_scanRun_110 rfl ?_
            refine mr_get dX2_scanRun_111 fl_X2_75 (by first | assumption | exact mr_up_same _ _ _ | exact mr_lk (by assumption) (by decide) | exact mr_lk (mr_up_same _ _ _) (by decide) | exact mr_lk (mr_lk (by assumption) (by decide)) (by decide) | exact mr_wS_8 _ _ _ _ _ _ | exact mr_wS_9 _ _ _ _ _ _ | exact mr_wS_10 _ _ _ _ _ _ | exact (mr_wS_ne _ _ _ _ _ _ (by decide)).trans (by assumption) | exact (mr_wS_ne _ _ _ _ _ _ (by decide)).trans (mr_up_same _ _ _) | exact (mr_wS_ne _ _ _ _ _ _ (by decide)).trans (mr_lk (by assumption) (by decide))) rfl ?_
            refine mr_iconst dX2_scanRun_114 ?_
            refine mr_iadd dX2_scanRun_115 ?_
            refine mr_put dX2_scanRun_116 fl_X2_75 pf_X2_7 rfl rfl (by first | assumption | exact mr_up_same _ _ _ | exact mr_lk (by assumption) (by decide) | exact mr_lk (mr_up_same _ _ _) (by decide) | exact mr_lk (mr_lk (by assumption) (by decide)) (by decide) | exact mr_wS_8 _ _ _ _ _ _ | exact mr_wS_9 _ _ _ _ _ _ | exact mr_wS_10 _ _ _ _ _ _ | exact (mr_wS_ne _ _ _ _ _ _ (by decide)).trans (by assumption) | exact (mr_wS_ne _ _ _ _ _ _ (by decide)).trans (mr_up_same _ _ _) | exact (mr_wS_ne _ _ _ _ _ _ (by decide)).trans (mr_lk (by assumption) (by decide))) (Nat.le_of_ble_eq_true rfl) ?_
            rw [mr_up_up]
            refine mr_goto (tgt := 6) dX2_scanRun_119 (by decide) ?_
            refine ih (i + 1) _ _ _ (by omega) (by omega) (fun x g1 g2 => ?_) ?_
            · by_cases e : x = i
              · subst e
                first | exact Or.inl y1 | exact Or.inr y2
              · exact hall x g1 (by omega)
            · first | exact mr_cnt_L hcn hpi.1 y3 | exact absurd y1 y3 | exact mr_cnt_D hcn hpi.1 y3 y2 (fun z => by first | rfl | omega)
      · intro y2
        dsimp only [Option.toList_some, Option.toList_none, List.cons_append, List.nil_append]
        refine mr_if_eq (tgt := 122) dX2_scanRun_51 (by decide) (by omega) (fun _ => ?_) (fun h => absurd h (by decide))
        obtain ⟨c1, c2, c3, c4, c5, c6, c7, c8⟩ := hcn
        have hrun : mr_run n0 g p i := ⟨hpi.1, hpi.2, hall, Or.inr (fun z => z.elim y1 y2)⟩
        refine mr_iload_n dX2_scanRun_122 rfl ?_
        refine mr_if_ne (tgt := 134) dX2_scanRun_123 (by decide) (by omega) (fun hc_123 => ?_) (fun hc_123 => ?_)
        · refine mr_iload_n dX2_scanRun_134 rfl ?_
          refine mr_if_ne (tgt := 156) dX2_scanRun_135 (by decide) (by omega) (fun hc_135 => ?_) (fun hc_135 => ?_)
          · refine mr_aload_n dX2_scanRun_156 rfl ?_
            refine mr_iconst dX2_scanRun_157 ?_
            refine mr_put dX2_scanRun_158 fl_X2_55 pf_X2_5 rfl rfl (by first | assumption | exact mr_up_same _ _ _ | exact mr_lk (by assumption) (by decide) | exact mr_lk (mr_up_same _ _ _) (by decide) | exact mr_lk (mr_lk (by assumption) (by decide)) (by decide) | exact mr_wS_8 _ _ _ _ _ _ | exact mr_wS_9 _ _ _ _ _ _ | exact mr_wS_10 _ _ _ _ _ _ | exact (mr_wS_ne _ _ _ _ _ _ (by decide)).trans (by assumption) | exact (mr_wS_ne _ _ _ _ _ _ (by decide)).trans (mr_up_same _ _ _) | exact (mr_wS_ne _ _ _ _ _ _ (by decide)).trans (mr_lk (by assumption) (by decide))) (Nat.le_of_ble_eq_true rfl) ?_
            rw [mr_up_up]
            refine mr_vret rfl dX2_scanRun_161 ?_
            first
              | exact hP1 i hrun (c4 hc_123)
              | (have h9 := hP2 i hrun (by omega) (c6 hc_135) (by omega); rw [← c8 hc_135 (by omega)] at h9; exact h9)
              | (refine hP3 i hrun (fun z => ?_) (fun z => ?_)
                 · obtain ⟨x, g1, g2, g3⟩ := c5 (by omega)
                   exact g3 (z x g1 g2)
                 · first
                     | omega
                     | (obtain ⟨x, g1, g2, g3⟩ := c7 (by omega); exact absurd (z x g1 g2) g3))
          · refine mr_iload_n dX2_scanRun_138 rfl ?_
            refine mr_iconst dX2_scanRun_139 ?_
            refine mr_icmp_gt (tgt := 156) dX2_scanRun_140 (by decide) (by omega) (by omega) (fun hc_140 => ?_) (fun hc_140 => ?_)
            · refine mr_aload_n dX2_scanRun_156 rfl ?_
              refine mr_iconst dX2_scanRun_157 ?_
              refine mr_put dX2_scanRun_158 fl_X2_55 pf_X2_5 rfl rfl (by first | assumption | exact mr_up_same _ _ _ | exact mr_lk (by assumption) (by decide) | exact mr_lk (mr_up_same _ _ _) (by decide) | exact mr_lk (mr_lk (by assumption) (by decide)) (by decide) | exact mr_wS_8 _ _ _ _ _ _ | exact mr_wS_9 _ _ _ _ _ _ | exact mr_wS_10 _ _ _ _ _ _ | exact (mr_wS_ne _ _ _ _ _ _ (by decide)).trans (by assumption) | exact (mr_wS_ne _ _ _ _ _ _ (by decide)).trans (mr_up_same _ _ _) | exact (mr_wS_ne _ _ _ _ _ _ (by decide)).trans (mr_lk (by assumption) (by decide))) (Nat.le_of_ble_eq_true rfl) ?_
              rw [mr_up_up]
              refine mr_vret rfl dX2_scanRun_161 ?_
              first
                | exact hP1 i hrun (c4 hc_123)
                | (have h9 := hP2 i hrun (by omega) (c6 hc_135) (by omega); rw [← c8 hc_135 (by omega)] at h9; exact h9)
                | (refine hP3 i hrun (fun z => ?_) (fun z => ?_)
                   · obtain ⟨x, g1, g2, g3⟩ := c5 (by omega)
                     exact g3 (z x g1 g2)
                   · first
                       | omega
                       | (obtain ⟨x, g1, g2, g3⟩ := c7 (by omega); exact absurd (z x g1 g2) g3))
            · refine mr_aload_n dX2_scanRun_143 rfl ?_
              refine mr_iconst dX2_scanRun_144 ?_
              refine mr_put dX2_scanRun_145 fl_X2_55 pf_X2_5 rfl rfl (by first | assumption | exact mr_up_same _ _ _ | exact mr_lk (by assumption) (by decide) | exact mr_lk (mr_up_same _ _ _) (by decide) | exact mr_lk (mr_lk (by assumption) (by decide)) (by decide) | exact mr_wS_8 _ _ _ _ _ _ | exact mr_wS_9 _ _ _ _ _ _ | exact mr_wS_10 _ _ _ _ _ _ | exact (mr_wS_ne _ _ _ _ _ _ (by decide)).trans (by assumption) | exact (mr_wS_ne _ _ _ _ _ _ (by decide)).trans (mr_up_same _ _ _) | exact (mr_wS_ne _ _ _ _ _ _ (by decide)).trans (mr_lk (by assumption) (by decide))) (Nat.le_of_ble_eq_true rfl) ?_
              rw [mr_up_up]
              refine mr_aload_n dX2_scanRun_148 rfl ?_
              refine mr_iload_n dX2_scanRun_149 rfl ?_
              refine mr_put dX2_scanRun_150 fl_X2_131 pf_X2_4 rfl rfl (by first | assumption | exact mr_up_same _ _ _ | exact mr_lk (by assumption) (by decide) | exact mr_lk (mr_up_same _ _ _) (by decide) | exact mr_lk (mr_lk (by assumption) (by decide)) (by decide) | exact mr_wS_8 _ _ _ _ _ _ | exact mr_wS_9 _ _ _ _ _ _ | exact mr_wS_10 _ _ _ _ _ _ | exact (mr_wS_ne _ _ _ _ _ _ (by decide)).trans (by assumption) | exact (mr_wS_ne _ _ _ _ _ _ (by decide)).trans (mr_up_same _ _ _) | exact (mr_wS_ne _ _ _ _ _ _ (by decide)).trans (mr_lk (by assumption) (by decide))) (Nat.le_of_ble_eq_true rfl) ?_
              rw [mr_up_up]
              refine mr_goto (tgt := 161) dX2_scanRun_153 (by decide) ?_
              refine mr_vret rfl dX2_scanRun_161 ?_
              first
                | exact hP1 i hrun (c4 hc_123)
                | (have h9 := hP2 i hrun (by omega) (c6 hc_135) (by omega); rw [← c8 hc_135 (by omega)] at h9; exact h9)
                | (refine hP3 i hrun (fun z => ?_) (fun z => ?_)
                   · obtain ⟨x, g1, g2, g3⟩ := c5 (by omega)
                     exact g3 (z x g1 g2)
                   · first
                       | omega
                       | (obtain ⟨x, g1, g2, g3⟩ := c7 (by omega); exact absurd (z x g1 g2) g3))
        · refine mr_aload_n dX2_scanRun_126 rfl ?_
          refine mr_iconst dX2_scanRun_127 ?_
          refine mr_put dX2_scanRun_128 fl_X2_55 pf_X2_5 rfl rfl (by first | assumption | exact mr_up_same _ _ _ | exact mr_lk (by assumption) (by decide) | exact mr_lk (mr_up_same _ _ _) (by decide) | exact mr_lk (mr_lk (by assumption) (by decide)) (by decide) | exact mr_wS_8 _ _ _ _ _ _ | exact mr_wS_9 _ _ _ _ _ _ | exact mr_wS_10 _ _ _ _ _ _ | exact (mr_wS_ne _ _ _ _ _ _ (by decide)).trans (by assumption) | exact (mr_wS_ne _ _ _ _ _ _ (by decide)).trans (mr_up_same _ _ _) | exact (mr_wS_ne _ _ _ _ _ _ (by decide)).trans (mr_lk (by assumption) (by decide))) (Nat.le_of_ble_eq_true rfl) ?_
          rw [mr_up_up]
          refine mr_goto (tgt := 161) dX2_scanRun_131 (by decide) ?_
          refine mr_vret rfl dX2_scanRun_161 ?_
          first
            | exact hP1 i hrun (c4 hc_123)
            | (have h9 := hP2 i hrun (by omega) (c6 hc_135) (by omega); rw [← c8 hc_135 (by omega)] at h9; exact h9)
            | (refine hP3 i hrun (fun z => ?_) (fun z => ?_)
               · obtain ⟨x, g1, g2, g3⟩ := c5 (by omega)
                 exact g3 (z x g1 g2)
               · first
                   | omega
                   | (obtain ⟨x, g1, g2, g3⟩ := c7 (by omega); exact absurd (z x g1 g2) g3))
def T_X2_scanRun (a : List mr_AV) (w : mr_Wd) (Po : Option mr_AV → mr_Wd → Prop) : Prop := ∃ (v k s n op sl ln md fk fp n0 : Int) (g : Nat → Int), a = [vR 11 0] ∧ w 11 = eRD v k s n op sl ln md fk fp ∧ mr_TP w n0 g ∧ (0 ≤ n0 ∧ n0 ≤ 540) ∧ (0 ≤ n ∧ n ≤ n0) ∧ (∀ q : Int, mr_run n0 g n q → (∀ x : Int, n ≤ x → x < q → mr_let n0 g x) → Po none (mr_up w 11 (eRD v 2 s q op sl ln md fk fp))) ∧ (∀ q : Int, mr_run n0 g n q → n < q → (∀ x : Int, n ≤ x → x < q → mr_dig n0 g x) → q - n ≤ 2 → Po none (mr_up w 11 (eRD (mr_nv n0 g n q) 3 s q op sl ln md fk fp))) ∧ (∀ q : Int, mr_run n0 g n q → ¬ (∀ x : Int, n ≤ x → x < q → mr_let n0 g x) → ((∀ x : Int, n ≤ x → x < q → mr_dig n0 g x) → 2 < q - n) → Po none (mr_up w 11 (eRD v 0 s q op sl ln md fk fp)))
set_option maxHeartbeats 4000000 in
set_option maxRecDepth 20000 in
theorem ok_X2_scanRun (l : Launch) (G : mr_G) : mr_Ok l G yX2_scanRun cX2_scanRun 4 none 1 21 T_X2_scanRun := by
  refine mr_Ok.of (by decide +kernel) ?_
  rintro a w Po ⟨v, k, s, n, op, sl, ln, md, fk, fp, n0, g, rfl, h11, ⟨h1, h2⟩, hn0, hn, hP1, hP2, hP3⟩
  refine ⟨Nat.le_of_ble_eq_true rfl, ?_⟩
  show mr_J l G RX2 cX2_scanRun 4 none 1 21 Po 0 [some (vR 11 0), none, none, none] [] w
  refine mr_iconst dX2_scanRun_0 ?_
  refine mr_istore_n dX2_scanRun_1 rfl (by decide) ?_
  refine mr_iconst dX2_scanRun_2 ?_
  refine mr_istore_n dX2_scanRun_3 rfl (by decide) ?_
  refine mr_iconst dX2_scanRun_4 ?_
  refine mr_istore_n dX2_scanRun_5 rfl (by decide) ?_
  have h9 := lp_X2_scanRun l G (w := w) (v := v) (k := k) (s := s) (op := op) (sl := sl) (ln := ln) (md := md) (fk := fk) (fp := fp) h1 h2 hn0 hn.1 hP1 hP2 hP3 (n0 - n).toNat n 0 0 0 ⟨Int.le_refl n, hn.2⟩ (by omega) (fun x g1 g2 => by omega) (mr_cnt_0 n0 g n)
  rw [mr_up_self h11] at h9
  exact h9
/-- where the next TOKEN may begin: behind blanks, ahead of the bound -/
def mr_skp (n0 : Int) (g : Nat → Int) (n p : Int) : Prop := n ≤ p ∧ (∀ x : Int, n ≤ x → x < p → mr_bla n0 g x) ∧ (n < p → p ≤ min n0 500) ∧ (min n0 500 ≤ p ∨ ¬ mr_bla n0 g p)
def mr_sct (n0 : Int) (g : Nat → Int) (w : mr_Wd) (v k op sl ln md fk fp n : Int) (Q : mr_Wd → Prop) : Prop := ∀ p : Int, mr_skp n0 g n p → (min n0 500 ≤ p → ∀ s : Int, s = min n0 500 → Q (mr_up w 11 (eRD v 1 s p op sl ln md fk fp))) ∧ (p < min n0 500 → (∀ q : Int, mr_run n0 g p q → p < q → (∀ x : Int, p ≤ x → x < q → mr_let n0 g x) → Q (mr_up w 11 (eRD v 2 p q op sl ln md fk fp))) ∧ (∀ q : Int, mr_run n0 g p q → p < q → (∀ x : Int, p ≤ x → x < q → mr_dig n0 g x) → q - p ≤ 2 → Q (mr_up w 11 (eRD (mr_nv n0 g p q) 3 p q op sl ln md fk fp))) ∧ (∀ q : Int, mr_run n0 g p q → p < q → ¬ (∀ x : Int, p ≤ x → x < q → mr_let n0 g x) → ((∀ x : Int, p ≤ x → x < q → mr_dig n0 g x) → 2 < q - p) → Q (mr_up w 11 (eRD v 0 p q op sl ln md fk fp))) ∧ (¬ (mr_let n0 g p ∨ mr_dig n0 g p) → mr_ba n0 g p = 59 → Q (mr_up w 11 (eRD v 4 p (p + 1) op sl ln md fk fp))) ∧ (¬ (mr_let n0 g p ∨ mr_dig n0 g p) → mr_ba n0 g p ≠ 59 → Q (mr_up w 11 (eRD v 0 p (p + 1) op sl ln md fk fp))))
theorem mr_run_lt {n0 : Int} {g : Nat → Int} {p q : Int} (h : mr_run n0 g p q) (hp : p < n0) (hl : mr_let n0 g p ∨ mr_dig n0 g p) : p < q := by
  obtain ⟨h1, h2, h3, h4⟩ := h
  by_cases e : p = q
  · subst e
    rcases h4 with h4 | h4
    · omega
    · exact absurd hl h4
  · omega
set_option maxHeartbeats 4000000 in
set_option maxRecDepth 20000 in
theorem lp_X2_scan (l : Launch) (G : mr_G) {Po : Option mr_AV → mr_Wd → Prop} {w : mr_Wd} {v k s op sl ln md fk fp n0 n : Int} {g : Nat → Int} (h1 : w 1 = eO 5 [vR 2 0, vI n0]) (h2 : w 2 = eA 2 540 g) (hn0 : 0 ≤ n0 ∧ n0 ≤ 540) (hnn : 0 ≤ n ∧ n ≤ n0) (hP : mr_sct n0 g w v k op sl ln md fk fp n (Po none)) : ∀ (m : Nat) (i : Int), n ≤ i ∧ i ≤ 540 → min n0 500 - i ≤ m → (∀ x : Int, n ≤ x → x < i → mr_bla n0 g x) → (n < i → i ≤ min n0 500) → mr_J l G RX2 cX2_scan 2 none 2 44 Po 14 [some (vR 11 0), some (vI (min n0 500))] [] (mr_up w 11 (eRD v k s i op sl ln md fk fp)) := by
  intro m
  induction m with
  | zero =>
    intro i hi hm hb hbd
    have hs : mr_skp n0 g n i := ⟨hi.1, hb, hbd, Or.inl (by omega)⟩
    refine mr_aload_n dX2_scan_14 rfl ?_
    refine mr_get dX2_scan_15 fl_X2_75 (by first | assumption | exact mr_up_same _ _ _ | exact mr_lk (by assumption) (by decide) | exact mr_lk (mr_up_same _ _ _) (by decide) | exact mr_lk (mr_lk (by assumption) (by decide)) (by decide) | exact mr_wS_8 _ _ _ _ _ _ | exact mr_wS_9 _ _ _ _ _ _ | exact mr_wS_10 _ _ _ _ _ _ | exact (mr_wS_ne _ _ _ _ _ _ (by decide)).trans (by assumption) | exact (mr_wS_ne _ _ _ _ _ _ (by decide)).trans (mr_up_same _ _ _) | exact (mr_wS_ne _ _ _ _ _ _ (by decide)).trans (mr_lk (by assumption) (by decide))) rfl ?_
    refine mr_iload_n dX2_scan_18 rfl ?_
    refine mr_icmp_ge (tgt := 52) dX2_scan_19 (by decide) (by omega) (by omega) (fun hc_19 => ?_) (fun hc_19 => absurd hc_19 (by omega))
    refine mr_aload_n dX2_scan_52 rfl ?_
    refine mr_get dX2_scan_53 fl_X2_75 (by first | assumption | exact mr_up_same _ _ _ | exact mr_lk (by assumption) (by decide) | exact mr_lk (mr_up_same _ _ _) (by decide) | exact mr_lk (mr_lk (by assumption) (by decide)) (by decide) | exact mr_wS_8 _ _ _ _ _ _ | exact mr_wS_9 _ _ _ _ _ _ | exact mr_wS_10 _ _ _ _ _ _ | exact (mr_wS_ne _ _ _ _ _ _ (by decide)).trans (by assumption) | exact (mr_wS_ne _ _ _ _ _ _ (by decide)).trans (mr_up_same _ _ _) | exact (mr_wS_ne _ _ _ _ _ _ (by decide)).trans (mr_lk (by assumption) (by decide))) rfl ?_
    refine mr_iload_n dX2_scan_56 rfl ?_
    refine mr_icmp_lt (tgt := 71) dX2_scan_57 (by decide) (by omega) (by omega) (fun hc_57 => absurd hc_57 (by omega)) (fun hc_57 => ?_)
    refine mr_aload_n dX2_scan_60 rfl ?_
    refine mr_iconst dX2_scan_61 ?_
    refine mr_put dX2_scan_62 fl_X2_55 pf_X2_5 rfl rfl (by first | assumption | exact mr_up_same _ _ _ | exact mr_lk (by assumption) (by decide) | exact mr_lk (mr_up_same _ _ _) (by decide) | exact mr_lk (mr_lk (by assumption) (by decide)) (by decide) | exact mr_wS_8 _ _ _ _ _ _ | exact mr_wS_9 _ _ _ _ _ _ | exact mr_wS_10 _ _ _ _ _ _ | exact (mr_wS_ne _ _ _ _ _ _ (by decide)).trans (by assumption) | exact (mr_wS_ne _ _ _ _ _ _ (by decide)).trans (mr_up_same _ _ _) | exact (mr_wS_ne _ _ _ _ _ _ (by decide)).trans (mr_lk (by assumption) (by decide))) (Nat.le_of_ble_eq_true rfl) ?_
    rw [mr_up_up]
    refine mr_aload_n dX2_scan_65 rfl ?_
    refine mr_iload_n dX2_scan_66 rfl ?_
    refine mr_put dX2_scan_67 fl_X2_81 pf_X2_6 rfl rfl (by first | assumption | exact mr_up_same _ _ _ | exact mr_lk (by assumption) (by decide) | exact mr_lk (mr_up_same _ _ _) (by decide) | exact mr_lk (mr_lk (by assumption) (by decide)) (by decide) | exact mr_wS_8 _ _ _ _ _ _ | exact mr_wS_9 _ _ _ _ _ _ | exact mr_wS_10 _ _ _ _ _ _ | exact (mr_wS_ne _ _ _ _ _ _ (by decide)).trans (by assumption) | exact (mr_wS_ne _ _ _ _ _ _ (by decide)).trans (mr_up_same _ _ _) | exact (mr_wS_ne _ _ _ _ _ _ (by decide)).trans (mr_lk (by assumption) (by decide))) (Nat.le_of_ble_eq_true rfl) ?_
    rw [mr_up_up]
    refine mr_vret rfl dX2_scan_70 ?_
    exact (hP i hs).1 (by omega) _ rfl
  | succ m ih =>
    intro i hi hm hb hbd
    have hba := mr_ba_in n0 g i
    refine mr_aload_n dX2_scan_14 rfl ?_
    refine mr_get dX2_scan_15 fl_X2_75 (by first | assumption | exact mr_up_same _ _ _ | exact mr_lk (by assumption) (by decide) | exact mr_lk (mr_up_same _ _ _) (by decide) | exact mr_lk (mr_lk (by assumption) (by decide)) (by decide) | exact mr_wS_8 _ _ _ _ _ _ | exact mr_wS_9 _ _ _ _ _ _ | exact mr_wS_10 _ _ _ _ _ _ | exact (mr_wS_ne _ _ _ _ _ _ (by decide)).trans (by assumption) | exact (mr_wS_ne _ _ _ _ _ _ (by decide)).trans (mr_up_same _ _ _) | exact (mr_wS_ne _ _ _ _ _ _ (by decide)).trans (mr_lk (by assumption) (by decide))) rfl ?_
    refine mr_iload_n dX2_scan_18 rfl ?_
    refine mr_icmp_ge (tgt := 52) dX2_scan_19 (by decide) (by omega) (by omega) (fun hc_19 => ?_) (fun hc_19 => ?_)
    · refine mr_aload_n dX2_scan_52 rfl ?_
      refine mr_get dX2_scan_53 fl_X2_75 (by first | assumption | exact mr_up_same _ _ _ | exact mr_lk (by assumption) (by decide) | exact mr_lk (mr_up_same _ _ _) (by decide) | exact mr_lk (mr_lk (by assumption) (by decide)) (by decide) | exact mr_wS_8 _ _ _ _ _ _ | exact mr_wS_9 _ _ _ _ _ _ | exact mr_wS_10 _ _ _ _ _ _ | exact (mr_wS_ne _ _ _ _ _ _ (by decide)).trans (by assumption) | exact (mr_wS_ne _ _ _ _ _ _ (by decide)).trans (mr_up_same _ _ _) | exact (mr_wS_ne _ _ _ _ _ _ (by decide)).trans (mr_lk (by assumption) (by decide))) rfl ?_
      refine mr_iload_n dX2_scan_56 rfl ?_
      refine mr_icmp_lt (tgt := 71) dX2_scan_57 (by decide) (by omega) (by omega) (fun hc_57 => ?_) (fun hc_57 => ?_)
      · refine mr_aload_n dX2_scan_71 rfl ?_
        refine mr_aload_n dX2_scan_72 rfl ?_
        refine mr_get dX2_scan_73 fl_X2_75 (by first | assumption | exact mr_up_same _ _ _ | exact mr_lk (by assumption) (by decide) | exact mr_lk (mr_up_same _ _ _) (by decide) | exact mr_lk (mr_lk (by assumption) (by decide)) (by decide) | exact mr_wS_8 _ _ _ _ _ _ | exact mr_wS_9 _ _ _ _ _ _ | exact mr_wS_10 _ _ _ _ _ _ | exact (mr_wS_ne _ _ _ _ _ _ (by decide)).trans (by assumption) | exact (mr_wS_ne _ _ _ _ _ _ (by decide)).trans (mr_up_same _ _ _) | exact (mr_wS_ne _ _ _ _ _ _ (by decide)).trans (mr_lk (by assumption) (by decide))) rfl ?_
        refine mr_put dX2_scan_76 fl_X2_81 pf_X2_6 rfl rfl (by first | assumption | exact mr_up_same _ _ _ | exact mr_lk (by assumption) (by decide) | exact mr_lk (mr_up_same _ _ _) (by decide) | exact mr_lk (mr_lk (by assumption) (by decide)) (by decide) | exact mr_wS_8 _ _ _ _ _ _ | exact mr_wS_9 _ _ _ _ _ _ | exact mr_wS_10 _ _ _ _ _ _ | exact (mr_wS_ne _ _ _ _ _ _ (by decide)).trans (by assumption) | exact (mr_wS_ne _ _ _ _ _ _ (by decide)).trans (mr_up_same _ _ _) | exact (mr_wS_ne _ _ _ _ _ _ (by decide)).trans (mr_lk (by assumption) (by decide))) (Nat.le_of_ble_eq_true rfl) ?_
        rw [mr_up_up]
        refine mr_aload_n dX2_scan_79 rfl ?_
        refine mr_get dX2_scan_80 fl_X2_22 (by first | assumption | exact mr_up_same _ _ _ | exact mr_lk (by assumption) (by decide) | exact mr_lk (mr_up_same _ _ _) (by decide) | exact mr_lk (mr_lk (by assumption) (by decide)) (by decide) | exact mr_wS_8 _ _ _ _ _ _ | exact mr_wS_9 _ _ _ _ _ _ | exact mr_wS_10 _ _ _ _ _ _ | exact (mr_wS_ne _ _ _ _ _ _ (by decide)).trans (by assumption) | exact (mr_wS_ne _ _ _ _ _ _ (by decide)).trans (mr_up_same _ _ _) | exact (mr_wS_ne _ _ _ _ _ _ (by decide)).trans (mr_lk (by assumption) (by decide))) rfl ?_
        refine mr_aload_n dX2_scan_83 rfl ?_
        refine mr_get dX2_scan_84 fl_X2_81 (by first | assumption | exact mr_up_same _ _ _ | exact mr_lk (by assumption) (by decide) | exact mr_lk (mr_up_same _ _ _) (by decide) | exact mr_lk (mr_lk (by assumption) (by decide)) (by decide) | exact mr_wS_8 _ _ _ _ _ _ | exact mr_wS_9 _ _ _ _ _ _ | exact mr_wS_10 _ _ _ _ _ _ | exact (mr_wS_ne _ _ _ _ _ _ (by decide)).trans (by assumption) | exact (mr_wS_ne _ _ _ _ _ _ (by decide)).trans (mr_up_same _ _ _) | exact (mr_wS_ne _ _ _ _ _ _ (by decide)).trans (mr_lk (by assumption) (by decide))) rfl ?_
        refine mr_callV (as := [_]) dX2_scan_87 (ok_X5_byteAt l G) ml_X2_164 cl_X5_byteAt cv_X5_byteAt (by decide) rfl rfl (Nat.le_of_ble_eq_true rfl) (by first | assumption | exact mr_up_same _ _ _ | exact mr_lk (by assumption) (by decide) | exact mr_lk (mr_up_same _ _ _) (by decide) | exact mr_lk (mr_lk (by assumption) (by decide)) (by decide) | exact mr_wS_8 _ _ _ _ _ _ | exact mr_wS_9 _ _ _ _ _ _ | exact mr_wS_10 _ _ _ _ _ _ | exact (mr_wS_ne _ _ _ _ _ _ (by decide)).trans (by assumption) | exact (mr_wS_ne _ _ _ _ _ _ (by decide)).trans (mr_up_same _ _ _) | exact (mr_wS_ne _ _ _ _ _ _ (by decide)).trans (mr_lk (by assumption) (by decide))) ?_
        refine ⟨_, _, _, rfl, ⟨(by first | assumption | exact mr_up_same _ _ _ | exact mr_lk (by assumption) (by decide) | exact mr_lk (mr_up_same _ _ _) (by decide) | exact mr_lk (mr_lk (by assumption) (by decide)) (by decide) | exact mr_wS_8 _ _ _ _ _ _ | exact mr_wS_9 _ _ _ _ _ _ | exact mr_wS_10 _ _ _ _ _ _ | exact (mr_wS_ne _ _ _ _ _ _ (by decide)).trans (by assumption) | exact (mr_wS_ne _ _ _ _ _ _ (by decide)).trans (mr_up_same _ _ _) | exact (mr_wS_ne _ _ _ _ _ _ (by decide)).trans (mr_lk (by assumption) (by decide))), (by first | assumption | exact mr_up_same _ _ _ | exact mr_lk (by assumption) (by decide) | exact mr_lk (mr_up_same _ _ _) (by decide) | exact mr_lk (mr_lk (by assumption) (by decide)) (by decide) | exact mr_wS_8 _ _ _ _ _ _ | exact mr_wS_9 _ _ _ _ _ _ | exact mr_wS_10 _ _ _ _ _ _ | exact (mr_wS_ne _ _ _ _ _ _ (by decide)).trans (by assumption) | exact (mr_wS_ne _ _ _ _ _ _ (by decide)).trans (mr_up_same _ _ _) | exact (mr_wS_ne _ _ _ _ _ _ (by decide)).trans (mr_lk (by assumption) (by decide)))⟩, hn0, ⟨by omega, by omega⟩, ?_⟩
        dsimp only [Option.toList_some, Option.toList_none, List.cons_append, List.nil_append]
        refine mr_callS (as := [_]) dX2_scan_90 (ok_X2_isLetter l G) ml_X2_172 cl_X2_isLetter cs_X2_isLetter (by decide) rfl rfl (Nat.le_of_ble_eq_true rfl) ?_
        refine ⟨_, rfl, mr_ba_in _ _ _, ?_, ?_⟩
        · intro y1
          dsimp only [Option.toList_some, Option.toList_none, List.cons_append, List.nil_append]
          refine mr_if_ne (tgt := 113) dX2_scan_93 (by decide) (by omega) (fun _ => ?_) (fun h => absurd h (by decide))
          refine mr_aload_n dX2_scan_113 rfl ?_
          refine mr_callV (as := []) dX2_scan_114 (ok_X2_scanRun l G) ml_X2_178 cl_X2_scanRun cv_X2_scanRun (by decide) rfl rfl (Nat.le_of_ble_eq_true rfl) (by first | assumption | exact mr_up_same _ _ _ | exact mr_lk (by assumption) (by decide) | exact mr_lk (mr_up_same _ _ _) (by decide) | exact mr_lk (mr_lk (by assumption) (by decide)) (by decide) | exact mr_wS_8 _ _ _ _ _ _ | exact mr_wS_9 _ _ _ _ _ _ | exact mr_wS_10 _ _ _ _ _ _ | exact (mr_wS_ne _ _ _ _ _ _ (by decide)).trans (by assumption) | exact (mr_wS_ne _ _ _ _ _ _ (by decide)).trans (mr_up_same _ _ _) | exact (mr_wS_ne _ _ _ _ _ _ (by decide)).trans (mr_lk (by assumption) (by decide))) ?_
          refine ⟨_, _, _, _, _, _, _, _, _, _, _, _, rfl, mr_up_same _ _ _, ⟨(by first | assumption | exact mr_up_same _ _ _ | exact mr_lk (by assumption) (by decide) | exact mr_lk (mr_up_same _ _ _) (by decide) | exact mr_lk (mr_lk (by assumption) (by decide)) (by decide) | exact mr_wS_8 _ _ _ _ _ _ | exact mr_wS_9 _ _ _ _ _ _ | exact mr_wS_10 _ _ _ _ _ _ | exact (mr_wS_ne _ _ _ _ _ _ (by decide)).trans (by assumption) | exact (mr_wS_ne _ _ _ _ _ _ (by decide)).trans (mr_up_same _ _ _) | exact (mr_wS_ne _ _ _ _ _ _ (by decide)).trans (mr_lk (by assumption) (by decide))), (by first | assumption | exact mr_up_same _ _ _ | exact mr_lk (by assumption) (by decide) | exact mr_lk (mr_up_same _ _ _) (by decide) | exact mr_lk (mr_lk (by assumption) (by decide)) (by decide) | exact mr_wS_8 _ _ _ _ _ _ | exact mr_wS_9 _ _ _ _ _ _ | exact mr_wS_10 _ _ _ _ _ _ | exact (mr_wS_ne _ _ _ _ _ _ (by decide)).trans (by assumption) | exact (mr_wS_ne _ _ _ _ _ _ (by decide)).trans (mr_up_same _ _ _) | exact (mr_wS_ne _ _ _ _ _ _ (by decide)).trans (mr_lk (by assumption) (by decide)))⟩, hn0, ⟨by omega, by omega⟩, (fun q_ r1 r2 => ?_), (fun q_ r1 r2 r3 r4 => ?_), (fun q_ r1 r2 r3 => ?_)⟩
          · rw [mr_up_up]
            dsimp only [Option.toList_some, Option.toList_none, List.cons_append, List.nil_append]
            refine mr_goto (tgt := 155) dX2_scan_117 (by decide) ?_
            refine mr_vret rfl dX2_scan_155 ?_
            first
              | (exfalso; omega)
              | exact (hP i ⟨hi.1, hb, hbd, Or.inl (by omega)⟩).1 (by omega) _ rfl
              | exact (hP i ⟨hi.1, hb, hbd, Or.inr y0⟩).2 (by omega) |>.1 q_ r1 (mr_run_lt r1 (by omega) (by first | exact Or.inl y1 | exact Or.inr y2)) r2
              | exact (hP i ⟨hi.1, hb, hbd, Or.inr y0⟩).2 (by omega) |>.2.1 q_ r1 r2 r3 r4
              | exact (hP i ⟨hi.1, hb, hbd, Or.inr y0⟩).2 (by omega) |>.2.2.1 q_ r1 (mr_run_lt r1 (by omega) (by first | exact Or.inl y1 | exact Or.inr y2)) r2 r3
              | exact (hP i ⟨hi.1, hb, hbd, Or.inr y0⟩).2 (by omega) |>.2.2.2.1 (fun z => z.elim y1 y2) hc_134
              | exact (hP i ⟨hi.1, hb, hbd, Or.inr y0⟩).2 (by omega) |>.2.2.2.2 (fun z => z.elim y1 y2) hc_134
          · rw [mr_up_up]
            dsimp only [Option.toList_some, Option.toList_none, List.cons_append, List.nil_append]
            refine mr_goto (tgt := 155) dX2_scan_117 (by decide) ?_
            refine mr_vret rfl dX2_scan_155 ?_
            first
              | (exfalso; omega)
              | exact (hP i ⟨hi.1, hb, hbd, Or.inl (by omega)⟩).1 (by omega) _ rfl
              | exact (hP i ⟨hi.1, hb, hbd, Or.inr y0⟩).2 (by omega) |>.1 q_ r1 (mr_run_lt r1 (by omega) (by first | exact Or.inl y1 | exact Or.inr y2)) r2
              | exact (hP i ⟨hi.1, hb, hbd, Or.inr y0⟩).2 (by omega) |>.2.1 q_ r1 r2 r3 r4
              | exact (hP i ⟨hi.1, hb, hbd, Or.inr y0⟩).2 (by omega) |>.2.2.1 q_ r1 (mr_run_lt r1 (by omega) (by first | exact Or.inl y1 | exact Or.inr y2)) r2 r3
              | exact (hP i ⟨hi.1, hb, hbd, Or.inr y0⟩).2 (by omega) |>.2.2.2.1 (fun z => z.elim y1 y2) hc_134
              | exact (hP i ⟨hi.1, hb, hbd, Or.inr y0⟩).2 (by omega) |>.2.2.2.2 (fun z => z.elim y1 y2) hc_134
          · rw [mr_up_up]
            dsimp only [Option.toList_some, Option.toList_none, List.cons_append, List.nil_append]
            refine mr_goto (tgt := 155) dX2_scan_117 (by decide) ?_
            refine mr_vret rfl dX2_scan_155 ?_
            first
              | (exfalso; omega)
              | exact (hP i ⟨hi.1, hb, hbd, Or.inl (by omega)⟩).1 (by omega) _ rfl
              | exact (hP i ⟨hi.1, hb, hbd, Or.inr y0⟩).2 (by omega) |>.1 q_ r1 (mr_run_lt r1 (by omega) (by first | exact Or.inl y1 | exact Or.inr y2)) r2
              | exact (hP i ⟨hi.1, hb, hbd, Or.inr y0⟩).2 (by omega) |>.2.1 q_ r1 r2 r3 r4
              | exact (hP i ⟨hi.1, hb, hbd, Or.inr y0⟩).2 (by omega) |>.2.2.1 q_ r1 (mr_run_lt r1 (by omega) (by first | exact Or.inl y1 | exact Or.inr y2)) r2 r3
              | exact (hP i ⟨hi.1, hb, hbd, Or.inr y0⟩).2 (by omega) |>.2.2.2.1 (fun z => z.elim y1 y2) hc_134
              | exact (hP i ⟨hi.1, hb, hbd, Or.inr y0⟩).2 (by omega) |>.2.2.2.2 (fun z => z.elim y1 y2) hc_134
        · intro y1
          dsimp only [Option.toList_some, Option.toList_none, List.cons_append, List.nil_append]
          refine mr_if_ne (tgt := 113) dX2_scan_93 (by decide) (by omega) (fun h => absurd h (by decide)) (fun _ => ?_)
          refine mr_aload_n dX2_scan_96 rfl ?_
          refine mr_get dX2_scan_97 fl_X2_22 (by first | assumption | exact mr_up_same _ _ _ | exact mr_lk (by assumption) (by decide) | exact mr_lk (mr_up_same _ _ _) (by decide) | exact mr_lk (mr_lk (by assumption) (by decide)) (by decide) | exact mr_wS_8 _ _ _ _ _ _ | exact mr_wS_9 _ _ _ _ _ _ | exact mr_wS_10 _ _ _ _ _ _ | exact (mr_wS_ne _ _ _ _ _ _ (by decide)).trans (by assumption) | exact (mr_wS_ne _ _ _ _ _ _ (by decide)).trans (mr_up_same _ _ _) | exact (mr_wS_ne _ _ _ _ _ _ (by decide)).trans (mr_lk (by assumption) (by decide))) rfl ?_
          refine mr_aload_n dX2_scan_100 rfl ?_
          refine mr_get dX2_scan_101 fl_X2_81 (by first | assumption | exact mr_up_same _ _ _ | exact mr_lk (by assumption) (by decide) | exact mr_lk (mr_up_same _ _ _) (by decide) | exact mr_lk (mr_lk (by assumption) (by decide)) (by decide) | exact mr_wS_8 _ _ _ _ _ _ | exact mr_wS_9 _ _ _ _ _ _ | exact mr_wS_10 _ _ _ _ _ _ | exact (mr_wS_ne _ _ _ _ _ _ (by decide)).trans (by assumption) | exact (mr_wS_ne _ _ _ _ _ _ (by decide)).trans (mr_up_same _ _ _) | exact (mr_wS_ne _ _ _ _ _ _ (by decide)).trans (mr_lk (by assumption) (by decide))) rfl ?_
          refine mr_callV (as := [_]) dX2_scan_104 (ok_X5_byteAt l G) ml_X2_164 cl_X5_byteAt cv_X5_byteAt (by decide) rfl rfl (Nat.le_of_ble_eq_true rfl) (by first | assumption | exact mr_up_same _ _ _ | exact mr_lk (by assumption) (by decide) | exact mr_lk (mr_up_same _ _ _) (by decide) | exact mr_lk (mr_lk (by assumption) (by decide)) (by decide) | exact mr_wS_8 _ _ _ _ _ _ | exact mr_wS_9 _ _ _ _ _ _ | exact mr_wS_10 _ _ _ _ _ _ | exact (mr_wS_ne _ _ _ _ _ _ (by decide)).trans (by assumption) | exact (mr_wS_ne _ _ _ _ _ _ (by decide)).trans (mr_up_same _ _ _) | exact (mr_wS_ne _ _ _ _ _ _ (by decide)).trans (mr_lk (by assumption) (by decide))) ?_
          refine ⟨_, _, _, rfl, ⟨(by first | assumption | exact mr_up_same _ _ _ | exact mr_lk (by assumption) (by decide) | exact mr_lk (mr_up_same _ _ _) (by decide) | exact mr_lk (mr_lk (by assumption) (by decide)) (by decide) | exact mr_wS_8 _ _ _ _ _ _ | exact mr_wS_9 _ _ _ _ _ _ | exact mr_wS_10 _ _ _ _ _ _ | exact (mr_wS_ne _ _ _ _ _ _ (by decide)).trans (by assumption) | exact (mr_wS_ne _ _ _ _ _ _ (by decide)).trans (mr_up_same _ _ _) | exact (mr_wS_ne _ _ _ _ _ _ (by decide)).trans (mr_lk (by assumption) (by decide))), (by first | assumption | exact mr_up_same _ _ _ | exact mr_lk (by assumption) (by decide) | exact mr_lk (mr_up_same _ _ _) (by decide) | exact mr_lk (mr_lk (by assumption) (by decide)) (by decide) | exact mr_wS_8 _ _ _ _ _ _ | exact mr_wS_9 _ _ _ _ _ _ | exact mr_wS_10 _ _ _ _ _ _ | exact (mr_wS_ne _ _ _ _ _ _ (by decide)).trans (by assumption) | exact (mr_wS_ne _ _ _ _ _ _ (by decide)).trans (mr_up_same _ _ _) | exact (mr_wS_ne _ _ _ _ _ _ (by decide)).trans (mr_lk (by assumption) (by decide)))⟩, hn0, ⟨by omega, by omega⟩, ?_⟩
          dsimp only [Option.toList_some, Option.toList_none, List.cons_append, List.nil_append]
          refine mr_callS (as := [_]) dX2_scan_107 (ok_X2_isDigit l G) ml_X2_175 cl_X2_isDigit cs_X2_isDigit (by decide) rfl rfl (Nat.le_of_ble_eq_true rfl) ?_
          refine ⟨_, rfl, mr_ba_in _ _ _, ?_, ?_⟩
          · intro y2
            dsimp only [Option.toList_some, Option.toList_none, List.cons_append, List.nil_append]
            refine mr_if_eq (tgt := 120) dX2_scan_110 (by decide) (by omega) (fun h => absurd h (by decide)) (fun _ => ?_)
            refine mr_aload_n dX2_scan_113 rfl ?_
            refine mr_callV (as := []) dX2_scan_114 (ok_X2_scanRun l G) ml_X2_178 cl_X2_scanRun cv_X2_scanRun (by decide) rfl rfl (Nat.le_of_ble_eq_true rfl) (by first | assumption | exact mr_up_same _ _ _ | exact mr_lk (by assumption) (by decide) | exact mr_lk (mr_up_same _ _ _) (by decide) | exact mr_lk (mr_lk (by assumption) (by decide)) (by decide) | exact mr_wS_8 _ _ _ _ _ _ | exact mr_wS_9 _ _ _ _ _ _ | exact mr_wS_10 _ _ _ _ _ _ | exact (mr_wS_ne _ _ _ _ _ _ (by decide)).trans (by assumption) | exact (mr_wS_ne _ _ _ _ _ _ (by decide)).trans (mr_up_same _ _ _) | exact (mr_wS_ne _ _ _ _ _ _ (by decide)).trans (mr_lk (by assumption) (by decide))) ?_
            refine ⟨_, _, _, _, _, _, _, _, _, _, _, _, rfl, mr_up_same _ _ _, ⟨(by first | assumption | exact mr_up_same _ _ _ | exact mr_lk (by assumption) (by decide) | exact mr_lk (mr_up_same _ _ _) (by decide) | exact mr_lk (mr_lk (by assumption) (by decide)) (by decide) | exact mr_wS_8 _ _ _ _ _ _ | exact mr_wS_9 _ _ _ _ _ _ | exact mr_wS_10 _ _ _ _ _ _ | exact (mr_wS_ne _ _ _ _ _ _ (by decide)).trans (by assumption) | exact (mr_wS_ne _ _ _ _ _ _ (by decide)).trans (mr_up_same _ _ _) | exact (mr_wS_ne _ _ _ _ _ _ (by decide)).trans (mr_lk (by assumption) (by decide))), (by first | assumption | exact mr_up_same _ _ _ | exact mr_lk (by assumption) (by decide) | exact mr_lk (mr_up_same _ _ _) (by decide) | exact mr_lk (mr_lk (by assumption) (by decide)) (by decide) | exact mr_wS_8 _ _ _ _ _ _ | exact mr_wS_9 _ _ _ _ _ _ | exact mr_wS_10 _ _ _ _ _ _ | exact (mr_wS_ne _ _ _ _ _ _ (by decide)).trans (by assumption) | exact (mr_wS_ne _ _ _ _ _ _ (by decide)).trans (mr_up_same _ _ _) | exact (mr_wS_ne _ _ _ _ _ _ (by decide)).trans (mr_lk (by assumption) (by decide)))⟩, hn0, ⟨by omega, by omega⟩, (fun q_ r1 r2 => ?_), (fun q_ r1 r2 r3 r4 => ?_), (fun q_ r1 r2 r3 => ?_)⟩
            · rw [mr_up_up]
              dsimp only [Option.toList_some, Option.toList_none, List.cons_append, List.nil_append]
              refine mr_goto (tgt := 155) dX2_scan_117 (by decide) ?_
              refine mr_vret rfl dX2_scan_155 ?_
              first
                | (exfalso; omega)
                | exact (hP i ⟨hi.1, hb, hbd, Or.inl (by omega)⟩).1 (by omega) _ rfl
                | exact (hP i ⟨hi.1, hb, hbd, Or.inr y0⟩).2 (by omega) |>.1 q_ r1 (mr_run_lt r1 (by omega) (by first | exact Or.inl y1 | exact Or.inr y2)) r2
                | exact (hP i ⟨hi.1, hb, hbd, Or.inr y0⟩).2 (by omega) |>.2.1 q_ r1 r2 r3 r4
                | exact (hP i ⟨hi.1, hb, hbd, Or.inr y0⟩).2 (by omega) |>.2.2.1 q_ r1 (mr_run_lt r1 (by omega) (by first | exact Or.inl y1 | exact Or.inr y2)) r2 r3
                | exact (hP i ⟨hi.1, hb, hbd, Or.inr y0⟩).2 (by omega) |>.2.2.2.1 (fun z => z.elim y1 y2) hc_134
                | exact (hP i ⟨hi.1, hb, hbd, Or.inr y0⟩).2 (by omega) |>.2.2.2.2 (fun z => z.elim y1 y2) hc_134
            · rw [mr_up_up]
              dsimp only [Option.toList_some, Option.toList_none, List.cons_append, List.nil_append]
              refine mr_goto (tgt := 155) dX2_scan_117 (by decide) ?_
              refine mr_vret rfl dX2_scan_155 ?_
              first
                | (exfalso; omega)
                | exact (hP i ⟨hi.1, hb, hbd, Or.inl (by omega)⟩).1 (by omega) _ rfl
                | exact (hP i ⟨hi.1, hb, hbd, Or.inr y0⟩).2 (by omega) |>.1 q_ r1 (mr_run_lt r1 (by omega) (by first | exact Or.inl y1 | exact Or.inr y2)) r2
                | exact (hP i ⟨hi.1, hb, hbd, Or.inr y0⟩).2 (by omega) |>.2.1 q_ r1 r2 r3 r4
                | exact (hP i ⟨hi.1, hb, hbd, Or.inr y0⟩).2 (by omega) |>.2.2.1 q_ r1 (mr_run_lt r1 (by omega) (by first | exact Or.inl y1 | exact Or.inr y2)) r2 r3
                | exact (hP i ⟨hi.1, hb, hbd, Or.inr y0⟩).2 (by omega) |>.2.2.2.1 (fun z => z.elim y1 y2) hc_134
                | exact (hP i ⟨hi.1, hb, hbd, Or.inr y0⟩).2 (by omega) |>.2.2.2.2 (fun z => z.elim y1 y2) hc_134
            · rw [mr_up_up]
              dsimp only [Option.toList_some, Option.toList_none, List.cons_append, List.nil_append]
              refine mr_goto (tgt := 155) dX2_scan_117 (by decide) ?_
              refine mr_vret rfl dX2_scan_155 ?_
              first
                | (exfalso; omega)
                | exact (hP i ⟨hi.1, hb, hbd, Or.inl (by omega)⟩).1 (by omega) _ rfl
                | exact (hP i ⟨hi.1, hb, hbd, Or.inr y0⟩).2 (by omega) |>.1 q_ r1 (mr_run_lt r1 (by omega) (by first | exact Or.inl y1 | exact Or.inr y2)) r2
                | exact (hP i ⟨hi.1, hb, hbd, Or.inr y0⟩).2 (by omega) |>.2.1 q_ r1 r2 r3 r4
                | exact (hP i ⟨hi.1, hb, hbd, Or.inr y0⟩).2 (by omega) |>.2.2.1 q_ r1 (mr_run_lt r1 (by omega) (by first | exact Or.inl y1 | exact Or.inr y2)) r2 r3
                | exact (hP i ⟨hi.1, hb, hbd, Or.inr y0⟩).2 (by omega) |>.2.2.2.1 (fun z => z.elim y1 y2) hc_134
                | exact (hP i ⟨hi.1, hb, hbd, Or.inr y0⟩).2 (by omega) |>.2.2.2.2 (fun z => z.elim y1 y2) hc_134
          · intro y2
            dsimp only [Option.toList_some, Option.toList_none, List.cons_append, List.nil_append]
            refine mr_if_eq (tgt := 120) dX2_scan_110 (by decide) (by omega) (fun _ => ?_) (fun h => absurd h (by decide))
            refine mr_aload_n dX2_scan_120 rfl ?_
            refine mr_aload_n dX2_scan_121 rfl ?_
            refine mr_get dX2_scan_122 fl_X2_22 (by first | assumption | exact mr_up_same _ _ _ | exact mr_lk (by assumption) (by decide) | exact mr_lk (mr_up_same _ _ _) (by decide) | exact mr_lk (mr_lk (by assumption) (by decide)) (by decide) | exact mr_wS_8 _ _ _ _ _ _ | exact mr_wS_9 _ _ _ _ _ _ | exact mr_wS_10 _ _ _ _ _ _ | exact (mr_wS_ne _ _ _ _ _ _ (by decide)).trans (by assumption) | exact (mr_wS_ne _ _ _ _ _ _ (by decide)).trans (mr_up_same _ _ _) | exact (mr_wS_ne _ _ _ _ _ _ (by decide)).trans (mr_lk (by assumption) (by decide))) rfl ?_
            refine mr_aload_n dX2_scan_125 rfl ?_
            refine mr_get dX2_scan_126 fl_X2_81 (by first | assumption | exact mr_up_same _ _ _ | exact mr_lk (by assumption) (by decide) | exact mr_lk (mr_up_same _ _ _) (by decide) | exact mr_lk (mr_lk (by assumption) (by decide)) (by decide) | exact mr_wS_8 _ _ _ _ _ _ | exact mr_wS_9 _ _ _ _ _ _ | exact mr_wS_10 _ _ _ _ _ _ | exact (mr_wS_ne _ _ _ _ _ _ (by decide)).trans (by assumption) | exact (mr_wS_ne _ _ _ _ _ _ (by decide)).trans (mr_up_same _ _ _) | exact (mr_wS_ne _ _ _ _ _ _ (by decide)).trans (mr_lk (by assumption) (by decide))) rfl ?_
            refine mr_callV (as := [_]) dX2_scan_129 (ok_X5_byteAt l G) ml_X2_164 cl_X5_byteAt cv_X5_byteAt (by decide) rfl rfl (Nat.le_of_ble_eq_true rfl) (by first | assumption | exact mr_up_same _ _ _ | exact mr_lk (by assumption) (by decide) | exact mr_lk (mr_up_same _ _ _) (by decide) | exact mr_lk (mr_lk (by assumption) (by decide)) (by decide) | exact mr_wS_8 _ _ _ _ _ _ | exact mr_wS_9 _ _ _ _ _ _ | exact mr_wS_10 _ _ _ _ _ _ | exact (mr_wS_ne _ _ _ _ _ _ (by decide)).trans (by assumption) | exact (mr_wS_ne _ _ _ _ _ _ (by decide)).trans (mr_up_same _ _ _) | exact (mr_wS_ne _ _ _ _ _ _ (by decide)).trans (mr_lk (by assumption) (by decide))) ?_
            refine ⟨_, _, _, rfl, ⟨(by first | assumption | exact mr_up_same _ _ _ | exact mr_lk (by assumption) (by decide) | exact mr_lk (mr_up_same _ _ _) (by decide) | exact mr_lk (mr_lk (by assumption) (by decide)) (by decide) | exact mr_wS_8 _ _ _ _ _ _ | exact mr_wS_9 _ _ _ _ _ _ | exact mr_wS_10 _ _ _ _ _ _ | exact (mr_wS_ne _ _ _ _ _ _ (by decide)).trans (by assumption) | exact (mr_wS_ne _ _ _ _ _ _ (by decide)).trans (mr_up_same _ _ _) | exact (mr_wS_ne _ _ _ _ _ _ (by decide)).trans (mr_lk (by assumption) (by decide))), (by first | assumption | exact mr_up_same _ _ _ | exact mr_lk (by assumption) (by decide) | exact mr_lk (mr_up_same _ _ _) (by decide) | exact mr_lk (mr_lk (by assumption) (by decide)) (by decide) | exact mr_wS_8 _ _ _ _ _ _ | exact mr_wS_9 _ _ _ _ _ _ | exact mr_wS_10 _ _ _ _ _ _ | exact (mr_wS_ne _ _ _ _ _ _ (by decide)).trans (by assumption) | exact (mr_wS_ne _ _ _ _ _ _ (by decide)).trans (mr_up_same _ _ _) | exact (mr_wS_ne _ _ _ _ _ _ (by decide)).trans (mr_lk (by assumption) (by decide)))⟩, hn0, ⟨by omega, by omega⟩, ?_⟩
            dsimp only [Option.toList_some, Option.toList_none, List.cons_append, List.nil_append]
            refine mr_bipush dX2_scan_132 rfl ?_
            refine mr_icmp_ne (tgt := 141) dX2_scan_134 (by decide) hba (by decide) (fun hc_134 => ?_) (fun hc_134 => ?_)
            · refine mr_iconst dX2_scan_141 ?_
              refine mr_put dX2_scan_142 fl_X2_55 pf_X2_5 rfl rfl (by first | assumption | exact mr_up_same _ _ _ | exact mr_lk (by assumption) (by decide) | exact mr_lk (mr_up_same _ _ _) (by decide) | exact mr_lk (mr_lk (by assumption) (by decide)) (by decide) | exact mr_wS_8 _ _ _ _ _ _ | exact mr_wS_9 _ _ _ _ _ _ | exact mr_wS_10 _ _ _ _ _ _ | exact (mr_wS_ne _ _ _ _ _ _ (by decide)).trans (by assumption) | exact (mr_wS_ne _ _ _ _ _ _ (by decide)).trans (mr_up_same _ _ _) | exact (mr_wS_ne _ _ _ _ _ _ (by decide)).trans (mr_lk (by assumption) (by decide))) (Nat.le_of_ble_eq_true rfl) ?_
              rw [mr_up_up]
              refine mr_aload_n dX2_scan_145 rfl ?_
              refine mr_dup dX2_scan_146 rfl ?_
              refine mr_get dX2_scan_147 fl_X2_75 (by first | assumption | exact mr_up_same _ _ _ | exact mr_lk (by assumption) (by decide) | exact mr_lk (mr_up_same _ _ _) (by decide) | exact mr_lk (mr_lk (by assumption) (by decide)) (by decide) | exact mr_wS_8 _ _ _ _ _ _ | exact mr_wS_9 _ _ _ _ _ _ | exact mr_wS_10 _ _ _ _ _ _ | exact (mr_wS_ne _ _ _ _ _ _ (by decide)).trans (by assumption) | exact (mr_wS_ne _ _ _ _ _ _ (by decide)).trans (mr_up_same _ _ _) | exact (mr_wS_ne _ _ _ _ _ _ (by decide)).trans (mr_lk (by assumption) (by decide))) rfl ?_
              refine mr_iconst dX2_scan_150 ?_
              refine mr_iadd dX2_scan_151 ?_
              refine mr_put dX2_scan_152 fl_X2_75 pf_X2_7 rfl rfl (by first | assumption | exact mr_up_same _ _ _ | exact mr_lk (by assumption) (by decide) | exact mr_lk (mr_up_same _ _ _) (by decide) | exact mr_lk (mr_lk (by assumption) (by decide)) (by decide) | exact mr_wS_8 _ _ _ _ _ _ | exact mr_wS_9 _ _ _ _ _ _ | exact mr_wS_10 _ _ _ _ _ _ | exact (mr_wS_ne _ _ _ _ _ _ (by decide)).trans (by assumption) | exact (mr_wS_ne _ _ _ _ _ _ (by decide)).trans (mr_up_same _ _ _) | exact (mr_wS_ne _ _ _ _ _ _ (by decide)).trans (mr_lk (by assumption) (by decide))) (Nat.le_of_ble_eq_true rfl) ?_
              rw [mr_up_up]
              refine mr_vret rfl dX2_scan_155 ?_
              first
                | (exfalso; omega)
                | exact (hP i ⟨hi.1, hb, hbd, Or.inl (by omega)⟩).1 (by omega) _ rfl
                | exact (hP i ⟨hi.1, hb, hbd, Or.inr y0⟩).2 (by omega) |>.1 q_ r1 (mr_run_lt r1 (by omega) (by first | exact Or.inl y1 | exact Or.inr y2)) r2
                | exact (hP i ⟨hi.1, hb, hbd, Or.inr y0⟩).2 (by omega) |>.2.1 q_ r1 r2 r3 r4
                | exact (hP i ⟨hi.1, hb, hbd, Or.inr y0⟩).2 (by omega) |>.2.2.1 q_ r1 (mr_run_lt r1 (by omega) (by first | exact Or.inl y1 | exact Or.inr y2)) r2 r3
                | exact (hP i ⟨hi.1, hb, hbd, Or.inr y0⟩).2 (by omega) |>.2.2.2.1 (fun z => z.elim y1 y2) hc_134
                | exact (hP i ⟨hi.1, hb, hbd, Or.inr y0⟩).2 (by omega) |>.2.2.2.2 (fun z => z.elim y1 y2) hc_134
            · refine mr_iconst dX2_scan_137 ?_
              refine mr_goto (tgt := 142) dX2_scan_138 (by decide) ?_
              refine mr_put dX2_scan_142 fl_X2_55 pf_X2_5 rfl rfl (by first | assumption | exact mr_up_same _ _ _ | exact mr_lk (by assumption) (by decide) | exact mr_lk (mr_up_same _ _ _) (by decide) | exact mr_lk (mr_lk (by assumption) (by decide)) (by decide) | exact mr_wS_8 _ _ _ _ _ _ | exact mr_wS_9 _ _ _ _ _ _ | exact mr_wS_10 _ _ _ _ _ _ | exact (mr_wS_ne _ _ _ _ _ _ (by decide)).trans (by assumption) | exact (mr_wS_ne _ _ _ _ _ _ (by decide)).trans (mr_up_same _ _ _) | exact (mr_wS_ne _ _ _ _ _ _ (by decide)).trans (mr_lk (by assumption) (by decide))) (Nat.le_of_ble_eq_true rfl) ?_
              rw [mr_up_up]
              refine mr_aload_n dX2_scan_145 rfl ?_
              refine mr_dup dX2_scan_146 rfl ?_
              refine mr_get dX2_scan_147 fl_X2_75 (by first | assumption | exact mr_up_same _ _ _ | exact mr_lk (by assumption) (by decide) | exact mr_lk (mr_up_same _ _ _) (by decide) | exact mr_lk (mr_lk (by assumption) (by decide)) (by decide) | exact mr_wS_8 _ _ _ _ _ _ | exact mr_wS_9 _ _ _ _ _ _ | exact mr_wS_10 _ _ _ _ _ _ | exact (mr_wS_ne _ _ _ _ _ _ (by decide)).trans (by assumption) | exact (mr_wS_ne _ _ _ _ _ _ (by decide)).trans (mr_up_same _ _ _) | exact (mr_wS_ne _ _ _ _ _ _ (by decide)).trans (mr_lk (by assumption) (by decide))) rfl ?_
              refine mr_iconst dX2_scan_150 ?_
              refine mr_iadd dX2_scan_151 ?_
              refine mr_put dX2_scan_152 fl_X2_75 pf_X2_7 rfl rfl (by first | assumption | exact mr_up_same _ _ _ | exact mr_lk (by assumption) (by decide) | exact mr_lk (mr_up_same _ _ _) (by decide) | exact mr_lk (mr_lk (by assumption) (by decide)) (by decide) | exact mr_wS_8 _ _ _ _ _ _ | exact mr_wS_9 _ _ _ _ _ _ | exact mr_wS_10 _ _ _ _ _ _ | exact (mr_wS_ne _ _ _ _ _ _ (by decide)).trans (by assumption) | exact (mr_wS_ne _ _ _ _ _ _ (by decide)).trans (mr_up_same _ _ _) | exact (mr_wS_ne _ _ _ _ _ _ (by decide)).trans (mr_lk (by assumption) (by decide))) (Nat.le_of_ble_eq_true rfl) ?_
              rw [mr_up_up]
              refine mr_vret rfl dX2_scan_155 ?_
              first
                | (exfalso; omega)
                | exact (hP i ⟨hi.1, hb, hbd, Or.inl (by omega)⟩).1 (by omega) _ rfl
                | exact (hP i ⟨hi.1, hb, hbd, Or.inr y0⟩).2 (by omega) |>.1 q_ r1 (mr_run_lt r1 (by omega) (by first | exact Or.inl y1 | exact Or.inr y2)) r2
                | exact (hP i ⟨hi.1, hb, hbd, Or.inr y0⟩).2 (by omega) |>.2.1 q_ r1 r2 r3 r4
                | exact (hP i ⟨hi.1, hb, hbd, Or.inr y0⟩).2 (by omega) |>.2.2.1 q_ r1 (mr_run_lt r1 (by omega) (by first | exact Or.inl y1 | exact Or.inr y2)) r2 r3
                | exact (hP i ⟨hi.1, hb, hbd, Or.inr y0⟩).2 (by omega) |>.2.2.2.1 (fun z => z.elim y1 y2) hc_134
                | exact (hP i ⟨hi.1, hb, hbd, Or.inr y0⟩).2 (by omega) |>.2.2.2.2 (fun z => z.elim y1 y2) hc_134
      · refine mr_aload_n dX2_scan_60 rfl ?_
        refine mr_iconst dX2_scan_61 ?_
        refine mr_put dX2_scan_62 fl_X2_55 pf_X2_5 rfl rfl (by first | assumption | exact mr_up_same _ _ _ | exact mr_lk (by assumption) (by decide) | exact mr_lk (mr_up_same _ _ _) (by decide) | exact mr_lk (mr_lk (by assumption) (by decide)) (by decide) | exact mr_wS_8 _ _ _ _ _ _ | exact mr_wS_9 _ _ _ _ _ _ | exact mr_wS_10 _ _ _ _ _ _ | exact (mr_wS_ne _ _ _ _ _ _ (by decide)).trans (by assumption) | exact (mr_wS_ne _ _ _ _ _ _ (by decide)).trans (mr_up_same _ _ _) | exact (mr_wS_ne _ _ _ _ _ _ (by decide)).trans (mr_lk (by assumption) (by decide))) (Nat.le_of_ble_eq_true rfl) ?_
        rw [mr_up_up]
        refine mr_aload_n dX2_scan_65 rfl ?_
        refine mr_iload_n dX2_scan_66 rfl ?_
        refine mr_put dX2_scan_67 fl_X2_81 pf_X2_6 rfl rfl (by first | assumption | exact mr_up_same _ _ _ | exact mr_lk (by assumption) (by decide) | exact mr_lk (mr_up_same _ _ _) (by decide) | exact mr_lk (mr_lk (by assumption) (by decide)) (by decide) | exact mr_wS_8 _ _ _ _ _ _ | exact mr_wS_9 _ _ _ _ _ _ | exact mr_wS_10 _ _ _ _ _ _ | exact (mr_wS_ne _ _ _ _ _ _ (by decide)).trans (by assumption) | exact (mr_wS_ne _ _ _ _ _ _ (by decide)).trans (mr_up_same _ _ _) | exact (mr_wS_ne _ _ _ _ _ _ (by decide)).trans (mr_lk (by assumption) (by decide))) (Nat.le_of_ble_eq_true rfl) ?_
        rw [mr_up_up]
        refine mr_vret rfl dX2_scan_70 ?_
        first
          | (exfalso; omega)
          | exact (hP i ⟨hi.1, hb, hbd, Or.inl (by omega)⟩).1 (by omega) _ rfl
          | exact (hP i ⟨hi.1, hb, hbd, Or.inr y0⟩).2 (by omega) |>.1 q_ r1 (mr_run_lt r1 (by omega) (by first | exact Or.inl y1 | exact Or.inr y2)) r2
          | exact (hP i ⟨hi.1, hb, hbd, Or.inr y0⟩).2 (by omega) |>.2.1 q_ r1 r2 r3 r4
          | exact (hP i ⟨hi.1, hb, hbd, Or.inr y0⟩).2 (by omega) |>.2.2.1 q_ r1 (mr_run_lt r1 (by omega) (by first | exact Or.inl y1 | exact Or.inr y2)) r2 r3
          | exact (hP i ⟨hi.1, hb, hbd, Or.inr y0⟩).2 (by omega) |>.2.2.2.1 (fun z => z.elim y1 y2) hc_134
          | exact (hP i ⟨hi.1, hb, hbd, Or.inr y0⟩).2 (by omega) |>.2.2.2.2 (fun z => z.elim y1 y2) hc_134
    · refine mr_aload_n dX2_scan_22 rfl ?_
      refine mr_get dX2_scan_23 fl_X2_22 (by first | assumption | exact mr_up_same _ _ _ | exact mr_lk (by assumption) (by decide) | exact mr_lk (mr_up_same _ _ _) (by decide) | exact mr_lk (mr_lk (by assumption) (by decide)) (by decide) | exact mr_wS_8 _ _ _ _ _ _ | exact mr_wS_9 _ _ _ _ _ _ | exact mr_wS_10 _ _ _ _ _ _ | exact (mr_wS_ne _ _ _ _ _ _ (by decide)).trans (by assumption) | exact (mr_wS_ne _ _ _ _ _ _ (by decide)).trans (mr_up_same _ _ _) | exact (mr_wS_ne _ _ _ _ _ _ (by decide)).trans (mr_lk (by assumption) (by decide))) rfl ?_
      refine mr_aload_n dX2_scan_26 rfl ?_
      refine mr_get dX2_scan_27 fl_X2_75 (by first | assumption | exact mr_up_same _ _ _ | exact mr_lk (by assumption) (by decide) | exact mr_lk (mr_up_same _ _ _) (by decide) | exact mr_lk (mr_lk (by assumption) (by decide)) (by decide) | exact mr_wS_8 _ _ _ _ _ _ | exact mr_wS_9 _ _ _ _ _ _ | exact mr_wS_10 _ _ _ _ _ _ | exact (mr_wS_ne _ _ _ _ _ _ (by decide)).trans (by assumption) | exact (mr_wS_ne _ _ _ _ _ _ (by decide)).trans (mr_up_same _ _ _) | exact (mr_wS_ne _ _ _ _ _ _ (by decide)).trans (mr_lk (by assumption) (by decide))) rfl ?_
      refine mr_callV (as := [_]) dX2_scan_30 (ok_X5_byteAt l G) ml_X2_164 cl_X5_byteAt cv_X5_byteAt (by decide) rfl rfl (Nat.le_of_ble_eq_true rfl) (by first | assumption | exact mr_up_same _ _ _ | exact mr_lk (by assumption) (by decide) | exact mr_lk (mr_up_same _ _ _) (by decide) | exact mr_lk (mr_lk (by assumption) (by decide)) (by decide) | exact mr_wS_8 _ _ _ _ _ _ | exact mr_wS_9 _ _ _ _ _ _ | exact mr_wS_10 _ _ _ _ _ _ | exact (mr_wS_ne _ _ _ _ _ _ (by decide)).trans (by assumption) | exact (mr_wS_ne _ _ _ _ _ _ (by decide)).trans (mr_up_same _ _ _) | exact (mr_wS_ne _ _ _ _ _ _ (by decide)).trans (mr_lk (by assumption) (by decide))) ?_
      refine ⟨_, _, _, rfl, ⟨(by first | assumption | exact mr_up_same _ _ _ | exact mr_lk (by assumption) (by decide) | exact mr_lk (mr_up_same _ _ _) (by decide) | exact mr_lk (mr_lk (by assumption) (by decide)) (by decide) | exact mr_wS_8 _ _ _ _ _ _ | exact mr_wS_9 _ _ _ _ _ _ | exact mr_wS_10 _ _ _ _ _ _ | exact (mr_wS_ne _ _ _ _ _ _ (by decide)).trans (by assumption) | exact (mr_wS_ne _ _ _ _ _ _ (by decide)).trans (mr_up_same _ _ _) | exact (mr_wS_ne _ _ _ _ _ _ (by decide)).trans (mr_lk (by assumption) (by decide))), (by first | assumption | exact mr_up_same _ _ _ | exact mr_lk (by assumption) (by decide) | exact mr_lk (mr_up_same _ _ _) (by decide) | exact mr_lk (mr_lk (by assumption) (by decide)) (by decide) | exact mr_wS_8 _ _ _ _ _ _ | exact mr_wS_9 _ _ _ _ _ _ | exact mr_wS_10 _ _ _ _ _ _ | exact (mr_wS_ne _ _ _ _ _ _ (by decide)).trans (by assumption) | exact (mr_wS_ne _ _ _ _ _ _ (by decide)).trans (mr_up_same _ _ _) | exact (mr_wS_ne _ _ _ _ _ _ (by decide)).trans (mr_lk (by assumption) (by decide)))⟩, hn0, ⟨by omega, by omega⟩, ?_⟩
      dsimp only [Option.toList_some, Option.toList_none, List.cons_append, List.nil_append]
      refine mr_callS (as := [_]) dX2_scan_33 (ok_X2_isBlank l G) ml_X2_168 cl_X2_isBlank cs_X2_isBlank (by decide) rfl rfl (Nat.le_of_ble_eq_true rfl) ?_
      refine ⟨_, rfl, mr_ba_in _ _ _, ?_, ?_⟩
      · intro y0
        dsimp only [Option.toList_some, Option.toList_none, List.cons_append, List.nil_append]
        refine mr_if_eq (tgt := 52) dX2_scan_36 (by decide) (by omega) (fun h => absurd h (by decide)) (fun _ => ?_)
        refine mr_aload_n dX2_scan_39 rfl ?_
        refine mr_dup dX2_scan_40 rfl ?_
        refine mr_get dX2_scan_41 fl_X2_75 (by first | assumption | exact mr_up_same _ _ _ | exact mr_lk (by assumption) (by decide) | exact mr_lk (mr_up_same _ _ _) (by decide) | exact mr_lk (mr_lk (by assumption) (by decide)) (by decide) | exact mr_wS_8 _ _ _ _ _ _ | exact mr_wS_9 _ _ _ _ _ _ | exact mr_wS_10 _ _ _ _ _ _ | exact (mr_wS_ne _ _ _ _ _ _ (by decide)).trans (by assumption) | exact (mr_wS_ne _ _ _ _ _ _ (by decide)).trans (mr_up_same _ _ _) | exact (mr_wS_ne _ _ _ _ _ _ (by decide)).trans (mr_lk (by assumption) (by decide))) rfl ?_
        refine mr_iconst dX2_scan_44 ?_
        refine mr_iadd dX2_scan_45 ?_
        refine mr_put dX2_scan_46 fl_X2_75 pf_X2_7 rfl rfl (by first | assumption | exact mr_up_same _ _ _ | exact mr_lk (by assumption) (by decide) | exact mr_lk (mr_up_same _ _ _) (by decide) | exact mr_lk (mr_lk (by assumption) (by decide)) (by decide) | exact mr_wS_8 _ _ _ _ _ _ | exact mr_wS_9 _ _ _ _ _ _ | exact mr_wS_10 _ _ _ _ _ _ | exact (mr_wS_ne _ _ _ _ _ _ (by decide)).trans (by assumption) | exact (mr_wS_ne _ _ _ _ _ _ (by decide)).trans (mr_up_same _ _ _) | exact (mr_wS_ne _ _ _ _ _ _ (by decide)).trans (mr_lk (by assumption) (by decide))) (Nat.le_of_ble_eq_true rfl) ?_
        rw [mr_up_up]
        refine mr_goto (tgt := 14) dX2_scan_49 (by decide) ?_
        refine ih (i + 1) (by omega) (by omega) (fun x g1 g2 => ?_) (fun _ => by omega)
        by_cases e : x = i
        · subst e; exact y0
        · exact hb x g1 (by omega)
      · intro y0
        dsimp only [Option.toList_some, Option.toList_none, List.cons_append, List.nil_append]
        refine mr_if_eq (tgt := 52) dX2_scan_36 (by decide) (by omega) (fun _ => ?_) (fun h => absurd h (by decide))
        refine mr_aload_n dX2_scan_52 rfl ?_
        refine mr_get dX2_scan_53 fl_X2_75 (by first | assumption | exact mr_up_same _ _ _ | exact mr_lk (by assumption) (by decide) | exact mr_lk (mr_up_same _ _ _) (by decide) | exact mr_lk (mr_lk (by assumption) (by decide)) (by decide) | exact mr_wS_8 _ _ _ _ _ _ | exact mr_wS_9 _ _ _ _ _ _ | exact mr_wS_10 _ _ _ _ _ _ | exact (mr_wS_ne _ _ _ _ _ _ (by decide)).trans (by assumption) | exact (mr_wS_ne _ _ _ _ _ _ (by decide)).trans (mr_up_same _ _ _) | exact (mr_wS_ne _ _ _ _ _ _ (by decide)).trans (mr_lk (by assumption) (by decide))) rfl ?_
        refine mr_iload_n dX2_scan_56 rfl ?_
        refine mr_icmp_lt (tgt := 71) dX2_scan_57 (by decide) (by omega) (by omega) (fun hc_57 => ?_) (fun hc_57 => ?_)
        · refine mr_aload_n dX2_scan_71 rfl ?_
          refine mr_aload_n dX2_scan_72 rfl ?_
          refine mr_get dX2_scan_73 fl_X2_75 (by first | assumption | exact mr_up_same _ _ _ | exact mr_lk (by assumption) (by decide) | exact mr_lk (mr_up_same _ _ _) (by decide) | exact mr_lk (mr_lk (by assumption) (by decide)) (by decide) | exact mr_wS_8 _ _ _ _ _ _ | exact mr_wS_9 _ _ _ _ _ _ | exact mr_wS_10 _ _ _ _ _ _ | exact (mr_wS_ne _ _ _ _ _ _ (by decide)).trans (by assumption) | exact (mr_wS_ne _ _ _ _ _ _ (by decide)).trans (mr_up_same _ _ _) | exact (mr_wS_ne _ _ _ _ _ _ (by decide)).trans (mr_lk (by assumption) (by decide))) rfl ?_
          refine mr_put dX2_scan_76 fl_X2_81 pf_X2_6 rfl rfl (by first | assumption | exact mr_up_same _ _ _ | exact mr_lk (by assumption) (by decide) | exact mr_lk (mr_up_same _ _ _) (by decide) | exact mr_lk (mr_lk (by assumption) (by decide)) (by decide) | exact mr_wS_8 _ _ _ _ _ _ | exact mr_wS_9 _ _ _ _ _ _ | exact mr_wS_10 _ _ _ _ _ _ | exact (mr_wS_ne _ _ _ _ _ _ (by decide)).trans (by assumption) | exact (mr_wS_ne _ _ _ _ _ _ (by decide)).trans (mr_up_same _ _ _) | exact (mr_wS_ne _ _ _ _ _ _ (by decide)).trans (mr_lk (by assumption) (by decide))) (Nat.le_of_ble_eq_true rfl) ?_
          rw [mr_up_up]
          refine mr_aload_n dX2_scan_79 rfl ?_
          refine mr_get dX2_scan_80 fl_X2_22 (by first | assumption | exact mr_up_same _ _ _ | exact mr_lk (by assumption) (by decide) | exact mr_lk (mr_up_same _ _ _) (by decide) | exact mr_lk (mr_lk (by assumption) (by decide)) (by decide) | exact mr_wS_8 _ _ _ _ _ _ | exact mr_wS_9 _ _ _ _ _ _ | exact mr_wS_10 _ _ _ _ _ _ | exact (mr_wS_ne _ _ _ _ _ _ (by decide)).trans (by assumption) | exact (mr_wS_ne _ _ _ _ _ _ (by decide)).trans (mr_up_same _ _ _) | exact (mr_wS_ne _ _ _ _ _ _ (by decide)).trans (mr_lk (by assumption) (by decide))) rfl ?_
          refine mr_aload_n dX2_scan_83 rfl ?_
          refine mr_get dX2_scan_84 fl_X2_81 (by first | assumption | exact mr_up_same _ _ _ | exact mr_lk (by assumption) (by decide) | exact mr_lk (mr_up_same _ _ _) (by decide) | exact mr_lk (mr_lk (by assumption) (by decide)) (by decide) | exact mr_wS_8 _ _ _ _ _ _ | exact mr_wS_9 _ _ _ _ _ _ | exact mr_wS_10 _ _ _ _ _ _ | exact (mr_wS_ne _ _ _ _ _ _ (by decide)).trans (by assumption) | exact (mr_wS_ne _ _ _ _ _ _ (by decide)).trans (mr_up_same _ _ _) | exact (mr_wS_ne _ _ _ _ _ _ (by decide)).trans (mr_lk (by assumption) (by decide))) rfl ?_
          refine mr_callV (as := [_]) dX2_scan_87 (ok_X5_byteAt l G) ml_X2_164 cl_X5_byteAt cv_X5_byteAt (by decide) rfl rfl (Nat.le_of_ble_eq_true rfl) (by first | assumption | exact mr_up_same _ _ _ | exact mr_lk (by assumption) (by decide) | exact mr_lk (mr_up_same _ _ _) (by decide) | exact mr_lk (mr_lk (by assumption) (by decide)) (by decide) | exact mr_wS_8 _ _ _ _ _ _ | exact mr_wS_9 _ _ _ _ _ _ | exact mr_wS_10 _ _ _ _ _ _ | exact (mr_wS_ne _ _ _ _ _ _ (by decide)).trans (by assumption) | exact (mr_wS_ne _ _ _ _ _ _ (by decide)).trans (mr_up_same _ _ _) | exact (mr_wS_ne _ _ _ _ _ _ (by decide)).trans (mr_lk (by assumption) (by decide))) ?_
          refine ⟨_, _, _, rfl, ⟨(by first | assumption | exact mr_up_same _ _ _ | exact mr_lk (by assumption) (by decide) | exact mr_lk (mr_up_same _ _ _) (by decide) | exact mr_lk (mr_lk (by assumption) (by decide)) (by decide) | exact mr_wS_8 _ _ _ _ _ _ | exact mr_wS_9 _ _ _ _ _ _ | exact mr_wS_10 _ _ _ _ _ _ | exact (mr_wS_ne _ _ _ _ _ _ (by decide)).trans (by assumption) | exact (mr_wS_ne _ _ _ _ _ _ (by decide)).trans (mr_up_same _ _ _) | exact (mr_wS_ne _ _ _ _ _ _ (by decide)).trans (mr_lk (by assumption) (by decide))), (by first | assumption | exact mr_up_same _ _ _ | exact mr_lk (by assumption) (by decide) | exact mr_lk (mr_up_same _ _ _) (by decide) | exact mr_lk (mr_lk (by assumption) (by decide)) (by decide) | exact mr_wS_8 _ _ _ _ _ _ | exact mr_wS_9 _ _ _ _ _ _ | exact mr_wS_10 _ _ _ _ _ _ | exact (mr_wS_ne _ _ _ _ _ _ (by decide)).trans (by assumption) | exact (mr_wS_ne _ _ _ _ _ _ (by decide)).trans (mr_up_same _ _ _) | exact (mr_wS_ne _ _ _ _ _ _ (by decide)).trans (mr_lk (by assumption) (by decide)))⟩, hn0, ⟨by omega, by omega⟩, ?_⟩
          dsimp only [Option.toList_some, Option.toList_none, List.cons_append, List.nil_append]
          refine mr_callS (as := [_]) dX2_scan_90 (ok_X2_isLetter l G) ml_X2_172 cl_X2_isLetter cs_X2_isLetter (by decide) rfl rfl (Nat.le_of_ble_eq_true rfl) ?_
          refine ⟨_, rfl, mr_ba_in _ _ _, ?_, ?_⟩
          · intro y1
            dsimp only [Option.toList_some, Option.toList_none, List.cons_append, List.nil_append]
            refine mr_if_ne (tgt := 113) dX2_scan_93 (by decide) (by omega) (fun _ => ?_) (fun h => absurd h (by decide))
            refine mr_aload_n dX2_scan_113 rfl ?_
            refine mr_callV (as := []) dX2_scan_114 (ok_X2_scanRun l G) ml_X2_178 cl_X2_scanRun cv_X2_scanRun (by decide) rfl rfl (Nat.le_of_ble_eq_true rfl) (by first | assumption | exact mr_up_same _ _ _ | exact mr_lk (by assumption) (by decide) | exact mr_lk (mr_up_same _ _ _) (by decide) | exact mr_lk (mr_lk (by assumption) (by decide)) (by decide) | exact mr_wS_8 _ _ _ _ _ _ | exact mr_wS_9 _ _ _ _ _ _ | exact mr_wS_10 _ _ _ _ _ _ | exact (mr_wS_ne _ _ _ _ _ _ (by decide)).trans (by assumption) | exact (mr_wS_ne _ _ _ _ _ _ (by decide)).trans (mr_up_same _ _ _) | exact (mr_wS_ne _ _ _ _ _ _ (by decide)).trans (mr_lk (by assumption) (by decide))) ?_
            refine ⟨_, _, _, _, _, _, _, _, _, _, _, _, rfl, mr_up_same _ _ _, ⟨(by first | assumption | exact mr_up_same _ _ _ | exact mr_lk (by assumption) (by decide) | exact mr_lk (mr_up_same _ _ _) (by decide) | exact mr_lk (mr_lk (by assumption) (by decide)) (by decide) | exact mr_wS_8 _ _ _ _ _ _ | exact mr_wS_9 _ _ _ _ _ _ | exact mr_wS_10 _ _ _ _ _ _ | exact (mr_wS_ne _ _ _ _ _ _ (by decide)).trans (by assumption) | exact (mr_wS_ne _ _ _ _ _ _ (by decide)).trans (mr_up_same _ _ _) | exact (mr_wS_ne _ _ _ _ _ _ (by decide)).trans (mr_lk (by assumption) (by decide))), (by first | assumption | exact mr_up_same _ _ _ | exact mr_lk (by assumption) (by decide) | exact mr_lk (mr_up_same _ _ _) (by decide) | exact mr_lk (mr_lk (by assumption) (by decide)) (by decide) | exact mr_wS_8 _ _ _ _ _ _ | exact mr_wS_9 _ _ _ _ _ _ | exact mr_wS_10 _ _ _ _ _ _ | exact (mr_wS_ne _ _ _ _ _ _ (by decide)).trans (by assumption) | exact (mr_wS_ne _ _ _ _ _ _ (by decide)).trans (mr_up_same _ _ _) | exact (mr_wS_ne _ _ _ _ _ _ (by decide)).trans (mr_lk (by assumption) (by decide)))⟩, hn0, ⟨by omega, by omega⟩, (fun q_ r1 r2 => ?_), (fun q_ r1 r2 r3 r4 => ?_), (fun q_ r1 r2 r3 => ?_)⟩
            · rw [mr_up_up]
              dsimp only [Option.toList_some, Option.toList_none, List.cons_append, List.nil_append]
              refine mr_goto (tgt := 155) dX2_scan_117 (by decide) ?_
              refine mr_vret rfl dX2_scan_155 ?_
              first
                | (exfalso; omega)
                | exact (hP i ⟨hi.1, hb, hbd, Or.inl (by omega)⟩).1 (by omega) _ rfl
                | exact (hP i ⟨hi.1, hb, hbd, Or.inr y0⟩).2 (by omega) |>.1 q_ r1 (mr_run_lt r1 (by omega) (by first | exact Or.inl y1 | exact Or.inr y2)) r2
                | exact (hP i ⟨hi.1, hb, hbd, Or.inr y0⟩).2 (by omega) |>.2.1 q_ r1 r2 r3 r4
                | exact (hP i ⟨hi.1, hb, hbd, Or.inr y0⟩).2 (by omega) |>.2.2.1 q_ r1 (mr_run_lt r1 (by omega) (by first | exact Or.inl y1 | exact Or.inr y2)) r2 r3
                | exact (hP i ⟨hi.1, hb, hbd, Or.inr y0⟩).2 (by omega) |>.2.2.2.1 (fun z => z.elim y1 y2) hc_134
                | exact (hP i ⟨hi.1, hb, hbd, Or.inr y0⟩).2 (by omega) |>.2.2.2.2 (fun z => z.elim y1 y2) hc_134
            · rw [mr_up_up]
              dsimp only [Option.toList_some, Option.toList_none, List.cons_append, List.nil_append]
              refine mr_goto (tgt := 155) dX2_scan_117 (by decide) ?_
              refine mr_vret rfl dX2_scan_155 ?_
              first
                | (exfalso; omega)
                | exact (hP i ⟨hi.1, hb, hbd, Or.inl (by omega)⟩).1 (by omega) _ rfl
                | exact (hP i ⟨hi.1, hb, hbd, Or.inr y0⟩).2 (by omega) |>.1 q_ r1 (mr_run_lt r1 (by omega) (by first | exact Or.inl y1 | exact Or.inr y2)) r2
                | exact (hP i ⟨hi.1, hb, hbd, Or.inr y0⟩).2 (by omega) |>.2.1 q_ r1 r2 r3 r4
                | exact (hP i ⟨hi.1, hb, hbd, Or.inr y0⟩).2 (by omega) |>.2.2.1 q_ r1 (mr_run_lt r1 (by omega) (by first | exact Or.inl y1 | exact Or.inr y2)) r2 r3
                | exact (hP i ⟨hi.1, hb, hbd, Or.inr y0⟩).2 (by omega) |>.2.2.2.1 (fun z => z.elim y1 y2) hc_134
                | exact (hP i ⟨hi.1, hb, hbd, Or.inr y0⟩).2 (by omega) |>.2.2.2.2 (fun z => z.elim y1 y2) hc_134
            · rw [mr_up_up]
              dsimp only [Option.toList_some, Option.toList_none, List.cons_append, List.nil_append]
              refine mr_goto (tgt := 155) dX2_scan_117 (by decide) ?_
              refine mr_vret rfl dX2_scan_155 ?_
              first
                | (exfalso; omega)
                | exact (hP i ⟨hi.1, hb, hbd, Or.inl (by omega)⟩).1 (by omega) _ rfl
                | exact (hP i ⟨hi.1, hb, hbd, Or.inr y0⟩).2 (by omega) |>.1 q_ r1 (mr_run_lt r1 (by omega) (by first | exact Or.inl y1 | exact Or.inr y2)) r2
                | exact (hP i ⟨hi.1, hb, hbd, Or.inr y0⟩).2 (by omega) |>.2.1 q_ r1 r2 r3 r4
                | exact (hP i ⟨hi.1, hb, hbd, Or.inr y0⟩).2 (by omega) |>.2.2.1 q_ r1 (mr_run_lt r1 (by omega) (by first | exact Or.inl y1 | exact Or.inr y2)) r2 r3
                | exact (hP i ⟨hi.1, hb, hbd, Or.inr y0⟩).2 (by omega) |>.2.2.2.1 (fun z => z.elim y1 y2) hc_134
                | exact (hP i ⟨hi.1, hb, hbd, Or.inr y0⟩).2 (by omega) |>.2.2.2.2 (fun z => z.elim y1 y2) hc_134
          · intro y1
            dsimp only [Option.toList_some, Option.toList_none, List.cons_append, List.nil_append]
            refine mr_if_ne (tgt := 113) dX2_scan_93 (by decide) (by omega) (fun h => absurd h (by decide)) (fun _ => ?_)
            refine mr_aload_n dX2_scan_96 rfl ?_
            refine mr_get dX2_scan_97 fl_X2_22 (by first | assumption | exact mr_up_same _ _ _ | exact mr_lk (by assumption) (by decide) | exact mr_lk (mr_up_same _ _ _) (by decide) | exact mr_lk (mr_lk (by assumption) (by decide)) (by decide) | exact mr_wS_8 _ _ _ _ _ _ | exact mr_wS_9 _ _ _ _ _ _ | exact mr_wS_10 _ _ _ _ _ _ | exact (mr_wS_ne _ _ _ _ _ _ (by decide)).trans (by assumption) | exact (mr_wS_ne _ _ _ _ _ _ (by decide)).trans (mr_up_same _ _ _) | exact (mr_wS_ne _ _ _ _ _ _ (by decide)).trans (mr_lk (by assumption) (by decide))) rfl ?_
            refine mr_aload_n dX2_scan_100 rfl ?_
            refine mr_get dX2_scan_101 fl_X2_81 (by first | assumption | exact mr_up_same _ _ _ | exact mr_lk (by assumption) (by decide) | exact mr_lk (mr_up_same _ _ _) (by decide) | exact mr_lk (mr_lk (by assumption) (by decide)) (by decide) | exact mr_wS_8 _ _ _ _ _ _ | exact mr_wS_9 _ _ _ _ _ _ | exact mr_wS_10 _ _ _ _ _ _ | exact (mr_wS_ne _ _ _ _ _ _ (by decide)).trans (by assumption) | exact (mr_wS_ne _ _ _ _ _ _ (by decide)).trans (mr_up_same _ _ _) | exact (mr_wS_ne _ _ _ _ _ _ (by decide)).trans (mr_lk (by assumption) (by decide))) rfl ?_
            refine mr_callV (as := [_]) dX2_scan_104 (ok_X5_byteAt l G) ml_X2_164 cl_X5_byteAt cv_X5_byteAt (by decide) rfl rfl (Nat.le_of_ble_eq_true rfl) (by first | assumption | exact mr_up_same _ _ _ | exact mr_lk (by assumption) (by decide) | exact mr_lk (mr_up_same _ _ _) (by decide) | exact mr_lk (mr_lk (by assumption) (by decide)) (by decide) | exact mr_wS_8 _ _ _ _ _ _ | exact mr_wS_9 _ _ _ _ _ _ | exact mr_wS_10 _ _ _ _ _ _ | exact (mr_wS_ne _ _ _ _ _ _ (by decide)).trans (by assumption) | exact (mr_wS_ne _ _ _ _ _ _ (by decide)).trans (mr_up_same _ _ _) | exact (mr_wS_ne _ _ _ _ _ _ (by decide)).trans (mr_lk (by assumption) (by decide))) ?_
            refine ⟨_, _, _, rfl, ⟨(by first | assumption | exact mr_up_same _ _ _ | exact mr_lk (by assumption) (by decide) | exact mr_lk (mr_up_same _ _ _) (by decide) | exact mr_lk (mr_lk (by assumption) (by decide)) (by decide) | exact mr_wS_8 _ _ _ _ _ _ | exact mr_wS_9 _ _ _ _ _ _ | exact mr_wS_10 _ _ _ _ _ _ | exact (mr_wS_ne _ _ _ _ _ _ (by decide)).trans (by assumption) | exact (mr_wS_ne _ _ _ _ _ _ (by decide)).trans (mr_up_same _ _ _) | exact (mr_wS_ne _ _ _ _ _ _ (by decide)).trans (mr_lk (by assumption) (by decide))), (by first | assumption | exact mr_up_same _ _ _ | exact mr_lk (by assumption) (by decide) | exact mr_lk (mr_up_same _ _ _) (by decide) | exact mr_lk (mr_lk (by assumption) (by decide)) (by decide) | exact mr_wS_8 _ _ _ _ _ _ | exact mr_wS_9 _ _ _ _ _ _ | exact mr_wS_10 _ _ _ _ _ _ | exact (mr_wS_ne _ _ _ _ _ _ (by decide)).trans (by assumption) | exact (mr_wS_ne _ _ _ _ _ _ (by decide)).trans (mr_up_same _ _ _) | exact (mr_wS_ne _ _ _ _ _ _ (by decide)).trans (mr_lk (by assumption) (by decide)))⟩, hn0, ⟨by omega, by omega⟩, ?_⟩
            dsimp only [Option.toList_some, Option.toList_none, List.cons_append, List.nil_append]
            refine mr_callS (as := [_]) dX2_scan_107 (ok_X2_isDigit l G) ml_X2_175 cl_X2_isDigit cs_X2_isDigit (by decide) rfl rfl (Nat.le_of_ble_eq_true rfl) ?_
            refine ⟨_, rfl, mr_ba_in _ _ _, ?_, ?_⟩
            · intro y2
              dsimp only [Option.toList_some, Option.toList_none, List.cons_append, List.nil_append]
              refine mr_if_eq (tgt := 120) dX2_scan_110 (by decide) (by omega) (fun h => absurd h (by decide)) (fun _ => ?_)
              refine mr_aload_n dX2_scan_113 rfl ?_
              refine mr_callV (as := []) dX2_scan_114 (ok_X2_scanRun l G) ml_X2_178 cl_X2_scanRun cv_X2_scanRun (by decide) rfl rfl (Nat.le_of_ble_eq_true rfl) (by first | assumption | exact mr_up_same _ _ _ | exact mr_lk (by assumption) (by decide) | exact mr_lk (mr_up_same _ _ _) (by decide) | exact mr_lk (mr_lk (by assumption) (by decide)) (by decide) | exact mr_wS_8 _ _ _ _ _ _ | exact mr_wS_9 _ _ _ _ _ _ | exact mr_wS_10 _ _ _ _ _ _ | exact (mr_wS_ne _ _ _ _ _ _ (by decide)).trans (by assumption) | exact (mr_wS_ne _ _ _ _ _ _ (by decide)).trans (mr_up_same _ _ _) | exact (mr_wS_ne _ _ _ _ _ _ (by decide)).trans (mr_lk (by assumption) (by decide))) ?_
              refine ⟨_, _, _, _, _, _, _, _, _, _, _, _, rfl, mr_up_same _ _ _, ⟨(by first | assumption | exact mr_up_same _ _ _ | exact mr_lk (by assumption) (by decide) | exact mr_lk (mr_up_same _ _ _) (by decide) | exact mr_lk (mr_lk (by assumption) (by decide)) (by decide) | exact mr_wS_8 _ _ _ _ _ _ | exact mr_wS_9 _ _ _ _ _ _ | exact mr_wS_10 _ _ _ _ _ _ | exact (mr_wS_ne _ _ _ _ _ _ (by decide)).trans (by assumption) | exact (mr_wS_ne _ _ _ _ _ _ (by decide)).trans (mr_up_same _ _ _) | exact (mr_wS_ne _ _ _ _ _ _ (by decide)).trans (mr_lk (by assumption) (by decide))), (by first | assumption | exact mr_up_same _ _ _ | exact mr_lk (by assumption) (by decide) | exact mr_lk (mr_up_same _ _ _) (by decide) | exact mr_lk (mr_lk (by assumption) (by decide)) (by decide) | exact mr_wS_8 _ _ _ _ _ _ | exact mr_wS_9 _ _ _ _ _ _ | exact mr_wS_10 _ _ _ _ _ _ | exact (mr_wS_ne _ _ _ _ _ _ (by decide)).trans (by assumption) | exact (mr_wS_ne _ _ _ _ _ _ (by decide)).trans (mr_up_same _ _ _) | exact (mr_wS_ne _ _ _ _ _ _ (by decide)).trans (mr_lk (by assumption) (by decide)))⟩, hn0, ⟨by omega, by omega⟩, (fun q_ r1 r2 => ?_), (fun q_ r1 r2 r3 r4 => ?_), (fun q_ r1 r2 r3 => ?_)⟩
              · rw [mr_up_up]
                dsimp only [Option.toList_some, Option.toList_none, List.cons_append, List.nil_append]
                refine mr_goto (tgt := 155) dX2_scan_117 (by decide) ?_
                refine mr_vret rfl dX2_scan_155 ?_
                first
                  | (exfalso; omega)
                  | exact (hP i ⟨hi.1, hb, hbd, Or.inl (by omega)⟩).1 (by omega) _ rfl
                  | exact (hP i ⟨hi.1, hb, hbd, Or.inr y0⟩).2 (by omega) |>.1 q_ r1 (mr_run_lt r1 (by omega) (by first | exact Or.inl y1 | exact Or.inr y2)) r2
                  | exact (hP i ⟨hi.1, hb, hbd, Or.inr y0⟩).2 (by omega) |>.2.1 q_ r1 r2 r3 r4
                  | exact (hP i ⟨hi.1, hb, hbd, Or.inr y0⟩).2 (by omega) |>.2.2.1 q_ r1 (mr_run_lt r1 (by omega) (by first | exact Or.inl y1 | exact Or.inr y2)) r2 r3
                  | exact (hP i ⟨hi.1, hb, hbd, Or.inr y0⟩).2 (by omega) |>.2.2.2.1 (fun z => z.elim y1 y2) hc_134
                  | exact (hP i ⟨hi.1, hb, hbd, Or.inr y0⟩).2 (by omega) |>.2.2.2.2 (fun z => z.elim y1 y2) hc_134
              · rw [mr_up_up]
                dsimp only [Option.toList_some, Option.toList_none, List.cons_append, List.nil_append]
                refine mr_goto (tgt := 155) dX2_scan_117 (by decide) ?_
                refine mr_vret rfl dX2_scan_155 ?_
                first
                  | (exfalso; omega)
                  | exact (hP i ⟨hi.1, hb, hbd, Or.inl (by omega)⟩).1 (by omega) _ rfl
                  | exact (hP i ⟨hi.1, hb, hbd, Or.inr y0⟩).2 (by omega) |>.1 q_ r1 (mr_run_lt r1 (by omega) (by first | exact Or.inl y1 | exact Or.inr y2)) r2
                  | exact (hP i ⟨hi.1, hb, hbd, Or.inr y0⟩).2 (by omega) |>.2.1 q_ r1 r2 r3 r4
                  | exact (hP i ⟨hi.1, hb, hbd, Or.inr y0⟩).2 (by omega) |>.2.2.1 q_ r1 (mr_run_lt r1 (by omega) (by first | exact Or.inl y1 | exact Or.inr y2)) r2 r3
                  | exact (hP i ⟨hi.1, hb, hbd, Or.inr y0⟩).2 (by omega) |>.2.2.2.1 (fun z => z.elim y1 y2) hc_134
                  | exact (hP i ⟨hi.1, hb, hbd, Or.inr y0⟩).2 (by omega) |>.2.2.2.2 (fun z => z.elim y1 y2) hc_134
              · rw [mr_up_up]
                dsimp only [Option.toList_some, Option.toList_none, List.cons_append, List.nil_append]
                refine mr_goto (tgt := 155) dX2_scan_117 (by decide) ?_
                refine mr_vret rfl dX2_scan_155 ?_
                first
                  | (exfalso; omega)
                  | exact (hP i ⟨hi.1, hb, hbd, Or.inl (by omega)⟩).1 (by omega) _ rfl
                  | exact (hP i ⟨hi.1, hb, hbd, Or.inr y0⟩).2 (by omega) |>.1 q_ r1 (mr_run_lt r1 (by omega) (by first | exact Or.inl y1 | exact Or.inr y2)) r2
                  | exact (hP i ⟨hi.1, hb, hbd, Or.inr y0⟩).2 (by omega) |>.2.1 q_ r1 r2 r3 r4
                  | exact (hP i ⟨hi.1, hb, hbd, Or.inr y0⟩).2 (by omega) |>.2.2.1 q_ r1 (mr_run_lt r1 (by omega) (by first | exact Or.inl y1 | exact Or.inr y2)) r2 r3
                  | exact (hP i ⟨hi.1, hb, hbd, Or.inr y0⟩).2 (by omega) |>.2.2.2.1 (fun z => z.elim y1 y2) hc_134
                  | exact (hP i ⟨hi.1, hb, hbd, Or.inr y0⟩).2 (by omega) |>.2.2.2.2 (fun z => z.elim y1 y2) hc_134
            · intro y2
              dsimp only [Option.toList_some, Option.toList_none, List.cons_append, List.nil_append]
              refine mr_if_eq (tgt := 120) dX2_scan_110 (by decide) (by omega) (fun _ => ?_) (fun h => absurd h (by decide))
              refine mr_aload_n dX2_scan_120 rfl ?_
              refine mr_aload_n dX2_scan_121 rfl ?_
              refine mr_get dX2_scan_122 fl_X2_22 (by first | assumption | exact mr_up_same _ _ _ | exact mr_lk (by assumption) (by decide) | exact mr_lk (mr_up_same _ _ _) (by decide) | exact mr_lk (mr_lk (by assumption) (by decide)) (by decide) | exact mr_wS_8 _ _ _ _ _ _ | exact mr_wS_9 _ _ _ _ _ _ | exact mr_wS_10 _ _ _ _ _ _ | exact (mr_wS_ne _ _ _ _ _ _ (by decide)).trans (by assumption) | exact (mr_wS_ne _ _ _ _ _ _ (by decide)).trans (mr_up_same _ _ _) | exact (mr_wS_ne _ _ _ _ _ _ (by decide)).trans (mr_lk (by assumption) (by decide))) rfl ?_
              refine mr_aload_n dX2_scan_125 rfl ?_
              refine mr_get dX2_scan_126 fl_X2_81 (by first | assumption | exact mr_up_same _ _ _ | exact mr_lk (by assumption) (by decide) | exact mr_lk (mr_up_same _ _ _) (by decide) | exact mr_lk (mr_lk (by assumption) (by decide)) (by decide) | exact mr_wS_8 _ _ _ _ _ _ | exact mr_wS_9 _ _ _ _ _ _ | exact mr_wS_10 _ _ _ _ _ _ | exact (mr_wS_ne _ _ _ _ _ _ (by decide)).trans (by assumption) | exact (mr_wS_ne _ _ _ _ _ _ (by decide)).trans (mr_up_same _ _ _) | exact (mr_wS_ne _ _ _ _ _ _ (by decide)).trans (mr_lk (by assumption) (by decide))) rfl ?_
              refine mr_callV (as := [_]) dX2_scan_129 (ok_X5_byteAt l G) ml_X2_164 cl_X5_byteAt cv_X5_byteAt (by decide) rfl rfl (Nat.le_of_ble_eq_true rfl) (by first | assumption | exact mr_up_same _ _ _ | exact mr_lk (by assumption) (by decide) | exact mr_lk (mr_up_same _ _ _) (by decide) | exact mr_lk (mr_lk (by assumption) (by decide)) (by decide) | exact mr_wS_8 _ _ _ _ _ _ | exact mr_wS_9 _ _ _ _ _ _ | exact mr_wS_10 _ _ _ _ _ _ | exact (mr_wS_ne _ _ _ _ _ _ (by decide)).trans (by assumption) | exact (mr_wS_ne _ _ _ _ _ _ (by decide)).trans (mr_up_same _ _ _) | exact (mr_wS_ne _ _ _ _ _ _ (by decide)).trans (mr_lk (by assumption) (by decide))) ?_
              refine ⟨_, _, _, rfl, ⟨(by first | assumption | exact mr_up_same _ _ _ | exact mr_lk (by assumption) (by decide) | exact mr_lk (mr_up_same _ _ _) (by decide) | exact mr_lk (mr_lk (by assumption) (by decide)) (by decide) | exact mr_wS_8 _ _ _ _ _ _ | exact mr_wS_9 _ _ _ _ _ _ | exact mr_wS_10 _ _ _ _ _ _ | exact (mr_wS_ne _ _ _ _ _ _ (by decide)).trans (by assumption) | exact (mr_wS_ne _ _ _ _ _ _ (by decide)).trans (mr_up_same _ _ _) | exact (mr_wS_ne _ _ _ _ _ _ (by decide)).trans (mr_lk (by assumption) (by decide))), (by first | assumption | exact mr_up_same _ _ _ | exact mr_lk (by assumption) (by decide) | exact mr_lk (mr_up_same _ _ _) (by decide) | exact mr_lk (mr_lk (by assumption) (by decide)) (by decide) | exact mr_wS_8 _ _ _ _ _ _ | exact mr_wS_9 _ _ _ _ _ _ | exact mr_wS_10 _ _ _ _ _ _ | exact (mr_wS_ne _ _ _ _ _ _ (by decide)).trans (by assumption) | exact (mr_wS_ne _ _ _ _ _ _ (by decide)).trans (mr_up_same _ _ _) | exact (mr_wS_ne _ _ _ _ _ _ (by decide)).trans (mr_lk (by assumption) (by decide)))⟩, hn0, ⟨by omega, by omega⟩, ?_⟩
              dsimp only [Option.toList_some, Option.toList_none, List.cons_append, List.nil_append]
              refine mr_bipush dX2_scan_132 rfl ?_
              refine mr_icmp_ne (tgt := 141) dX2_scan_134 (by decide) hba (by decide) (fun hc_134 => ?_) (fun hc_134 => ?_)
              · refine mr_iconst dX2_scan_141 ?_
                refine mr_put dX2_scan_142 fl_X2_55 pf_X2_5 rfl rfl (by first | assumption | exact mr_up_same _ _ _ | exact mr_lk (by assumption) (by decide) | exact mr_lk (mr_up_same _ _ _) (by decide) | exact mr_lk (mr_lk (by assumption) (by decide)) (by decide) | exact mr_wS_8 _ _ _ _ _ _ | exact mr_wS_9 _ _ _ _ _ _ | exact mr_wS_10 _ _ _ _ _ _ | exact (mr_wS_ne _ _ _ _ _ _ (by decide)).trans (by assumption) | exact (mr_wS_ne _ _ _ _ _ _ (by decide)).trans (mr_up_same _ _ _) | exact (mr_wS_ne _ _ _ _ _ _ (by decide)).trans (mr_lk (by assumption) (by decide))) (Nat.le_of_ble_eq_true rfl) ?_
                rw [mr_up_up]
                refine mr_aload_n dX2_scan_145 rfl ?_
                refine mr_dup dX2_scan_146 rfl ?_
                refine mr_get dX2_scan_147 fl_X2_75 (by first | assumption | exact mr_up_same _ _ _ | exact mr_lk (by assumption) (by decide) | exact mr_lk (mr_up_same _ _ _) (by decide) | exact mr_lk (mr_lk (by assumption) (by decide)) (by decide) | exact mr_wS_8 _ _ _ _ _ _ | exact mr_wS_9 _ _ _ _ _ _ | exact mr_wS_10 _ _ _ _ _ _ | exact (mr_wS_ne _ _ _ _ _ _ (by decide)).trans (by assumption) | exact (mr_wS_ne _ _ _ _ _ _ (by decide)).trans (mr_up_same _ _ _) | exact (mr_wS_ne _ _ _ _ _ _ (by decide)).trans (mr_lk (by assumption) (by decide))) rfl ?_
                refine mr_iconst dX2_scan_150 ?_
                refine mr_iadd dX2_scan_151 ?_
                refine mr_put dX2_scan_152 fl_X2_75 pf_X2_7 rfl rfl (by first | assumption | exact mr_up_same _ _ _ | exact mr_lk (by assumption) (by decide) | exact mr_lk (mr_up_same _ _ _) (by decide) | exact mr_lk (mr_lk (by assumption) (by decide)) (by decide) | exact mr_wS_8 _ _ _ _ _ _ | exact mr_wS_9 _ _ _ _ _ _ | exact mr_wS_10 _ _ _ _ _ _ | exact (mr_wS_ne _ _ _ _ _ _ (by decide)).trans (by assumption) | exact (mr_wS_ne _ _ _ _ _ _ (by decide)).trans (mr_up_same _ _ _) | exact (mr_wS_ne _ _ _ _ _ _ (by decide)).trans (mr_lk (by assumption) (by decide))) (Nat.le_of_ble_eq_true rfl) ?_
                rw [mr_up_up]
                refine mr_vret rfl dX2_scan_155 ?_
                first
                  | (exfalso; omega)
                  | exact (hP i ⟨hi.1, hb, hbd, Or.inl (by omega)⟩).1 (by omega) _ rfl
                  | exact (hP i ⟨hi.1, hb, hbd, Or.inr y0⟩).2 (by omega) |>.1 q_ r1 (mr_run_lt r1 (by omega) (by first | exact Or.inl y1 | exact Or.inr y2)) r2
                  | exact (hP i ⟨hi.1, hb, hbd, Or.inr y0⟩).2 (by omega) |>.2.1 q_ r1 r2 r3 r4
                  | exact (hP i ⟨hi.1, hb, hbd, Or.inr y0⟩).2 (by omega) |>.2.2.1 q_ r1 (mr_run_lt r1 (by omega) (by first | exact Or.inl y1 | exact Or.inr y2)) r2 r3
                  | exact (hP i ⟨hi.1, hb, hbd, Or.inr y0⟩).2 (by omega) |>.2.2.2.1 (fun z => z.elim y1 y2) hc_134
                  | exact (hP i ⟨hi.1, hb, hbd, Or.inr y0⟩).2 (by omega) |>.2.2.2.2 (fun z => z.elim y1 y2) hc_134
              · refine mr_iconst dX2_scan_137 ?_
                refine mr_goto (tgt := 142) dX2_scan_138 (by decide) ?_
                refine mr_put dX2_scan_142 fl_X2_55 pf_X2_5 rfl rfl (by first | assumption | exact mr_up_same _ _ _ | exact mr_lk (by assumption) (by decide) | exact mr_lk (mr_up_same _ _ _) (by decide) | exact mr_lk (mr_lk (by assumption) (by decide)) (by decide) | exact mr_wS_8 _ _ _ _ _ _ | exact mr_wS_9 _ _ _ _ _ _ | exact mr_wS_10 _ _ _ _ _ _ | exact (mr_wS_ne _ _ _ _ _ _ (by decide)).trans (by assumption) | exact (mr_wS_ne _ _ _ _ _ _ (by decide)).trans (mr_up_same _ _ _) | exact (mr_wS_ne _ _ _ _ _ _ (by decide)).trans (mr_lk (by assumption) (by decide))) (Nat.le_of_ble_eq_true rfl) ?_
                rw [mr_up_up]
                refine mr_aload_n dX2_scan_145 rfl ?_
                refine mr_dup dX2_scan_146 rfl ?_
                refine mr_get dX2_scan_147 fl_X2_75 (by first | assumption | exact mr_up_same _ _ _ | exact mr_lk (by assumption) (by decide) | exact mr_lk (mr_up_same _ _ _) (by decide) | exact mr_lk (mr_lk (by assumption) (by decide)) (by decide) | exact mr_wS_8 _ _ _ _ _ _ | exact mr_wS_9 _ _ _ _ _ _ | exact mr_wS_10 _ _ _ _ _ _ | exact (mr_wS_ne _ _ _ _ _ _ (by decide)).trans (by assumption) | exact (mr_wS_ne _ _ _ _ _ _ (by decide)).trans (mr_up_same _ _ _) | exact (mr_wS_ne _ _ _ _ _ _ (by decide)).trans (mr_lk (by assumption) (by decide))) rfl ?_
                refine mr_iconst dX2_scan_150 ?_
                refine mr_iadd dX2_scan_151 ?_
                refine mr_put dX2_scan_152 fl_X2_75 pf_X2_7 rfl rfl (by first | assumption | exact mr_up_same _ _ _ | exact mr_lk (by assumption) (by decide) | exact mr_lk (mr_up_same _ _ _) (by decide) | exact mr_lk (mr_lk (by assumption) (by decide)) (by decide) | exact mr_wS_8 _ _ _ _ _ _ | exact mr_wS_9 _ _ _ _ _ _ | exact mr_wS_10 _ _ _ _ _ _ | exact (mr_wS_ne _ _ _ _ _ _ (by decide)).trans (by assumption) | exact (mr_wS_ne _ _ _ _ _ _ (by decide)).trans (mr_up_same _ _ _) | exact (mr_wS_ne _ _ _ _ _ _ (by decide)).trans (mr_lk (by assumption) (by decide))) (Nat.le_of_ble_eq_true rfl) ?_
                rw [mr_up_up]
                refine mr_vret rfl dX2_scan_155 ?_
                first
                  | (exfalso; omega)
                  | exact (hP i ⟨hi.1, hb, hbd, Or.inl (by omega)⟩).1 (by omega) _ rfl
                  | exact (hP i ⟨hi.1, hb, hbd, Or.inr y0⟩).2 (by omega) |>.1 q_ r1 (mr_run_lt r1 (by omega) (by first | exact Or.inl y1 | exact Or.inr y2)) r2
                  | exact (hP i ⟨hi.1, hb, hbd, Or.inr y0⟩).2 (by omega) |>.2.1 q_ r1 r2 r3 r4
                  | exact (hP i ⟨hi.1, hb, hbd, Or.inr y0⟩).2 (by omega) |>.2.2.1 q_ r1 (mr_run_lt r1 (by omega) (by first | exact Or.inl y1 | exact Or.inr y2)) r2 r3
                  | exact (hP i ⟨hi.1, hb, hbd, Or.inr y0⟩).2 (by omega) |>.2.2.2.1 (fun z => z.elim y1 y2) hc_134
                  | exact (hP i ⟨hi.1, hb, hbd, Or.inr y0⟩).2 (by omega) |>.2.2.2.2 (fun z => z.elim y1 y2) hc_134
        · refine mr_aload_n dX2_scan_60 rfl ?_
          refine mr_iconst dX2_scan_61 ?_
          refine mr_put dX2_scan_62 fl_X2_55 pf_X2_5 rfl rfl (by first | assumption | exact mr_up_same _ _ _ | exact mr_lk (by assumption) (by decide) | exact mr_lk (mr_up_same _ _ _) (by decide) | exact mr_lk (mr_lk (by assumption) (by decide)) (by decide) | exact mr_wS_8 _ _ _ _ _ _ | exact mr_wS_9 _ _ _ _ _ _ | exact mr_wS_10 _ _ _ _ _ _ | exact (mr_wS_ne _ _ _ _ _ _ (by decide)).trans (by assumption) | exact (mr_wS_ne _ _ _ _ _ _ (by decide)).trans (mr_up_same _ _ _) | exact (mr_wS_ne _ _ _ _ _ _ (by decide)).trans (mr_lk (by assumption) (by decide))) (Nat.le_of_ble_eq_true rfl) ?_
          rw [mr_up_up]
          refine mr_aload_n dX2_scan_65 rfl ?_
          refine mr_iload_n dX2_scan_66 rfl ?_
          refine mr_put dX2_scan_67 fl_X2_81 pf_X2_6 rfl rfl (by first | assumption | exact mr_up_same _ _ _ | exact mr_lk (by assumption) (by decide) | exact mr_lk (mr_up_same _ _ _) (by decide) | exact mr_lk (mr_lk (by assumption) (by decide)) (by decide) | exact mr_wS_8 _ _ _ _ _ _ | exact mr_wS_9 _ _ _ _ _ _ | exact mr_wS_10 _ _ _ _ _ _ | exact (mr_wS_ne _ _ _ _ _ _ (by decide)).trans (by assumption) | exact (mr_wS_ne _ _ _ _ _ _ (by decide)).trans (mr_up_same _ _ _) | exact (mr_wS_ne _ _ _ _ _ _ (by decide)).trans (mr_lk (by assumption) (by decide))) (Nat.le_of_ble_eq_true rfl) ?_
          rw [mr_up_up]
          refine mr_vret rfl dX2_scan_70 ?_
          first
            | (exfalso; omega)
            | exact (hP i ⟨hi.1, hb, hbd, Or.inl (by omega)⟩).1 (by omega) _ rfl
            | exact (hP i ⟨hi.1, hb, hbd, Or.inr y0⟩).2 (by omega) |>.1 q_ r1 (mr_run_lt r1 (by omega) (by first | exact Or.inl y1 | exact Or.inr y2)) r2
            | exact (hP i ⟨hi.1, hb, hbd, Or.inr y0⟩).2 (by omega) |>.2.1 q_ r1 r2 r3 r4
            | exact (hP i ⟨hi.1, hb, hbd, Or.inr y0⟩).2 (by omega) |>.2.2.1 q_ r1 (mr_run_lt r1 (by omega) (by first | exact Or.inl y1 | exact Or.inr y2)) r2 r3
            | exact (hP i ⟨hi.1, hb, hbd, Or.inr y0⟩).2 (by omega) |>.2.2.2.1 (fun z => z.elim y1 y2) hc_134
            | exact (hP i ⟨hi.1, hb, hbd, Or.inr y0⟩).2 (by omega) |>.2.2.2.2 (fun z => z.elim y1 y2) hc_134
def T_X2_scan (a : List mr_AV) (w : mr_Wd) (Po : Option mr_AV → mr_Wd → Prop) : Prop := ∃ (v k s n op sl ln md fk fp n0 : Int) (g : Nat → Int), a = [vR 11 0] ∧ w 11 = eRD v k s n op sl ln md fk fp ∧ mr_TP w n0 g ∧ (0 ≤ n0 ∧ n0 ≤ 540) ∧ (0 ≤ n ∧ n ≤ n0) ∧ mr_sct n0 g w v k op sl ln md fk fp n (Po none)
set_option maxHeartbeats 4000000 in
set_option maxRecDepth 20000 in
theorem ok_X2_scan (l : Launch) (G : mr_G) : mr_Ok l G yX2_scan cX2_scan 2 none 2 44 T_X2_scan := by
  refine mr_Ok.of (by decide +kernel) ?_
  rintro a w Po ⟨v, k, s, n, op, sl, ln, md, fk, fp, n0, g, rfl, h11, ⟨h1, h2⟩, hn0, hn, hP⟩
  refine ⟨Nat.le_of_ble_eq_true rfl, ?_⟩
  show mr_J l G RX2 cX2_scan 2 none 2 44 Po 0 [some (vR 11 0), none] [] w
  refine mr_aload_n dX2_scan_0 rfl ?_
  refine mr_get dX2_scan_1 fl_X2_22 (by first | assumption | exact mr_up_same _ _ _ | exact mr_lk (by assumption) (by decide) | exact mr_lk (mr_up_same _ _ _) (by decide) | exact mr_lk (mr_lk (by assumption) (by decide)) (by decide) | exact mr_wS_8 _ _ _ _ _ _ | exact mr_wS_9 _ _ _ _ _ _ | exact mr_wS_10 _ _ _ _ _ _ | exact (mr_wS_ne _ _ _ _ _ _ (by decide)).trans (by assumption) | exact (mr_wS_ne _ _ _ _ _ _ (by decide)).trans (mr_up_same _ _ _) | exact (mr_wS_ne _ _ _ _ _ _ (by decide)).trans (mr_lk (by assumption) (by decide))) rfl ?_
  refine mr_callV (as := []) dX2_scan_4 (ok_X5_length l G) ml_X2_61 cl_X5_length cv_X5_length (by decide) rfl rfl (Nat.le_of_ble_eq_true rfl) (by first | assumption | exact mr_up_same _ _ _ | exact mr_lk (by assumption) (by decide) | exact mr_lk (mr_up_same _ _ _) (by decide) | exact mr_lk (mr_lk (by assumption) (by decide)) (by decide) | exact mr_wS_8 _ _ _ _ _ _ | exact mr_wS_9 _ _ _ _ _ _ | exact mr_wS_10 _ _ _ _ _ _ | exact (mr_wS_ne _ _ _ _ _ _ (by decide)).trans (by assumption) | exact (mr_wS_ne _ _ _ _ _ _ (by decide)).trans (mr_up_same _ _ _) | exact (mr_wS_ne _ _ _ _ _ _ (by decide)).trans (mr_lk (by assumption) (by decide))) ?_
  refine ⟨_, _, rfl, ⟨(by first | assumption | exact mr_up_same _ _ _ | exact mr_lk (by assumption) (by decide) | exact mr_lk (mr_up_same _ _ _) (by decide) | exact mr_lk (mr_lk (by assumption) (by decide)) (by decide) | exact mr_wS_8 _ _ _ _ _ _ | exact mr_wS_9 _ _ _ _ _ _ | exact mr_wS_10 _ _ _ _ _ _ | exact (mr_wS_ne _ _ _ _ _ _ (by decide)).trans (by assumption) | exact (mr_wS_ne _ _ _ _ _ _ (by decide)).trans (mr_up_same _ _ _) | exact (mr_wS_ne _ _ _ _ _ _ (by decide)).trans (mr_lk (by assumption) (by decide))), (by first | assumption | exact mr_up_same _ _ _ | exact mr_lk (by assumption) (by decide) | exact mr_lk (mr_up_same _ _ _) (by decide) | exact mr_lk (mr_lk (by assumption) (by decide)) (by decide) | exact mr_wS_8 _ _ _ _ _ _ | exact mr_wS_9 _ _ _ _ _ _ | exact mr_wS_10 _ _ _ _ _ _ | exact (mr_wS_ne _ _ _ _ _ _ (by decide)).trans (by assumption) | exact (mr_wS_ne _ _ _ _ _ _ (by decide)).trans (mr_up_same _ _ _) | exact (mr_wS_ne _ _ _ _ _ _ (by decide)).trans (mr_lk (by assumption) (by decide)))⟩, ?_⟩
  dsimp only [Option.toList_some, Option.toList_none, List.cons_append, List.nil_append]
  refine mr_sipush dX2_scan_7 rfl ?_
  refine mr_callS (as := [_, _]) dX2_scan_10 (ok_J9_min_7cf53 l G) ml_X2_158 cl_J9_min_7cf53 cs_J9_min_7cf53 (by decide) rfl rfl (Nat.le_of_ble_eq_true rfl) ?_
  refine ⟨_, _, rfl, (by omega), (by omega), ?_⟩
  dsimp only [Option.toList_some, Option.toList_none, List.cons_append, List.nil_append]
  refine mr_istore_n dX2_scan_13 rfl (by decide) ?_
  have h9 := lp_X2_scan l G (w := w) (v := v) (k := k) (s := s) (op := op) (sl := sl) (ln := ln) (md := md) (fk := fk) (fp := fp) h1 h2 hn0 hn hP 540 n ⟨Int.le_refl n, by omega⟩ (by omega) (fun x g1 g2 => by omega) (fun z => by omega)
  rw [mr_up_self h11] at h9
  exact h9
