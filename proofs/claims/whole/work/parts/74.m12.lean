/-- how often v can be parted by p -/
def mr_lg (p : Int) : Nat → Int → Int
  | 0, _ => 0
  | k + 1, v => if 1 < v then 1 + mr_lg p k (v / p) else 0
def mr_prm (M p : Int) : Prop := M % p = 0 ∧ ∀ q : Int, 2 ≤ q → q < p → p % q ≠ 0
/-- how many multiples -/
def mr_mtc (M : Int) (S : Int → Prop) (u : Int) (c : Nat) : Prop := ∃ s2 l2 : Nat → Int, mr_Lp M s2 l2 c (fun r : Int => ∃ x : Int, (0 ≤ x ∧ x < M * M * M) ∧ S x ∧ r = mr_of M x u)
theorem mr_mtc_uq {M : Int} {S : Int → Prop} {u : Int} {c c' : Nat} (h : mr_mtc M S u c) (h' : mr_mtc M S u c') : c = c' := by
  obtain ⟨s2, l2, h⟩ := h
  obtain ⟨s2', l2', h'⟩ := h'
  exact mr_En_eq (mr_Lp_En h) (mr_Lp_En h') (fun r _ => Iff.rfl)
theorem mr_mtc_of {M : Int} {S : Int → Prop} {u : Int} {st li s2 l2 : Nat → Int} {n c : Nat} (h : mr_Lp M st li n S) (h2 : mr_Lp M s2 l2 c (fun r : Int => ∃ i : Nat, i < n ∧ r = mr_of M (li i) u)) : mr_mtc M S u c := ⟨s2, l2, mr_Lp_cg h2 (fun r g1 g2 => ⟨fun ⟨i, hi, e⟩ => ⟨_, (h.2.2.1 i hi).1, (h.2.2.1 i hi).2, e⟩, fun ⟨x, hx, hS, e⟩ => by
  obtain ⟨i, hi, ei⟩ := h.2.2.2.1 x.toNat (by omega) (by rw [Int.toNat_of_nonneg hx.1]; exact hS)
  rw [Int.toNat_of_nonneg hx.1] at ei
  exact ⟨i, hi, by rw [ei]; exact e⟩⟩)⟩
theorem mr_mtc_pos {M : Int} (hM : 0 < M) {L : mr_V → Prop} (hL : mr_Li M L) {u : Int} {c : Nat} (h : mr_mtc M (mr_S M L) u c) : 1 ≤ c := by
  have h3 : 0 < M * M * M := Int.mul_pos (Int.mul_pos hM hM) hM
  obtain ⟨s2, l2, h⟩ := h
  have s0 : mr_S M L 0 := mr_Li_mod hL (x := fun _ => 0) (fun j _ => by rw [Int.sub_zero]; rw [mr_dec_z]; exact mr_dvd_0 M) hL.1.2.1
  have hb := mr_of_bd hM 0 u
  obtain ⟨k, hk, -⟩ := h.2.2.2.1 (mr_of M 0 u).toNat (by omega) ⟨0, ⟨Int.le_refl 0, h3⟩, s0, by rw [Int.toNat_of_nonneg hb.1]⟩
  omega
/-- the most of the primes below P -/
def mr_fwp (M : Int) (n : Nat) (S : Int → Prop) (P m : Int) : Prop := (0 ≤ m ∧ m ≤ 20) ∧ (∀ (p : Int) (c : Nat), 2 ≤ p → p < P → mr_prm M p → mr_mtc M S p c → mr_lg p 20 ((n : Int) / c) ≤ m) ∧ (m = 0 ∨ ∃ (p : Int) (c : Nat), 2 ≤ p ∧ p < P ∧ mr_prm M p ∧ mr_mtc M S p c ∧ m = mr_lg p 20 ((n : Int) / c))
theorem mr_lg_bd (p : Int) : ∀ (k : Nat) (v : Int), 0 ≤ mr_lg p k v ∧ mr_lg p k v ≤ k
  | 0, _ => ⟨Int.le_refl 0, Int.le_refl 0⟩
  | k + 1, v => by
    have := mr_lg_bd p k (v / p)
    unfold mr_lg
    split <;> omega
theorem mr_fwp_no {M : Int} {n : Nat} {S : Int → Prop} {p m : Int} (h : mr_fwp M n S p m) (hp : ¬ mr_prm M p) : mr_fwp M n S (p + 1) m := by
  refine ⟨h.1, fun q c g1 g2 g3 g4 => ?_, h.2.2.imp id (fun ⟨q, c, g1, g2, g3, g4, g5⟩ => ⟨q, c, g1, by omega, g3, g4, g5⟩)⟩
  by_cases e : q = p
  · subst e; exact absurd g3 hp
  · exact h.2.1 q c g1 (by omega) g3 g4
theorem mr_fwp_yes {M : Int} {n : Nat} {S : Int → Prop} {p m : Int} {c : Nat} (h : mr_fwp M n S p m) (hp2 : 2 ≤ p) (hp : mr_prm M p) (hc : mr_mtc M S p c) {m' : Int} (hm : m' = if m < mr_lg p 20 ((n : Int) / c) then mr_lg p 20 ((n : Int) / c) else m) : mr_fwp M n S (p + 1) m' := by
  have hb := mr_lg_bd p 20 ((n : Int) / c)
  have h1 := h.1
  by_cases e : m < mr_lg p 20 ((n : Int) / c)
  · rw [if_pos e] at hm
    subst hm
    refine ⟨⟨by omega, by omega⟩, fun q c' g1 g2 g3 g4 => ?_, Or.inr ⟨p, c, hp2, by omega, hp, hc, rfl⟩⟩
    by_cases eq : q = p
    · subst eq; rw [mr_mtc_uq g4 hc]; exact Int.le_refl _
    · have := h.2.1 q c' g1 (by omega) g3 g4; omega
  · rw [if_neg e] at hm
    subst hm
    refine ⟨h1, fun q c' g1 g2 g3 g4 => ?_, h.2.2.imp id (fun ⟨q, c, g1, g2, g3, g4, g5⟩ => ⟨q, c, g1, by omega, g3, g4, g5⟩)⟩
    by_cases eq : q = p
    · subst eq; rw [mr_mtc_uq g4 hc]; omega
    · exact h.2.1 q c' g1 (by omega) g3 g4
set_option maxHeartbeats 4000000 in
set_option maxRecDepth 20000 in
theorem lp1_X7_few (l : Launch) (G : mr_G) {Po : Option mr_AV → mr_Wd → Prop} {w : mr_Wd} {t m p M : Int} {n0 : Nat} (hp : 2 ≤ p ∧ p ≤ 30) (hK : ∀ pr : Int, (pr = 0 ∨ pr = 1) → (pr = 1 ↔ mr_prm M p) → mr_J l G RX7 cX7_few 8 (some .int) 4 94 Po 88 [some (vR 18 0), some (vI t), some (vI (n0 : Int)), some (vI m), some (vI p), some (vI pr), none, none] [] w) : ∀ (n : Nat) (q pr : Int), 2 ≤ q → q + n = p → (pr = 0 ∨ pr = 1) → (pr = 1 ↔ (M % p = 0 ∧ ∀ q' : Int, 2 ≤ q' → q' < q → p % q' ≠ 0)) → mr_J l G RX7 cX7_few 8 (some .int) 4 94 Po 55 [some (vR 18 0), some (vI t), some (vI (n0 : Int)), some (vI m), some (vI p), some (vI pr), some (vI q), none] [] w := by
  intro n
  induction n with
  | zero =>
    intro q pr h0 hn h01 hpr
    have e : q = p := by omega
    subst e
    refine mr_iload dX7_few_55 rfl ?_
    refine mr_iload dX7_few_57 rfl ?_
    refine mr_icmp_ge (tgt := 88) dX7_few_59 (by decide) ⟨by omega, by omega⟩ ⟨by omega, by omega⟩ (fun hc_59 => ?_) (fun hc_59 => absurd hc_59 (by omega))
    refine mr_weak [some (vR 18 0), some (vI t), some (vI (n0 : Int)), some (vI m), some (vI q), some (vI pr), none, none] ⟨rfl, rfl, rfl, rfl, rfl, rfl, trivial⟩ ?_
    exact hK pr h01 hpr
  | succ n ih =>
    intro q pr h0 hn h01 hpr
    have hrm := mr_em (show 0 < q by omega) p
    refine mr_iload dX7_few_55 rfl ?_
    refine mr_iload dX7_few_57 rfl ?_
    refine mr_icmp_ge (tgt := 88) dX7_few_59 (by decide) ⟨by omega, by omega⟩ ⟨by omega, by omega⟩ (fun hc_59 => absurd hc_59 (by omega)) (fun hc_59 => ?_)
    refine mr_iload dX7_few_62 rfl ?_
    refine mr_if_eq (tgt := 79) dX7_few_64 (by decide) ⟨by omega, by omega⟩ (fun hc_64 => ?_) (fun hc_64 => ?_)
    · refine mr_iconst dX7_few_79 ?_
      refine mr_istore dX7_few_80 rfl (by decide) ?_
      refine mr_iinc dX7_few_82 rfl (by decide) rfl ?_
      refine mr_goto (tgt := 55) dX7_few_85 (by decide) ?_
      first
        | exact ih (q + 1) 1 (by omega) (by omega) (Or.inr rfl) ⟨fun _ => ⟨(hpr.mp (by omega)).1, fun q' g1 g2 => by
            by_cases e : q' = q
            · subst e; exact hc_72
            · exact (hpr.mp (by omega)).2 q' g1 (by omega)⟩, fun _ => rfl⟩
        | exact ih (q + 1) 0 (by omega) (by omega) (Or.inl rfl) ⟨fun z => absurd z (by decide), fun z => absurd (hpr.mpr ⟨z.1, fun q' g1 g2 => z.2 q' g1 (by omega)⟩) (by omega)⟩
        | exact ih (q + 1) 0 (by omega) (by omega) (Or.inl rfl) ⟨fun z => absurd z (by decide), fun z => absurd hc_72 (z.2 q (by omega) (by omega))⟩
    · refine mr_iload dX7_few_67 rfl ?_
      refine mr_iload dX7_few_69 rfl ?_
      refine mr_iremp dX7_few_71 (by omega) (by omega) (by omega) (by omega) ?_
      refine mr_if_eq (tgt := 79) dX7_few_72 (by decide) ⟨by omega, by omega⟩ (fun hc_72 => ?_) (fun hc_72 => ?_)
      · refine mr_iconst dX7_few_79 ?_
        refine mr_istore dX7_few_80 rfl (by decide) ?_
        refine mr_iinc dX7_few_82 rfl (by decide) rfl ?_
        refine mr_goto (tgt := 55) dX7_few_85 (by decide) ?_
        first
          | exact ih (q + 1) 1 (by omega) (by omega) (Or.inr rfl) ⟨fun _ => ⟨(hpr.mp (by omega)).1, fun q' g1 g2 => by
              by_cases e : q' = q
              · subst e; exact hc_72
              · exact (hpr.mp (by omega)).2 q' g1 (by omega)⟩, fun _ => rfl⟩
          | exact ih (q + 1) 0 (by omega) (by omega) (Or.inl rfl) ⟨fun z => absurd z (by decide), fun z => absurd (hpr.mpr ⟨z.1, fun q' g1 g2 => z.2 q' g1 (by omega)⟩) (by omega)⟩
          | exact ih (q + 1) 0 (by omega) (by omega) (Or.inl rfl) ⟨fun z => absurd z (by decide), fun z => absurd hc_72 (z.2 q (by omega) (by omega))⟩
      · refine mr_iconst dX7_few_75 ?_
        refine mr_goto (tgt := 80) dX7_few_76 (by decide) ?_
        refine mr_istore dX7_few_80 rfl (by decide) ?_
        refine mr_iinc dX7_few_82 rfl (by decide) rfl ?_
        refine mr_goto (tgt := 55) dX7_few_85 (by decide) ?_
        first
          | exact ih (q + 1) 1 (by omega) (by omega) (Or.inr rfl) ⟨fun _ => ⟨(hpr.mp (by omega)).1, fun q' g1 g2 => by
              by_cases e : q' = q
              · subst e; exact hc_72
              · exact (hpr.mp (by omega)).2 q' g1 (by omega)⟩, fun _ => rfl⟩
          | exact ih (q + 1) 0 (by omega) (by omega) (Or.inl rfl) ⟨fun z => absurd z (by decide), fun z => absurd (hpr.mpr ⟨z.1, fun q' g1 g2 => z.2 q' g1 (by omega)⟩) (by omega)⟩
          | exact ih (q + 1) 0 (by omega) (by omega) (Or.inl rfl) ⟨fun z => absurd z (by decide), fun z => absurd hc_72 (z.2 q (by omega) (by omega))⟩
theorem mr_lg_half {p v : Int} (hp : 2 ≤ p) (hv : 1 < v) {k : Nat} (hk : v < 2 ^ (k + 1)) : 0 ≤ v / p ∧ v / p < 2 ^ k := by
  refine ⟨Int.ediv_nonneg (by omega) (by omega), Int.ediv_lt_of_lt_mul (by omega) ?_⟩
  have h1 : (2 : Int) ^ k * 2 ≤ 2 ^ k * p := Int.mul_le_mul_of_nonneg_left hp (Int.le_of_lt (Int.pow_pos (by decide)))
  have h2 : (2 : Int) ^ (k + 1) = 2 ^ k * 2 := Int.pow_succ 2 k
  omega
set_option maxHeartbeats 4000000 in
set_option maxRecDepth 20000 in
theorem lp2_X7_few (l : Launch) (G : mr_G) {Po : Option mr_AV → mr_Wd → Prop} {w : mr_Wd} {t m p pr tot : Int} {n0 : Nat} (hp : 2 ≤ p ∧ p ≤ 30) (hK : mr_J l G RX7 cX7_few 8 (some .int) 4 94 Po 128 [some (vR 18 0), some (vI t), some (vI (n0 : Int)), some (vI m), some (vI p), some (vI pr), some (vI tot), none] [] w) : ∀ (n : Nat) (c v : Int), n ≤ 20 → 0 ≤ c → 0 ≤ v → v ≤ 27000 → v < 2 ^ n → c + mr_lg p n v = tot → mr_J l G RX7 cX7_few 8 (some .int) 4 94 Po 109 [some (vR 18 0), some (vI t), some (vI (n0 : Int)), some (vI m), some (vI p), some (vI pr), some (vI c), some (vI v)] [] w := by
  intro n
  induction n with
  | zero =>
    intro c v hn hc h0 hv h2 ht
    have h2' : v < 1 := h2
    have ht' : c + 0 = tot := ht
    refine mr_iload dX7_few_109 rfl ?_
    refine mr_iconst dX7_few_111 ?_
    refine mr_icmp_le (tgt := 128) dX7_few_112 (by decide) ⟨by omega, by omega⟩ (by decide) (fun hc_112 => ?_) (fun hc_112 => absurd hc_112 (by omega))
    refine mr_weak [some (vR 18 0), some (vI t), some (vI (n0 : Int)), some (vI m), some (vI p), some (vI pr), some (vI tot), none] ⟨rfl, rfl, rfl, rfl, rfl, rfl, by rw [← ht', Int.add_zero], trivial⟩ ?_
    exact hK
  | succ n ih =>
    intro c v hn hc h0 hv h2 ht
    refine mr_iload dX7_few_109 rfl ?_
    refine mr_iconst dX7_few_111 ?_
    refine mr_icmp_le (tgt := 128) dX7_few_112 (by decide) ⟨by omega, by omega⟩ (by decide) (fun hc_112 => ?_) (fun hc_112 => ?_)
    · have e : mr_lg p (n + 1) v = 0 := if_neg (by omega)
      have ht' : c = tot := by omega
      refine mr_weak [some (vR 18 0), some (vI t), some (vI (n0 : Int)), some (vI m), some (vI p), some (vI pr), some (vI tot), none] ⟨rfl, rfl, rfl, rfl, rfl, rfl, by rw [ht'], trivial⟩ ?_
      exact hK
    · refine mr_iinc dX7_few_115 rfl (by decide) rfl ?_
      refine mr_iload dX7_few_118 rfl ?_
      refine mr_iload dX7_few_120 rfl ?_
      refine mr_idivp dX7_few_122 (by omega) (by omega) (by omega) (by omega) ?_
      refine mr_istore dX7_few_123 rfl (by decide) ?_
      refine mr_goto (tgt := 109) dX7_few_125 (by decide) ?_
      have hh := mr_lg_half hp.1 hc_112 h2
      have hd := mr_dvb h0 (show 0 < p by omega)
      have e : mr_lg p (n + 1) v = 1 + mr_lg p n (v / p) := if_pos hc_112
      exact ih (c + 1) (v / p) (by omega) (by omega) (by omega) (by omega) hh.2 (by omega)
set_option maxHeartbeats 4000000 in
set_option maxRecDepth 20000 in
theorem lp3_X7_few (l : Launch) (G : mr_G) {Po : Option mr_AV → mr_Wd → Prop} {w0 : mr_Wd} {th tp sz zo fr kd nb ft pl wd sm md li sd : Int} {T N R K Sn ik s1 s2 ls : Nat → Int} {t : Int} {n0 : Nat} {L : mr_V → Prop} (hMM : 1 ≤ N 0 ∧ N 0 ≤ 30) (hL : mr_Li (N 0) L) (hp0 : mr_Lp (N 0) s1 ls n0 (mr_S (N 0) L)) (hP : ∀ (w' : mr_Wd) (s2' : Nat → Int) (m : Int), mr_fwp (N 0) n0 (mr_S (N 0) L) (N 0 + 1) m → mr_MW w' th tp sz zo fr kd nb ft pl wd sm md ((n0 : Int)) sd T N R K Sn ik s1 (s2') ls → mr_FM w0 w' → Po (some (vI m)) w') : ∀ (n : Nat) (p m : Int) (s2 : Nat → Int) (w : mr_Wd), 2 ≤ p → p + n = max 2 (N 0 + 1) → mr_fwp (N 0) n0 (mr_S (N 0) L) p m → mr_MW w th tp sz zo fr kd nb ft pl wd sm md ((n0 : Int)) sd T N R K Sn ik s1 s2 ls → mr_FM w0 w → mr_J l G RX7 cX7_few 8 (some .int) 4 94 Po 26 [some (vR 18 0), some (vI t), some (vI (n0 : Int)), some (vI m), some (vI p), none, none, none] [] w := by
  intro n
  have hm3 := mr_m3 hMM
  have hnn := mr_Lp_le (by omega) hp0
  induction n with
  | zero =>
    intro p m s2 w h0 hn hm hM hFr
    have hmb := hm.1
    obtain ⟨h18, h19, h20, h21, h22, h23, h24, h25, h26, h27, hs1, hs2, hik⟩ := id hM
    have hm' : mr_fwp (N 0) n0 (mr_S (N 0) L) (N 0 + 1) m := by
      refine ⟨hm.1, fun q c g1 g2 g3 g4 => hm.2.1 q c g1 (by omega) g3 g4, hm.2.2.imp id (fun ⟨q, c, g1, g2, g3, g4, g5⟩ => ⟨q, c, g1, ?_, g3, g4, g5⟩)⟩
      rcases (show p = N 0 + 1 ∨ p = 2 by omega) with e | e <;> omega
    refine mr_iload dX7_few_26 rfl ?_
    refine mr_aload_n dX7_few_28 rfl ?_
    refine mr_callV (as := []) dX7_few_29 (ok_X7_by l G) ml_X7_195 cl_X7_by cv_X7_by (by decide) rfl rfl (Nat.le_of_ble_eq_true rfl) (by first | assumption | exact mr_up_same _ _ _ | (refine mr_lk ?_ (by first | assumption | decide); first | assumption | exact mr_up_same _ _ _ | (refine mr_lk ?_ (by first | assumption | decide); first | assumption | exact mr_up_same _ _ _ | (refine mr_lk ?_ (by first | assumption | decide); first | assumption | exact mr_up_same _ _ _ | (refine mr_lk ?_ (by first | assumption | decide); first | assumption | exact mr_up_same _ _ _))))) ?_
    refine ⟨_, _, _, _, _, _, _, _, _, _, _, _, _, _, _, rfl, (by first | assumption | exact mr_up_same _ _ _ | (refine mr_lk ?_ (by first | assumption | decide); first | assumption | exact mr_up_same _ _ _ | (refine mr_lk ?_ (by first | assumption | decide); first | assumption | exact mr_up_same _ _ _ | (refine mr_lk ?_ (by first | assumption | decide); first | assumption | exact mr_up_same _ _ _ | (refine mr_lk ?_ (by first | assumption | decide); first | assumption | exact mr_up_same _ _ _))))), (by first | assumption | exact mr_up_same _ _ _ | (refine mr_lk ?_ (by first | assumption | decide); first | assumption | exact mr_up_same _ _ _ | (refine mr_lk ?_ (by first | assumption | decide); first | assumption | exact mr_up_same _ _ _ | (refine mr_lk ?_ (by first | assumption | decide); first | assumption | exact mr_up_same _ _ _ | (refine mr_lk ?_ (by first | assumption | decide); first | assumption | exact mr_up_same _ _ _))))), ?_⟩
    dsimp only [Option.toList_some, Option.toList_none, List.cons_append, List.nil_append]
    refine mr_icmp_gt (tgt := 143) dX7_few_32 (by decide) ⟨by omega, by omega⟩ ⟨by omega, by omega⟩ (fun hc_32 => ?_) (fun hc_32 => absurd hc_32 (by omega))
    refine mr_iload_n dX7_few_143 rfl ?_
    refine mr_iret rfl dX7_few_144 ?_
    exact hP w s2 m hm' hM hFr
  | succ n ih =>
    intro p m s2 w h0 hn hm hM hFr
    obtain ⟨h18, h19, h20, h21, h22, h23, h24, h25, h26, h27, hs1, hs2, hik⟩ := id hM
    have hrm := mr_em (show 0 < p by omega) (N 0)
    refine mr_iload dX7_few_26 rfl ?_
    refine mr_aload_n dX7_few_28 rfl ?_
    refine mr_callV (as := []) dX7_few_29 (ok_X7_by l G) ml_X7_195 cl_X7_by cv_X7_by (by decide) rfl rfl (Nat.le_of_ble_eq_true rfl) (by first | assumption | exact mr_up_same _ _ _ | (refine mr_lk ?_ (by first | assumption | decide); first | assumption | exact mr_up_same _ _ _ | (refine mr_lk ?_ (by first | assumption | decide); first | assumption | exact mr_up_same _ _ _ | (refine mr_lk ?_ (by first | assumption | decide); first | assumption | exact mr_up_same _ _ _ | (refine mr_lk ?_ (by first | assumption | decide); first | assumption | exact mr_up_same _ _ _))))) ?_
    refine ⟨_, _, _, _, _, _, _, _, _, _, _, _, _, _, _, rfl, (by first | assumption | exact mr_up_same _ _ _ | (refine mr_lk ?_ (by first | assumption | decide); first | assumption | exact mr_up_same _ _ _ | (refine mr_lk ?_ (by first | assumption | decide); first | assumption | exact mr_up_same _ _ _ | (refine mr_lk ?_ (by first | assumption | decide); first | assumption | exact mr_up_same _ _ _ | (refine mr_lk ?_ (by first | assumption | decide); first | assumption | exact mr_up_same _ _ _))))), (by first | assumption | exact mr_up_same _ _ _ | (refine mr_lk ?_ (by first | assumption | decide); first | assumption | exact mr_up_same _ _ _ | (refine mr_lk ?_ (by first | assumption | decide); first | assumption | exact mr_up_same _ _ _ | (refine mr_lk ?_ (by first | assumption | decide); first | assumption | exact mr_up_same _ _ _ | (refine mr_lk ?_ (by first | assumption | decide); first | assumption | exact mr_up_same _ _ _))))), ?_⟩
    dsimp only [Option.toList_some, Option.toList_none, List.cons_append, List.nil_append]
    refine mr_icmp_gt (tgt := 143) dX7_few_32 (by decide) ⟨by omega, by omega⟩ ⟨by omega, by omega⟩ (fun hc_32 => absurd hc_32 (by omega)) (fun hc_32 => ?_)
    refine mr_aload_n dX7_few_35 rfl ?_
    refine mr_callV (as := []) dX7_few_36 (ok_X7_by l G) ml_X7_195 cl_X7_by cv_X7_by (by decide) rfl rfl (Nat.le_of_ble_eq_true rfl) (by first | assumption | exact mr_up_same _ _ _ | (refine mr_lk ?_ (by first | assumption | decide); first | assumption | exact mr_up_same _ _ _ | (refine mr_lk ?_ (by first | assumption | decide); first | assumption | exact mr_up_same _ _ _ | (refine mr_lk ?_ (by first | assumption | decide); first | assumption | exact mr_up_same _ _ _ | (refine mr_lk ?_ (by first | assumption | decide); first | assumption | exact mr_up_same _ _ _))))) ?_
    refine ⟨_, _, _, _, _, _, _, _, _, _, _, _, _, _, _, rfl, (by first | assumption | exact mr_up_same _ _ _ | (refine mr_lk ?_ (by first | assumption | decide); first | assumption | exact mr_up_same _ _ _ | (refine mr_lk ?_ (by first | assumption | decide); first | assumption | exact mr_up_same _ _ _ | (refine mr_lk ?_ (by first | assumption | decide); first | assumption | exact mr_up_same _ _ _ | (refine mr_lk ?_ (by first | assumption | decide); first | assumption | exact mr_up_same _ _ _))))), (by first | assumption | exact mr_up_same _ _ _ | (refine mr_lk ?_ (by first | assumption | decide); first | assumption | exact mr_up_same _ _ _ | (refine mr_lk ?_ (by first | assumption | decide); first | assumption | exact mr_up_same _ _ _ | (refine mr_lk ?_ (by first | assumption | decide); first | assumption | exact mr_up_same _ _ _ | (refine mr_lk ?_ (by first | assumption | decide); first | assumption | exact mr_up_same _ _ _))))), ?_⟩
    dsimp only [Option.toList_some, Option.toList_none, List.cons_append, List.nil_append]
    refine mr_iload dX7_few_39 rfl ?_
    refine mr_iremp dX7_few_41 (by omega) (by omega) (by omega) (by omega) ?_
    refine mr_if_ne (tgt := 49) dX7_few_42 (by decide) ⟨by omega, by omega⟩ (fun hc_42 => ?_) (fun hc_42 => ?_)
    · refine mr_iconst dX7_few_49 ?_
      refine mr_istore dX7_few_50 rfl (by decide) ?_
      refine mr_iconst dX7_few_52 ?_
      refine mr_istore dX7_few_53 rfl (by decide) ?_
      refine lp1_X7_few l G (m := m) (M := N 0) (n0 := n0) ⟨by omega, by omega⟩ (fun pr h01 hpr => ?_) (p - 2).toNat 2 _ (Int.le_refl 2) (by omega) (by first | exact Or.inl rfl | exact Or.inr rfl) (by first | exact ⟨fun _ => ⟨hc_42, fun q' g1 g2 => by omega⟩, fun _ => rfl⟩ | exact ⟨fun z => absurd z (by decide), fun z => absurd z.1 hc_42⟩)
      refine mr_iload dX7_few_88 rfl ?_
      refine mr_if_ne (tgt := 96) dX7_few_90 (by decide) ⟨by omega, by omega⟩ (fun hc_90 => ?_) (fun hc_90 => ?_)
      · refine mr_iconst dX7_few_96 ?_
        refine mr_istore dX7_few_97 rfl (by decide) ?_
        refine mr_iload_n dX7_few_99 rfl ?_
        refine mr_aload_n dX7_few_100 rfl ?_
        refine mr_iload dX7_few_101 rfl ?_
        refine mr_callV (as := [_]) dX7_few_103 (ok_X7_manyTimes l G) ml_X7_217 cl_X7_manyTimes cv_X7_manyTimes (by decide) rfl rfl (Nat.le_of_ble_eq_true rfl) (by first | assumption | exact mr_up_same _ _ _ | (refine mr_lk ?_ (by first | assumption | decide); first | assumption | exact mr_up_same _ _ _ | (refine mr_lk ?_ (by first | assumption | decide); first | assumption | exact mr_up_same _ _ _ | (refine mr_lk ?_ (by first | assumption | decide); first | assumption | exact mr_up_same _ _ _ | (refine mr_lk ?_ (by first | assumption | decide); first | assumption | exact mr_up_same _ _ _))))) ?_
        refine ⟨_, _, _, _, _, _, _, _, _, _, _, _, _, _, _, _, _, _, _, _, _, _, p, n0, rfl, hM, hMM, ⟨by omega, by omega⟩, (by omega), (fun i hi => (hp0.2.2.1 i hi).1), (fun w1 s21 l21 c1 hp1 hM1 hF1 => ?_)⟩
        have hmc := mr_mtc_of (u := p) hp0 hp1
        have hmp := mr_mtc_pos (show 0 < N 0 by omega) hL hmc
        have hcn := mr_Lp_le (by omega) hp1
        have hdv := mr_dvb (show (0 : Int) ≤ (n0 : Int) by omega) (show (0 : Int) < (c1 : Int) by omega)
        obtain ⟨h18, h19, h20, h21, h22, h23, h24, h25, h26, h27, hs1, hs2, hik⟩ := id hM1
        dsimp only [Option.toList_some, Option.toList_none, List.cons_append, List.nil_append]
        refine mr_idivp dX7_few_106 (by omega) (by omega) (by omega) (by omega) ?_
        refine mr_istore dX7_few_107 rfl (by decide) ?_
        refine lp2_X7_few l G (m := m) (p := p) (pr := pr) (tot := mr_lg p 20 ((n0 : Int) / (c1 : Int))) (n0 := n0) ⟨by omega, by omega⟩ ?_ 20 0 _ (Nat.le_refl 20) (Int.le_refl 0) (by omega) (by omega) (by show ((n0 : Int) / (c1 : Int)) < 1048576; omega) (by omega)
        have hlb := mr_lg_bd p 20 ((n0 : Int) / (c1 : Int))
        have hmb := hm.1
        refine mr_iload dX7_few_128 rfl ?_
        refine mr_iload_n dX7_few_130 rfl ?_
        refine mr_icmp_le (tgt := 137) dX7_few_131 (by decide) ⟨by omega, by omega⟩ ⟨by omega, by omega⟩ (fun hc_131 => ?_) (fun hc_131 => ?_)
        · refine mr_iinc dX7_few_137 rfl (by decide) rfl ?_
          refine mr_goto (tgt := 26) dX7_few_140 (by decide) ?_
          first
            | (refine mr_weak [some (vR 18 0), some (vI t), some (vI (n0 : Int)), some (vI m), some (vI (p + 1)), none, none, none] ⟨rfl, rfl, rfl, rfl, rfl, trivial⟩ ?_
               exact ih (p + 1) m _ w1 (by omega) (by omega) (mr_fwp_yes hm (by omega) (hpr.mp (by omega)) hmc (by rw [if_neg (by omega)])) hM1 (hFr.tr hF1))
            | (refine mr_weak [some (vR 18 0), some (vI t), some (vI (n0 : Int)), some (vI (mr_lg p 20 ((n0 : Int) / (c1 : Int)))), some (vI (p + 1)), none, none, none] ⟨rfl, rfl, rfl, rfl, rfl, trivial⟩ ?_
               exact ih (p + 1) _ _ w1 (by omega) (by omega) (mr_fwp_yes hm (by omega) (hpr.mp (by omega)) hmc (by rw [if_pos (by omega)])) hM1 (hFr.tr hF1))
        · refine mr_iload dX7_few_134 rfl ?_
          refine mr_istore_n dX7_few_136 rfl (by decide) ?_
          refine mr_iinc dX7_few_137 rfl (by decide) rfl ?_
          refine mr_goto (tgt := 26) dX7_few_140 (by decide) ?_
          first
            | (refine mr_weak [some (vR 18 0), some (vI t), some (vI (n0 : Int)), some (vI m), some (vI (p + 1)), none, none, none] ⟨rfl, rfl, rfl, rfl, rfl, trivial⟩ ?_
               exact ih (p + 1) m _ w1 (by omega) (by omega) (mr_fwp_yes hm (by omega) (hpr.mp (by omega)) hmc (by rw [if_neg (by omega)])) hM1 (hFr.tr hF1))
            | (refine mr_weak [some (vR 18 0), some (vI t), some (vI (n0 : Int)), some (vI (mr_lg p 20 ((n0 : Int) / (c1 : Int)))), some (vI (p + 1)), none, none, none] ⟨rfl, rfl, rfl, rfl, rfl, trivial⟩ ?_
               exact ih (p + 1) _ _ w1 (by omega) (by omega) (mr_fwp_yes hm (by omega) (hpr.mp (by omega)) hmc (by rw [if_pos (by omega)])) hM1 (hFr.tr hF1))
      · refine mr_goto (tgt := 137) dX7_few_93 (by decide) ?_
        refine mr_iinc dX7_few_137 rfl (by decide) rfl ?_
        refine mr_goto (tgt := 26) dX7_few_140 (by decide) ?_
        refine mr_weak [some (vR 18 0), some (vI t), some (vI (n0 : Int)), some (vI m), some (vI (p + 1)), none, none, none] ⟨rfl, rfl, rfl, rfl, rfl, trivial⟩ ?_
        exact ih (p + 1) m s2 w (by omega) (by omega) (mr_fwp_no hm (fun z => by have := hpr.mpr z; omega)) hM hFr
    · refine mr_iconst dX7_few_45 ?_
      refine mr_goto (tgt := 50) dX7_few_46 (by decide) ?_
      refine mr_istore dX7_few_50 rfl (by decide) ?_
      refine mr_iconst dX7_few_52 ?_
      refine mr_istore dX7_few_53 rfl (by decide) ?_
      refine lp1_X7_few l G (m := m) (M := N 0) (n0 := n0) ⟨by omega, by omega⟩ (fun pr h01 hpr => ?_) (p - 2).toNat 2 _ (Int.le_refl 2) (by omega) (by first | exact Or.inl rfl | exact Or.inr rfl) (by first | exact ⟨fun _ => ⟨hc_42, fun q' g1 g2 => by omega⟩, fun _ => rfl⟩ | exact ⟨fun z => absurd z (by decide), fun z => absurd z.1 hc_42⟩)
      refine mr_iload dX7_few_88 rfl ?_
      refine mr_if_ne (tgt := 96) dX7_few_90 (by decide) ⟨by omega, by omega⟩ (fun hc_90 => ?_) (fun hc_90 => ?_)
      · refine mr_iconst dX7_few_96 ?_
        refine mr_istore dX7_few_97 rfl (by decide) ?_
        refine mr_iload_n dX7_few_99 rfl ?_
        refine mr_aload_n dX7_few_100 rfl ?_
        refine mr_iload dX7_few_101 rfl ?_
        refine mr_callV (as := [_]) dX7_few_103 (ok_X7_manyTimes l G) ml_X7_217 cl_X7_manyTimes cv_X7_manyTimes (by decide) rfl rfl (Nat.le_of_ble_eq_true rfl) (by first | assumption | exact mr_up_same _ _ _ | (refine mr_lk ?_ (by first | assumption | decide); first | assumption | exact mr_up_same _ _ _ | (refine mr_lk ?_ (by first | assumption | decide); first | assumption | exact mr_up_same _ _ _ | (refine mr_lk ?_ (by first | assumption | decide); first | assumption | exact mr_up_same _ _ _ | (refine mr_lk ?_ (by first | assumption | decide); first | assumption | exact mr_up_same _ _ _))))) ?_
        refine ⟨_, _, _, _, _, _, _, _, _, _, _, _, _, _, _, _, _, _, _, _, _, _, p, n0, rfl, hM, hMM, ⟨by omega, by omega⟩, (by omega), (fun i hi => (hp0.2.2.1 i hi).1), (fun w1 s21 l21 c1 hp1 hM1 hF1 => ?_)⟩
        have hmc := mr_mtc_of (u := p) hp0 hp1
        have hmp := mr_mtc_pos (show 0 < N 0 by omega) hL hmc
        have hcn := mr_Lp_le (by omega) hp1
        have hdv := mr_dvb (show (0 : Int) ≤ (n0 : Int) by omega) (show (0 : Int) < (c1 : Int) by omega)
        obtain ⟨h18, h19, h20, h21, h22, h23, h24, h25, h26, h27, hs1, hs2, hik⟩ := id hM1
        dsimp only [Option.toList_some, Option.toList_none, List.cons_append, List.nil_append]
        refine mr_idivp dX7_few_106 (by omega) (by omega) (by omega) (by omega) ?_
        refine mr_istore dX7_few_107 rfl (by decide) ?_
        refine lp2_X7_few l G (m := m) (p := p) (pr := pr) (tot := mr_lg p 20 ((n0 : Int) / (c1 : Int))) (n0 := n0) ⟨by omega, by omega⟩ ?_ 20 0 _ (Nat.le_refl 20) (Int.le_refl 0) (by omega) (by omega) (by show ((n0 : Int) / (c1 : Int)) < 1048576; omega) (by omega)
        have hlb := mr_lg_bd p 20 ((n0 : Int) / (c1 : Int))
        have hmb := hm.1
        refine mr_iload dX7_few_128 rfl ?_
        refine mr_iload_n dX7_few_130 rfl ?_
        refine mr_icmp_le (tgt := 137) dX7_few_131 (by decide) ⟨by omega, by omega⟩ ⟨by omega, by omega⟩ (fun hc_131 => ?_) (fun hc_131 => ?_)
        · refine mr_iinc dX7_few_137 rfl (by decide) rfl ?_
          refine mr_goto (tgt := 26) dX7_few_140 (by decide) ?_
          first
            | (refine mr_weak [some (vR 18 0), some (vI t), some (vI (n0 : Int)), some (vI m), some (vI (p + 1)), none, none, none] ⟨rfl, rfl, rfl, rfl, rfl, trivial⟩ ?_
               exact ih (p + 1) m _ w1 (by omega) (by omega) (mr_fwp_yes hm (by omega) (hpr.mp (by omega)) hmc (by rw [if_neg (by omega)])) hM1 (hFr.tr hF1))
            | (refine mr_weak [some (vR 18 0), some (vI t), some (vI (n0 : Int)), some (vI (mr_lg p 20 ((n0 : Int) / (c1 : Int)))), some (vI (p + 1)), none, none, none] ⟨rfl, rfl, rfl, rfl, rfl, trivial⟩ ?_
               exact ih (p + 1) _ _ w1 (by omega) (by omega) (mr_fwp_yes hm (by omega) (hpr.mp (by omega)) hmc (by rw [if_pos (by omega)])) hM1 (hFr.tr hF1))
        · refine mr_iload dX7_few_134 rfl ?_
          refine mr_istore_n dX7_few_136 rfl (by decide) ?_
          refine mr_iinc dX7_few_137 rfl (by decide) rfl ?_
          refine mr_goto (tgt := 26) dX7_few_140 (by decide) ?_
          first
            | (refine mr_weak [some (vR 18 0), some (vI t), some (vI (n0 : Int)), some (vI m), some (vI (p + 1)), none, none, none] ⟨rfl, rfl, rfl, rfl, rfl, trivial⟩ ?_
               exact ih (p + 1) m _ w1 (by omega) (by omega) (mr_fwp_yes hm (by omega) (hpr.mp (by omega)) hmc (by rw [if_neg (by omega)])) hM1 (hFr.tr hF1))
            | (refine mr_weak [some (vR 18 0), some (vI t), some (vI (n0 : Int)), some (vI (mr_lg p 20 ((n0 : Int) / (c1 : Int)))), some (vI (p + 1)), none, none, none] ⟨rfl, rfl, rfl, rfl, rfl, trivial⟩ ?_
               exact ih (p + 1) _ _ w1 (by omega) (by omega) (mr_fwp_yes hm (by omega) (hpr.mp (by omega)) hmc (by rw [if_pos (by omega)])) hM1 (hFr.tr hF1))
      · refine mr_goto (tgt := 137) dX7_few_93 (by decide) ?_
        refine mr_iinc dX7_few_137 rfl (by decide) rfl ?_
        refine mr_goto (tgt := 26) dX7_few_140 (by decide) ?_
        refine mr_weak [some (vR 18 0), some (vI t), some (vI (n0 : Int)), some (vI m), some (vI (p + 1)), none, none, none] ⟨rfl, rfl, rfl, rfl, rfl, trivial⟩ ?_
        exact ih (p + 1) m s2 w (by omega) (by omega) (mr_fwp_no hm (fun z => by have := hpr.mpr z; omega)) hM hFr
def T_X7_few (a : List mr_AV) (w : mr_Wd) (Po : Option mr_AV → mr_Wd → Prop) : Prop := ∃ (th tp sz zo fr kd nb ft pl wd sm md li sd : Int) (T N R K Sn ik s1 s2 ls : Nat → Int) (W : Nat) (L : Int → mr_V → Prop) (t : Int), a = [vR 18 0, vI t] ∧ mr_MW w th tp sz zo fr kd nb ft pl wd sm md li sd T N R K Sn ik s1 s2 ls ∧ mr_NG N W L ∧ InR t ∧ ((0 < N 0 ∧ 0 ≤ t ∧ t ≤ 3) → (∀ (w' : mr_Wd) (st s2' li' : Nat → Int) (n : Nat) (m : Int), mr_Lp (N 0) st li' n (mr_S (N 0) (L t)) → mr_fwp (N 0) n (mr_S (N 0) (L t)) (N 0 + 1) m → mr_MW w' (0) tp sz zo fr kd nb ft pl wd sm md ((n : Int)) sd T N R K Sn ik (st) (s2') (li') → mr_FM w w' → Po (some (vI m)) w')) ∧ (¬ (0 < N 0 ∧ 0 ≤ t ∧ t ≤ 3) → (∀ w' : mr_Wd, mr_MW w' (0) tp sz zo fr kd nb ft pl wd sm md li sd T N R K Sn ik s1 s2 ls → mr_FM w w' → Po (some (vI (-1))) w'))
set_option maxHeartbeats 4000000 in
set_option maxRecDepth 20000 in
theorem ok_X7_few (l : Launch) (G : mr_G) : mr_Ok l G yX7_few cX7_few 8 (some .int) 4 94 T_X7_few := by
  refine mr_Ok.of (by decide +kernel) ?_
  rintro a w Po ⟨th, tp, sz, zo, fr, kd, nb, ft, pl, wd, sm, md, li, sd, T, N, R, K, Sn, ik, s1, s2, ls, W, L, t, rfl, hM, ⟨hG0, hG1, hG14, hGW⟩, h_t, hP, hQ⟩
  refine ⟨Nat.le_of_ble_eq_true rfl, ?_⟩
  show mr_J l G RX7 cX7_few 8 (some .int) 4 94 Po 0 [some (vR 18 0), some (vI t), none, none, none, none, none, none] [] w
  obtain ⟨h18, h19, h20, h21, h22, h23, h24, h25, h26, h27, hs1, hs2, hik⟩ := id hM
  refine mr_aload_n dX7_few_0 rfl ?_
  refine mr_iconst dX7_few_1 ?_
  refine mr_put dX7_few_2 fl_X7_1 pf_X7_0 rfl rfl (by first | assumption | exact mr_up_same _ _ _ | (refine mr_lk ?_ (by first | assumption | decide); first | assumption | exact mr_up_same _ _ _ | (refine mr_lk ?_ (by first | assumption | decide); first | assumption | exact mr_up_same _ _ _ | (refine mr_lk ?_ (by first | assumption | decide); first | assumption | exact mr_up_same _ _ _ | (refine mr_lk ?_ (by first | assumption | decide); first | assumption | exact mr_up_same _ _ _))))) (Nat.le_of_ble_eq_true rfl) ?_
  refine mw_p0 hM (fun w1 hM1 hF1 => ?_)
  obtain ⟨h18, h19, h20, h21, h22, h23, h24, h25, h26, h27, hs1, hs2, hik⟩ := id hM1
  refine mr_aload_n dX7_few_5 rfl ?_
  refine mr_iload_n dX7_few_6 rfl ?_
  refine mr_callV (as := [_]) dX7_few_7 (ok_X7_isModuleAt l G) ml_X7_199 cl_X7_isModuleAt cv_X7_isModuleAt (by decide) rfl rfl (Nat.le_of_ble_eq_true rfl) (by first | assumption | exact mr_up_same _ _ _ | (refine mr_lk ?_ (by first | assumption | decide); first | assumption | exact mr_up_same _ _ _ | (refine mr_lk ?_ (by first | assumption | decide); first | assumption | exact mr_up_same _ _ _ | (refine mr_lk ?_ (by first | assumption | decide); first | assumption | exact mr_up_same _ _ _ | (refine mr_lk ?_ (by first | assumption | decide); first | assumption | exact mr_up_same _ _ _))))) ?_
  refine ⟨_, _, _, _, _, _, _, _, _, _, _, _, _, _, _, _, rfl, (by first | assumption | exact mr_up_same _ _ _ | (refine mr_lk ?_ (by first | assumption | decide); first | assumption | exact mr_up_same _ _ _ | (refine mr_lk ?_ (by first | assumption | decide); first | assumption | exact mr_up_same _ _ _ | (refine mr_lk ?_ (by first | assumption | decide); first | assumption | exact mr_up_same _ _ _ | (refine mr_lk ?_ (by first | assumption | decide); first | assumption | exact mr_up_same _ _ _))))), (by first | assumption | exact mr_up_same _ _ _ | (refine mr_lk ?_ (by first | assumption | decide); first | assumption | exact mr_up_same _ _ _ | (refine mr_lk ?_ (by first | assumption | decide); first | assumption | exact mr_up_same _ _ _ | (refine mr_lk ?_ (by first | assumption | decide); first | assumption | exact mr_up_same _ _ _ | (refine mr_lk ?_ (by first | assumption | decide); first | assumption | exact mr_up_same _ _ _))))), h_t, hG0, ?_, ?_⟩
  · intro k1
    dsimp only [Option.toList_some, Option.toList_none, List.cons_append, List.nil_append]
    refine mr_if_ne (tgt := 15) dX7_few_10 (by decide) (by omega) (fun _ => ?_) (fun h => absurd h (by decide))
    obtain ⟨e0, e1, hM0, hW0, hFN, hEQ⟩ := hGW (by omega)
    have hMM : 1 ≤ N 0 ∧ N 0 ≤ 30 := ⟨by omega, by omega⟩
    have hm3 := mr_m3 hMM
    have hm2 := mr_m2 hMM
    refine mr_aload_n dX7_few_15 rfl ?_
    refine mr_iload_n dX7_few_16 rfl ?_
    refine mr_callV (as := [_]) dX7_few_17 (ok_X7_sizeOf l G) ml_X7_205 cl_X7_sizeOf cv_X7_sizeOf (by decide) rfl rfl (Nat.le_of_ble_eq_true rfl) (by first | assumption | exact mr_up_same _ _ _ | (refine mr_lk ?_ (by first | assumption | decide); first | assumption | exact mr_up_same _ _ _ | (refine mr_lk ?_ (by first | assumption | decide); first | assumption | exact mr_up_same _ _ _ | (refine mr_lk ?_ (by first | assumption | decide); first | assumption | exact mr_up_same _ _ _ | (refine mr_lk ?_ (by first | assumption | decide); first | assumption | exact mr_up_same _ _ _))))) ?_
    refine ⟨_, _, _, _, _, _, _, _, _, _, _, _, _, _, _, _, _, _, _, _, _, _, _, t, _, _, rfl, hM1, hMM, ⟨by omega, by omega⟩, (hFN t (by omega) (by omega)), (fun w2 st2 li2 n2 hp2 hM2 hF2 => ?_)⟩
    obtain ⟨h18, h19, h20, h21, h22, h23, h24, h25, h26, h27, hs1, hs2, hik⟩ := id hM2
    dsimp only [Option.toList_some, Option.toList_none, List.cons_append, List.nil_append]
    refine mr_istore_n dX7_few_20 rfl (by decide) ?_
    refine mr_iconst dX7_few_21 ?_
    refine mr_istore_n dX7_few_22 rfl (by decide) ?_
    refine mr_iconst dX7_few_23 ?_
    refine mr_istore dX7_few_24 rfl (by decide) ?_
    exact lp3_X7_few l G (t := t) (n0 := n2) (s2 := s2) (li := 0) (w0 := w) hMM (mr_Fo_Li (hFN t (by omega) (by omega)).1) hp2 (fun w' s2' m g1 g2 g3 => hP k1 w' _ s2' _ _ m hp2 g1 g2 g3) (N 0 - 1).toNat 2 0 s2 w2 (Int.le_refl 2) (by omega) ⟨⟨by decide, by decide⟩, fun q c g1 g2 => absurd g2 (by omega), Or.inl rfl⟩ hM2 (hF1.tr hF2)
  · intro k1
    dsimp only [Option.toList_some, Option.toList_none, List.cons_append, List.nil_append]
    refine mr_if_ne (tgt := 15) dX7_few_10 (by decide) (by omega) (fun h => absurd h (by decide)) (fun _ => ?_)
    refine mr_iconst dX7_few_13 ?_
    refine mr_iret rfl dX7_few_14 ?_
    exact hQ k1 w1 hM1 hF1
