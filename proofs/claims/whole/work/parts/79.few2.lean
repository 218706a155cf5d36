/-! FEW, NOUGHT of a book -/
theorem mr_sbl_e {M : Int} (hM : 1 ≤ M) {w : Nat} (hw : 1 ≤ w ∧ w ≤ 3) {f : Nat → Int} {p : Int} {L : mr_V → Prop} (h : mr_Fo M w (mr_br f p) L) {S : Nat → mr_V} {a : Nat} {cl A : Int} (hA : A = a) (e : ∀ c, c < w → mr_br f p c c = S (a + c) (a + c)) : mr_sbl M cl S w A 1 = mr_Sz M (mr_br f p) := by
  have st : ∀ c, c < w → (if 0 < S (a + c) (a + c) then M / S (a + c) (a + c) else 1) = mr_Ch M (mr_br f p) c := fun c hc => by
    rw [← e c hc]
    by_cases g : 0 < mr_br f p c c
    · rw [if_pos g]
      show _ = M / mr_hat M (mr_br f p) c c
      rw [mr_hat_pos g]
    · rw [if_neg g]
      show _ = M / mr_hat M (mr_br f p) c c
      rw [mr_hat_neg g, mr_e_same, Int.ediv_self (by omega)]
  subst hA
  unfold mr_Sz
  have t0 : ((a : Int)).toNat = a + 0 := by omega
  have t1 : ((a : Int) + 1).toNat = a + 1 := by omega
  have t2 : ((a : Int) + 1 + 1).toNat = a + 2 := by omega
  rcases (show w = 1 ∨ w = 2 ∨ w = 3 by omega) with q | q | q <;> subst q
  · rw [(mr_Ch_w hM h (c := 1) (by decide) (Nat.le_refl 1)).1, (mr_Ch_w hM h (c := 2) (by decide) (by decide)).1]
    simp only [mr_sbl, t0, st 0 (by decide)]
    omega
  · rw [(mr_Ch_w hM h (c := 2) (by decide) (by decide)).1]
    simp only [mr_sbl, t0, t1, st 0 (by decide), st 1 (by decide)]
    rw [Int.one_mul, Int.mul_one]
  · simp only [mr_sbl, t0, t1, t2, st 0 (by decide), st 1 (by decide), st 2 (by decide)]
    rw [Int.one_mul, Int.mul_assoc]
theorem mr_pA_dg {f : Nat → Int} {q : Int} {g : Int → Int → Int} {w : Nat} (hq : 0 ≤ q ∧ q < 4) (h1 : f 1 = w) (hw : 1 ≤ w ∧ w ≤ 3) {c : Nat} (hc : c < w) : mr_br (mr_pA f q g) q c c = g c c := by
  unfold mr_br
  rw [mr_fa_pA hq (by omega), if_pos ⟨rfl, by omega, by omega, by omega, by omega⟩]
theorem mr_pow_mo {q : Int} (hq : 1 ≤ q) (k : Nat) : ∀ d : Nat, q ^ k ≤ q ^ (k + d)
  | 0 => Int.le_refl _
  | d + 1 => by
    have ih := mr_pow_mo hq k d
    have e : q ^ (k + (d + 1)) = q ^ (k + d) * q := Int.pow_succ q (k + d)
    have p0 : 0 ≤ q ^ (k + d) := Int.le_of_lt (Int.pow_pos (by omega))
    have := Int.mul_le_mul_of_nonneg_left hq p0
    rw [Int.mul_one] at this
    omega
section FW
variable {f : Nat → Int} {M : Int} {w : Nat} {L : Int → mr_V → Prop}
theorem mr_sT_e (h : mr_WB f M w L) {p d : Int} (hp : 0 ≤ p ∧ p < 4) {c : Nat} (hc : mr_Nu M (mr_LT M d (L p)) c) : mr_sT f p d = c := by
  have h9 := mr_WB_times h (s := p) (u := d) (q := p) hp hp mr_Zz mr_Zz
  obtain ⟨h0, h1, h2, h3, h4, h5, h6⟩ := h
  have hF := h9.2.2.2.2.2.1 p hp.1 hp.2
  have eL : mr_Lup L p (mr_LT M d (L p)) p = mr_LT M d (L p) := if_pos rfl
  rw [eL] at hF
  rw [mr_Nu_Fo (by omega) hF hc]
  unfold mr_sT
  have e := mr_sbl_e (M := M) (by omega) h3 hF (S := mr_shp (f 0) (f 1) (0 + f 1) (mr_tbT d f p mr_Zz) mr_Zz) (a := 0) (A := 0) (cl := f 1) rfl (fun c hc => by
    rw [mr_pA_dg hp h1 h3 hc]
    unfold mr_sh
    rw [if_pos ⟨by omega, by omega, by omega, by omega⟩]
    congr 1 <;> omega)
  rw [show (f 1 - 0).toNat = w by omega, ← e, h0]
/-- what d makes nought has a form too -/
theorem mr_Ld_Fo (h : mr_WB f M w L) {p d : Int} (hp : 0 ≤ p ∧ p < 4) : ∃ F : Nat → mr_V, mr_Fo M w F (mr_Ld M d (L p)) := by
  obtain ⟨q, hq, hqp⟩ : ∃ q : Int, (0 ≤ q ∧ q < 4) ∧ q ≠ p := by
    by_cases e : p = 0
    · exact ⟨1, by decide, by omega⟩
    · exact ⟨0, by decide, by omega⟩
  have hQ := mr_Fo_Q3 (h.2.2.2.2.2.1 p hp.1 hp.2)
  have a1 := mr_WB_times h (s := p) (u := 0) (q := q) hp hq mr_Zz mr_Zz
  have a2 := mr_WB_by a1 (s := q) (u := d) (q := q) hq hq mr_Zz mr_Zz
  have a3 := mr_WB_meet a2 (s := p) (t := q) (q := q) hp hq hq mr_Zz mr_Zz
  have hF := a3.2.2.2.2.2.1 q hq.1 hq.2
  have e0 : ∀ (L' : Int → mr_V → Prop) (X : mr_V → Prop), mr_Lup L' q X q = X := fun L' X => if_pos rfl
  have e1 : ∀ (L' : Int → mr_V → Prop) (X : mr_V → Prop), mr_Lup L' q X p = L' p := fun L' X => if_neg (fun z => hqp z.symm)
  rw [e0, e0, e1, e1, e0] at hF
  refine ⟨_, mr_Fo_congr (fun x => ?_) hF⟩
  unfold mr_LB2 mr_LT mr_Ld
  refine ⟨fun ⟨g1, ⟨y, _, g3⟩, _⟩ => ⟨g1, fun j hj => ?_⟩, fun ⟨g1, g2⟩ => ⟨g1, ⟨fun _ => 0, hQ.1.2.1, fun j hj => ?_⟩, hQ.2.2 x g1⟩⟩
  · have := g3 j hj
    rw [Int.zero_mul, Int.sub_zero] at this
    exact this
  · rw [Int.zero_mul, Int.sub_zero]
    exact g2 j hj
theorem mr_fwl_ge (p : Int) : ∀ (n : Nat) (d e : Int), e ≤ mr_fwl f p n d e ∧ ∀ d' : Int, d ≤ d' → d' < d + n → f 0 % d' = 0 → mr_pl3 (mr_sz f p 0 / max 1 (mr_sT f p d')) d' 3 d' 0 ≤ mr_fwl f p n d e
  | 0, d, e => ⟨Int.le_refl e, fun d' h1 h2 => by omega⟩
  | n + 1, d, e => by
    have ih := mr_fwl_ge p n (d + 1) (if f 0 % d = 0 then max e (mr_pl3 (mr_sz f p 0 / max 1 (mr_sT f p d)) d 3 d 0) else e)
    have u : mr_fwl f p (n + 1) d e = mr_fwl f p n (d + 1) (if f 0 % d = 0 then max e (mr_pl3 (mr_sz f p 0 / max 1 (mr_sT f p d)) d 3 d 0) else e) := rfl
    rw [u]
    refine ⟨?_, fun d' h1 h2 h3 => ?_⟩
    · refine Int.le_trans ?_ ih.1
      split
      · omega
      · omega
    · by_cases ed : d' = d
      · subst ed
        refine Int.le_trans ?_ ih.1
        rw [if_pos h3]
        omega
      · exact ih.2 d' (by omega) (by omega) h3
theorem mr_fwl_le (p m : Int) : ∀ (n : Nat) (d e : Int), e ≤ m → (∀ d' : Int, d ≤ d' → d' < d + n → f 0 % d' = 0 → mr_pl3 (mr_sz f p 0 / max 1 (mr_sT f p d')) d' 3 d' 0 ≤ m) → mr_fwl f p n d e ≤ m
  | 0, d, e, he, _ => he
  | n + 1, d, e, he, h => by
    refine mr_fwl_le p m n (d + 1) _ ?_ (fun d' h1 h2 h3 => h d' (by omega) (by omega) h3)
    split
    · rename_i h3
      have := h d (by omega) (by omega) h3
      omega
    · exact he
theorem mr_En_Lp {M : Int} {S : Int → Prop} {n : Nat} {a : Nat → Nat} (h : mr_En (M * M * M).toNat (fun r => S r) n a) : ∃ st li : Nat → Int, mr_Lp M st li n S := by
  refine ⟨fun r => @ite Int (S (r : Int)) (Classical.propDecidable _) 1 0, fun k => (a k : Int), fun r => ?_, fun r hr => ?_, fun k hk => ?_, fun r hr hs => ?_, fun i k hi hk e => ?_⟩
  · by_cases c : S (r : Int)
    · exact Or.inr (if_pos c)
    · exact Or.inl (if_neg c)
  · by_cases c : S (r : Int)
    · exact ⟨fun _ => c, fun _ => if_pos c⟩
    · exact ⟨fun z => by have e : @ite Int (S (r : Int)) (Classical.propDecidable _) 1 0 = 0 := if_neg c; have z' : @ite Int (S (r : Int)) (Classical.propDecidable _) 1 0 = 1 := z; omega, fun z => absurd z c⟩
  · have := h.1 k hk
    exact ⟨⟨by show (0 : Int) ≤ (a k : Int); omega, by show (a k : Int) < M * M * M; omega⟩, this.2⟩
  · obtain ⟨k, hk, e⟩ := h.2.1 r (by omega) hs
    exact ⟨k, hk, by show (a k : Int) = r; rw [e]⟩
  · have e' : (a i : Int) = (a k : Int) := e
    exact h.2.2 i k hi hk (by omega)
theorem mr_mtc_Nu {M u : Int} (hM : 0 < M) {L : mr_V → Prop} (hL : mr_Li M L) {c : Nat} : mr_mtc M (mr_S M L) u c ↔ mr_Nu M (mr_LT M u L) c := by
  have e : ∀ r : Int, 0 ≤ r → r < M * M * M → ((∃ x : Int, (0 ≤ x ∧ x < M * M * M) ∧ mr_S M L x ∧ r = mr_of M x u) ↔ mr_S M (mr_LT M u L) r) := fun r h0 h1 => ⟨fun ⟨x, _, hS, ex⟩ => by rw [ex]; exact mr_of_LT hM hS, fun z => mr_LT_of hM hL h0 h1 z⟩
  refine ⟨fun ⟨s2, l2, h⟩ => ⟨_, mr_Lp_En (mr_Lp_cg h e)⟩, fun ⟨a, h⟩ => ?_⟩
  obtain ⟨st, li, hp⟩ := mr_En_Lp h
  exact ⟨st, li, mr_Lp_cg hp (fun r h0 h1 => (e r h0 h1).symm)⟩
theorem mr_few_e (h : mr_WB f M w L) {p : Int} (hp : 0 ≤ p ∧ p < 4) {st li : Nat → Int} {n : Nat} (hn : mr_Lp M st li n (mr_S M (L p))) {m : Int} (hm : mr_fwp M n (mr_S M (L p)) (M + 1) m) : mr_fwl f p (f 0 - 1).toNat 2 0 = m := by
  have hF := h.2.2.2.2.2.1 p hp.1 hp.2
  obtain ⟨h0, h1, h2, h3, h4, h5, h6⟩ := id h
  have hM : 1 ≤ M := by omega
  have hL := mr_Fo_Li hF
  have nu : mr_Nu M (L p) n := ⟨_, mr_Lp_En hn⟩
  have sz : mr_sz f p 0 = n := by rw [(mr_sz_e hM h0 h1 h3 hF).1, mr_Lp_sz hM hF hn]
  -- how many d makes nought
  have quo : ∀ (d : Int) (c A : Nat), mr_Nu M (mr_LT M d (L p)) c → mr_Nu M (mr_Ld M d (L p)) A → (n : Int) / c = A ∧ 1 ≤ c := fun d c A hc hA => by
    have e := mr_hom hM hL nu hc hA
    have c1 : 1 ≤ c := mr_mtc_pos (by omega) hL ((mr_mtc_Nu (by omega) hL).mpr hc)
    refine ⟨?_, c1⟩
    have e' : (n : Int) = (c : Int) * (A : Int) := by rw [e]; exact Int.natCast_mul c A
    rw [e', Int.mul_ediv_cancel_left _ (by omega)]
  have val : ∀ (d : Int) (A : Nat), mr_Nu M (mr_Ld M d (L p)) A → mr_sz f p 0 / max 1 (mr_sT f p d) = A := fun d A hA => by
    obtain ⟨c, hc⟩ := mr_Nu_ex M (mr_LT M d (L p))
    obtain ⟨q1, q2⟩ := quo d c A hc hA
    rw [sz, mr_sT_e h hp hc, show max 1 (c : Int) = c by omega]
    exact q1
  -- the primes
  have prim : ∀ q : Int, 2 ≤ q → mr_prm M q → ∃ k A : Nat, k ≤ 3 ∧ mr_Nu M (mr_Ld M q (L p)) A ∧ (A : Int) = q ^ k ∧ ∀ c, mr_mtc M (mr_S M (L p)) q c → mr_lg q 20 ((n : Int) / c) = k := fun q hq hpr => by
    obtain ⟨F, hFo⟩ := mr_Ld_Fo h hp (d := q)
    obtain ⟨k, hk, e⟩ := mr_Apw hM hq hpr hFo
    obtain ⟨A, hA⟩ := mr_Nu_ex M (mr_Ld M q (L p))
    have eA : (A : Int) = q ^ k := by rw [mr_Nu_Fo hM hFo hA, e]
    refine ⟨k, A, hk, hA, eA, fun c hc => ?_⟩
    rw [(quo q c A ((mr_mtc_Nu (by omega) hL).mp hc) hA).1, eA]
    exact mr_lg_pow hq k 20 (by omega)
  have hm0 := hm.1
  have em : ((m.toNat : Nat) : Int) = m := by omega
  have bnd : ∀ q : Int, 2 ≤ q → mr_prm M q → ∀ A, mr_Nu M (mr_Ld M q (L p)) A → (A : Int) ≤ q ^ m.toNat := fun q hq hpr A hA => by
    obtain ⟨k, A', hk, hA', eA, hlg⟩ := prim q hq hpr
    rw [mr_Nu_eq hA hA' (fun _ => Iff.rfl), eA]
    obtain ⟨c, hc⟩ := mr_Nu_ex M (mr_LT M q (L p))
    have hc' := (mr_mtc_Nu (by omega) hL).mpr hc
    have qM : q < M + 1 := by
      have := Int.le_of_dvd (by omega) (Int.dvd_of_emod_eq_zero hpr.1)
      omega
    have le := hm.2.1 q c hq qM hpr hc'
    rw [hlg c hc'] at le
    have mo := mr_pow_mo (q := q) (by omega) k (m.toNat - k)
    rw [show k + (m.toNat - k) = m.toNat by omega] at mo
    exact mo
  refine Int.le_antisymm (mr_fwl_le p m _ 2 0 hm0.1 (fun d h7 h8 h9 => ?_)) ?_
  · obtain ⟨A, hA⟩ := mr_Nu_ex M (mr_Ld M d (L p))
    rw [val d A hA, ← em]
    exact mr_pl3_le h7 (mr_Ad hM hL bnd d.toNat d h7 (by omega) (by rw [← h0]; exact h9) A hA)
  · rcases hm.2.2 with e | ⟨q, c, q2, q3, q4, q5, q6⟩
    · rw [e]; exact (mr_fwl_ge p _ 2 0).1
    · obtain ⟨k, A, hk, hA, eA, hlg⟩ := prim q q2 q4
      have g := (mr_fwl_ge (f := f) p (f 0 - 1).toNat 2 0).2 q q2 (by omega) (by rw [h0]; exact q4.1)
      rw [val q A hA, eA, mr_pl3_pow q2 hk] at g
      rw [q6, hlg c q5]
      exact g
/-- NOUGHT -/
theorem mr_nt_e (h : mr_WB f M w L) {p : Int} (hp : 0 ≤ p ∧ p < 4) (u : Int) : mr_nt f p u ↔ ∀ x : Int, 0 ≤ x → x < M * M * M → mr_S M (L p) x → mr_of M x u = 0 := by
  have hF := h.2.2.2.2.2.1 p hp.1 hp.2
  obtain ⟨h0, h1, h2, h3, h4, h5, h6⟩ := id h
  have hM : 0 < M := by omega
  have nd : ∀ x : Int, mr_of M x u = 0 ↔ ∀ j, j < 3 → M ∣ mr_dec M x j * u := fun x => by
    rw [← mr_ec_z M]
    unfold mr_of
    refine ⟨fun z j hj => ?_, fun z => mr_ec_cg (fun j hj => by rw [Int.sub_zero]; exact z j hj)⟩
    have := mr_ec_inj hM z j hj
    rw [Int.sub_zero] at this
    exact this
  have rs : ∀ y : Int, mr_rs f y = 0 ↔ M ∣ y := fun y => by
    unfold mr_rs
    rw [h0, if_pos hM]
    exact ⟨Int.dvd_of_emod_eq_zero, Int.emod_eq_zero_of_dvd⟩
  refine ⟨fun z x _ _ hS => (nd x).mpr ?_, fun z c a hc ha haw => (rs _).mpr ?_⟩
  · have hP : mr_Lat 3 (fun y => ∀ j, j < 3 → M ∣ u * y j) := ⟨fun a b e ha j hj => by rw [← e j hj]; exact ha j hj, fun j _ => by rw [Int.mul_zero]; exact mr_dvd_0 M, fun a b k ha hb j hj => mr_dvd_lin (ha j hj) (hb j hj)⟩
    have := mr_Fo_gen hF hP (fun c hc j hj => by
      by_cases g : c ≤ j ∧ j < w
      · exact (rs _).mp (z c j (by omega) (by omega) (by omega))
      · have : mr_br f p c j = 0 := by
          rcases (show j < c ∨ w ≤ j by omega) with q | q
          · exact (hF.2.2.2.2 c hc).2.1 j q
          · exact mr_Fo_zero hF hc hj (Or.inr q)
        rw [this, Int.mul_zero]; exact mr_dvd_0 M) (fun j hj i hi => by
      rw [mr_e_at]
      split
      · exact Int.dvd_mul_left u M
      · rw [Int.mul_zero]; exact mr_dvd_0 M) hS
    exact fun j hj => by rw [Int.mul_comm]; exact this j hj
  · have lF := mr_Fo_in hF (c := c.toNat) (by omega)
    have bF := mr_Fo_box hF (c := c.toNat) (by omega)
    have b := mr_ec_bd hM (mr_br f p c.toNat)
    have e := (nd _).mp (z (mr_ec M (mr_br f p c.toNat)) b.1 b.2 ((mr_S_ec hM hF.1 hF.2.1 _).mpr lF)) a.toNat (by omega)
    rw [mr_dec_ec_box hM bF a.toNat (by omega), Int.mul_comm] at e
    unfold mr_br at e
    rw [Int.toNat_of_nonneg hc, Int.toNat_of_nonneg (by omega)] at e
    exact e
theorem mr_nought_e (h : mr_WB f M w L) {p : Int} (hp : 0 ≤ p ∧ p < 4) {u v : Int} (u1 : 1 ≤ u) (v1 : 1 ≤ v) (vM : v ≤ M) (hu : ∀ y : Int, 1 ≤ y → y < u → ¬ mr_nt f p y) (hu2 : mr_nt f p u ∨ f 0 ≤ u) (hv : ∀ y : Int, 1 ≤ y → y < v → ¬ ∀ x : Int, 0 ≤ x → x < M * M * M → mr_S M (L p) x → mr_of M x y = 0) (hv2 : ∀ x : Int, 0 ≤ x → x < M * M * M → mr_S M (L p) x → mr_of M x v = 0) : u = v := by
  rcases (show u < v ∨ u = v ∨ v < u by omega) with q | q | q
  · have h0 := h.1
    rcases hu2 with z | z
    · exact absurd ((mr_nt_e h hp u).mp z) (hv u u1 q)
    · omega
  · exact q
  · exact absurd ((mr_nt_e h hp v).mpr hv2) (hu v v1 q)
end FW
