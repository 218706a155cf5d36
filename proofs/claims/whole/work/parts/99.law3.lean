/-- behind the Model's row: what it answered, thrown, the invariant -/
def mr_RT (th v : Int) (w1 : mr_Wd) (r2 : Option mr_AV) (w2 : mr_Wd) : Prop := r2 = some (vI v) ∧ mr_IV w2 ∧ w2 28 = w1 28 ∧ ∃ tp sz zo fr kd nb ft pl wd sm md li sd : Int, w2 18 = eMo th tp sz zo fr kd nb ft pl wd sm md li sd
theorem cr_row {w1 : mr_Wd} {n0 nx ct fk : Int} {g f im : Nat → Int} {S I : Nat → Nat → Int} {th tp sz zo fr kd nb ft pl wd sm md li sd : Int} {T N R K Sn ik s1 s2 ls : Nat → Int} (hX : mr_XS w1 (n0, g, f, nx, ct, S, I, im, fk)) (hM : mr_MW w1 th tp sz zo fr kd nb ft pl wd sm md li sd T N R K Sn ik s1 s2 ls) (hC : mr_CI n0 nx ct fk g f im S I tp ft nb wd sm T N K Sn ik) (h28 : ∃ fo : Nat → Int, w1 28 = eA 3 1 fo) {p x : Int} (h_p : InR p) (h_x : InR x) :
    ((mr_pk f p ∧ 0 ≤ x ∧ x < mr_sz f p 0) → T_X7_row [vR 18 0, vI p, vI x] w1 (mr_RT 0 (mr_tb (mr_frl f p 3 0 x (fun _ => 0))) w1)) ∧ (¬ (mr_pk f p ∧ 0 ≤ x ∧ x < mr_sz f p 0) → T_X7_row [vR 18 0, vI p, vI x] w1 (mr_RT 1 0 w1)) := by
  obtain ⟨c1, c2, c3, c4, ⟨c5, c6⟩, c7, c8, c9⟩ := id hC
  obtain ⟨W, L, hNG, e0, e1, e2, hWC, hz, hf0⟩ := mr_OK_NG c4
  have hrw : mr_pk f p ↔ (0 < N 0 ∧ 0 ≤ p ∧ p ≤ 3) := by unfold mr_pk; omega
  have end1 : ∀ (w2 : mr_Wd) (th2 li2 : Int) (st2 ls2 : Nat → Int) (v : Int), mr_MW w2 th2 tp sz zo fr kd nb ft pl wd sm md li2 sd T N R K Sn ik st2 s2 ls2 → mr_FM w1 w2 → mr_RT th2 v w1 (some (vI v)) w2 := fun w2 th2 li2 st2 ls2 v hM2 hF2 => ⟨rfl, mr_iv h28 hX hF2 hM2 hC, hF2 28 (Or.inr (by decide)), _, _, _, _, _, _, _, _, _, _, _, _, _, hM2.1⟩
  refine ⟨fun hp => ?_, fun hno => ?_⟩
  · obtain ⟨hW, hCq⟩ := hWC hp.1.1
    have hF := hW.2.2.2.2.2.1 p hp.1.2.1 hp.1.2.2
    have hM1 : 1 ≤ f 0 := by have := hp.1.1; omega
    have hsz := (mr_sz_e hM1 rfl hW.2.1 hW.2.2.2.1 hF).1
    obtain ⟨k1, k2, k3⟩ := mr_frl_ok hM1 rfl hW.2.1 hW.2.2.2.1 hF (k := x) ⟨hp.2.1, by rw [← hsz]; exact hp.2.2⟩ (z := fun _ => 0) (fun _ _ => rfl)
    refine ⟨_, _, _, _, _, _, _, _, _, _, _, _, _, _, _, _, _, _, _, _, _, _, _, W, L, p, x, rfl, hM, hNG, h_p, h_x, fun hq w2 st li2 n hl hn r g1 g2 g3 g4 hM2 hF2 => ?_, fun hq w2 st li2 n hl hn => ?_, fun hno => absurd ⟨hrw.mp hp.1, hp.2.1⟩ hno⟩
    · rw [e0] at hl g2 ⊢
      have hin : st (mr_ec (f 0) (mr_frl f p 3 0 x (fun _ => 0))).toNat = 1 := ((mr_St_at (mr_Lp_St hl) (mr_ec_bd (by omega) _).1 (mr_ec_bd (by omega) _).2).trans (mr_S_ec (by omega) hF.1 hF.2.1 _)).mpr k2
      have hrk := mr_Lp_rk hM1 hF (mr_Lp_St hl) k1 k2
      have hu := mr_sm_uq hl.1 g3 hin (by rw [g4, hrk, k3])
      have hr : r = mr_ec (f 0) (mr_frl f p 3 0 x (fun _ => 0)) := by
        have b := (mr_ec_bd (M := f 0) (by omega) (mr_frl f p 3 0 x (fun _ => 0))).1
        omega
      have ht : mr_tbk (f 0) r = mr_tb (mr_frl f p 3 0 x (fun _ => 0)) := by
        rw [hr]
        exact mr_tbk_box (by omega) k1
      rw [ht]
      exact end1 w2 _ _ _ _ _ hM2 hF2
    · rw [e0] at hl
      have := mr_Lp_book hW ⟨hp.1.2.1, hp.1.2.2⟩ hl
      exact absurd hp.2.2 (by omega)
  · refine ⟨_, _, _, _, _, _, _, _, _, _, _, _, _, _, _, _, _, _, _, _, _, _, _, W, L, p, x, rfl, hM, hNG, h_p, h_x, fun hq w2 st li2 n hl hn => ?_, fun hq w2 st li2 n hl hn hM2 hF2 => end1 w2 _ _ _ _ _ hM2 hF2, fun _ w2 hM2 hF2 => end1 w2 _ _ _ _ _ hM2 hF2⟩
    have hk := hrw.mpr hq.1
    obtain ⟨hW, hCq⟩ := hWC hk.1
    rw [e0] at hl
    have := mr_Lp_book hW ⟨hk.2.1, hk.2.2⟩ hl
    exact absurd ⟨hk, hq.2, by omega⟩ hno
