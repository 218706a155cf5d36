/-! books with other equations; a new book -/
theorem mr_WB_eqs {f f' : Nat → Int} {M : Int} {w : Nat} {L : Int → mr_V → Prop} (h : mr_WB f M w L) (h0 : f' 0 = f 0) (h1 : f' 1 = f 1) (hb : ∀ t c j : Int, mr_fa f' t c j = mr_fa f t c j) (h2 : 0 ≤ f' 2 ∧ f' 2 ≤ 3) (he : ∀ i : Int, 0 ≤ i → i < f' 2 → (∀ j : Nat, j < 3 → (0 ≤ mr_se f' i j ∧ mr_se f' i j < M) ∧ (w ≤ j → mr_se f' i j = 0)) ∧ (0 ≤ mr_se f' i 3 ∧ mr_se f' i 3 < M)) : mr_WB f' M w L := by
  obtain ⟨a0, a1, a2, a3, a4, a5, a6⟩ := h
  refine ⟨by omega, by omega, a2, a3, h2, fun p g1 g2 => ?_, he⟩
  have e : mr_br f' p = mr_br f p := by funext c j; exact hb p c j
  rw [e]
  exact a5 p g1 g2
theorem mr_Cq_eqs {f f' N N' : Nat → Int} (hc : mr_Cq f N) (h0 : f' 0 = f 0) (h1 : f' 1 = f 1) (hb : ∀ t c j : Int, mr_fa f' t c j = mr_fa f t c j) (hn : ∀ j : Nat, j < 14 → N' j = N j) (h14 : N' 14 = f' 2) (he : ∀ i : Int, 0 ≤ i → i < 3 → N' (15 + i).toNat = (if i < f' 2 then mr_ec (f 0) (fun j => mr_se f' i j) else 0) ∧ N' (18 + i).toNat = if i < f' 2 then mr_se f' i 3 else 0) : mr_Cq f' N' := by
  obtain ⟨c0, c1, c2, c3, c4⟩ := hc
  refine ⟨by rw [hn 0 (by decide), h0]; exact c0, by rw [hn 1 (by decide), h1]; exact c1, h14, fun t c g1 g2 g3 g4 => ?_, fun i g1 g2 => by rw [h0]; exact he i g1 g2⟩
  have e : mr_br f' t = mr_br f t := by funext c j; exact hb t c j
  unfold mr_nf
  rw [hn _ (by omega), h0, e]
  exact c3 t c g1 g2 g3 g4
theorem mr_sse_se {f : Nat → Int} {i h v : Int} (hi : 0 ≤ i ∧ i < 3) (hh : 0 ≤ h ∧ h < 4) (i' h' : Int) : mr_se (mr_sse f i h v) i' h' = if i' = i ∧ h' = h then v else mr_se f i' h' := by
  have es : mr_sse f i h v = mr_fs f (39 + i * 4 + h).toNat v := if_pos ⟨hi.1, hi.2, hh.1, hh.2⟩
  rw [es]
  unfold mr_se
  by_cases e : 0 ≤ i' ∧ i' < 3 ∧ 0 ≤ h' ∧ h' < 4
  · rw [if_pos e, if_pos e]
    by_cases q : i' = i ∧ h' = h
    · rw [if_pos q, q.1, q.2, mr_fs_same]
    · rw [if_neg q, mr_fs_ne _ _ (by omega)]
  · rw [if_neg e, if_neg e, if_neg (by omega)]
theorem mr_sse_fa {f : Nat → Int} {i h v : Int} (t c j : Int) : mr_fa (mr_sse f i h v) t c j = mr_fa f t c j := by
  unfold mr_fa mr_sse
  split
  · split
    · rw [mr_fs_ne _ _ (by omega)]
    · rfl
  · rfl
theorem mr_seq_se {f r : Nat → Int} {i v : Int} (hi : 0 ≤ i ∧ i < 3) (i' : Int) : (∀ j : Nat, j < 3 → mr_se (mr_seq f i r v) i' j = if i' = i then r j else mr_se f i' j) ∧ mr_se (mr_seq f i r v) i' 3 = if i' = i then v else mr_se f i' 3 := by
  unfold mr_seq
  refine ⟨fun j hj => ?_, ?_⟩
  · rw [mr_sse_se hi (by decide), mr_sse_se hi (by decide), mr_sse_se hi (by decide), mr_sse_se hi (by decide)]
    rcases (show j = 0 ∨ j = 1 ∨ j = 2 by omega) with e | e | e <;> subst e <;> by_cases q : i' = i
    · rw [if_neg (by omega), if_neg (by omega), if_neg (by omega), if_pos ⟨q, rfl⟩, if_pos q]
    · rw [if_neg (by omega), if_neg (by omega), if_neg (by omega), if_neg (by omega), if_neg q]
    · rw [if_neg (by omega), if_neg (by omega), if_pos ⟨q, rfl⟩, if_pos q]
    · rw [if_neg (by omega), if_neg (by omega), if_neg (by omega), if_neg (by omega), if_neg q]
    · rw [if_neg (by omega), if_pos ⟨q, rfl⟩, if_pos q]
    · rw [if_neg (by omega), if_neg (by omega), if_neg (by omega), if_neg (by omega), if_neg q]
  · rw [mr_sse_se hi (by decide), mr_sse_se hi (by decide), mr_sse_se hi (by decide), mr_sse_se hi (by decide)]
    by_cases q : i' = i
    · rw [if_pos ⟨q, rfl⟩, if_pos q]
    · rw [if_neg (by omega), if_neg (by omega), if_neg (by omega), if_neg (by omega), if_neg q]
theorem mr_seq_fa {f r : Nat → Int} {i v : Int} (t c j : Int) : mr_fa (mr_seq f i r v) t c j = mr_fa f t c j := by
  unfold mr_seq
  rw [mr_sse_fa, mr_sse_fa, mr_sse_fa, mr_sse_fa]
theorem mr_fs2_fa {f : Nat → Int} {x : Int} (t c j : Int) : mr_fa (mr_fs f 2 x) t c j = mr_fa f t c j := by
  unfold mr_fa
  split
  · rw [mr_fs_ne _ _ (by omega)]
  · rfl
theorem mr_fs2_se {f : Nat → Int} {x : Int} (i h : Int) : mr_se (mr_fs f 2 x) i h = mr_se f i h := by
  unfold mr_se
  split
  · rw [mr_fs_ne _ _ (by omega)]
  · rfl
theorem mr_Fo_0 {M : Int} (hM : 1 ≤ M) {w : Nat} {F : Nat → mr_V} (hF : ∀ c j, c < 3 → j < 3 → F c j = 0) : mr_Fo M w F (mr_L0 M) := by
  have hL := mr_L0_Li M
  have hh : ∀ c, c < 3 → mr_hat M F c = mr_e c M := fun c hc => mr_hat_neg (by rw [hF c c hc hc]; decide)
  refine ⟨hL.1, hL.2, fun x hx j _ hj => hx j hj, fun c hc => ?_, fun c hc => ⟨fun j hj => by rw [hF c j hc hj]; omega, fun j hj => hF c j hc (by omega), fun _ j hj => hF c j hc hj⟩⟩
  rw [hh c hc]
  refine ⟨hL.2 c hc, fun j hj => mr_e_ne M (by omega), by rw [mr_e_same]; exact hM, fun x hx _ => by rw [mr_e_same]; exact hx c hc, fun j g1 g2 => ?_⟩
  rw [mr_e_ne M (by omega), hh j g2, mr_e_same]
  omega
theorem mr_anew_ok {m x : Int} (hm : 2 ≤ m ∧ m ≤ 30) (hx : 1 ≤ x ∧ x ≤ 3) {R R' : Nat → Int} (hR : ∀ j : Nat, j < 21 → R j = 0) (h0 : R' 0 = m) (h1 : R' 1 = x) (hj : ∀ j : Nat, 2 ≤ j → j < 21 → R' j = R j) : mr_WB (mr_anew m x) m x.toNat (fun _ => mr_L0 m) ∧ mr_Cq (mr_anew m x) R' := by
  have a0 : mr_anew m x 0 = m := rfl
  have a1 : mr_anew m x 1 = x := by show max 0 (min x 3) = x; omega
  have a2 : ∀ j : Nat, 2 ≤ j → mr_anew m x j = 0 := fun j hj => by
    unfold mr_anew
    rw [mr_fs_ne _ _ (by omega), mr_fs_ne _ _ (by omega)]
  have fa : ∀ t c j : Int, mr_fa (mr_anew m x) t c j = 0 := fun t c j => by
    unfold mr_fa
    split
    · exact a2 _ (by omega)
    · rfl
  refine ⟨⟨a0, by rw [a1]; omega, hm, by omega, by rw [a2 2 (by decide)]; decide, fun p _ _ => mr_Fo_0 (by omega) (fun c j _ _ => fa p c j), fun i g1 g2 => by rw [a2 2 (by decide)] at g2; omega⟩, by rw [a0]; exact h0, by rw [a1]; exact h1, by rw [a2 2 (by decide), hj 14 (by decide) (by decide)]; exact hR 14 (by decide), fun t c g1 g2 g3 g4 => ?_, fun i g1 g2 => ?_⟩
  · unfold mr_nf
    rw [hj _ (by omega) (by omega), hR _ (by omega), mr_ec_cg (y := fun _ => 0) (fun j _ => by show mr_anew m x 0 ∣ mr_fa (mr_anew m x) t (c.toNat : Int) j - 0; rw [fa]; exact mr_dvd_0 _), mr_ec_z]
  · rw [a2 2 (by decide), if_neg (by omega), if_neg (by omega), hj _ (by omega) (by omega), hj _ (by omega) (by omega)]
    exact ⟨hR _ (by omega), hR _ (by omega)⟩
/-- an equation more -/
theorem mr_eqn_ok {f R R' : Nat → Int} {M : Int} {w : Nat} {L : Int → mr_V → Prop} (h : mr_WB f M w L) (hc : mr_Cq f R) (h2 : f 2 < 3) {nm : Nat → Int} {v : Int} (hb : mr_box M nm) (hz : ∀ j, w ≤ j → j < 3 → nm j = 0) (hv : 0 ≤ v ∧ v < M) (hR' : R' = mr_fs (mr_fs (mr_fs R (15 + f 2).toNat (mr_ec M nm)) (18 + f 2).toNat v) 14 (f 2 + 1)) : mr_WB (mr_eqn f nm v) M w L ∧ mr_Cq (mr_eqn f nm v) R' := by
  obtain ⟨a0, a1, a2, a3, a4, a5, a6⟩ := id h
  have e2 : mr_eqn f nm v 2 = f 2 + 1 := by unfold mr_eqn; rw [mr_fs_same]; omega
  have e0 : mr_eqn f nm v 0 = f 0 := by unfold mr_eqn; rw [mr_fs_ne _ _ (by decide)]; exact mr_seq_lo f nm (f 2) v (by decide)
  have e1 : mr_eqn f nm v 1 = f 1 := by unfold mr_eqn; rw [mr_fs_ne _ _ (by decide)]; exact mr_seq_lo f nm (f 2) v (by decide)
  have fa : ∀ t c j : Int, mr_fa (mr_eqn f nm v) t c j = mr_fa f t c j := fun t c j => by unfold mr_eqn; rw [mr_fs2_fa, mr_seq_fa]
  have se : ∀ i : Int, (∀ j : Nat, j < 3 → mr_se (mr_eqn f nm v) i j = if i = f 2 then nm j else mr_se f i j) ∧ mr_se (mr_eqn f nm v) i 3 = if i = f 2 then v else mr_se f i 3 := fun i => by
    have := mr_seq_se (f := f) (r := nm) (v := v) (i := f 2) ⟨a4.1, h2⟩ i
    unfold mr_eqn
    refine ⟨fun j hj => by rw [mr_fs2_se]; exact this.1 j hj, by rw [mr_fs2_se]; exact this.2⟩
  refine ⟨mr_WB_eqs h e0 e1 fa (by omega) (fun i g1 g2 => ?_), mr_Cq_eqs hc e0 e1 fa (fun j hj => ?_) ?_ (fun i g1 g2 => ?_)⟩
  · by_cases q : i = f 2
    · refine ⟨fun j hj => ?_, ?_⟩
      · rw [(se i).1 j hj, if_pos q]; exact ⟨hb j hj, fun g => hz j g hj⟩
      · rw [(se i).2, if_pos q]; exact hv
    · obtain ⟨k1, k2⟩ := a6 i g1 (by omega)
      refine ⟨fun j hj => ?_, ?_⟩
      · rw [(se i).1 j hj, if_neg q]; exact k1 j hj
      · rw [(se i).2, if_neg q]; exact k2
  · rw [hR', mr_fs_ne _ _ (by omega), mr_fs_ne _ _ (by omega), mr_fs_ne _ _ (by omega)]
  · rw [hR', mr_fs_same, e2]
  · have c4 := hc.2.2.2.2 i g1 g2
    have r15 : R' (15 + i).toNat = if i = f 2 then mr_ec M nm else R (15 + i).toNat := by
      rw [hR', mr_fs_ne _ _ (show (15 + i).toNat ≠ 14 by omega), mr_fs_ne _ _ (show (15 + i).toNat ≠ (18 + f 2).toNat by omega)]
      by_cases q : i = f 2
      · rw [q, mr_fs_same, if_pos rfl]
      · rw [mr_fs_ne _ _ (show (15 + i).toNat ≠ (15 + f 2).toNat by omega), if_neg q]
    have r18 : R' (18 + i).toNat = if i = f 2 then v else R (18 + i).toNat := by
      rw [hR', mr_fs_ne _ _ (show (18 + i).toNat ≠ 14 by omega)]
      by_cases q : i = f 2
      · rw [q, mr_fs_same, if_pos rfl]
      · rw [mr_fs_ne _ _ (show (18 + i).toNat ≠ (18 + f 2).toNat by omega), mr_fs_ne _ _ (show (18 + i).toNat ≠ (15 + f 2).toNat by omega), if_neg q]
    rw [r15, r18, e2, (se i).2]
    by_cases q : i = f 2
    · rw [if_pos q, if_pos q, if_pos q, if_pos (show i < f 2 + 1 by omega), if_pos (show i < f 2 + 1 by omega), a0]
      exact ⟨mr_ec_cg (fun j hj => by rw [(se i).1 j hj, if_pos q]; exact mr_dvd_same _ _), rfl⟩
    · rw [if_neg q, if_neg q, if_neg q, c4.1, c4.2]
      by_cases q2 : i < f 2
      · rw [if_pos q2, if_pos q2, if_pos (show i < f 2 + 1 by omega), if_pos (show i < f 2 + 1 by omega)]
        exact ⟨mr_ec_cg (fun j hj => by rw [(se i).1 j hj, if_neg q]; exact mr_dvd_same _ _), rfl⟩
      · rw [if_neg q2, if_neg q2, if_neg (show ¬ i < f 2 + 1 by omega), if_neg (show ¬ i < f 2 + 1 by omega)]
        exact ⟨rfl, rfl⟩
