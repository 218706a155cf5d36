/-! SOLUTIONS -/
theorem mr_sm_head (g : Nat → Int) : ∀ w : Nat, mr_sm (1 + w) g = g 0 + mr_sm w (fun c => g (1 + c))
  | 0 => by show mr_sm 0 g + g 0 = g 0 + 0; show (0 : Int) + g 0 = g 0 + 0; omega
  | w + 1 => by
    have ih := mr_sm_head g w
    show mr_sm (1 + w) g + g (1 + w) = g 0 + (mr_sm w (fun c => g (1 + c)) + g (1 + w))
    omega
theorem mr_sft_1 (a : Nat) (x : mr_V) : mr_sft (a + 1) x = mr_sft a (mr_sft 1 x) := by
  funext j
  unfold mr_sft
  by_cases e : j < a
  · rw [if_pos e, if_pos (by omega)]
  · rw [if_neg e]
    by_cases e2 : j < a + 1
    · rw [if_pos e2, if_pos (by omega)]
    · rw [if_neg e2, if_neg (by omega)]
      congr 1
theorem mr_tbk_e (M r : Int) : mr_tbk M r = mr_tb (mr_dec M r) := rfl
section SV
variable {f N : Nat → Int} {M : Int} {w : Nat} {L : Int → mr_V → Prop}
theorem mr_tbS_e (h : mr_WB f M w L) {n0 : Nat} (hn : f 2 = n0) (R1 : Nat → mr_V) : ∀ r, r < 1 + w → ∀ j : Nat, mr_tbS f R1 r j = if j = n0 + r then 1 % M else if j < n0 then (if r = 0 then - mr_se f j 3 else mr_se f j ((r : Int) - 1)) % M else 0 := fun r hr j => by
  obtain ⟨h0, h1, h2, h3, h4, h5, h6⟩ := h
  unfold mr_tbS
  rw [mr_uR_at _ (by decide)]
  by_cases e : r = 0
  · subst e
    rw [if_neg (by omega)]
    show mr_Rw R1 0 (mr_gU (f 2 + 1 + f 1) (f 0) (fun i => - mr_se f i 3) (f 2) (f 2)) 0 j = _
    rw [mr_Rw_same, mr_gU_at, h0]
    by_cases k1 : j = n0 + 0
    · rw [if_pos k1, if_pos ⟨by omega, by omega, by omega⟩]
    · rw [if_neg k1, if_neg (fun z => k1 (by omega))]
      by_cases k2 : j < n0
      · rw [if_pos k2, if_pos (by omega), if_pos rfl]
      · rw [if_neg k2, if_neg (by omega)]
  · rw [if_pos ⟨by omega, by omega⟩, mr_gU_at, h0]
    by_cases k1 : j = n0 + r
    · rw [if_pos k1, if_pos ⟨by omega, by omega, by omega⟩]
    · rw [if_neg k1, if_neg (fun z => k1 (by omega))]
      by_cases k2 : j < n0
      · rw [if_pos k2, if_pos (by omega), if_neg e]
        rfl
      · rw [if_neg k2, if_neg (by omega)]
theorem mr_tbS_cut (h : mr_WB f M w L) {n0 : Nat} (hn : f 2 = n0) (R1 : Nat → mr_V) : ∀ y : mr_V, mr_Lc M (n0 + (1 + w)) (1 + w) 0 (mr_tbS f R1) (mr_sft n0 y) ↔ ∀ i, i < n0 → M ∣ mr_sm w (fun c => mr_se f i c * y (1 + c)) - mr_se f i 3 * y 0 := fun y => by
  have e := mr_tbS_e h hn R1
  rw [mr_cutU (M := M) (n0 := n0) (ct := 1 + w) (R := mr_tbS f R1) (h := fun r i => if r = 0 then - mr_se f i 3 else mr_se f i ((r : Int) - 1)) (fun r hr i hi => by rw [e r hr, if_neg (by omega), if_pos hi]; exact mr_dvd_self_emod _ _) (fun r hr q hq => by
    rw [e r hr, mr_e_at]
    by_cases k : q = r
    · rw [if_pos (by omega), if_pos k]; exact mr_dvd_self_emod _ _
    · rw [if_neg (by omega), if_neg (by omega), if_neg k]; exact mr_dvd_same _ _) y]
  have key : ∀ i : Nat, mr_sm (1 + w) (fun r => (if r = 0 then - mr_se f i 3 else mr_se f i ((r : Int) - 1)) * y r) = mr_sm w (fun c => mr_se f i c * y (1 + c)) - mr_se f i 3 * y 0 := fun i => by
    rw [mr_sm_head]
    show (if (0 : Nat) = 0 then - mr_se f i 3 else mr_se f i (((0 : Nat) : Int) - 1)) * y 0 + mr_sm w (fun c => (if 1 + c = 0 then - mr_se f i 3 else mr_se f i (((1 + c : Nat) : Int) - 1)) * y (1 + c)) = _
    rw [if_pos rfl, mr_sm_cg (g := fun c => (if 1 + c = 0 then - mr_se f i 3 else mr_se f i (((1 + c : Nat) : Int) - 1)) * y (1 + c)) (h := fun c => mr_se f i c * y (1 + c)) w (fun c hc => by
      show (if 1 + c = 0 then - mr_se f i 3 else mr_se f i (((1 + c : Nat) : Int) - 1)) * y (1 + c) = mr_se f i c * y (1 + c)
      rw [if_neg (by omega), show (((1 + c : Nat) : Int) - 1) = (c : Int) by omega]), Int.neg_mul]
    omega
  exact ⟨fun z i hi => by rw [← key i]; exact z i hi, fun z i hi => by rw [key i]; exact z i hi⟩
theorem mr_tbS_in (h : mr_WB f M w L) {n0 : Nat} (hn : f 2 = n0) (R1 : Nat → mr_V) : ∀ r, r < 1 + w → ∀ j : Nat, 0 ≤ mr_tbS f R1 r j ∧ mr_tbS f R1 r j < M := fun r hr j => by
  have hM : 0 < M := by have := h.2.2.1; omega
  rw [mr_tbS_e h hn R1 r hr j]
  split
  · exact mr_em hM _
  · split
    · exact mr_em hM _
    · exact ⟨Int.le_refl 0, hM⟩
def mr_KL (f : Nat → Int) (M : Int) (w : Nat) : mr_V → Prop := fun x => (∀ i : Nat, (i : Int) < f 2 → M ∣ mr_sm w (fun c => mr_se f i c * x c)) ∧ ∀ j, w ≤ j → j < 3 → M ∣ x j
/-- all that is wanted of the table -/
theorem mr_sol_main (h : mr_WB f M w L) (R1 F1 : Nat → mr_V) : ∃ (FK : Nat → mr_V) (x0 : mr_V), mr_Fo M w FK (mr_KL f M w) ∧ (∀ j : Nat, j < 3 → x0 j = mr_sh (f 2 + 1 + f 1) (mr_shp (f 0) (f 2 + 1 + f 1) (0 + 1 + f 1) (mr_tbS f R1) F1) (f 2) (f 2 + 1 + (j : Int))) ∧ mr_sbl (f 0) (f 2 + 1 + f 1) (mr_shp (f 0) (f 2 + 1 + f 1) (0 + 1 + f 1) (mr_tbS f R1) F1) ((f 2 + 1 + f 1) - (f 2 + 1)).toNat (f 2 + 1) 1 = mr_Sz M FK ∧ (mr_sh (f 2 + 1 + f 1) (mr_shp (f 0) (f 2 + 1 + f 1) (0 + 1 + f 1) (mr_tbS f R1) F1) (f 2) (f 2) = 1 → mr_sv f M w x0 ∧ mr_box M x0 ∧ ∀ j, j < 3 → x0 j < mr_hat M FK j j) ∧ ((∃ x, mr_sv f M w x) → mr_sh (f 2 + 1 + f 1) (mr_shp (f 0) (f 2 + 1 + f 1) (0 + 1 + f 1) (mr_tbS f R1) F1) (f 2) (f 2) = 1) := by
  obtain ⟨n0, hn⟩ : ∃ n0 : Nat, f 2 = n0 := ⟨(f 2).toNat, by have := h.2.2.2.2.1; omega⟩
  have h' := h
  obtain ⟨h0, h1, h2, h3, h4, h5, h6⟩ := h
  have cut := mr_tbS_cut h' hn R1
  have hin := mr_tbS_in h' hn R1
  have hput := mr_Fo_put (f := f) (M := M) ⟨by omega, h2.2⟩ (q := 0) (by decide) h1 h3.2 (a := n0 + 1) (A := f 2 + 1) (n := n0 + 1 + w) (cl := f 2 + 1 + f 1) (ct := 1 + w) (ctI := 0 + 1 + f 1) (R := mr_tbS f R1) (F0 := F1) (by omega) (by omega) (by omega) rfl (fun r hr j _ => hin r hr j) (h5 0 (by decide) (by decide))
  rw [h0]
  have eS : mr_shp M (f 2 + 1 + f 1) (0 + 1 + f 1) (mr_tbS f R1) F1 = mr_shp M ((n0 + (1 + w) : Nat) : Int) ((1 + w : Nat) : Int) (mr_tbS f R1) F1 := by rw [show f 2 + 1 + f 1 = ((n0 + (1 + w) : Nat) : Int) by omega, show 0 + 1 + f 1 = ((1 + w : Nat) : Int) by omega]
  have hH := mr_shp_H (m := M) ⟨by omega, h2.2⟩ (n := n0 + (1 + w)) (ct := 1 + w) (R := mr_tbS f R1) (F0 := F1) (fun r hr j _ => hin r hr j)
  rw [← eS] at hH
  generalize mr_shp M (f 2 + 1 + f 1) (0 + 1 + f 1) (mr_tbS f R1) F1 = S at hput hH
  have shI : ∀ c a : Nat, c < n0 + (1 + w) → a < n0 + (1 + w) → ∀ C A : Int, C = c → A = a → mr_sh (f 2 + 1 + f 1) S C A = S c a := fun c a hc ha C A eC eA => by
    unfold mr_sh
    rw [if_pos ⟨by omega, by omega, by omega, by omega⟩, eC, eA, Int.toNat_natCast, Int.toNat_natCast]
  have hK : mr_Fo M w (mr_br (mr_pA f 0 (fun c x => mr_sh (f 2 + 1 + f 1) S (f 2 + 1 + c) (f 2 + 1 + x))) 0) (mr_KL f M w) := by
    refine mr_Fo_congr (fun x => ?_) hput
    refine and_congr_left fun _ => ?_
    rw [mr_sft_1, show n0 + 1 + w = n0 + (1 + w) by omega, cut]
    have z : mr_sft 1 x 0 = 0 := mr_sft_lo x (by decide)
    have s : ∀ c : Nat, mr_sft 1 x (1 + c) = x c := fun c => mr_sft_hi 1 c x
    simp only [z, s, Int.mul_zero, Int.sub_zero]
    exact ⟨fun g i hi => g i (by omega), fun g i hi => g i (by omega)⟩
  have dg : ∀ c, c < w → mr_br (mr_pA f 0 (fun c x => mr_sh (f 2 + 1 + f 1) S (f 2 + 1 + c) (f 2 + 1 + x))) 0 c c = S (n0 + 1 + c) (n0 + 1 + c) := fun c hc => by
    rw [mr_pA_dg (by decide) h1 h3 hc]
    exact shI _ _ (by omega) (by omega) _ _ (by omega) (by omega)
  have hsb := mr_sbl_e (M := M) (by omega) h3 hK (S := S) (a := n0 + 1) (A := f 2 + 1) (cl := f 2 + 1 + f 1) (by omega) dg
  obtain ⟨a1, a2, a3, a4, a5⟩ := hH.1 n0 (by omega)
  have b1 := hH.2 n0 (by omega)
  refine ⟨_, fun j => mr_sh (f 2 + 1 + f 1) S (f 2) (f 2 + 1 + (j : Int)), hK, fun _ _ => rfl, ?_, fun e1 => ?_, fun ⟨x, hx⟩ => ?_⟩
  · rw [show ((f 2 + 1 + f 1) - (f 2 + 1)).toNat = w by omega]
    exact hsb
  · have e1' : S n0 n0 = 1 := by rw [← e1]; exact (shI n0 n0 (by omega) (by omega) _ _ hn hn).symm
    have eh : mr_hat M S n0 = S n0 := mr_hat_pos (by rw [e1']; decide)
    rw [eh] at a1 a2 a5
    have xv : ∀ j : Nat, j < w → mr_sh (f 2 + 1 + f 1) S (f 2) (f 2 + 1 + (j : Int)) = S n0 (n0 + (1 + j)) := fun j hj => shI _ _ (by omega) (by omega) _ _ hn (by omega)
    have xz : ∀ j : Nat, w ≤ j → mr_sh (f 2 + 1 + f 1) S (f 2) (f 2 + 1 + (j : Int)) = 0 := fun j hj => by
      unfold mr_sh
      exact if_neg (by omega)
    have inL : mr_Lc M (n0 + (1 + w)) (1 + w) 0 (mr_tbS f R1) (mr_sft n0 (fun j => S n0 (n0 + j))) := (mr_Lc_lat _ _ _ _ _).1 _ _ (fun j hj => by
      by_cases g : j < n0
      · rw [a2 j g, mr_sft_lo _ g]
      · rw [show j = n0 + (j - n0) by omega, mr_sft_hi]) a1
    have eq := (cut _).mp inL
    have y0 : S n0 (n0 + 0) = 1 := e1'
    refine ⟨⟨fun i hi => ?_, fun j g1 g2 => by show M ∣ mr_sh (f 2 + 1 + f 1) S (f 2) (f 2 + 1 + (j : Int)); rw [xz j g1]; exact mr_dvd_0 M⟩, fun j hj => ?_, fun j hj => ?_⟩
    · have := eq i (by omega)
      rw [y0, Int.mul_one] at this
      rw [mr_sm_cg (g := fun c => mr_se f i c * mr_sh (f 2 + 1 + f 1) S (f 2) (f 2 + 1 + (c : Int))) (h := fun c => mr_se f i c * S n0 (n0 + (1 + c))) w (fun c hc => by rw [xv c hc])]
      exact this
    · by_cases g : j < w
      · show 0 ≤ mr_sh (f 2 + 1 + f 1) S (f 2) (f 2 + 1 + (j : Int)) ∧ mr_sh (f 2 + 1 + f 1) S (f 2) (f 2 + 1 + (j : Int)) < M
        rw [xv j g]; exact b1.1 _ (by omega)
      · show 0 ≤ mr_sh (f 2 + 1 + f 1) S (f 2) (f 2 + 1 + (j : Int)) ∧ mr_sh (f 2 + 1 + f 1) S (f 2) (f 2 + 1 + (j : Int)) < M
        rw [xz j (by omega)]; omega
    · show mr_sh (f 2 + 1 + f 1) S (f 2) (f 2 + 1 + (j : Int)) < _
      by_cases g : j < w
      · rw [xv j g]
        have r := (a5 (n0 + (1 + j)) (by omega) (by omega)).2
        have ehh : mr_hat M S (n0 + (1 + j)) (n0 + (1 + j)) = mr_hat M (mr_br (mr_pA f 0 (fun c x => mr_sh (f 2 + 1 + f 1) S (f 2 + 1 + c) (f 2 + 1 + x))) 0) j j := by
          have d := dg j g
          rw [show n0 + 1 + j = n0 + (1 + j) by omega] at d
          by_cases p : 0 < S (n0 + (1 + j)) (n0 + (1 + j))
          · rw [mr_hat_pos p, mr_hat_pos (by rw [d]; exact p), d]
          · rw [mr_hat_neg p, mr_hat_neg (by rw [d]; exact p), mr_e_same, mr_e_same]
        rw [← ehh]
        exact r
      · rw [xz j (by omega)]
        have := (mr_hat_le (M := M) (by omega) hK hj).1
        omega
  · have inL : mr_Lc M (n0 + (1 + w)) (1 + w) 0 (mr_tbS f R1) (mr_sft n0 (fun j => if j = 0 then 1 else x (j - 1))) := (cut _).mpr (fun i hi => by
      show M ∣ mr_sm w (fun c => mr_se f i c * (if 1 + c = 0 then 1 else x (1 + c - 1))) - mr_se f i 3 * (if 0 = 0 then 1 else x (0 - 1))
      rw [if_pos rfl, Int.mul_one, mr_sm_cg (g := fun c => mr_se f i c * (if 1 + c = 0 then 1 else x (1 + c - 1))) (h := fun c => mr_se f i c * x c) w (fun c hc => by
        show mr_se f i c * (if 1 + c = 0 then 1 else x (1 + c - 1)) = mr_se f i c * x c
        rw [if_neg (by omega), show 1 + c - 1 = c by omega])]
      exact hx.1 i (by omega))
    have dv := a4 _ inL (fun j hj => mr_sft_lo _ hj)
    have e9 : mr_sft n0 (fun j => if j = 0 then (1 : Int) else x (j - 1)) n0 = 1 := by
      have := mr_sft_hi n0 0 (fun j => if j = 0 then (1 : Int) else x (j - 1))
      rw [Nat.add_zero] at this
      rw [this]
      exact if_pos rfl
    rw [e9] at dv
    have le := Int.le_of_dvd (by decide) dv
    rw [shI n0 n0 (by omega) (by omega) _ _ hn hn]
    by_cases p : 0 < S n0 n0
    · rw [mr_hat_pos p] at le a3
      omega
    · rw [mr_hat_neg p, mr_e_same] at le
      omega
theorem mr_sv_KL (h : mr_WB f M w L) {x0 : mr_V} (hx : mr_sv f M w x0) (x : mr_V) : mr_sv f M w x ↔ mr_KL f M w (fun j => x j - x0 j) := by
  have sm : ∀ i : Nat, mr_sm w (fun c => mr_se f i c * (x c - x0 c)) = mr_sm w (fun c => mr_se f i c * x c) - mr_sm w (fun c => mr_se f i c * x0 c) := fun i => by
    have := mr_sm_lin (fun c : Nat => mr_se f i c * x c) (fun c : Nat => mr_se f i c * x0 c) (-1) w
    rw [← mr_sm_cg (g := fun c => mr_se f i c * (x c - x0 c)) w (fun c hc => by
      show mr_se f i c * (x c - x0 c) = mr_se f i c * x c + -1 * (mr_se f i c * x0 c)
      rw [Int.mul_sub]; omega)] at this
    omega
  unfold mr_KL
  refine ⟨fun z => ⟨fun i hi => ?_, fun j g1 g2 => Int.dvd_sub (z.2 j g1 g2) (hx.2 j g1 g2)⟩, fun z => ⟨fun i hi => ?_, fun j g1 g2 => ?_⟩⟩
  · have a := Int.dvd_sub (z.1 i hi) (hx.1 i hi)
    show M ∣ mr_sm w (fun c => mr_se f i c * (x c - x0 c))
    rw [sm i]
    rw [show mr_sm w (fun c => mr_se f i c * x c) - mr_se f i 3 - (mr_sm w (fun c => mr_se f i c * x0 c) - mr_se f i 3) = mr_sm w (fun c => mr_se f i c * x c) - mr_sm w (fun c => mr_se f i c * x0 c) by omega] at a
    exact a
  · have b : M ∣ mr_sm w (fun c => mr_se f i c * (x c - x0 c)) := z.1 i hi
    rw [sm i] at b
    have a := Int.dvd_add b (hx.1 i hi)
    rw [show mr_sm w (fun c => mr_se f i c * x c) - mr_sm w (fun c => mr_se f i c * x0 c) + (mr_sm w (fun c => mr_se f i c * x0 c) - mr_se f i 3) = mr_sm w (fun c => mr_se f i c * x c) - mr_se f i 3 by omega] at a
    exact a
  · have a := Int.dvd_add (z.2 j g1 g2) (hx.2 j g1 g2)
    rw [show (x j - x0 j) + x0 j = x j by omega] at a
    exact a
theorem mr_sv_cg {x y : mr_V} (hw : w ≤ 3) (e : ∀ j, j < 3 → x j = y j) (hx : mr_sv f M w x) : mr_sv f M w y := ⟨fun i hi => by rw [← mr_sm_cg (g := fun c => mr_se f i c * x c) w (fun c hc => by show mr_se f i c * x c = mr_se f i c * y c; rw [e c (by omega)])]; exact hx.1 i hi, fun j g1 g2 => by rw [← e j g2]; exact hx.2 j g1 g2⟩
theorem mr_solutions_e (h : mr_WB f M w L) (hc : mr_Cq f N) {st li : Nat → Int} {n : Nat} (hp : mr_Lp M st li n (mr_sol N)) (R1 F1 : Nat → mr_V) : (if mr_sh (f 2 + 1 + f 1) (mr_shp (f 0) (f 2 + 1 + f 1) (0 + 1 + f 1) (mr_tbS f R1) F1) (f 2) (f 2) = 1 then mr_sbl (f 0) (f 2 + 1 + f 1) (mr_shp (f 0) (f 2 + 1 + f 1) (0 + 1 + f 1) (mr_tbS f R1) F1) ((f 2 + 1 + f 1) - (f 2 + 1)).toNat (f 2 + 1) 1 else 0) = n := by
  obtain ⟨FK, x0, g1, g2, g3, g4, g5⟩ := mr_sol_main h R1 F1
  have hM : 1 ≤ M := by have := h.2.2.1; omega
  split
  · rename_i e
    obtain ⟨k1, k2, k3⟩ := g4 e
    rw [g3, mr_Lp_cs hM g1 (x0 := x0) (mr_Lp_cg hp (fun r hr hr1 => (mr_sol_e h hc ⟨hr, hr1⟩).trans (mr_sv_KL h k1 _)))]
  · rename_i e
    rcases Nat.eq_zero_or_pos n with q | q
    · rw [q]; rfl
    · have := hp.2.2.1 0 q
      exact absurd (g5 ⟨_, (mr_sol_e h hc this.1).mp this.2⟩) e
theorem mr_solution_e (h : mr_WB f M w L) (hc : mr_Cq f N) (R1 F1 : Nat → mr_V) : (mr_sh (f 2 + 1 + f 1) (mr_shp (f 0) (f 2 + 1 + f 1) (0 + 1 + f 1) (mr_tbS f R1) F1) (f 2) (f 2) = 1 → ∃ r : Int, (0 ≤ r ∧ r < M * M * M) ∧ mr_sol N r ∧ (∀ i : Int, 0 ≤ i → i < r → ¬ mr_sol N i) ∧ mr_tbk M r = mr_tb (fun j : Nat => mr_sh (f 2 + 1 + f 1) (mr_shp (f 0) (f 2 + 1 + f 1) (0 + 1 + f 1) (mr_tbS f R1) F1) (f 2) (f 2 + 1 + (j : Int)))) ∧ (mr_sh (f 2 + 1 + f 1) (mr_shp (f 0) (f 2 + 1 + f 1) (0 + 1 + f 1) (mr_tbS f R1) F1) (f 2) (f 2) ≠ 1 → ∀ i : Int, 0 ≤ i → i < M * M * M → ¬ mr_sol N i) := by
  obtain ⟨FK, x0, g1, g2, g3, g4, g5⟩ := mr_sol_main h R1 F1
  have hM : 0 < M := by have := h.2.2.1; omega
  refine ⟨fun e => ?_, fun e i h1 h2 z => e (g5 ⟨_, (mr_sol_e h hc ⟨h1, h2⟩).mp z⟩)⟩
  obtain ⟨k1, k2, k3⟩ := g4 e
  have b := mr_ec_bd hM x0
  have dx := mr_dec_ec_box hM k2
  refine ⟨mr_ec M x0, b, (mr_sol_e h hc b).mpr (mr_sv_cg h.2.2.2.1.2 (fun j hj => (dx j hj).symm) k1), fun i h1 h2 z => ?_, ?_⟩
  · have hi : i < M * M * M := by omega
    have sv := (mr_sol_e h hc ⟨h1, hi⟩).mp z
    have bx := mr_dec_box hM h1 hi
    have nl := mr_lex_least g1 (c := 0) (x := mr_dec M i) (y := x0) (fun j _ hj => ⟨(k2 j hj).1, k3 j hj⟩) (fun j hj => (bx j hj).1) ((mr_sv_KL h k1 _).mp sv) (fun j hj => by omega)
    have := mr_ec_le hM bx k2 nl
    rw [mr_ec_dec hM h1 hi] at this
    omega
  · rw [mr_tbk_e]
    unfold mr_tb
    rw [dx 0 (by decide), dx 1 (by decide), dx 2 (by decide), g2 0 (by decide), g2 1 (by decide), g2 2 (by decide)]
end SV
