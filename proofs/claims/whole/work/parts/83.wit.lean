/-! WITNESS -/
theorem mr_H_gen2 {n : Nat} {L P : mr_V → Prop} {F : Nat → mr_V} (hL : mr_Lat n L) (hH : mr_H n L F) (hP : mr_Lat n P) : ∀ (k c : Nat) (x : mr_V), c + k = n → (∀ j, c ≤ j → j < n → P (F j)) → L x → (∀ j, j < c → x j = 0) → P x
  | 0, c, x, hk, _, hx, hz => hP.1 _ _ (fun j hj => (hz j (by omega)).symm) hP.2.1
  | k + 1, c, x, hk, hF, hx, hz => by
    have hc : c < n := by omega
    obtain ⟨a1, a2, a3, a4, a5⟩ := hH c hc
    obtain ⟨q, hq⟩ := a4 x hx hz
    have h1 := mr_H_gen2 hL hH hP k (c + 1) (fun j => x j + -q * F c j) (by omega) (fun j g1 g2 => hF j (by omega) g2) (hL.2.2 x _ _ hx a1) (fun j hj => by
      by_cases e : j = c
      · subst e
        show x j + -q * F j j = 0
        rw [hq]
        grind
      · show x j + -q * F c j = 0
        rw [hz j (by omega), a2 j (by omega)]
        simp)
    exact hP.1 _ _ (fun j _ => by show x j + -q * F c j + q * F c j = x j; rw [Int.neg_mul]; omega) (hP.2.2 _ _ q h1 (hF c (by omega) hc))
theorem mr_sml_e (f r : Nat → Int) : ∀ n : Nat, mr_sml f r n = mr_sm n (fun i => r i * mr_se f i 3)
  | 0 => rfl
  | n + 1 => by
    show mr_sml f r n + r n * mr_se f n 3 = mr_sm n (fun i => r i * mr_se f i 3) + r n * mr_se f n 3
    rw [mr_sml_e f r n]
section WT
variable {f N : Nat → Int} {M : Int} {w : Nat} {L : Int → mr_V → Prop}
theorem mr_sv_mod (h : mr_WB f M w L) {x y : mr_V} (hx : mr_sv f M w x) (e : ∀ j, j < 3 → M ∣ y j - x j) : mr_sv f M w y := (mr_sv_KL h hx y).mpr ⟨fun i _ => mr_sm_dvd w (fun c hc => Int.dvd_trans (e c (by have := h.2.2.2.1; omega)) (Int.dvd_mul_left _ _)), fun j _ g2 => e j g2⟩
theorem mr_sv_sol (h : mr_WB f M w L) (hc : mr_Cq f N) {x : mr_V} (hx : mr_sv f M w x) : ∃ r : Int, (0 ≤ r ∧ r < M * M * M) ∧ mr_sol N r := by
  have hM : 0 < M := by have := h.2.2.1; omega
  have b := mr_ec_bd hM x
  refine ⟨mr_ec M x, b, (mr_sol_e h hc b).mpr (mr_sv_mod h hx (fun j hj => ?_))⟩
  rw [mr_dec_ec hM x j hj]
  exact mr_dvd_self_emod M (x j)
/-- what shows it, as a vector -/
def mr_sw (f : Nat → Int) (M : Int) (w n0 : Nat) (x : mr_V) : Prop := (∀ i, n0 ≤ i → i < 3 → x i = 0) ∧ (∀ j, j < w → M ∣ mr_sm n0 (fun i => mr_se f i j * x i)) ∧ ¬ M ∣ mr_sm n0 (fun i => x i * mr_se f i 3)
theorem mr_shw_e (h : mr_WB f M w L) (hc : mr_Cq f N) {n0 : Nat} (hn : f 2 = n0) {u : Int} (hu : 0 ≤ u ∧ u < M * M * M) : mr_shw N u ↔ mr_sw f M w n0 (mr_dec M u) := by
  obtain ⟨h0, h1, h2, h3, h4, h5, h6⟩ := id h
  have hM : 0 < M := by omega
  have n3 : n0 ≤ 3 := by omega
  have e0 : N 0 = M := by rw [hc.1]; exact h0
  -- the left sides together
  have l3 : ∀ j, j < 3 → M ∣ mr_dec M (mr_shl N u 3) j - (mr_dec M (N 15) j * mr_dec M u 0 + mr_dec M (N 16) j * mr_dec M u 1 + mr_dec M (N 17) j * mr_dec M u 2) := fun j hj => by
    have s : ∀ i : Nat, mr_shl N u (i + 1) = mr_tg M (mr_shl N u i) (mr_of M (N (15 + i)) (mr_dec M u i)) := fun i => by rw [← e0]; rfl
    have t : ∀ i : Nat, M ∣ mr_dec M (mr_shl N u (i + 1)) j - (mr_dec M (mr_shl N u i) j + mr_dec M (N (15 + i)) j * mr_dec M u i) := fun i => by
      rw [s i]
      have a := mr_tg_dec hM (mr_shl N u i) (mr_of M (N (15 + i)) (mr_dec M u i)) j hj
      have b := mr_of_dec hM (N (15 + i)) (mr_dec M u i) j hj
      have c := Int.dvd_add a b
      rw [show mr_dec M (mr_tg M (mr_shl N u i) (mr_of M (N (15 + i)) (mr_dec M u i))) j - (mr_dec M (mr_shl N u i) j + mr_dec M (mr_of M (N (15 + i)) (mr_dec M u i)) j) + (mr_dec M (mr_of M (N (15 + i)) (mr_dec M u i)) j - mr_dec M (N (15 + i)) j * mr_dec M u i) = mr_dec M (mr_tg M (mr_shl N u i) (mr_of M (N (15 + i)) (mr_dec M u i))) j - (mr_dec M (mr_shl N u i) j + mr_dec M (N (15 + i)) j * mr_dec M u i) by omega] at c
      exact c
    have z : mr_dec M (mr_shl N u 0) j = 0 := mr_dec_z M j
    have a0 := t 0
    have a1 := t 1
    have a2 := t 2
    have c := Int.dvd_add (Int.dvd_add a0 a1) a2
    rw [z] at c
    rw [show mr_dec M (mr_shl N u 3) j - (mr_dec M (N 15) j * mr_dec M u 0 + mr_dec M (N 16) j * mr_dec M u 1 + mr_dec M (N 17) j * mr_dec M u 2) = mr_dec M (mr_shl N u (0 + 1)) j - (0 + mr_dec M (N (15 + 0)) j * mr_dec M u 0) + (mr_dec M (mr_shl N u (1 + 1)) j - (mr_dec M (mr_shl N u 1) j + mr_dec M (N (15 + 1)) j * mr_dec M u 1)) + (mr_dec M (mr_shl N u (2 + 1)) j - (mr_dec M (mr_shl N u 2) j + mr_dec M (N (15 + 2)) j * mr_dec M u 2)) by
      show mr_dec M (mr_shl N u 3) j - (mr_dec M (N 15) j * mr_dec M u 0 + mr_dec M (N 16) j * mr_dec M u 1 + mr_dec M (N 17) j * mr_dec M u 2) = mr_dec M (mr_shl N u 1) j - (0 + mr_dec M (N 15) j * mr_dec M u 0) + (mr_dec M (mr_shl N u 2) j - (mr_dec M (mr_shl N u 1) j + mr_dec M (N 16) j * mr_dec M u 1)) + (mr_dec M (mr_shl N u 3) j - (mr_dec M (mr_shl N u 2) j + mr_dec M (N 17) j * mr_dec M u 2))
      omega]
    exact c
  have r3 : M ∣ mr_shr N u 3 - (mr_dec M u 0 * N 18 + mr_dec M u 1 * N 19 + mr_dec M u 2 * N 20) := by
    have t : ∀ i : Nat, M ∣ mr_shr N u (i + 1) - (mr_shr N u i + mr_dec M u i * N (18 + i)) := fun i => by
      show M ∣ (mr_shr N u i + mr_dec (N 0) u i * N (18 + i)) % N 0 - _
      rw [e0]
      exact mr_dvd_self_emod M _
    have z : mr_shr N u 0 = 0 := rfl
    have a0 := t 0
    have c := Int.dvd_add (Int.dvd_add a0 (t 1)) (t 2)
    rw [z] at c
    rw [show mr_shr N u 3 - (mr_dec M u 0 * N 18 + mr_dec M u 1 * N 19 + mr_dec M u 2 * N 20) = mr_shr N u (0 + 1) - (0 + mr_dec M u 0 * N (18 + 0)) + (mr_shr N u (1 + 1) - (mr_shr N u 1 + mr_dec M u 1 * N (18 + 1))) + (mr_shr N u (2 + 1) - (mr_shr N u 2 + mr_dec M u 2 * N (18 + 2))) by
      show mr_shr N u 3 - (mr_dec M u 0 * N 18 + mr_dec M u 1 * N 19 + mr_dec M u 2 * N 20) = mr_shr N u 1 - (0 + mr_dec M u 0 * N 18) + (mr_shr N u 2 - (mr_shr N u 1 + mr_dec M u 1 * N 19)) + (mr_shr N u 3 - (mr_shr N u 2 + mr_dec M u 2 * N 20))
      omega]
    exact c
  have lb := mr_shl_bd (N := N) (by omega) u 3
  rw [e0] at lb
  have rb := mr_shr_bd (N := N) (by omega) u 3
  rw [e0] at rb
  have lz : mr_shl N u 3 = 0 ↔ ∀ j, j < 3 → M ∣ mr_dec M (N 15) j * mr_dec M u 0 + mr_dec M (N 16) j * mr_dec M u 1 + mr_dec M (N 17) j * mr_dec M u 2 := by
    have bx := mr_dec_box hM lb.1 lb.2
    refine ⟨fun z j hj => ?_, fun z => ?_⟩
    · have := l3 j hj
      rw [z, mr_dec_z, Int.zero_sub] at this
      exact Int.dvd_neg.mp this
    · have a : ∀ j, j < 3 → M ∣ mr_dec M (mr_shl N u 3) j - 0 := fun j hj => by
        have := Int.dvd_add (l3 j hj) (z j hj)
        rw [Int.sub_add_cancel] at this
        rw [Int.sub_zero]; exact this
      rw [← mr_ec_dec hM lb.1 lb.2, mr_ec_cg (y := fun _ => 0) a, mr_ec_z]
  have rz : mr_shr N u 3 ≠ 0 ↔ ¬ M ∣ mr_dec M u 0 * N 18 + mr_dec M u 1 * N 19 + mr_dec M u 2 * N 20 := by
    refine not_congr ⟨fun z => ?_, fun z => ?_⟩
    · rw [z, Int.zero_sub] at r3
      exact Int.dvd_neg.mp r3
    · have := Int.dvd_add r3 z
      rw [Int.sub_add_cancel] at this
      exact mr_dvd_small this (by omega) (by omega)
  unfold mr_shw mr_sw
  rw [lz, rz, hc.2.2.1, e0]
  have c1 : (∀ i : Nat, i < 3 → f 2 ≤ (i : Int) → mr_dec M u i = 0) ↔ ∀ i, n0 ≤ i → i < 3 → mr_dec M u i = 0 := ⟨fun z i g1 g2 => z i g2 (by omega), fun z i g1 g2 => z i (by omega) g1⟩
  rw [c1]
  refine and_congr_right fun hz => ?_
  -- the sums over three
  have sl : ∀ j, j < 3 → mr_dec M (N 15) j * mr_dec M u 0 + mr_dec M (N 16) j * mr_dec M u 1 + mr_dec M (N 17) j * mr_dec M u 2 = mr_sm n0 (fun i => mr_se f i j * mr_dec M u i) := fun j hj => by
    rw [mr_sm_cg (h := fun i => mr_dec M (N (15 + i)) j * mr_dec M u i) n0 (fun i hi => by
      show mr_se f i j * mr_dec M u i = mr_dec M (N (15 + i)) j * mr_dec M u i
      rw [mr_Cq_l h hc (i := i) (by omega) hj, if_pos (by omega)]), mr_sm_3 n3 (g := fun i => mr_dec M (N (15 + i)) j) hz]
  have sr : mr_dec M u 0 * N 18 + mr_dec M u 1 * N 19 + mr_dec M u 2 * N 20 = mr_sm n0 (fun i => mr_dec M u i * mr_se f i 3) := by
    rw [mr_sm_cg (h := fun i => N (18 + i) * mr_dec M u i) n0 (fun i hi => by
      show mr_dec M u i * mr_se f i 3 = N (18 + i) * mr_dec M u i
      rw [mr_Cq_r hc (i := i) (by omega), if_pos (by omega), Int.mul_comm]), mr_sm_3 n3 (g := fun i => N (18 + i)) hz]
    show _ = N 18 * mr_dec M u 0 + N 19 * mr_dec M u 1 + N 20 * mr_dec M u 2
    rw [Int.mul_comm (N 18), Int.mul_comm (N 19), Int.mul_comm (N 20)]
  rw [sr]
  refine and_congr_left fun _ => ⟨fun z j hj => by rw [← sl j (by omega)]; exact z j (by omega), fun z j hj => ?_⟩
  rw [sl j hj]
  by_cases g : j < w
  · exact z j g
  · refine mr_sm_dvd n0 (fun i hi => ?_)
    have : mr_se f i j = 0 := ((h6 i (by omega) (by omega)).1 j hj).2 (by omega)
    rw [this, Int.zero_mul]; exact mr_dvd_0 M
/-- the form of the multiples -/
theorem mr_wit_Fo (h : mr_WB f M w L) {n0 : Nat} (hn : f 2 = n0) (R1 F1 : Nat → mr_V) : ∃ FW : Nat → mr_V, mr_Fo M n0 FW (mr_WL f M w n0) ∧ (∀ l : Nat, l < n0 → ∀ j, j < 3 → mr_wr f (mr_shW f R1 F1) l j = FW l j) ∧ ∀ l : Nat, l < n0 → (mr_wsh f (mr_shW f R1 F1) l ↔ ¬ M ∣ mr_sm n0 (fun i => FW l i * mr_se f i 3)) := by
  obtain ⟨h0, h1, h2, h3, h4, h5, h6⟩ := id h
  have hM : 0 < M := by omega
  have n3 : n0 ≤ 3 := by omega
  have e : ∀ r : Nat, r < n0 → ∀ j : Nat, mr_tbW f R1 r j = if j = w + r then 1 % M else if j < w then mr_se f r j % M else 0 := fun r hr j => by
    unfold mr_tbW
    rw [mr_uR_at _ (Int.le_refl 0), if_pos ⟨by omega, by omega⟩, mr_gU_at, h0]
    by_cases k1 : j = w + r
    · rw [if_pos k1, if_pos ⟨by omega, by omega, by omega⟩]
    · rw [if_neg k1, if_neg (fun z => k1 (by omega)), Int.sub_zero]
      by_cases k2 : j < w
      · rw [if_pos k2, if_pos (by omega)]
      · rw [if_neg k2, if_neg (by omega)]
  have hin : ∀ r, r < n0 → ∀ j, j < w + n0 → 0 ≤ mr_tbW f R1 r j ∧ mr_tbW f R1 r j < M := fun r hr j _ => by
    rw [e r hr j]
    split
    · exact mr_em hM _
    · split
      · exact mr_em hM _
      · exact ⟨Int.le_refl 0, hM⟩
  have cut := mr_cutU (M := M) (n0 := w) (ct := n0) (R := mr_tbW f R1) (h := fun r i => mr_se f r i) (fun r hr i hi => by rw [e r hr, if_neg (by omega), if_pos hi]; exact mr_dvd_self_emod _ _) (fun r hr q hq => by
    rw [e r hr, mr_e_at]
    by_cases k : q = r
    · rw [if_pos (by omega), if_pos k]; exact mr_dvd_self_emod _ _
    · rw [if_neg (by omega), if_neg (by omega), if_neg k]; exact mr_dvd_same _ _)
  have hFo := mr_Fo_cut (M := M) ⟨by omega, h2.2⟩ (n := w + n0) (a := w) (w := n0) (ct := n0) rfl n3 (R := mr_tbW f R1) (F0 := F1) hin (F := fun c j => if c < n0 ∧ j < n0 then mr_shp M ((w + n0 : Nat) : Int) (n0 : Int) (mr_tbW f R1) F1 (w + c) (w + j) else 0) (fun c j _ _ => rfl)
  have eS : mr_shW f R1 F1 = mr_shp M ((w + n0 : Nat) : Int) (n0 : Int) (mr_tbW f R1) F1 := by
    unfold mr_shW
    rw [h0, show f 1 + f 2 = ((w + n0 : Nat) : Int) by omega, show 0 + f 2 = (n0 : Int) by omega]
  rw [eS]
  generalize mr_shp M ((w + n0 : Nat) : Int) (n0 : Int) (mr_tbW f R1) F1 = S at hFo
  have wr : ∀ l : Nat, l < n0 → ∀ j, j < 3 → mr_wr f S l j = if l < n0 ∧ j < n0 then S (w + l) (w + j) else 0 := fun l hl j hj => by
    unfold mr_wr mr_sh
    by_cases g : j < n0
    · rw [if_pos ⟨by omega, by omega, by omega, by omega⟩, if_pos ⟨hl, g⟩]
      congr 1 <;> omega
    · rw [if_neg (by omega), if_neg (by omega)]
  refine ⟨_, mr_Fo_congr (fun x => and_congr_left fun _ => cut x) hFo, wr, fun l hl => ?_⟩
  unfold mr_wsh mr_rs
  rw [h0, if_pos hM, mr_sml_e, show (f 2).toNat = n0 by omega, mr_sm_cg (h := fun i => (if l < n0 ∧ i < n0 then S (w + l) (w + i) else 0) * mr_se f i 3) n0 (fun i hi => by show mr_wr f S l i * mr_se f i 3 = _; rw [wr l hl i (by omega)])]
  exact not_congr ⟨Int.dvd_of_emod_eq_zero, Int.emod_eq_zero_of_dvd⟩
theorem mr_phi_lat (f : Nat → Int) (M : Int) {n0 : Nat} (n3 : n0 ≤ 3) : mr_Lat 3 (fun z => M ∣ mr_sm n0 (fun i => z i * mr_se f i 3)) := by
  refine ⟨fun x y e hx => ?_, ?_, fun x y k hx hy => ?_⟩
  · show M ∣ mr_sm n0 (fun i => y i * mr_se f i 3)
    rw [← mr_sm_cg (g := fun i => x i * mr_se f i 3) n0 (fun i hi => by show x i * mr_se f i 3 = y i * mr_se f i 3; rw [e i (by omega)])]
    exact hx
  · exact mr_sm_dvd n0 (fun i _ => by show M ∣ 0 * mr_se f i 3; rw [Int.zero_mul]; exact mr_dvd_0 M)
  · show M ∣ mr_sm n0 (fun i => (x i + k * y i) * mr_se f i 3)
    rw [mr_sm_cg (h := fun i => x i * mr_se f i 3 + k * (y i * mr_se f i 3)) n0 (fun i _ => by show (x i + k * y i) * mr_se f i 3 = _; rw [Int.add_mul, Int.mul_assoc]), mr_sm_lin]
    exact Int.dvd_add hx (Int.dvd_trans hy (Int.dvd_mul_left k _))
theorem mr_phi_e (f : Nat → Int) (M : Int) (n0 j : Nat) : M ∣ mr_sm n0 (fun i => mr_e j M i * mr_se f i 3) := mr_sm_dvd n0 (fun i _ => by
  rw [mr_e_at]
  split
  · exact Int.dvd_mul_right M _
  · rw [Int.zero_mul]; exact mr_dvd_0 M)
theorem mr_wit_ex (h : mr_WB f M w L) (hc : mr_Cq f N) (hs : ∀ i : Int, 0 ≤ i → i < M * M * M → ¬ mr_sol N i) : ∃ u : Int, 0 ≤ u ∧ u < M * M * M ∧ mr_shw N u := by
  obtain ⟨n0, hn⟩ : ∃ n0 : Nat, f 2 = n0 := ⟨(f 2).toNat, by have := h.2.2.2.2.1; omega⟩
  have hM : 0 < M := by have := h.2.2.1; omega
  obtain ⟨u, u1, u2, u3, u4⟩ := mr_hopeless h hn (fun ⟨x, hx⟩ => by
    obtain ⟨r, hr, hr2⟩ := mr_sv_sol h hc hx
    exact hs r hr.1 hr.2 hr2)
  have b := mr_ec_bd hM u
  have d := mr_dec_ec_box hM u1
  have n3 : n0 ≤ 3 := by have := h.2.2.2.2.1; omega
  refine ⟨mr_ec M u, b.1, b.2, (mr_shw_e h hc hn b).mpr ⟨fun i g1 g2 => by rw [d i g2]; exact u2 i g1 g2, fun j hj => ?_, fun z => u4 ?_⟩⟩
  · rw [mr_sm_cg (h := fun i => mr_se f i j * u i) n0 (fun i hi => by show mr_se f i j * mr_dec M (mr_ec M u) i = _; rw [d i (by omega)])]
    exact u3.1 j hj
  · rw [mr_sm_cg (h := fun i => u i * mr_se f i 3) n0 (fun i hi => by show mr_dec M (mr_ec M u) i * mr_se f i 3 = _; rw [d i (by omega)])] at z
    exact z
theorem mr_wit_no (h : mr_WB f M w L) (hc : mr_Cq f N) (R1 F1 : Nat → mr_V) (hs : ∀ j : Int, 0 ≤ j → j < f 2 → ¬ mr_wsh f (mr_shW f R1 F1) j) : ∃ i : Int, 0 ≤ i ∧ i < M * M * M ∧ mr_sol N i := by
  obtain ⟨n0, hn⟩ : ∃ n0 : Nat, f 2 = n0 := ⟨(f 2).toNat, by have := h.2.2.2.2.1; omega⟩
  have n3 : n0 ≤ 3 := by have := h.2.2.2.2.1; omega
  obtain ⟨FW, g1, g2, g3⟩ := mr_wit_Fo h hn R1 F1
  refine Classical.byContradiction (fun q => ?_)
  obtain ⟨u, u1, u2, u3, u4⟩ := mr_hopeless h hn (fun ⟨x, hx⟩ => by
    obtain ⟨r, hr, hr2⟩ := mr_sv_sol h hc hx
    exact q ⟨r, hr.1, hr.2, hr2⟩)
  refine u4 (mr_Fo_gen g1 (mr_phi_lat f M n3) (fun c hc3 => ?_) (fun j _ => mr_phi_e f M n0 j) u3)
  show M ∣ mr_sm n0 (fun i => FW c i * mr_se f i 3)
  by_cases e : c < n0
  · exact Classical.byContradiction (fun z => hs c (by omega) (by omega) ((g3 c e).mpr z))
  · exact mr_sm_dvd n0 (fun i hi => by
      show M ∣ FW c i * mr_se f i 3
      rw [mr_Fo_zero g1 hc3 (by omega) (Or.inl (by omega)), Int.zero_mul]; exact mr_dvd_0 M)
theorem mr_wit_yes (h : mr_WB f M w L) (hc : mr_Cq f N) (R1 F1 : Nat → mr_V) {j : Int} (h1 : 0 ≤ j) (h2 : j < f 2) (hj : mr_wsh f (mr_shW f R1 F1) j) (hl : ∀ j' : Int, j < j' → j' < f 2 → ¬ mr_wsh f (mr_shW f R1 F1) j') : (∀ i : Int, 0 ≤ i → i < M * M * M → ¬ mr_sol N i) ∧ ∃ u : Int, (0 ≤ u ∧ u < M * M * M) ∧ mr_shw N u ∧ (∀ v : Int, 0 ≤ v → v < u → ¬ mr_shw N v) ∧ mr_tbk M u = mr_tb (mr_wr f (mr_shW f R1 F1) j) := by
  obtain ⟨n0, hn⟩ : ∃ n0 : Nat, f 2 = n0 := ⟨(f 2).toNat, by have := h.2.2.2.2.1; omega⟩
  obtain ⟨l, hjl⟩ : ∃ l : Nat, j = l := ⟨j.toNat, by omega⟩
  subst hjl
  have n3 : n0 ≤ 3 := by have := h.2.2.2.2.1; omega
  have hM : 0 < M := by have := h.2.2.1; omega
  have hln : l < n0 := by omega
  obtain ⟨FW, g1, g2, g3⟩ := mr_wit_Fo h hn R1 F1
  have sh := (g3 l hln).mp hj
  have bF := mr_Fo_box g1 (c := l) (by omega)
  have lF := mr_Fo_in g1 (c := l) (by omega)
  have b := mr_ec_bd hM (FW l)
  have d := mr_dec_ec_box hM bF
  refine ⟨fun i q1 q2 q3 => mr_shows_no h.2.2.2.1.2 hn lF sh ((mr_sol_e h hc ⟨q1, q2⟩).mp q3), mr_ec M (FW l), b, (mr_shw_e h hc hn b).mpr ⟨fun i k1 k2 => ?_, fun a ha => ?_, fun z => sh ?_⟩, fun v v1 v2 hv => ?_, ?_⟩
  · rw [d i k2]; exact mr_Fo_zero g1 (by omega) k2 (Or.inr k1)
  · rw [mr_sm_cg (h := fun i => mr_se f i a * FW l i) n0 (fun i hi => by show mr_se f i a * mr_dec M (mr_ec M (FW l)) i = _; rw [d i (by omega)])]
    exact lF.1 a ha
  · rw [mr_sm_cg (h := fun i => FW l i * mr_se f i 3) n0 (fun i hi => by show mr_dec M (mr_ec M (FW l)) i * mr_se f i 3 = _; rw [d i (by omega)])] at z
    exact z
  · have hv3 : v < M * M * M := by omega
    obtain ⟨s1, s2, s3⟩ := (mr_shw_e h hc hn ⟨v1, hv3⟩).mp hv
    have bx := mr_dec_box hM v1 hv3
    have xL : mr_WL f M w n0 (mr_dec M v) := ⟨s2, fun i k1 k2 => by rw [s1 i k1 k2]; exact mr_dvd_0 M⟩
    have ev := mr_ec_dec hM v1 hv3
    have zF : ∀ q, q < l → FW l q = 0 := (g1.2.2.2.2 l (by omega)).2.1
    -- some number up to l is not 0
    have ex : ¬ ∀ q, q < l + 1 → mr_dec M v q = 0 := fun z => s3 (mr_H_gen2 g1.1 g1.2.2.2.1 (mr_phi_lat f M n3) (3 - (l + 1)) (l + 1) (mr_dec M v) (by omega) (fun q k1 k2 => by
      show M ∣ mr_sm n0 (fun i => mr_hat M FW q i * mr_se f i 3)
      by_cases p : 0 < FW q q
      · rw [mr_hat_pos p]
        by_cases qn : q < n0
        · exact Classical.byContradiction (fun y => hl q (by omega) (by omega) ((g3 q qn).mpr y))
        · have := mr_Fo_zero g1 k2 k2 (Or.inl (by omega)); omega
      · rw [mr_hat_neg p]; exact mr_phi_e f M n0 q) xL z)
    -- the first of these
    have first : ∃ c, c ≤ l ∧ (∀ q, q < c → mr_dec M v q = 0) ∧ 0 < mr_dec M v c := by
      have nn : ∀ q, q < 3 → 0 ≤ mr_dec M v q := fun q hq => (bx q hq).1
      by_cases z0 : mr_dec M v 0 = 0
      · by_cases l1 : 1 ≤ l
        · by_cases z1 : mr_dec M v 1 = 0
          · by_cases l2 : 2 ≤ l
            · have z2 : mr_dec M v 2 ≠ 0 := fun z2 => ex (fun q hq => by rcases (show q = 0 ∨ q = 1 ∨ q = 2 by omega) with e | e | e <;> subst e <;> assumption)
              exact ⟨2, l2, fun q hq => by rcases (show q = 0 ∨ q = 1 by omega) with e | e <;> subst e <;> assumption, by have := nn 2 (by decide); omega⟩
            · exact absurd (fun q hq => by rcases (show q = 0 ∨ q = 1 by omega) with e | e <;> subst e <;> assumption) ex
          · exact ⟨1, l1, fun q hq => by rw [show q = 0 by omega]; exact z0, by have := nn 1 (by decide); omega⟩
        · exact absurd (fun q hq => by rw [show q = 0 by omega]; exact z0) ex
      · exact ⟨0, by omega, fun q hq => by omega, by have := nn 0 (by decide); omega⟩
    obtain ⟨c, cl, cz, cp⟩ := first
    by_cases e : c = l
    · subst e
      have := (mr_Fo_first (by omega) g1 (by omega) bx xL cz cp).2
      omega
    · have lx : mr_lex (FW l) (mr_dec M v) := by
        rcases (show c = 0 ∨ c = 1 by omega) with q | q <;> subst q
        · exact Or.inl (by rw [zF 0 (by omega)]; exact cp)
        · exact Or.inr ⟨by rw [zF 0 (by omega), cz 0 (by decide)], Or.inl (by rw [zF 1 (by omega)]; exact cp)⟩
      have := mr_ec_lt hM bF bx lx
      omega
  · rw [mr_tbk_e]
    unfold mr_tb
    rw [d 0 (by decide), d 1 (by decide), d 2 (by decide), g2 l hln 0 (by decide), g2 l hln 1 (by decide), g2 l hln 2 (by decide)]
end WT
