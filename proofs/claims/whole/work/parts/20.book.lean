/-! THE BOOK: its numbers as functions of its cells. -/
def mr_fa (f : Nat → Int) (p c a : Int) : Int := if 0 ≤ p ∧ p < 4 ∧ 0 ≤ c ∧ c < 3 ∧ 0 ≤ a ∧ a < 3 then f (3 + (p * 3 + c) * 3 + a).toNat else 0
def mr_se (f : Nat → Int) (i h : Int) : Int := if 0 ≤ i ∧ i < 3 ∧ 0 ≤ h ∧ h < 4 then f (39 + i * 4 + h).toNat else 0
def mr_sfa (f : Nat → Int) (p c a v : Int) : Nat → Int := if 0 ≤ p ∧ p < 4 ∧ 0 ≤ c ∧ c < 3 ∧ 0 ≤ a ∧ a < 3 then mr_fs f (3 + (p * 3 + c) * 3 + a).toNat v else f
def mr_sse (f : Nat → Int) (i h v : Int) : Nat → Int := if 0 ≤ i ∧ i < 3 ∧ 0 ≤ h ∧ h < 4 then mr_fs f (39 + i * 4 + h).toNat v else f
def mr_rs (f : Nat → Int) (x : Int) : Int := if 0 < f 0 then x % f 0 else 0
def mr_ch (f : Nat → Int) (p c : Int) : Int := if 0 < mr_fa f p c c then max 1 (f 0 / mr_fa f p c c) else 1
def mr_szl (f : Nat → Int) (p : Int) : Nat → Int → Int → Int
  | 0, _, s => s
  | n + 1, c, s => if c < f 1 then mr_szl f p n (c + 1) (s * mr_ch f p c) else s
def mr_sz (f : Nat → Int) (p c : Int) : Int := mr_szl f p 3 c 1
def mr_af (f : Nat → Int) (p c t : Int) (r : Nat → Int) : Nat → Int := fun j => if c ≤ (j : Int) then mr_rs f (r j + t * mr_fa f p c j) else r j
def mr_afU (f : Nat → Int) (p c t : Int) (r : Nat → Int) (a : Int) : Nat → Int := fun j => if c ≤ (j : Int) ∧ (j : Int) < a then mr_rs f (r j + t * mr_fa f p c j) else r j
def mr_lst (f : Nat → Int) (p c : Int) (r : Nat → Int) : Nat → Int := if 0 < mr_fa f p c c then mr_af f p c (-(r c.toNat / mr_fa f p c c)) r else r
def mr_lsl (f : Nat → Int) (p : Int) : Nat → Int → (Nat → Int) → Nat → Int
  | 0, _, r => r
  | n + 1, c, r => if c < f 1 then mr_lsl f p n (c + 1) (mr_lst f p c r) else r
def mr_frl (f : Nat → Int) (p : Int) : Nat → Int → Int → (Nat → Int) → Nat → Int
  | 0, _, _, r => r
  | n + 1, c, t, r => if c < f 1 then mr_frl f p n (c + 1) (t % max 1 (mr_sz f p (c + 1))) (if 0 < mr_fa f p c c then mr_af f p c (t / max 1 (mr_sz f p (c + 1)) - r c.toNat / mr_fa f p c c) r else r) else r
def mr_cal (f : Nat → Int) (p : Int) (r : Nat → Int) : Nat → Int → Int → Int
  | 0, _, s => s
  | n + 1, c, s => if c < f 1 then mr_cal f p r n (c + 1) (if 0 < mr_fa f p c c then s + r c.toNat / mr_fa f p c c * mr_sz f p (c + 1) else s) else s
def mr_nt (f : Nat → Int) (p u : Int) : Prop := ∀ c a : Int, 0 ≤ c → c ≤ a → a < f 1 → mr_rs f (u * mr_fa f p c a) = 0
def mr_pt (f : Nat → Int) (p : Int) (g : Int → Int → Int) (C A : Int) : Nat → Int := fun k => if 3 + 9 * p ≤ (k : Int) ∧ (k : Int) < 12 + 9 * p ∧ ((k : Int) - 3 - 9 * p) / 3 < f 1 ∧ ((k : Int) - 3 - 9 * p) % 3 < f 1 ∧ (((k : Int) - 3 - 9 * p) / 3 < C ∨ (((k : Int) - 3 - 9 * p) / 3 = C ∧ ((k : Int) - 3 - 9 * p) % 3 < A)) then g (((k : Int) - 3 - 9 * p) / 3) (((k : Int) - 3 - 9 * p) % 3) else f k
def mr_seq (f : Nat → Int) (i : Int) (r : Nat → Int) (v : Int) : Nat → Int := mr_sse (mr_sse (mr_sse (mr_sse f i 0 (r 0)) i 1 (r 1)) i 2 (r 2)) i 3 v
def mr_rms (f : Nat → Int) (i : Int) : Nat → Int := mr_sse (mr_sse (mr_sse (mr_sse f i 0 (mr_se f (i + 1) 0)) i 1 (mr_se f (i + 1) 1)) i 2 (mr_se f (i + 1) 2)) i 3 (mr_se f (i + 1) 3)
def mr_rml : Nat → Int → (Nat → Int) → Nat → Int
  | 0, _, f => f
  | n + 1, i, f => if i < f 2 - 1 then mr_rml n (i + 1) (mr_rms f i) else f
/-- small numbers -/
def mr_Bd (f : Nat → Int) : Prop := (∀ k : Nat, 0 ≤ f k ∧ f k ≤ 30) ∧ f 1 ≤ 3 ∧ f 2 ≤ 3
def mr_BK (w : mr_Wd) (b : Nat) (f : Nat → Int) : Prop := w b = eO 0 [vR (b + 1) 0] ∧ w (b + 1) = eA 0 51 f
theorem mr_fa_bd {f : Nat → Int} (h : mr_Bd f) (p c a : Int) : 0 ≤ mr_fa f p c a ∧ mr_fa f p c a ≤ 30 := by
  unfold mr_fa
  split
  · exact h.1 _
  · omega
theorem mr_se_bd {f : Nat → Int} (h : mr_Bd f) (i a : Int) : 0 ≤ mr_se f i a ∧ mr_se f i a ≤ 30 := by
  unfold mr_se
  split
  · exact h.1 _
  · omega
theorem mr_rs_bd {f : Nat → Int} (h : mr_Bd f) (x : Int) : 0 ≤ mr_rs f x ∧ mr_rs f x ≤ 30 := by
  unfold mr_rs
  split
  · rename_i h0
    have h1 := Int.emod_nonneg x (show f 0 ≠ 0 by omega)
    have h2 := Int.emod_lt_of_pos x h0
    have := h.1 0
    omega
  · omega
theorem mr_ch_bd {f : Nat → Int} (h : mr_Bd f) (p c : Int) : 1 ≤ mr_ch f p c ∧ mr_ch f p c ≤ 30 := by
  unfold mr_ch
  split
  · rename_i h0
    have h1 := Int.ediv_le_self (mr_fa f p c c) (h.1 0).1
    have := h.1 0
    omega
  · omega
theorem mr_szl_bd {f : Nat → Int} (h : mr_Bd f) (p : Int) : ∀ (n : Nat) (c s : Int), 1 ≤ s → 1 ≤ mr_szl f p n c s ∧ mr_szl f p n c s ≤ s * 30 ^ n
  | 0, c, s, hs => by simp [mr_szl]; omega
  | n + 1, c, s, hs => by
    unfold mr_szl
    have hp : (0 : Int) < 30 ^ n := Int.pow_pos (by decide)
    split
    · have hc := mr_ch_bd h p c
      have h1 : 1 ≤ s * mr_ch f p c := by
        have := Int.mul_le_mul hs hc.1 (by decide) (by omega)
        omega
      have ih := mr_szl_bd h p n (c + 1) (s * mr_ch f p c) h1
      refine ⟨ih.1, Int.le_trans ih.2 ?_⟩
      have h2 : s * mr_ch f p c ≤ s * 30 := Int.mul_le_mul_of_nonneg_left hc.2 (by omega)
      have h3 := Int.mul_le_mul_of_nonneg_right h2 (show (0 : Int) ≤ 30 ^ n by omega)
      rw [Int.pow_succ, Int.mul_comm (30 ^ n) 30, ← Int.mul_assoc]
      exact h3
    · refine ⟨hs, ?_⟩
      have : s * 1 ≤ s * 30 ^ (n + 1) := Int.mul_le_mul_of_nonneg_left (by have : (0 : Int) < 30 ^ (n + 1) := Int.pow_pos (by decide); omega) (by omega)
      omega
theorem mr_sz_bd {f : Nat → Int} (h : mr_Bd f) (p c : Int) : 1 ≤ mr_sz f p c ∧ mr_sz f p c ≤ 27000 := by
  have := mr_szl_bd h p 3 c 1 (by decide)
  exact ⟨this.1, by have h2 := this.2; have h3 : (1 : Int) * 30 ^ 3 = 27000 := by decide
                    rw [h3] at h2; exact h2⟩
def T_X0_modulus (a : List mr_AV) (w : mr_Wd) (Po : Option mr_AV → mr_Wd → Prop) : Prop := ∃ (b : Nat) (f : Nat → Int), a = [vR b 0] ∧ mr_BK w b f ∧ Po (some (vI (f 0))) w
set_option maxHeartbeats 4000000 in
set_option maxRecDepth 20000 in
theorem ok_X0_modulus (l : Launch) (G : mr_G) : mr_Ok l G yX0_modulus cX0_modulus 1 (some .int) 0 0 T_X0_modulus := by
  refine mr_Ok.of (by decide +kernel) ?_
  rintro a w Po ⟨b, f, rfl, ⟨hb, hc⟩, hP⟩
  refine ⟨Nat.le_of_ble_eq_true rfl, ?_⟩
  show mr_J l G RX0 cX0_modulus 1 (some .int) 0 0 Po 0 [some (vR b 0)] [] w
  refine mr_aload_n dX0_modulus_0 rfl ?_
  refine mr_get dX0_modulus_1 fl_X0_11 (by first | assumption | exact mr_up_same _ _ _ | exact mr_lk (by assumption) (by first | assumption | decide) | exact mr_lk (mr_up_same _ _ _) (by first | assumption | decide) | exact mr_lk (mr_lk (by assumption) (by first | assumption | decide)) (by first | assumption | decide)) rfl ?_
  refine mr_iconst dX0_modulus_4 ?_
  refine mr_iald dX0_modulus_5 (by first | assumption | exact mr_up_same _ _ _ | exact mr_lk (by assumption) (by first | assumption | decide) | exact mr_lk (mr_up_same _ _ _) (by first | assumption | decide) | exact mr_lk (mr_lk (by assumption) (by first | assumption | decide)) (by first | assumption | decide)) (by omega) (by omega) (by decide) ?_
  refine mr_iret rfl dX0_modulus_6 ?_
  exact hP
def T_X0_width (a : List mr_AV) (w : mr_Wd) (Po : Option mr_AV → mr_Wd → Prop) : Prop := ∃ (b : Nat) (f : Nat → Int), a = [vR b 0] ∧ mr_BK w b f ∧ Po (some (vI (f 1))) w
set_option maxHeartbeats 4000000 in
set_option maxRecDepth 20000 in
theorem ok_X0_width (l : Launch) (G : mr_G) : mr_Ok l G yX0_width cX0_width 1 (some .int) 0 0 T_X0_width := by
  refine mr_Ok.of (by decide +kernel) ?_
  rintro a w Po ⟨b, f, rfl, ⟨hb, hc⟩, hP⟩
  refine ⟨Nat.le_of_ble_eq_true rfl, ?_⟩
  show mr_J l G RX0 cX0_width 1 (some .int) 0 0 Po 0 [some (vR b 0)] [] w
  refine mr_aload_n dX0_width_0 rfl ?_
  refine mr_get dX0_width_1 fl_X0_11 (by first | assumption | exact mr_up_same _ _ _ | exact mr_lk (by assumption) (by first | assumption | decide) | exact mr_lk (mr_up_same _ _ _) (by first | assumption | decide) | exact mr_lk (mr_lk (by assumption) (by first | assumption | decide)) (by first | assumption | decide)) rfl ?_
  refine mr_iconst dX0_width_4 ?_
  refine mr_iald dX0_width_5 (by first | assumption | exact mr_up_same _ _ _ | exact mr_lk (by assumption) (by first | assumption | decide) | exact mr_lk (mr_up_same _ _ _) (by first | assumption | decide) | exact mr_lk (mr_lk (by assumption) (by first | assumption | decide)) (by first | assumption | decide)) (by omega) (by omega) (by decide) ?_
  refine mr_iret rfl dX0_width_6 ?_
  exact hP
def T_X0_equationCount (a : List mr_AV) (w : mr_Wd) (Po : Option mr_AV → mr_Wd → Prop) : Prop := ∃ (b : Nat) (f : Nat → Int), a = [vR b 0] ∧ mr_BK w b f ∧ Po (some (vI (f 2))) w
set_option maxHeartbeats 4000000 in
set_option maxRecDepth 20000 in
theorem ok_X0_equationCount (l : Launch) (G : mr_G) : mr_Ok l G yX0_equationCount cX0_equationCount 1 (some .int) 0 0 T_X0_equationCount := by
  refine mr_Ok.of (by decide +kernel) ?_
  rintro a w Po ⟨b, f, rfl, ⟨hb, hc⟩, hP⟩
  refine ⟨Nat.le_of_ble_eq_true rfl, ?_⟩
  show mr_J l G RX0 cX0_equationCount 1 (some .int) 0 0 Po 0 [some (vR b 0)] [] w
  refine mr_aload_n dX0_equationCount_0 rfl ?_
  refine mr_get dX0_equationCount_1 fl_X0_11 (by first | assumption | exact mr_up_same _ _ _ | exact mr_lk (by assumption) (by first | assumption | decide) | exact mr_lk (mr_up_same _ _ _) (by first | assumption | decide) | exact mr_lk (mr_lk (by assumption) (by first | assumption | decide)) (by first | assumption | decide)) rfl ?_
  refine mr_iconst dX0_equationCount_4 ?_
  refine mr_iald dX0_equationCount_5 (by first | assumption | exact mr_up_same _ _ _ | exact mr_lk (by assumption) (by first | assumption | decide) | exact mr_lk (mr_up_same _ _ _) (by first | assumption | decide) | exact mr_lk (mr_lk (by assumption) (by first | assumption | decide)) (by first | assumption | decide)) (by omega) (by omega) (by decide) ?_
  refine mr_iret rfl dX0_equationCount_6 ?_
  exact hP
def T_X0_setEquationCount (a : List mr_AV) (w : mr_Wd) (Po : Option mr_AV → mr_Wd → Prop) : Prop := ∃ (b : Nat) (f : Nat → Int) (n : Int), a = [vR b 0, vI n] ∧ mr_BK w b f ∧ InR n ∧ Po none (mr_up w (b + 1) (eA 0 51 (mr_fs f 2 (max 0 (min n 3)))))
set_option maxHeartbeats 4000000 in
set_option maxRecDepth 20000 in
theorem ok_X0_setEquationCount (l : Launch) (G : mr_G) : mr_Ok l G yX0_setEquationCount cX0_setEquationCount 2 none 1 21 T_X0_setEquationCount := by
  refine mr_Ok.of (by decide +kernel) ?_
  rintro a w Po ⟨b, f, n, rfl, ⟨hb, hc⟩, hn, hP⟩
  refine ⟨Nat.le_of_ble_eq_true rfl, ?_⟩
  show mr_J l G RX0 cX0_setEquationCount 2 none 1 21 Po 0 [some (vR b 0), some (vI n)] [] w
  refine mr_aload_n dX0_setEquationCount_0 rfl ?_
  refine mr_get dX0_setEquationCount_1 fl_X0_11 (by first | assumption | exact mr_up_same _ _ _ | exact mr_lk (by assumption) (by first | assumption | decide) | exact mr_lk (mr_up_same _ _ _) (by first | assumption | decide) | exact mr_lk (mr_lk (by assumption) (by first | assumption | decide)) (by first | assumption | decide)) rfl ?_
  refine mr_iconst dX0_setEquationCount_4 ?_
  refine mr_iconst dX0_setEquationCount_5 ?_
  refine mr_iload_n dX0_setEquationCount_6 rfl ?_
  refine mr_iconst dX0_setEquationCount_7 ?_
  refine mr_callS (as := [_, _]) dX0_setEquationCount_8 (ok_J9_min_7cf53 l G) ml_X0_15 cl_J9_min_7cf53 cs_J9_min_7cf53 (by decide) rfl rfl (Nat.le_of_ble_eq_true rfl) ?_
  refine ⟨_, _, rfl, (by omega), (by omega), ?_⟩
  dsimp only [Option.toList_some, Option.toList_none, List.cons_append, List.nil_append]
  refine mr_callS (as := [_, _]) dX0_setEquationCount_11 (ok_J9_max_7cf53 l G) ml_X0_21 cl_J9_max_7cf53 cs_J9_max_7cf53 (by decide) rfl rfl (Nat.le_of_ble_eq_true rfl) ?_
  refine ⟨_, _, rfl, (by omega), (by omega), ?_⟩
  dsimp only [Option.toList_some, Option.toList_none, List.cons_append, List.nil_append]
  refine mr_iast dX0_setEquationCount_14 (by first | assumption | exact mr_up_same _ _ _ | exact mr_lk (by assumption) (by first | assumption | decide) | exact mr_lk (mr_up_same _ _ _) (by first | assumption | decide) | exact mr_lk (mr_lk (by assumption) (by first | assumption | decide)) (by first | assumption | decide)) (by omega) (by omega) (by decide) ?_
  refine mr_vret rfl dX0_setEquationCount_15 ?_
  exact hP
def T_X0_startAnew (a : List mr_AV) (w : mr_Wd) (Po : Option mr_AV → mr_Wd → Prop) : Prop := ∃ (b : Nat) (f : Nat → Int) (m n : Int), a = [vR b 0, vI m, vI n] ∧ mr_BK w b f ∧ InR m ∧ InR n ∧ Po none (mr_up w (b + 1) (eA 0 51 (mr_fs (mr_fs (fun _ => 0) 0 m) 1 (max 0 (min n 3)))))
set_option maxHeartbeats 4000000 in
set_option maxRecDepth 20000 in
theorem ok_X0_startAnew (l : Launch) (G : mr_G) : mr_Ok l G yX0_startAnew cX0_startAnew 3 none 1 23 T_X0_startAnew := by
  refine mr_Ok.of (by decide +kernel) ?_
  rintro a w Po ⟨b, f, m, n, rfl, ⟨hb, hc⟩, hm, hn, hP⟩
  refine ⟨Nat.le_of_ble_eq_true rfl, ?_⟩
  show mr_J l G RX0 cX0_startAnew 3 none 1 23 Po 0 [some (vR b 0), some (vI m), some (vI n)] [] w
  have hbc : b ≠ b + 1 := by omega
  refine mr_aload_n dX0_startAnew_0 rfl ?_
  refine mr_get dX0_startAnew_1 fl_X0_11 (by first | assumption | exact mr_up_same _ _ _ | exact mr_lk (by assumption) (by first | assumption | decide) | exact mr_lk (mr_up_same _ _ _) (by first | assumption | decide) | exact mr_lk (mr_lk (by assumption) (by first | assumption | decide)) (by first | assumption | decide)) rfl ?_
  refine mr_iconst dX0_startAnew_4 ?_
  refine mr_callS (as := [_, _]) dX0_startAnew_5 (ok_J7_fill_53178 l G) ml_X0_24 cl_J7_fill_53178 cs_J7_fill_53178 (by decide) rfl rfl (Nat.le_of_ble_eq_true rfl) ?_
  refine Or.inl ⟨_, _, _, _, rfl, (by first | assumption | exact mr_up_same _ _ _ | exact mr_lk (by assumption) (by first | assumption | decide) | exact mr_lk (mr_up_same _ _ _) (by first | assumption | decide) | exact mr_lk (mr_lk (by assumption) (by first | assumption | decide)) (by first | assumption | decide)), by decide, ?_⟩
  dsimp only [Option.toList_some, Option.toList_none, List.cons_append, List.nil_append]
  refine mr_aload_n dX0_startAnew_8 rfl ?_
  refine mr_get dX0_startAnew_9 fl_X0_11 (by first | assumption | exact mr_up_same _ _ _ | exact mr_lk (by assumption) (by first | assumption | decide) | exact mr_lk (mr_up_same _ _ _) (by first | assumption | decide) | exact mr_lk (mr_lk (by assumption) (by first | assumption | decide)) (by first | assumption | decide)) rfl ?_
  refine mr_iconst dX0_startAnew_12 ?_
  refine mr_iload_n dX0_startAnew_13 rfl ?_
  refine mr_iast dX0_startAnew_14 (by first | assumption | exact mr_up_same _ _ _ | exact mr_lk (by assumption) (by first | assumption | decide) | exact mr_lk (mr_up_same _ _ _) (by first | assumption | decide) | exact mr_lk (mr_lk (by assumption) (by first | assumption | decide)) (by first | assumption | decide)) (by omega) (by omega) (by decide) ?_
  refine mr_aload_n dX0_startAnew_15 rfl ?_
  refine mr_get dX0_startAnew_16 fl_X0_11 (by first | assumption | exact mr_up_same _ _ _ | exact mr_lk (by assumption) (by first | assumption | decide) | exact mr_lk (mr_up_same _ _ _) (by first | assumption | decide) | exact mr_lk (mr_lk (by assumption) (by first | assumption | decide)) (by first | assumption | decide)) rfl ?_
  refine mr_iconst dX0_startAnew_19 ?_
  refine mr_iconst dX0_startAnew_20 ?_
  refine mr_iload_n dX0_startAnew_21 rfl ?_
  refine mr_iconst dX0_startAnew_22 ?_
  refine mr_callS (as := [_, _]) dX0_startAnew_23 (ok_J9_min_7cf53 l G) ml_X0_15 cl_J9_min_7cf53 cs_J9_min_7cf53 (by decide) rfl rfl (Nat.le_of_ble_eq_true rfl) ?_
  refine ⟨_, _, rfl, (by omega), (by omega), ?_⟩
  dsimp only [Option.toList_some, Option.toList_none, List.cons_append, List.nil_append]
  refine mr_callS (as := [_, _]) dX0_startAnew_26 (ok_J9_max_7cf53 l G) ml_X0_21 cl_J9_max_7cf53 cs_J9_max_7cf53 (by decide) rfl rfl (Nat.le_of_ble_eq_true rfl) ?_
  refine ⟨_, _, rfl, (by omega), (by omega), ?_⟩
  dsimp only [Option.toList_some, Option.toList_none, List.cons_append, List.nil_append]
  refine mr_iast dX0_startAnew_29 (by first | assumption | exact mr_up_same _ _ _ | exact mr_lk (by assumption) (by first | assumption | decide) | exact mr_lk (mr_up_same _ _ _) (by first | assumption | decide) | exact mr_lk (mr_lk (by assumption) (by first | assumption | decide)) (by first | assumption | decide)) (by omega) (by omega) (by decide) ?_
  refine mr_vret rfl dX0_startAnew_30 ?_
  rw [mr_up_up, mr_up_up]
  exact hP
theorem ml30 : Cond.methodLink RX0 30 arraycopyName ∈ mr_ws := mr_mem 535 (by decide +kernel) rfl
theorem nat30 : Cond.native arraycopyName ∈ mr_ws := mr_mem 537 (by decide +kernel) rfl
theorem sta30 : Cond.static arraycopyName ∈ mr_ws := mr_mem 536 (by decide +kernel) rfl
theorem ini30 : Cond.initialized "java/lang/System" ∈ mr_ws := mr_mem 91 (by decide +kernel) rfl
def T_X0_copyTo (a : List mr_AV) (w : mr_Wd) (Po : Option mr_AV → mr_Wd → Prop) : Prop := ∃ (b q n r : Nat) (f : Nat → Int) (F : Nat → Nat → Int), a = [vR b 0, vR q (r + 1)] ∧ mr_BK w b f ∧ w q = eM n 51 F ∧ r < n ∧ Po none (mr_up w q (eM n 51 (fun i => if i = r then f else F i)))
set_option maxHeartbeats 4000000 in
set_option maxRecDepth 20000 in
theorem ok_X0_copyTo (l : Launch) (G : mr_G) : mr_Ok l G yX0_copyTo cX0_copyTo 2 none 1 21 T_X0_copyTo := by
  refine mr_Ok.of (by decide +kernel) ?_
  rintro a w Po ⟨b, q, n, r, f, F, rfl, ⟨hb, hc⟩, hq, hr, hP⟩
  refine ⟨Nat.le_of_ble_eq_true rfl, ?_⟩
  show mr_J l G RX0 cX0_copyTo 2 none 1 21 Po 0 [some (vR b 0), some (vR q (r + 1))] [] w
  refine mr_aload_n dX0_copyTo_0 rfl ?_
  refine mr_get dX0_copyTo_1 fl_X0_11 (by first | assumption | exact mr_up_same _ _ _ | exact mr_lk (by assumption) (by first | assumption | decide) | exact mr_lk (mr_up_same _ _ _) (by first | assumption | decide) | exact mr_lk (mr_lk (by assumption) (by first | assumption | decide)) (by first | assumption | decide)) rfl ?_
  refine mr_iconst dX0_copyTo_4 ?_
  refine mr_aload_n dX0_copyTo_5 rfl ?_
  refine mr_iconst dX0_copyTo_6 ?_
  refine mr_bipush dX0_copyTo_7 rfl ?_
  refine mr_aload_n dX0_copyTo_9 rfl ?_
  refine mr_alenM dX0_copyTo_10 (by first | assumption | exact mr_up_same _ _ _ | exact mr_lk (by assumption) (by first | assumption | decide) | exact mr_lk (mr_up_same _ _ _) (by first | assumption | decide) | exact mr_lk (mr_lk (by assumption) (by first | assumption | decide)) (by first | assumption | decide)) hr ?_
  refine mr_callS (as := [_, _]) dX0_copyTo_11 (ok_J9_min_7cf53 l G) ml_X0_15 cl_J9_min_7cf53 cs_J9_min_7cf53 (by decide) rfl rfl (Nat.le_of_ble_eq_true rfl) ?_
  refine ⟨_, _, rfl, (by omega), (by omega), ?_⟩
  dsimp only [Option.toList_some, Option.toList_none, List.cons_append, List.nil_append]
  refine mr_copyAM (N := 51) dX0_copyTo_14 ml30 nat30 sta30 ini30 (by decide) hc hq hr (by decide) ?_
  refine mr_vret rfl dX0_copyTo_17 ?_
  exact hP
def T_X0_copyFrom (a : List mr_AV) (w : mr_Wd) (Po : Option mr_AV → mr_Wd → Prop) : Prop := (∃ (b q n r : Nat) (f : Nat → Int) (F : Nat → Nat → Int), a = [vR b 0, vR q (r + 1)] ∧ mr_BK w b f ∧ w q = eM n 51 F ∧ r < n ∧ Po none (mr_up w (b + 1) (eA 0 51 (F r)))) ∨ ∃ (b q : Nat) (f g : Nat → Int), a = [vR b 0, vR q 0] ∧ mr_BK w b f ∧ w q = eA 0 51 g ∧ Po none (mr_up w (b + 1) (eA 0 51 g))
set_option maxHeartbeats 4000000 in
set_option maxRecDepth 20000 in
theorem ok_X0_copyFrom (l : Launch) (G : mr_G) : mr_Ok l G yX0_copyFrom cX0_copyFrom 2 none 1 21 T_X0_copyFrom := by
  refine mr_Ok.of (by decide +kernel) ?_
  rintro a w Po (⟨b, q, n, r, f, F, rfl, ⟨hb, hc⟩, hq, hr, hP⟩ | ⟨b, q, f, g, rfl, ⟨hb, hc⟩, hq, hP⟩)
  · refine ⟨Nat.le_of_ble_eq_true rfl, ?_⟩
    show mr_J l G RX0 cX0_copyFrom 2 none 1 21 Po 0 [some (vR b 0), some (vR q (r + 1))] [] w
    refine mr_aload_n dX0_copyFrom_0 rfl ?_
    refine mr_iconst dX0_copyFrom_1 ?_
    refine mr_aload_n dX0_copyFrom_2 rfl ?_
    refine mr_get dX0_copyFrom_3 fl_X0_11 (by first | assumption | exact mr_up_same _ _ _ | exact mr_lk (by assumption) (by first | assumption | decide) | exact mr_lk (mr_up_same _ _ _) (by first | assumption | decide) | exact mr_lk (mr_lk (by assumption) (by first | assumption | decide)) (by first | assumption | decide)) rfl ?_
    refine mr_iconst dX0_copyFrom_6 ?_
    refine mr_bipush dX0_copyFrom_7 rfl ?_
    refine mr_aload_n dX0_copyFrom_9 rfl ?_
    refine mr_alenM dX0_copyFrom_10 (by first | assumption | exact mr_up_same _ _ _ | exact mr_lk (by assumption) (by first | assumption | decide) | exact mr_lk (mr_up_same _ _ _) (by first | assumption | decide) | exact mr_lk (mr_lk (by assumption) (by first | assumption | decide)) (by first | assumption | decide)) hr ?_
    refine mr_callS (as := [_, _]) dX0_copyFrom_11 (ok_J9_min_7cf53 l G) ml_X0_15 cl_J9_min_7cf53 cs_J9_min_7cf53 (by decide) rfl rfl (Nat.le_of_ble_eq_true rfl) ?_
    refine ⟨_, _, rfl, (by omega), (by omega), ?_⟩
    dsimp only [Option.toList_some, Option.toList_none, List.cons_append, List.nil_append]
    refine mr_copyMA (N := 51) dX0_copyFrom_14 ml30 nat30 sta30 ini30 (by decide) hc hq hr (by decide) ?_
    refine mr_vret rfl dX0_copyFrom_17 ?_
    exact hP
  · refine ⟨Nat.le_of_ble_eq_true rfl, ?_⟩
    show mr_J l G RX0 cX0_copyFrom 2 none 1 21 Po 0 [some (vR b 0), some (vR q 0)] [] w
    refine mr_aload_n dX0_copyFrom_0 rfl ?_
    refine mr_iconst dX0_copyFrom_1 ?_
    refine mr_aload_n dX0_copyFrom_2 rfl ?_
    refine mr_get dX0_copyFrom_3 fl_X0_11 (by first | assumption | exact mr_up_same _ _ _ | exact mr_lk (by assumption) (by first | assumption | decide) | exact mr_lk (mr_up_same _ _ _) (by first | assumption | decide) | exact mr_lk (mr_lk (by assumption) (by first | assumption | decide)) (by first | assumption | decide)) rfl ?_
    refine mr_iconst dX0_copyFrom_6 ?_
    refine mr_bipush dX0_copyFrom_7 rfl ?_
    refine mr_aload_n dX0_copyFrom_9 rfl ?_
    refine mr_alen dX0_copyFrom_10 (by first | assumption | exact mr_up_same _ _ _ | exact mr_lk (by assumption) (by first | assumption | decide) | exact mr_lk (mr_up_same _ _ _) (by first | assumption | decide) | exact mr_lk (mr_lk (by assumption) (by first | assumption | decide)) (by first | assumption | decide)) (by decide) ?_
    refine mr_callS (as := [_, _]) dX0_copyFrom_11 (ok_J9_min_7cf53 l G) ml_X0_15 cl_J9_min_7cf53 cs_J9_min_7cf53 (by decide) rfl rfl (Nat.le_of_ble_eq_true rfl) ?_
    refine ⟨_, _, rfl, (by omega), (by omega), ?_⟩
    dsimp only [Option.toList_some, Option.toList_none, List.cons_append, List.nil_append]
    refine mr_copyAA (N := 51) dX0_copyFrom_14 ml30 nat30 sta30 ini30 (by decide) hc hq (by decide) ?_
    refine mr_vret rfl dX0_copyFrom_17 ?_
    exact hP
def T_X0_hasPlace (a : List mr_AV) (w : mr_Wd) (Po : Option mr_AV → mr_Wd → Prop) : Prop := ∃ (b : Nat) (f : Nat → Int) (p : Int), a = [vR b 0, vI p] ∧ mr_BK w b f ∧ mr_Bd f ∧ InR p ∧ (0 < f 0 ∧ 0 ≤ p ∧ p < 4 → Po (some (vI 1)) w) ∧ (¬ (0 < f 0 ∧ 0 ≤ p ∧ p < 4) → Po (some (vI 0)) w)
set_option maxHeartbeats 4000000 in
set_option maxRecDepth 20000 in
theorem ok_X0_hasPlace (l : Launch) (G : mr_G) : mr_Ok l G yX0_hasPlace cX0_hasPlace 2 (some .boolean) 0 0 T_X0_hasPlace := by
  refine mr_Ok.of (by decide +kernel) ?_
  rintro a w Po ⟨b, f, p, rfl, ⟨hb, hc⟩, hB, hp, hP, hQ⟩
  refine ⟨Nat.le_of_ble_eq_true rfl, ?_⟩
  show mr_J l G RX0 cX0_hasPlace 2 (some .boolean) 0 0 Po 0 [some (vR b 0), some (vI p)] [] w
  have h0 := hB.1 0
  refine mr_aload_n dX0_hasPlace_0 rfl ?_
  refine mr_get dX0_hasPlace_1 fl_X0_11 (by first | assumption | exact mr_up_same _ _ _ | exact mr_lk (by assumption) (by first | assumption | decide) | exact mr_lk (mr_up_same _ _ _) (by first | assumption | decide) | exact mr_lk (mr_lk (by assumption) (by first | assumption | decide)) (by first | assumption | decide)) rfl ?_
  refine mr_iconst dX0_hasPlace_4 ?_
  refine mr_iald dX0_hasPlace_5 (by first | assumption | exact mr_up_same _ _ _ | exact mr_lk (by assumption) (by first | assumption | decide) | exact mr_lk (mr_up_same _ _ _) (by first | assumption | decide) | exact mr_lk (mr_lk (by assumption) (by first | assumption | decide)) (by first | assumption | decide)) (by omega) (by omega) (by decide) ?_
  refine mr_if_le (tgt := 22) dX0_hasPlace_6 (by decide) ⟨by show -2147483648 ≤ f 0; omega, by show f 0 < 2147483648; omega⟩ (fun hc_6 => ?_) (fun hc_6 => ?_)
  · refine mr_iconst dX0_hasPlace_22 ?_
    refine mr_zret rfl (Or.inl rfl) dX0_hasPlace_23 ?_
    exact hQ (by have hz : f (Int.toNat 0) = f 0 := rfl; omega)
  · refine mr_iload_n dX0_hasPlace_9 rfl ?_
    refine mr_if_lt (tgt := 22) dX0_hasPlace_10 (by decide) (by omega) (fun hc_10 => ?_) (fun hc_10 => ?_)
    · refine mr_iconst dX0_hasPlace_22 ?_
      refine mr_zret rfl (Or.inl rfl) dX0_hasPlace_23 ?_
      exact hQ (by have hz : f (Int.toNat 0) = f 0 := rfl; omega)
    · refine mr_iload_n dX0_hasPlace_13 rfl ?_
      refine mr_iconst dX0_hasPlace_14 ?_
      refine mr_icmp_ge (tgt := 22) dX0_hasPlace_15 (by decide) (by omega) (by omega) (fun hc_15 => ?_) (fun hc_15 => ?_)
      · refine mr_iconst dX0_hasPlace_22 ?_
        refine mr_zret rfl (Or.inl rfl) dX0_hasPlace_23 ?_
        exact hQ (by have hz : f (Int.toNat 0) = f 0 := rfl; omega)
      · refine mr_iconst dX0_hasPlace_18 ?_
        refine mr_goto (tgt := 23) dX0_hasPlace_19 (by decide) ?_
        refine mr_zret rfl (Or.inr rfl) dX0_hasPlace_23 ?_
        exact hP (by have hz : f (Int.toNat 0) = f 0 := rfl; omega)
def T_X0_hasNumber (a : List mr_AV) (w : mr_Wd) (Po : Option mr_AV → mr_Wd → Prop) : Prop := ∃ (b : Nat) (f : Nat → Int) (n : Int), a = [vR b 0, vI n] ∧ mr_BK w b f ∧ mr_Bd f ∧ InR n ∧ (0 ≤ n ∧ n < f 0 → Po (some (vI 1)) w) ∧ (¬ (0 ≤ n ∧ n < f 0) → Po (some (vI 0)) w)
set_option maxHeartbeats 4000000 in
set_option maxRecDepth 20000 in
theorem ok_X0_hasNumber (l : Launch) (G : mr_G) : mr_Ok l G yX0_hasNumber cX0_hasNumber 2 (some .boolean) 0 0 T_X0_hasNumber := by
  refine mr_Ok.of (by decide +kernel) ?_
  rintro a w Po ⟨b, f, n, rfl, ⟨hb, hc⟩, hB, hn, hP, hQ⟩
  refine ⟨Nat.le_of_ble_eq_true rfl, ?_⟩
  show mr_J l G RX0 cX0_hasNumber 2 (some .boolean) 0 0 Po 0 [some (vR b 0), some (vI n)] [] w
  have h0 := hB.1 0
  have hz : f (Int.toNat 0) = f 0 := rfl
  refine mr_iload_n dX0_hasNumber_0 rfl ?_
  refine mr_if_lt (tgt := 18) dX0_hasNumber_1 (by decide) (by omega) (fun hc_1 => ?_) (fun hc_1 => ?_)
  · refine mr_iconst dX0_hasNumber_18 ?_
    refine mr_zret rfl (Or.inl rfl) dX0_hasNumber_19 ?_
    first | exact hP (by omega) | exact hQ (by omega)
  · refine mr_iload_n dX0_hasNumber_4 rfl ?_
    refine mr_aload_n dX0_hasNumber_5 rfl ?_
    refine mr_get dX0_hasNumber_6 fl_X0_11 (by first | assumption | exact mr_up_same _ _ _ | exact mr_lk (by assumption) (by first | assumption | decide) | exact mr_lk (mr_up_same _ _ _) (by first | assumption | decide) | exact mr_lk (mr_lk (by assumption) (by first | assumption | decide)) (by first | assumption | decide)) rfl ?_
    refine mr_iconst dX0_hasNumber_9 ?_
    refine mr_iald dX0_hasNumber_10 (by first | assumption | exact mr_up_same _ _ _ | exact mr_lk (by assumption) (by first | assumption | decide) | exact mr_lk (mr_up_same _ _ _) (by first | assumption | decide) | exact mr_lk (mr_lk (by assumption) (by first | assumption | decide)) (by first | assumption | decide)) (by omega) (by omega) (by decide) ?_
    refine mr_icmp_ge (tgt := 18) dX0_hasNumber_11 (by decide) hn ⟨by rw [hz]; omega, by rw [hz]; omega⟩ (fun hc_11 => ?_) (fun hc_11 => ?_)
    · refine mr_iconst dX0_hasNumber_18 ?_
      refine mr_zret rfl (Or.inl rfl) dX0_hasNumber_19 ?_
      first | exact hP (by omega) | exact hQ (by omega)
    · refine mr_iconst dX0_hasNumber_14 ?_
      refine mr_goto (tgt := 19) dX0_hasNumber_15 (by decide) ?_
      refine mr_zret rfl (Or.inr rfl) dX0_hasNumber_19 ?_
      first | exact hP (by omega) | exact hQ (by omega)
def T_X0_fits (a : List mr_AV) (w : mr_Wd) (Po : Option mr_AV → mr_Wd → Prop) : Prop := ∃ (b : Nat) (f : Nat → Int) (c n : Int), a = [vR b 0, vI c, vI n] ∧ mr_BK w b f ∧ mr_Bd f ∧ InR c ∧ InR n ∧ ((c < f 1 ∧ 0 ≤ n ∧ n < f 0) ∨ (f 1 ≤ c ∧ n = 0) → Po (some (vI 1)) w) ∧ (¬ ((c < f 1 ∧ 0 ≤ n ∧ n < f 0) ∨ (f 1 ≤ c ∧ n = 0)) → Po (some (vI 0)) w)
set_option maxHeartbeats 4000000 in
set_option maxRecDepth 20000 in
theorem ok_X0_fits (l : Launch) (G : mr_G) : mr_Ok l G yX0_fits cX0_fits 3 (some .boolean) 1 21 T_X0_fits := by
  refine mr_Ok.of (by decide +kernel) ?_
  rintro a w Po ⟨b, f, c, n, rfl, ⟨hb, hc⟩, hB, hc0, hn, hP, hQ⟩
  refine ⟨Nat.le_of_ble_eq_true rfl, ?_⟩
  show mr_J l G RX0 cX0_fits 3 (some .boolean) 1 21 Po 0 [some (vR b 0), some (vI c), some (vI n)] [] w
  have h0 := hB.1 1
  have hz : f (Int.toNat 1) = f 1 := rfl
  refine mr_iload_n dX0_fits_0 rfl ?_
  refine mr_aload_n dX0_fits_1 rfl ?_
  refine mr_get dX0_fits_2 fl_X0_11 (by first | assumption | exact mr_up_same _ _ _ | exact mr_lk (by assumption) (by first | assumption | decide) | exact mr_lk (mr_up_same _ _ _) (by first | assumption | decide) | exact mr_lk (mr_lk (by assumption) (by first | assumption | decide)) (by first | assumption | decide)) rfl ?_
  refine mr_iconst dX0_fits_5 ?_
  refine mr_iald dX0_fits_6 (by first | assumption | exact mr_up_same _ _ _ | exact mr_lk (by assumption) (by first | assumption | decide) | exact mr_lk (mr_up_same _ _ _) (by first | assumption | decide) | exact mr_lk (mr_lk (by assumption) (by first | assumption | decide)) (by first | assumption | decide)) (by omega) (by omega) (by decide) ?_
  refine mr_icmp_ge (tgt := 18) dX0_fits_7 (by decide) hc0 ⟨by rw [hz]; omega, by rw [hz]; omega⟩ (fun hc_7 => ?_) (fun hc_7 => ?_)
  · refine mr_iload_n dX0_fits_18 rfl ?_
    refine mr_if_ne (tgt := 26) dX0_fits_19 (by decide) hn (fun hc_19 => ?_) (fun hc_19 => ?_)
    · refine mr_iconst dX0_fits_26 ?_
      refine mr_zret rfl (Or.inl rfl) dX0_fits_27 ?_
      first | exact hP (by omega) | exact hQ (by omega)
    · refine mr_iconst dX0_fits_22 ?_
      refine mr_goto (tgt := 27) dX0_fits_23 (by decide) ?_
      refine mr_zret rfl (Or.inr rfl) dX0_fits_27 ?_
      first | exact hP (by omega) | exact hQ (by omega)
  · refine mr_aload_n dX0_fits_10 rfl ?_
    refine mr_iload_n dX0_fits_11 rfl ?_
    refine mr_callV (as := [_]) dX0_fits_12 (ok_X0_hasNumber l G) ml_X0_40 cl_X0_hasNumber cv_X0_hasNumber (by decide) rfl rfl (Nat.le_of_ble_eq_true rfl) (by first | assumption | exact mr_up_same _ _ _ | exact mr_lk (by assumption) (by first | assumption | decide) | exact mr_lk (mr_up_same _ _ _) (by first | assumption | decide) | exact mr_lk (mr_lk (by assumption) (by first | assumption | decide)) (by first | assumption | decide)) ?_
    refine ⟨_, _, _, rfl, ⟨(by first | assumption | exact mr_up_same _ _ _ | exact mr_lk (by assumption) (by first | assumption | decide) | exact mr_lk (mr_up_same _ _ _) (by first | assumption | decide) | exact mr_lk (mr_lk (by assumption) (by first | assumption | decide)) (by first | assumption | decide)), (by first | assumption | exact mr_up_same _ _ _ | exact mr_lk (by assumption) (by first | assumption | decide) | exact mr_lk (mr_up_same _ _ _) (by first | assumption | decide) | exact mr_lk (mr_lk (by assumption) (by first | assumption | decide)) (by first | assumption | decide))⟩, (by assumption), (by omega), ?_, ?_⟩
    · intro hy
      dsimp only [Option.toList_some, Option.toList_none, List.cons_append, List.nil_append]
      refine mr_goto (tgt := 27) dX0_fits_15 (by decide) ?_
      refine mr_zret rfl (Or.inr rfl) dX0_fits_27 ?_
      first | exact hP (by omega) | exact hQ (by omega)
    · intro hy
      dsimp only [Option.toList_some, Option.toList_none, List.cons_append, List.nil_append]
      refine mr_goto (tgt := 27) dX0_fits_15 (by decide) ?_
      refine mr_zret rfl (Or.inl rfl) dX0_fits_27 ?_
      first | exact hP (by omega) | exact hQ (by omega)
def T_X0_hasRow (a : List mr_AV) (w : mr_Wd) (Po : Option mr_AV → mr_Wd → Prop) : Prop := ∃ (b : Nat) (f : Nat → Int) (x y z : Int), a = [vR b 0, vI x, vI y, vI z] ∧ mr_BK w b f ∧ mr_Bd f ∧ InR x ∧ InR y ∧ InR z ∧ (((0 < f 1 ∧ 0 ≤ x ∧ x < f 0) ∨ (f 1 ≤ 0 ∧ x = 0)) ∧ ((1 < f 1 ∧ 0 ≤ y ∧ y < f 0) ∨ (f 1 ≤ 1 ∧ y = 0)) ∧ ((2 < f 1 ∧ 0 ≤ z ∧ z < f 0) ∨ (f 1 ≤ 2 ∧ z = 0)) → Po (some (vI 1)) w) ∧ (¬ (((0 < f 1 ∧ 0 ≤ x ∧ x < f 0) ∨ (f 1 ≤ 0 ∧ x = 0)) ∧ ((1 < f 1 ∧ 0 ≤ y ∧ y < f 0) ∨ (f 1 ≤ 1 ∧ y = 0)) ∧ ((2 < f 1 ∧ 0 ≤ z ∧ z < f 0) ∨ (f 1 ≤ 2 ∧ z = 0))) → Po (some (vI 0)) w)
set_option maxHeartbeats 4000000 in
set_option maxRecDepth 20000 in
theorem ok_X0_hasRow (l : Launch) (G : mr_G) : mr_Ok l G yX0_hasRow cX0_hasRow 4 (some .boolean) 2 43 T_X0_hasRow := by
  refine mr_Ok.of (by decide +kernel) ?_
  rintro a w Po ⟨b, f, x, y, z, rfl, ⟨hb, hc⟩, hB, hx, hy0, hz0, hP, hQ⟩
  refine ⟨Nat.le_of_ble_eq_true rfl, ?_⟩
  show mr_J l G RX0 cX0_hasRow 4 (some .boolean) 2 43 Po 0 [some (vR b 0), some (vI x), some (vI y), some (vI z)] [] w
  refine mr_aload_n dX0_hasRow_0 rfl ?_
  refine mr_iconst dX0_hasRow_1 ?_
  refine mr_iload_n dX0_hasRow_2 rfl ?_
  refine mr_callV (as := [_, _]) dX0_hasRow_3 (ok_X0_fits l G) ml_X0_36 cl_X0_fits cv_X0_fits (by decide) rfl rfl (Nat.le_of_ble_eq_true rfl) (by first | assumption | exact mr_up_same _ _ _ | exact mr_lk (by assumption) (by first | assumption | decide) | exact mr_lk (mr_up_same _ _ _) (by first | assumption | decide) | exact mr_lk (mr_lk (by assumption) (by first | assumption | decide)) (by first | assumption | decide)) ?_
  refine ⟨_, _, _, _, rfl, ⟨(by first | assumption | exact mr_up_same _ _ _ | exact mr_lk (by assumption) (by first | assumption | decide) | exact mr_lk (mr_up_same _ _ _) (by first | assumption | decide) | exact mr_lk (mr_lk (by assumption) (by first | assumption | decide)) (by first | assumption | decide)), (by first | assumption | exact mr_up_same _ _ _ | exact mr_lk (by assumption) (by first | assumption | decide) | exact mr_lk (mr_up_same _ _ _) (by first | assumption | decide) | exact mr_lk (mr_lk (by assumption) (by first | assumption | decide)) (by first | assumption | decide))⟩, (by assumption), (by omega), (by omega), ?_, ?_⟩
  · intro h1
    dsimp only [Option.toList_some, Option.toList_none, List.cons_append, List.nil_append]
    refine mr_if_eq (tgt := 31) dX0_hasRow_6 (by decide) (by omega) (fun h => absurd h (by decide)) (fun _ => ?_)
    refine mr_aload_n dX0_hasRow_9 rfl ?_
    refine mr_iconst dX0_hasRow_10 ?_
    refine mr_iload_n dX0_hasRow_11 rfl ?_
    refine mr_callV (as := [_, _]) dX0_hasRow_12 (ok_X0_fits l G) ml_X0_36 cl_X0_fits cv_X0_fits (by decide) rfl rfl (Nat.le_of_ble_eq_true rfl) (by first | assumption | exact mr_up_same _ _ _ | exact mr_lk (by assumption) (by first | assumption | decide) | exact mr_lk (mr_up_same _ _ _) (by first | assumption | decide) | exact mr_lk (mr_lk (by assumption) (by first | assumption | decide)) (by first | assumption | decide)) ?_
    refine ⟨_, _, _, _, rfl, ⟨(by first | assumption | exact mr_up_same _ _ _ | exact mr_lk (by assumption) (by first | assumption | decide) | exact mr_lk (mr_up_same _ _ _) (by first | assumption | decide) | exact mr_lk (mr_lk (by assumption) (by first | assumption | decide)) (by first | assumption | decide)), (by first | assumption | exact mr_up_same _ _ _ | exact mr_lk (by assumption) (by first | assumption | decide) | exact mr_lk (mr_up_same _ _ _) (by first | assumption | decide) | exact mr_lk (mr_lk (by assumption) (by first | assumption | decide)) (by first | assumption | decide))⟩, (by assumption), (by omega), (by omega), ?_, ?_⟩
    · intro h2
      dsimp only [Option.toList_some, Option.toList_none, List.cons_append, List.nil_append]
      refine mr_if_eq (tgt := 31) dX0_hasRow_15 (by decide) (by omega) (fun h => absurd h (by decide)) (fun _ => ?_)
      refine mr_aload_n dX0_hasRow_18 rfl ?_
      refine mr_iconst dX0_hasRow_19 ?_
      refine mr_iload_n dX0_hasRow_20 rfl ?_
      refine mr_callV (as := [_, _]) dX0_hasRow_21 (ok_X0_fits l G) ml_X0_36 cl_X0_fits cv_X0_fits (by decide) rfl rfl (Nat.le_of_ble_eq_true rfl) (by first | assumption | exact mr_up_same _ _ _ | exact mr_lk (by assumption) (by first | assumption | decide) | exact mr_lk (mr_up_same _ _ _) (by first | assumption | decide) | exact mr_lk (mr_lk (by assumption) (by first | assumption | decide)) (by first | assumption | decide)) ?_
      refine ⟨_, _, _, _, rfl, ⟨(by first | assumption | exact mr_up_same _ _ _ | exact mr_lk (by assumption) (by first | assumption | decide) | exact mr_lk (mr_up_same _ _ _) (by first | assumption | decide) | exact mr_lk (mr_lk (by assumption) (by first | assumption | decide)) (by first | assumption | decide)), (by first | assumption | exact mr_up_same _ _ _ | exact mr_lk (by assumption) (by first | assumption | decide) | exact mr_lk (mr_up_same _ _ _) (by first | assumption | decide) | exact mr_lk (mr_lk (by assumption) (by first | assumption | decide)) (by first | assumption | decide))⟩, (by assumption), (by omega), (by omega), ?_, ?_⟩
      · intro h3
        dsimp only [Option.toList_some, Option.toList_none, List.cons_append, List.nil_append]
        refine mr_if_eq (tgt := 31) dX0_hasRow_24 (by decide) (by omega) (fun h => absurd h (by decide)) (fun _ => ?_)
        refine mr_iconst dX0_hasRow_27 ?_
        refine mr_goto (tgt := 32) dX0_hasRow_28 (by decide) ?_
        refine mr_zret rfl (Or.inr rfl) dX0_hasRow_32 ?_
        first | exact hP (by omega) | exact hQ (by omega)
      · intro h3
        dsimp only [Option.toList_some, Option.toList_none, List.cons_append, List.nil_append]
        refine mr_if_eq (tgt := 31) dX0_hasRow_24 (by decide) (by omega) (fun _ => ?_) (fun h => absurd h (by decide))
        refine mr_iconst dX0_hasRow_31 ?_
        refine mr_zret rfl (Or.inl rfl) dX0_hasRow_32 ?_
        first | exact hP (by omega) | exact hQ (by omega)
    · intro h2
      dsimp only [Option.toList_some, Option.toList_none, List.cons_append, List.nil_append]
      refine mr_if_eq (tgt := 31) dX0_hasRow_15 (by decide) (by omega) (fun _ => ?_) (fun h => absurd h (by decide))
      refine mr_iconst dX0_hasRow_31 ?_
      refine mr_zret rfl (Or.inl rfl) dX0_hasRow_32 ?_
      first | exact hP (by omega) | exact hQ (by omega)
  · intro h1
    dsimp only [Option.toList_some, Option.toList_none, List.cons_append, List.nil_append]
    refine mr_if_eq (tgt := 31) dX0_hasRow_6 (by decide) (by omega) (fun _ => ?_) (fun h => absurd h (by decide))
    refine mr_iconst dX0_hasRow_31 ?_
    refine mr_zret rfl (Or.inl rfl) dX0_hasRow_32 ?_
    first | exact hP (by omega) | exact hQ (by omega)
def T_X0_residue (a : List mr_AV) (w : mr_Wd) (Po : Option mr_AV → mr_Wd → Prop) : Prop := ∃ (b : Nat) (f : Nat → Int) (x : Int), a = [vR b 0, vI x] ∧ mr_BK w b f ∧ mr_Bd f ∧ InR x ∧ Po (some (vI (mr_rs f x))) w
set_option maxHeartbeats 4000000 in
set_option maxRecDepth 20000 in
theorem ok_X0_residue (l : Launch) (G : mr_G) : mr_Ok l G yX0_residue cX0_residue 3 (some .int) 1 22 T_X0_residue := by
  refine mr_Ok.of (by decide +kernel) ?_
  rintro a w Po ⟨b, f, x, rfl, ⟨hb, hc⟩, hB, hx, hP⟩
  refine ⟨Nat.le_of_ble_eq_true rfl, ?_⟩
  show mr_J l G RX0 cX0_residue 3 (some .int) 1 22 Po 0 [some (vR b 0), some (vI x), none] [] w
  have h0 := hB.1 0
  have hz : f (Int.toNat 0) = f 0 := rfl
  refine mr_aload_n dX0_residue_0 rfl ?_
  refine mr_get dX0_residue_1 fl_X0_11 (by first | assumption | exact mr_up_same _ _ _ | exact mr_lk (by assumption) (by first | assumption | decide) | exact mr_lk (mr_up_same _ _ _) (by first | assumption | decide) | exact mr_lk (mr_lk (by assumption) (by first | assumption | decide)) (by first | assumption | decide)) rfl ?_
  refine mr_iconst dX0_residue_4 ?_
  refine mr_iald dX0_residue_5 (by first | assumption | exact mr_up_same _ _ _ | exact mr_lk (by assumption) (by first | assumption | decide) | exact mr_lk (mr_up_same _ _ _) (by first | assumption | decide) | exact mr_lk (mr_lk (by assumption) (by first | assumption | decide)) (by first | assumption | decide)) (by omega) (by omega) (by decide) ?_
  refine mr_istore_n dX0_residue_6 rfl (by decide) ?_
  refine mr_iload_n dX0_residue_7 rfl ?_
  refine mr_if_le (tgt := 19) dX0_residue_8 (by decide) ⟨by rw [hz]; omega, by rw [hz]; omega⟩ (fun hc_8 => ?_) (fun hc_8 => ?_)
  · refine mr_iconst dX0_residue_19 ?_
    refine mr_iret rfl dX0_residue_20 ?_
    first | (rw [mr_rs, if_neg (by omega)] at hP; exact hP) | (rw [mr_rs, if_pos (by omega)] at hP; exact hP)
  · refine mr_iload_n dX0_residue_11 rfl ?_
    refine mr_iload_n dX0_residue_12 rfl ?_
    refine mr_callS (as := [_, _]) dX0_residue_13 (ok_J9_floorMod_7cf53 l G) ml_X0_44 cl_J9_floorMod_7cf53 cs_J9_floorMod_7cf53 (by decide) rfl rfl (Nat.le_of_ble_eq_true rfl) ?_
    refine ⟨_, _, rfl, hx, ⟨by rw [hz]; omega, by rw [hz]; omega⟩, (by rw [hz]; omega), ?_⟩
    dsimp only [Option.toList_some, Option.toList_none, List.cons_append, List.nil_append]
    refine mr_goto (tgt := 20) dX0_residue_16 (by decide) ?_
    refine mr_iret rfl dX0_residue_20 ?_
    first | (rw [mr_rs, if_neg (by omega)] at hP; exact hP) | (rw [mr_rs, if_pos (by omega)] at hP; exact hP)
def T_X0_formCell (a : List mr_AV) (w : mr_Wd) (Po : Option mr_AV → mr_Wd → Prop) : Prop := ∃ (p c d : Int), a = [vI p, vI c, vI d] ∧ InR p ∧ InR c ∧ InR d ∧ (0 ≤ p ∧ p < 4 ∧ 0 ≤ c ∧ c < 3 ∧ 0 ≤ d ∧ d < 3 → Po (some (vI (3 + (p * 3 + c) * 3 + d))) w) ∧ (¬ (0 ≤ p ∧ p < 4 ∧ 0 ≤ c ∧ c < 3 ∧ 0 ≤ d ∧ d < 3) → Po (some (vI (-1))) w)
set_option maxHeartbeats 4000000 in
set_option maxRecDepth 20000 in
theorem ok_X0_formCell (l : Launch) (G : mr_G) : mr_Ok l G yX0_formCell cX0_formCell 3 (some .int) 0 0 T_X0_formCell := by
  refine mr_Ok.of (by decide +kernel) ?_
  rintro a w Po ⟨p, c, d, rfl, hp, hc, hd, hP, hQ⟩
  refine ⟨Nat.le_of_ble_eq_true rfl, ?_⟩
  show mr_J l G RX0 cX0_formCell 3 (some .int) 0 0 Po 0 [some (vI p), some (vI c), some (vI d)] [] w
  refine mr_iload_n dX0_formCell_0 rfl ?_
  refine mr_if_lt (tgt := 27) dX0_formCell_1 (by decide) (by omega) (fun hc_1 => ?_) (fun hc_1 => ?_)
  · refine mr_iconst dX0_formCell_27 ?_
    refine mr_iret rfl dX0_formCell_28 ?_
    exact hQ (by omega)
  · refine mr_iload_n dX0_formCell_4 rfl ?_
    refine mr_iconst dX0_formCell_5 ?_
    refine mr_icmp_ge (tgt := 27) dX0_formCell_6 (by decide) (by omega) (by omega) (fun hc_6 => ?_) (fun hc_6 => ?_)
    · refine mr_iconst dX0_formCell_27 ?_
      refine mr_iret rfl dX0_formCell_28 ?_
      exact hQ (by omega)
    · refine mr_iload_n dX0_formCell_9 rfl ?_
      refine mr_if_lt (tgt := 27) dX0_formCell_10 (by decide) (by omega) (fun hc_10 => ?_) (fun hc_10 => ?_)
      · refine mr_iconst dX0_formCell_27 ?_
        refine mr_iret rfl dX0_formCell_28 ?_
        exact hQ (by omega)
      · refine mr_iload_n dX0_formCell_13 rfl ?_
        refine mr_iconst dX0_formCell_14 ?_
        refine mr_icmp_ge (tgt := 27) dX0_formCell_15 (by decide) (by omega) (by omega) (fun hc_15 => ?_) (fun hc_15 => ?_)
        · refine mr_iconst dX0_formCell_27 ?_
          refine mr_iret rfl dX0_formCell_28 ?_
          exact hQ (by omega)
        · refine mr_iload_n dX0_formCell_18 rfl ?_
          refine mr_if_lt (tgt := 27) dX0_formCell_19 (by decide) (by omega) (fun hc_19 => ?_) (fun hc_19 => ?_)
          · refine mr_iconst dX0_formCell_27 ?_
            refine mr_iret rfl dX0_formCell_28 ?_
            exact hQ (by omega)
          · refine mr_iload_n dX0_formCell_22 rfl ?_
            refine mr_iconst dX0_formCell_23 ?_
            refine mr_icmp_lt (tgt := 29) dX0_formCell_24 (by decide) (by omega) (by omega) (fun hc_24 => ?_) (fun hc_24 => ?_)
            · refine mr_iconst dX0_formCell_29 ?_
              refine mr_iload_n dX0_formCell_30 rfl ?_
              refine mr_iconst dX0_formCell_31 ?_
              refine mr_imul dX0_formCell_32 ?_
              refine mr_iload_n dX0_formCell_33 rfl ?_
              refine mr_iadd dX0_formCell_34 ?_
              refine mr_iconst dX0_formCell_35 ?_
              refine mr_imul dX0_formCell_36 ?_
              refine mr_iadd dX0_formCell_37 ?_
              refine mr_iload_n dX0_formCell_38 rfl ?_
              refine mr_iadd dX0_formCell_39 ?_
              refine mr_iret rfl dX0_formCell_40 ?_
              exact hP (by omega)
            · refine mr_iconst dX0_formCell_27 ?_
              refine mr_iret rfl dX0_formCell_28 ?_
              exact hQ (by omega)
def T_X0_formAt (a : List mr_AV) (w : mr_Wd) (Po : Option mr_AV → mr_Wd → Prop) : Prop := ∃ (b : Nat) (f : Nat → Int) (p c d : Int), a = [vR b 0, vI p, vI c, vI d] ∧ mr_BK w b f ∧ InR p ∧ InR c ∧ InR d ∧ Po (some (vI (mr_fa f p c d))) w
set_option maxHeartbeats 4000000 in
set_option maxRecDepth 20000 in
theorem ok_X0_formAt (l : Launch) (G : mr_G) : mr_Ok l G yX0_formAt cX0_formAt 5 (some .int) 1 22 T_X0_formAt := by
  refine mr_Ok.of (by decide +kernel) ?_
  rintro a w Po ⟨b, f, p, c, d, rfl, ⟨hb, hc⟩, hp, hc0, hd, hP⟩
  refine ⟨Nat.le_of_ble_eq_true rfl, ?_⟩
  show mr_J l G RX0 cX0_formAt 5 (some .int) 1 22 Po 0 [some (vR b 0), some (vI p), some (vI c), some (vI d), none] [] w
  refine mr_iload_n dX0_formAt_0 rfl ?_
  refine mr_iload_n dX0_formAt_1 rfl ?_
  refine mr_iload_n dX0_formAt_2 rfl ?_
  refine mr_callS (as := [_, _, _]) dX0_formAt_3 (ok_X0_formCell l G) ml_X0_47 cl_X0_formCell cs_X0_formCell (by decide) rfl rfl (Nat.le_of_ble_eq_true rfl) ?_
  refine ⟨_, _, _, rfl, (by omega), (by omega), (by omega), ?_, ?_⟩
  · intro hy
    dsimp only [Option.toList_some, Option.toList_none, List.cons_append, List.nil_append]
    refine mr_istore dX0_formAt_6 rfl (by decide) ?_
    refine mr_iload dX0_formAt_8 rfl ?_
    refine mr_if_lt (tgt := 23) dX0_formAt_10 (by decide) (by omega) (fun hc_10 => absurd hc_10 (by omega)) (fun hc_10 => ?_)
    refine mr_aload_n dX0_formAt_13 rfl ?_
    refine mr_get dX0_formAt_14 fl_X0_11 (by first | assumption | exact mr_up_same _ _ _ | exact mr_lk (by assumption) (by first | assumption | decide) | exact mr_lk (mr_up_same _ _ _) (by first | assumption | decide) | exact mr_lk (mr_lk (by assumption) (by first | assumption | decide)) (by first | assumption | decide)) rfl ?_
    refine mr_iload dX0_formAt_17 rfl ?_
    refine mr_iald dX0_formAt_19 (by first | assumption | exact mr_up_same _ _ _ | exact mr_lk (by assumption) (by first | assumption | decide) | exact mr_lk (mr_up_same _ _ _) (by first | assumption | decide) | exact mr_lk (mr_lk (by assumption) (by first | assumption | decide)) (by first | assumption | decide)) (by omega) (by omega) (by decide) ?_
    refine mr_goto (tgt := 24) dX0_formAt_20 (by decide) ?_
    refine mr_iret rfl dX0_formAt_24 ?_
    first | (rw [mr_fa, if_pos hy] at hP; exact hP) | (rw [mr_fa, if_neg hy] at hP; exact hP)
  · intro hy
    dsimp only [Option.toList_some, Option.toList_none, List.cons_append, List.nil_append]
    refine mr_istore dX0_formAt_6 rfl (by decide) ?_
    refine mr_iload dX0_formAt_8 rfl ?_
    refine mr_if_lt (tgt := 23) dX0_formAt_10 (by decide) (by omega) (fun _ => ?_) (fun h => absurd h (by decide))
    refine mr_iconst dX0_formAt_23 ?_
    refine mr_iret rfl dX0_formAt_24 ?_
    first | (rw [mr_fa, if_pos hy] at hP; exact hP) | (rw [mr_fa, if_neg hy] at hP; exact hP)
def T_X0_setFormAt (a : List mr_AV) (w : mr_Wd) (Po : Option mr_AV → mr_Wd → Prop) : Prop := ∃ (b : Nat) (f : Nat → Int) (p c d v : Int), a = [vR b 0, vI p, vI c, vI d, vI v] ∧ mr_BK w b f ∧ InR p ∧ InR c ∧ InR d ∧ Po none (mr_up w (b + 1) (eA 0 51 (mr_sfa f p c d v)))
set_option maxHeartbeats 4000000 in
set_option maxRecDepth 20000 in
theorem ok_X0_setFormAt (l : Launch) (G : mr_G) : mr_Ok l G yX0_setFormAt cX0_setFormAt 6 none 1 22 T_X0_setFormAt := by
  refine mr_Ok.of (by decide +kernel) ?_
  rintro a w Po ⟨b, f, p, c, d, v, rfl, ⟨hb, hc⟩, hp, hc0, hd, hP⟩
  refine ⟨Nat.le_of_ble_eq_true rfl, ?_⟩
  show mr_J l G RX0 cX0_setFormAt 6 none 1 22 Po 0 [some (vR b 0), some (vI p), some (vI c), some (vI d), some (vI v), none] [] w
  refine mr_iload_n dX0_setFormAt_0 rfl ?_
  refine mr_iload_n dX0_setFormAt_1 rfl ?_
  refine mr_iload_n dX0_setFormAt_2 rfl ?_
  refine mr_callS (as := [_, _, _]) dX0_setFormAt_3 (ok_X0_formCell l G) ml_X0_47 cl_X0_formCell cs_X0_formCell (by decide) rfl rfl (Nat.le_of_ble_eq_true rfl) ?_
  refine ⟨_, _, _, rfl, (by omega), (by omega), (by omega), ?_, ?_⟩
  · intro hy
    dsimp only [Option.toList_some, Option.toList_none, List.cons_append, List.nil_append]
    refine mr_istore dX0_setFormAt_6 rfl (by decide) ?_
    refine mr_iload dX0_setFormAt_8 rfl ?_
    refine mr_if_lt (tgt := 22) dX0_setFormAt_10 (by decide) (by omega) (fun hc_10 => absurd hc_10 (by omega)) (fun hc_10 => ?_)
    refine mr_aload_n dX0_setFormAt_13 rfl ?_
    refine mr_get dX0_setFormAt_14 fl_X0_11 (by first | assumption | exact mr_up_same _ _ _ | exact mr_lk (by assumption) (by first | assumption | decide) | exact mr_lk (mr_up_same _ _ _) (by first | assumption | decide) | exact mr_lk (mr_lk (by assumption) (by first | assumption | decide)) (by first | assumption | decide)) rfl ?_
    refine mr_iload dX0_setFormAt_17 rfl ?_
    refine mr_iload dX0_setFormAt_19 rfl ?_
    refine mr_iast dX0_setFormAt_21 (by first | assumption | exact mr_up_same _ _ _ | exact mr_lk (by assumption) (by first | assumption | decide) | exact mr_lk (mr_up_same _ _ _) (by first | assumption | decide) | exact mr_lk (mr_lk (by assumption) (by first | assumption | decide)) (by first | assumption | decide)) (by omega) (by omega) (by decide) ?_
    refine mr_vret rfl dX0_setFormAt_22 ?_
    first | (rw [mr_sfa, if_pos hy] at hP; exact hP) | (rw [mr_sfa, if_neg hy, mr_up_self hc] at hP; exact hP)
  · intro hy
    dsimp only [Option.toList_some, Option.toList_none, List.cons_append, List.nil_append]
    refine mr_istore dX0_setFormAt_6 rfl (by decide) ?_
    refine mr_iload dX0_setFormAt_8 rfl ?_
    refine mr_if_lt (tgt := 22) dX0_setFormAt_10 (by decide) (by omega) (fun _ => ?_) (fun h => absurd h (by decide))
    refine mr_vret rfl dX0_setFormAt_22 ?_
    first | (rw [mr_sfa, if_pos hy] at hP; exact hP) | (rw [mr_sfa, if_neg hy, mr_up_self hc] at hP; exact hP)
def T_X0_sideCell (a : List mr_AV) (w : mr_Wd) (Po : Option mr_AV → mr_Wd → Prop) : Prop := ∃ (i h : Int), a = [vI i, vI h] ∧ InR i ∧ InR h ∧ (0 ≤ i ∧ i < 3 ∧ 0 ≤ h ∧ h < 4 → Po (some (vI (39 + i * 4 + h))) w) ∧ (¬ (0 ≤ i ∧ i < 3 ∧ 0 ≤ h ∧ h < 4) → Po (some (vI (-1))) w)
set_option maxHeartbeats 4000000 in
set_option maxRecDepth 20000 in
theorem ok_X0_sideCell (l : Launch) (G : mr_G) : mr_Ok l G yX0_sideCell cX0_sideCell 2 (some .int) 0 0 T_X0_sideCell := by
  refine mr_Ok.of (by decide +kernel) ?_
  rintro a w Po ⟨i, h, rfl, hi, hh, hP, hQ⟩
  refine ⟨Nat.le_of_ble_eq_true rfl, ?_⟩
  show mr_J l G RX0 cX0_sideCell 2 (some .int) 0 0 Po 0 [some (vI i), some (vI h)] [] w
  refine mr_iload_n dX0_sideCell_0 rfl ?_
  refine mr_if_lt (tgt := 18) dX0_sideCell_1 (by decide) (by omega) (fun hc_1 => ?_) (fun hc_1 => ?_)
  · refine mr_iconst dX0_sideCell_18 ?_
    refine mr_iret rfl dX0_sideCell_19 ?_
    exact hQ (by omega)
  · refine mr_iload_n dX0_sideCell_4 rfl ?_
    refine mr_iconst dX0_sideCell_5 ?_
    refine mr_icmp_ge (tgt := 18) dX0_sideCell_6 (by decide) (by omega) (by omega) (fun hc_6 => ?_) (fun hc_6 => ?_)
    · refine mr_iconst dX0_sideCell_18 ?_
      refine mr_iret rfl dX0_sideCell_19 ?_
      exact hQ (by omega)
    · refine mr_iload_n dX0_sideCell_9 rfl ?_
      refine mr_if_lt (tgt := 18) dX0_sideCell_10 (by decide) (by omega) (fun hc_10 => ?_) (fun hc_10 => ?_)
      · refine mr_iconst dX0_sideCell_18 ?_
        refine mr_iret rfl dX0_sideCell_19 ?_
        exact hQ (by omega)
      · refine mr_iload_n dX0_sideCell_13 rfl ?_
        refine mr_iconst dX0_sideCell_14 ?_
        refine mr_icmp_lt (tgt := 20) dX0_sideCell_15 (by decide) (by omega) (by omega) (fun hc_15 => ?_) (fun hc_15 => ?_)
        · refine mr_bipush dX0_sideCell_20 rfl ?_
          refine mr_iload_n dX0_sideCell_22 rfl ?_
          refine mr_iconst dX0_sideCell_23 ?_
          refine mr_imul dX0_sideCell_24 ?_
          refine mr_iadd dX0_sideCell_25 ?_
          refine mr_iload_n dX0_sideCell_26 rfl ?_
          refine mr_iadd dX0_sideCell_27 ?_
          refine mr_iret rfl dX0_sideCell_28 ?_
          exact hP (by omega)
        · refine mr_iconst dX0_sideCell_18 ?_
          refine mr_iret rfl dX0_sideCell_19 ?_
          exact hQ (by omega)
def T_X0_sideAt (a : List mr_AV) (w : mr_Wd) (Po : Option mr_AV → mr_Wd → Prop) : Prop := ∃ (b : Nat) (f : Nat → Int) (i h : Int), a = [vR b 0, vI i, vI h] ∧ mr_BK w b f ∧ InR i ∧ InR h ∧ Po (some (vI (mr_se f i h))) w
set_option maxHeartbeats 4000000 in
set_option maxRecDepth 20000 in
theorem ok_X0_sideAt (l : Launch) (G : mr_G) : mr_Ok l G yX0_sideAt cX0_sideAt 4 (some .int) 1 21 T_X0_sideAt := by
  refine mr_Ok.of (by decide +kernel) ?_
  rintro a w Po ⟨b, f, i, h, rfl, ⟨hb, hc⟩, hi, hh, hP⟩
  refine ⟨Nat.le_of_ble_eq_true rfl, ?_⟩
  show mr_J l G RX0 cX0_sideAt 4 (some .int) 1 21 Po 0 [some (vR b 0), some (vI i), some (vI h), none] [] w
  refine mr_iload_n dX0_sideAt_0 rfl ?_
  refine mr_iload_n dX0_sideAt_1 rfl ?_
  refine mr_callS (as := [_, _]) dX0_sideAt_2 (ok_X0_sideCell l G) ml_X0_75 cl_X0_sideCell cs_X0_sideCell (by decide) rfl rfl (Nat.le_of_ble_eq_true rfl) ?_
  refine ⟨_, _, rfl, (by omega), (by omega), ?_, ?_⟩
  · intro hy
    dsimp only [Option.toList_some, Option.toList_none, List.cons_append, List.nil_append]
    refine mr_istore_n dX0_sideAt_5 rfl (by decide) ?_
    refine mr_iload_n dX0_sideAt_6 rfl ?_
    refine mr_if_lt (tgt := 19) dX0_sideAt_7 (by decide) (by omega) (fun hc_7 => absurd hc_7 (by omega)) (fun hc_7 => ?_)
    refine mr_aload_n dX0_sideAt_10 rfl ?_
    refine mr_get dX0_sideAt_11 fl_X0_11 (by first | assumption | exact mr_up_same _ _ _ | exact mr_lk (by assumption) (by first | assumption | decide) | exact mr_lk (mr_up_same _ _ _) (by first | assumption | decide) | exact mr_lk (mr_lk (by assumption) (by first | assumption | decide)) (by first | assumption | decide)) rfl ?_
    refine mr_iload_n dX0_sideAt_14 rfl ?_
    refine mr_iald dX0_sideAt_15 (by first | assumption | exact mr_up_same _ _ _ | exact mr_lk (by assumption) (by first | assumption | decide) | exact mr_lk (mr_up_same _ _ _) (by first | assumption | decide) | exact mr_lk (mr_lk (by assumption) (by first | assumption | decide)) (by first | assumption | decide)) (by omega) (by omega) (by decide) ?_
    refine mr_goto (tgt := 20) dX0_sideAt_16 (by decide) ?_
    refine mr_iret rfl dX0_sideAt_20 ?_
    first | (rw [mr_se, if_pos hy] at hP; exact hP) | (rw [mr_se, if_neg hy] at hP; exact hP)
  · intro hy
    dsimp only [Option.toList_some, Option.toList_none, List.cons_append, List.nil_append]
    refine mr_istore_n dX0_sideAt_5 rfl (by decide) ?_
    refine mr_iload_n dX0_sideAt_6 rfl ?_
    refine mr_if_lt (tgt := 19) dX0_sideAt_7 (by decide) (by omega) (fun _ => ?_) (fun h => absurd h (by decide))
    refine mr_iconst dX0_sideAt_19 ?_
    refine mr_iret rfl dX0_sideAt_20 ?_
    first | (rw [mr_se, if_pos hy] at hP; exact hP) | (rw [mr_se, if_neg hy] at hP; exact hP)
def T_X0_setSideAt (a : List mr_AV) (w : mr_Wd) (Po : Option mr_AV → mr_Wd → Prop) : Prop := ∃ (b : Nat) (f : Nat → Int) (i h v : Int), a = [vR b 0, vI i, vI h, vI v] ∧ mr_BK w b f ∧ InR i ∧ InR h ∧ Po none (mr_up w (b + 1) (eA 0 51 (mr_sse f i h v)))
set_option maxHeartbeats 4000000 in
set_option maxRecDepth 20000 in
theorem ok_X0_setSideAt (l : Launch) (G : mr_G) : mr_Ok l G yX0_setSideAt cX0_setSideAt 5 none 1 21 T_X0_setSideAt := by
  refine mr_Ok.of (by decide +kernel) ?_
  rintro a w Po ⟨b, f, i, h, v, rfl, ⟨hb, hc⟩, hi, hh, hP⟩
  refine ⟨Nat.le_of_ble_eq_true rfl, ?_⟩
  show mr_J l G RX0 cX0_setSideAt 5 none 1 21 Po 0 [some (vR b 0), some (vI i), some (vI h), some (vI v), none] [] w
  refine mr_iload_n dX0_setSideAt_0 rfl ?_
  refine mr_iload_n dX0_setSideAt_1 rfl ?_
  refine mr_callS (as := [_, _]) dX0_setSideAt_2 (ok_X0_sideCell l G) ml_X0_75 cl_X0_sideCell cs_X0_sideCell (by decide) rfl rfl (Nat.le_of_ble_eq_true rfl) ?_
  refine ⟨_, _, rfl, (by omega), (by omega), ?_, ?_⟩
  · intro hy
    dsimp only [Option.toList_some, Option.toList_none, List.cons_append, List.nil_append]
    refine mr_istore dX0_setSideAt_5 rfl (by decide) ?_
    refine mr_iload dX0_setSideAt_7 rfl ?_
    refine mr_if_lt (tgt := 20) dX0_setSideAt_9 (by decide) (by omega) (fun hc_9 => absurd hc_9 (by omega)) (fun hc_9 => ?_)
    refine mr_aload_n dX0_setSideAt_12 rfl ?_
    refine mr_get dX0_setSideAt_13 fl_X0_11 (by first | assumption | exact mr_up_same _ _ _ | exact mr_lk (by assumption) (by first | assumption | decide) | exact mr_lk (mr_up_same _ _ _) (by first | assumption | decide) | exact mr_lk (mr_lk (by assumption) (by first | assumption | decide)) (by first | assumption | decide)) rfl ?_
    refine mr_iload dX0_setSideAt_16 rfl ?_
    refine mr_iload_n dX0_setSideAt_18 rfl ?_
    refine mr_iast dX0_setSideAt_19 (by first | assumption | exact mr_up_same _ _ _ | exact mr_lk (by assumption) (by first | assumption | decide) | exact mr_lk (mr_up_same _ _ _) (by first | assumption | decide) | exact mr_lk (mr_lk (by assumption) (by first | assumption | decide)) (by first | assumption | decide)) (by omega) (by omega) (by decide) ?_
    refine mr_vret rfl dX0_setSideAt_20 ?_
    first | (rw [mr_sse, if_pos hy] at hP; exact hP) | (rw [mr_sse, if_neg hy, mr_up_self hc] at hP; exact hP)
  · intro hy
    dsimp only [Option.toList_some, Option.toList_none, List.cons_append, List.nil_append]
    refine mr_istore dX0_setSideAt_5 rfl (by decide) ?_
    refine mr_iload dX0_setSideAt_7 rfl ?_
    refine mr_if_lt (tgt := 20) dX0_setSideAt_9 (by decide) (by omega) (fun _ => ?_) (fun h => absurd h (by decide))
    refine mr_vret rfl dX0_setSideAt_20 ?_
    first | (rw [mr_sse, if_pos hy] at hP; exact hP) | (rw [mr_sse, if_neg hy, mr_up_self hc] at hP; exact hP)
