/-- contents beyond an array's end don't matter -/
theorem mr_extA {l : Launch} {G : mr_G} {own : String} {cc : ByteArray} {nL : Nat} {ret : Option FieldType} {rf rl : Nat} {Po : Option mr_AV → mr_Wd → Prop} {pc : Nat} {ls : List (Option mr_AV)} {st : List mr_AV} {w : mr_Wd} {k t n : Nat} {f g : Nat → Int} (hw : w k = eA t n f) (hfg : ∀ j : Nat, j < n → f j = g j) (kk : mr_J l G own cc nL ret rf rl Po pc ls st (mr_up w k (eA t n g))) : mr_J l G own cc nL ret rf rl Po pc ls st w := by
  intro p e s m args below meth c H locs lc hh hC hS hl
  refine kk p e s m args below meth c H locs lc hh (fun j => ?_) hS hl
  by_cases hj : j = k
  · subst hj
    rw [mr_up_same]
    have h := hC j
    rw [hw] at h
    have h : H[mr_ad G j 0]? = some (vp_cell (G.2.1 t) (n, mr_arr t f)) := h
    show H[mr_ad G j 0]? = some (vp_cell (G.2.1 t) (n, mr_arr t g))
    rw [h]
    refine congrArg some ?_
    unfold mr_arr
    split
    · rw [vp_cell_l, vp_cell_l]
      unfold arrV
      congr 2
      funext q
      exact congrArg (fun z => Value.long (Int64.ofInt z)) (hfg q.val q.2)
    · rw [vp_cell_i, vp_cell_i]
      unfold arrV
      congr 2
      funext q
      exact congrArg (fun z => Value.int (Int32.ofInt z)) (hfg q.val q.2)
  · rw [mr_up_ne _ _ hj]
    exact hC j
theorem mr_extM {l : Launch} {G : mr_G} {own : String} {cc : ByteArray} {nL : Nat} {ret : Option FieldType} {rf rl : Nat} {Po : Option mr_AV → mr_Wd → Prop} {pc : Nat} {ls : List (Option mr_AV)} {st : List mr_AV} {w : mr_Wd} {k n m0 : Nat} {F E : Nat → Nat → Int} (hw : w k = eM n m0 F) (hfg : ∀ i j : Nat, i < n → j < m0 → F i j = E i j) (kk : mr_J l G own cc nL ret rf rl Po pc ls st (mr_up w k (eM n m0 E))) : mr_J l G own cc nL ret rf rl Po pc ls st w := by
  intro p e s m args below meth c H locs lc hh hC hS hl
  refine kk p e s m args below meth c H locs lc hh (fun j => ?_) hS hl
  by_cases hj : j = k
  · subst hj
    rw [mr_up_same]
    have h := hC j
    rw [hw] at h
    refine ⟨h.1, fun i hi => ?_⟩
    have h2 : H[mr_ad G j (i + 1)]? = some (arrV (G.2.1 0) m0 (fun q => .int (Int32.ofInt (F i q)))) := h.2 i hi
    show H[mr_ad G j (i + 1)]? = some (arrV (G.2.1 0) m0 (fun q => .int (Int32.ofInt (E i q))))
    rw [h2]
    refine congrArg some ?_
    unfold arrV
    congr 2
    funext q
    exact congrArg (fun z => Value.int (Int32.ofInt z)) (hfg i q.val hi q.2)
  · rw [mr_up_ne _ _ hj]
    exact hC j
def T_J9_max_7cf53 (a : List mr_AV) (w : mr_Wd) (Po : Option mr_AV → mr_Wd → Prop) : Prop := ∃ x y : Int, a = [vI x, vI y] ∧ InR x ∧ InR y ∧ Po (some (vI (max x y))) w
set_option maxHeartbeats 4000000 in
set_option maxRecDepth 20000 in
theorem ok_J9_max_7cf53 (l : Launch) (G : mr_G) : mr_Ok l G yJ9_max_7cf53 cJ9_max_7cf53 2 (some .int) 0 0 T_J9_max_7cf53 := by
  refine mr_Ok.of (by decide +kernel) ?_
  rintro a w Po ⟨x, y, rfl, hx, hy, hP⟩
  refine ⟨Nat.le_of_ble_eq_true rfl, ?_⟩
  show mr_J l G RJ9 cJ9_max_7cf53 2 (some .int) 0 0 Po 0 [some (vI x), some (vI y)] [] w
  refine mr_iload_n dJ9_max_7cf53_0 rfl ?_
  refine mr_iload_n dJ9_max_7cf53_1 rfl ?_
  refine mr_icmp_lt (tgt := 9) dJ9_max_7cf53_2 (by decide) hx hy (fun hc_2 => ?_) (fun hc_2 => ?_)
  · refine mr_iload_n dJ9_max_7cf53_9 rfl ?_
    refine mr_iret rfl dJ9_max_7cf53_10 ?_
    first | (rw [show max x y = y by omega] at hP; exact hP) | (rw [show max x y = x by omega] at hP; exact hP)
  · refine mr_iload_n dJ9_max_7cf53_5 rfl ?_
    refine mr_goto (tgt := 10) dJ9_max_7cf53_6 (by decide) ?_
    refine mr_iret rfl dJ9_max_7cf53_10 ?_
    first | (rw [show max x y = y by omega] at hP; exact hP) | (rw [show max x y = x by omega] at hP; exact hP)
def T_J9_min_7cf53 (a : List mr_AV) (w : mr_Wd) (Po : Option mr_AV → mr_Wd → Prop) : Prop := ∃ x y : Int, a = [vI x, vI y] ∧ InR x ∧ InR y ∧ Po (some (vI (min x y))) w
set_option maxHeartbeats 4000000 in
set_option maxRecDepth 20000 in
theorem ok_J9_min_7cf53 (l : Launch) (G : mr_G) : mr_Ok l G yJ9_min_7cf53 cJ9_min_7cf53 2 (some .int) 0 0 T_J9_min_7cf53 := by
  refine mr_Ok.of (by decide +kernel) ?_
  rintro a w Po ⟨x, y, rfl, hx, hy, hP⟩
  refine ⟨Nat.le_of_ble_eq_true rfl, ?_⟩
  show mr_J l G RJ9 cJ9_min_7cf53 2 (some .int) 0 0 Po 0 [some (vI x), some (vI y)] [] w
  refine mr_iload_n dJ9_min_7cf53_0 rfl ?_
  refine mr_iload_n dJ9_min_7cf53_1 rfl ?_
  refine mr_icmp_gt (tgt := 9) dJ9_min_7cf53_2 (by decide) hx hy (fun hc_2 => ?_) (fun hc_2 => ?_)
  · refine mr_iload_n dJ9_min_7cf53_9 rfl ?_
    refine mr_iret rfl dJ9_min_7cf53_10 ?_
    first | (rw [show min x y = y by omega] at hP; exact hP) | (rw [show min x y = x by omega] at hP; exact hP)
  · refine mr_iload_n dJ9_min_7cf53_5 rfl ?_
    refine mr_goto (tgt := 10) dJ9_min_7cf53_6 (by decide) ?_
    refine mr_iret rfl dJ9_min_7cf53_10 ?_
    first | (rw [show min x y = y by omega] at hP; exact hP) | (rw [show min x y = x by omega] at hP; exact hP)
def T_J9_floorMod_7cf53 (a : List mr_AV) (w : mr_Wd) (Po : Option mr_AV → mr_Wd → Prop) : Prop := ∃ x y : Int, a = [vI x, vI y] ∧ InR x ∧ InR y ∧ 0 < y ∧ Po (some (vI (x % y))) w
theorem mr_fmod_pos {x y : Int} (hx : 0 ≤ x) : x.tmod y = x % y := Int.tmod_eq_emod_of_nonneg hx
theorem mr_fmod_neg {x y : Int} (hx : x < 0) (hy : 0 < y) : x % y = if x.tmod y = 0 then 0 else x.tmod y + y := by
  have h := Int.tmod_eq_emod (a := x) (b := y)
  have h0 := Int.emod_nonneg x (show y ≠ 0 by omega)
  have h1 := Int.emod_lt_of_pos x hy
  by_cases hd : y ∣ x
  · have e : x % y = 0 := Int.emod_eq_zero_of_dvd hd
    have e2 : x.tmod y = 0 := Int.tmod_eq_zero_of_dvd hd
    rw [e, e2, if_pos rfl]
  · have hn : ¬ (0 ≤ x ∨ y ∣ x) := by
      rintro (q | q)
      · omega
      · exact hd q
    rw [if_neg hn] at h
    have e9 : x % y ≠ 0 := fun q => hd (Int.dvd_of_emod_eq_zero q)
    have e8 : ((y.natAbs : Nat) : Int) = y := by omega
    rw [if_neg (by omega)]
    omega
set_option maxHeartbeats 4000000 in
set_option maxRecDepth 20000 in
theorem ok_J9_floorMod_7cf53 (l : Launch) (G : mr_G) : mr_Ok l G yJ9_floorMod_7cf53 cJ9_floorMod_7cf53 3 (some .int) 0 0 T_J9_floorMod_7cf53 := by
  refine mr_Ok.of (by decide +kernel) ?_
  rintro a w Po ⟨x, y, rfl, hx, hy, hy0, hP⟩
  refine ⟨Nat.le_of_ble_eq_true rfl, ?_⟩
  show mr_J l G RJ9 cJ9_floorMod_7cf53 3 (some .int) 0 0 Po 0 [some (vI x), some (vI y), none] [] w
  have hm1 : InR (x.tmod y) := by
    by_cases h : 0 ≤ x
    · rw [mr_fmod_pos h]
      have h0 := Int.emod_nonneg x (show y ≠ 0 by omega)
      have h1 := Int.emod_lt_of_pos x hy0
      exact ⟨by omega, by omega⟩
    · have h2 := mr_fmod_neg (x := x) (y := y) (by omega) hy0
      have h0 := Int.emod_nonneg x (show y ≠ 0 by omega)
      have h1 := Int.emod_lt_of_pos x hy0
      by_cases h3 : x.tmod y = 0
      · rw [h3]; exact mr_in0
      · rw [if_neg h3] at h2
        exact ⟨by omega, by omega⟩

  refine mr_iload_n dJ9_floorMod_7cf53_0 rfl ?_
  refine mr_iload_n dJ9_floorMod_7cf53_1 rfl ?_
  refine mr_irem dJ9_floorMod_7cf53_2 hx hy (by omega) ?_
  refine mr_istore_n dJ9_floorMod_7cf53_3 rfl (by decide) ?_
  refine mr_iload_n dJ9_floorMod_7cf53_4 rfl ?_
  refine mr_iload_n dJ9_floorMod_7cf53_5 rfl ?_
  refine mr_ixor dJ9_floorMod_7cf53_6 hx hy (fun q hq hs => ?_)
  refine mr_if_ge (tgt := 18) dJ9_floorMod_7cf53_7 (by decide) hq (fun hc_7 => ?_) (fun hc_7 => ?_)
  · refine mr_iload_n dJ9_floorMod_7cf53_18 rfl ?_
    refine mr_iret rfl dJ9_floorMod_7cf53_19 ?_
    rw [mr_fmod_pos (by omega)]
    exact hP
  · refine mr_iload_n dJ9_floorMod_7cf53_10 rfl ?_
    refine mr_if_eq (tgt := 18) dJ9_floorMod_7cf53_11 (by decide) hm1 (fun hc_11 => ?_) (fun hc_11 => ?_)
    · refine mr_iload_n dJ9_floorMod_7cf53_18 rfl ?_
      refine mr_iret rfl dJ9_floorMod_7cf53_19 ?_
      rw [mr_fmod_neg (by omega) hy0, if_pos hc_11] at hP
      rw [hc_11]
      exact hP
    · refine mr_iload_n dJ9_floorMod_7cf53_14 rfl ?_
      refine mr_iload_n dJ9_floorMod_7cf53_15 rfl ?_
      refine mr_iadd dJ9_floorMod_7cf53_16 ?_
      refine mr_iret rfl dJ9_floorMod_7cf53_17 ?_
      rw [mr_fmod_neg (by omega) hy0, if_neg hc_11] at hP
      exact hP
def T_J7_fill_53178 (a : List mr_AV) (w : mr_Wd) (Po : Option mr_AV → mr_Wd → Prop) : Prop := (∃ (k n : Nat) (f : Nat → Int) (v : Int), a = [vR k 0, vI v] ∧ w k = eA 0 n f ∧ n < 2147483648 ∧ Po none (mr_up w k (eA 0 n (fun _ => v)))) ∨ ∃ (k r n m : Nat) (F : Nat → Nat → Int) (v : Int), a = [vR k (r + 1), vI v] ∧ w k = eM n m F ∧ r < n ∧ m < 2147483648 ∧ Po none (mr_up w k (eM n m (fun q => if q = r then (fun _ => v) else F q)))
set_option maxHeartbeats 4000000 in
set_option maxRecDepth 20000 in
theorem lp_J7_fill_53178 (l : Launch) (G : mr_G) {Po : Option mr_AV → mr_Wd → Prop} {k n : Nat} {v : Int} {w : mr_Wd} (hn : n < 2147483648) (hP : Po none (mr_up w k (eA 0 n (fun _ => v)))) : ∀ (t : Nat) (i : Int) (g : Nat → Int), 0 ≤ i → i + t = n → (∀ j : Nat, (j : Int) < i → g j = v) → mr_J l G RJ7 cJ7_fill_53178 4 none 0 0 Po 5 [some (vR k 0), some (vI v), some (vI i), some (vI n)] [] (mr_up w k (eA 0 n g)) := by
  intro t
  induction t with
  | zero =>
    intro i g h0 h1 hg
    refine mr_iload_n dJ7_fill_53178_5 rfl ?_
    refine mr_iload_n dJ7_fill_53178_6 rfl ?_
    refine mr_icmp_ge (tgt := 20) dJ7_fill_53178_7 (by decide) (by omega) (by omega) (fun hc_7 => ?_) (fun hc_7 => absurd hc_7 (by omega))
    refine mr_extA (mr_up_same _ _ _) (g := fun _ => v) (fun j hj => hg j (by omega)) ?_
    rw [mr_up_up]
    exact mr_vret rfl dJ7_fill_53178_20 hP
  | succ t ih =>
    intro i g h0 h1 hg
    refine mr_iload_n dJ7_fill_53178_5 rfl ?_
    refine mr_iload_n dJ7_fill_53178_6 rfl ?_
    refine mr_icmp_ge (tgt := 20) dJ7_fill_53178_7 (by decide) (by omega) (by omega) (fun hc_7 => absurd hc_7 (by omega)) (fun hc_7 => ?_)
    refine mr_aload_n dJ7_fill_53178_10 rfl ?_
    refine mr_iload_n dJ7_fill_53178_11 rfl ?_
    refine mr_iload_n dJ7_fill_53178_12 rfl ?_
    refine mr_iast dJ7_fill_53178_13 (by first | assumption | exact mr_up_same _ _ _ | exact mr_lk (by assumption) (by first | assumption | decide) | exact mr_lk (mr_up_same _ _ _) (by first | assumption | decide) | exact mr_lk (mr_lk (by assumption) (by first | assumption | decide)) (by first | assumption | decide)) (by omega) (by omega) hn ?_
    rw [mr_up_up]
    refine mr_iinc dJ7_fill_53178_14 rfl (by decide) rfl ?_
    refine mr_goto (tgt := 5) dJ7_fill_53178_17 (by decide) ?_
    refine ih (i + 1) _ (by omega) (by omega) (fun j hj => ?_)
    by_cases e : j = i.toNat
    · subst e; exact mr_fs_same _ _ _
    · rw [mr_fs_ne _ _ e]; exact hg j (by omega)
theorem mr_Fs_Fs (F : Nat → Nat → Int) (r : Nat) (g : Nat → Int) (i : Nat) (x : Int) : mr_Fs (fun q => if q = r then g else F q) r i x = fun q => if q = r then mr_fs g i x else F q := by
  funext q
  by_cases h : q = r <;> simp [mr_Fs, h]
set_option maxHeartbeats 4000000 in
set_option maxRecDepth 20000 in
theorem lpM_J7_fill_53178 (l : Launch) (G : mr_G) {Po : Option mr_AV → mr_Wd → Prop} {k n r m : Nat} {F : Nat → Nat → Int} {v : Int} {w : mr_Wd} (hn : m < 2147483648) (hr : r < n) (hP : Po none (mr_up w k (eM n m (fun q => if q = r then (fun _ => v) else F q)))) : ∀ (t : Nat) (i : Int) (g : Nat → Int), 0 ≤ i → i + t = m → (∀ j : Nat, (j : Int) < i → g j = v) → mr_J l G RJ7 cJ7_fill_53178 4 none 0 0 Po 5 [some (vR k (r + 1)), some (vI v), some (vI i), some (vI m)] [] (mr_up w k (eM n m (fun q => if q = r then g else F q))) := by
  intro t
  induction t with
  | zero =>
    intro i g h0 h1 hg
    refine mr_iload_n dJ7_fill_53178_5 rfl ?_
    refine mr_iload_n dJ7_fill_53178_6 rfl ?_
    refine mr_icmp_ge (tgt := 20) dJ7_fill_53178_7 (by decide) (by omega) (by omega) (fun hc_7 => ?_) (fun hc_7 => absurd hc_7 (by omega))
    refine mr_extM (mr_up_same _ _ _) (E := fun q => if q = r then (fun _ => v) else F q) (fun q j hq hj => ?_) ?_
    · by_cases e : q = r
      · simp only [e, if_true]; exact hg j (by omega)
      · simp only [e, if_false]
    · rw [mr_up_up]
      exact mr_vret rfl dJ7_fill_53178_20 hP
  | succ t ih =>
    intro i g h0 h1 hg
    refine mr_iload_n dJ7_fill_53178_5 rfl ?_
    refine mr_iload_n dJ7_fill_53178_6 rfl ?_
    refine mr_icmp_ge (tgt := 20) dJ7_fill_53178_7 (by decide) (by omega) (by omega) (fun hc_7 => absurd hc_7 (by omega)) (fun hc_7 => ?_)
    refine mr_aload_n dJ7_fill_53178_10 rfl ?_
    refine mr_iload_n dJ7_fill_53178_11 rfl ?_
    refine mr_iload_n dJ7_fill_53178_12 rfl ?_
    refine mr_iastM dJ7_fill_53178_13 (by first | assumption | exact mr_up_same _ _ _ | exact mr_lk (by assumption) (by first | assumption | decide) | exact mr_lk (mr_up_same _ _ _) (by first | assumption | decide) | exact mr_lk (mr_lk (by assumption) (by first | assumption | decide)) (by first | assumption | decide)) hr (by omega) (by omega) hn ?_
    rw [mr_up_up, mr_Fs_Fs]
    refine mr_iinc dJ7_fill_53178_14 rfl (by decide) rfl ?_
    refine mr_goto (tgt := 5) dJ7_fill_53178_17 (by decide) ?_
    refine ih (i + 1) _ (by omega) (by omega) (fun j hj => ?_)
    by_cases e : j = i.toNat
    · subst e; exact mr_fs_same _ _ _
    · rw [mr_fs_ne _ _ e]; exact hg j (by omega)
set_option maxHeartbeats 4000000 in
set_option maxRecDepth 20000 in
theorem ok_J7_fill_53178 (l : Launch) (G : mr_G) : mr_Ok l G yJ7_fill_53178 cJ7_fill_53178 4 none 0 0 T_J7_fill_53178 := by
  refine mr_Ok.of (by decide +kernel) ?_
  rintro a w Po (⟨k, n, f, v, rfl, hw, hn, hP⟩ | ⟨k, r, n, m, F, v, rfl, hw, hr, hn, hP⟩)
  · refine ⟨Nat.le_of_ble_eq_true rfl, ?_⟩
    show mr_J l G RJ7 cJ7_fill_53178 4 none 0 0 Po 0 [some (vR k 0), some (vI v), none, none] [] w
    refine mr_iconst dJ7_fill_53178_0 ?_
    refine mr_istore_n dJ7_fill_53178_1 rfl (by decide) ?_
    refine mr_aload_n dJ7_fill_53178_2 rfl ?_
    refine mr_alen dJ7_fill_53178_3 (by first | assumption | exact mr_up_same _ _ _ | exact mr_lk (by assumption) (by first | assumption | decide) | exact mr_lk (mr_up_same _ _ _) (by first | assumption | decide) | exact mr_lk (mr_lk (by assumption) (by first | assumption | decide)) (by first | assumption | decide)) (by decide) ?_
    refine mr_istore_n dJ7_fill_53178_4 rfl (by decide) ?_
    rw [← mr_up_self hw]
    exact lp_J7_fill_53178 l G hn hP n 0 f (by omega) (by omega) (fun j hj => by omega)
  · refine ⟨Nat.le_of_ble_eq_true rfl, ?_⟩
    show mr_J l G RJ7 cJ7_fill_53178 4 none 0 0 Po 0 [some (vR k (r + 1)), some (vI v), none, none] [] w
    refine mr_iconst dJ7_fill_53178_0 ?_
    refine mr_istore_n dJ7_fill_53178_1 rfl (by decide) ?_
    refine mr_aload_n dJ7_fill_53178_2 rfl ?_
    refine mr_alenM dJ7_fill_53178_3 (by first | assumption | exact mr_up_same _ _ _ | exact mr_lk (by assumption) (by first | assumption | decide) | exact mr_lk (mr_up_same _ _ _) (by first | assumption | decide) | exact mr_lk (mr_lk (by assumption) (by first | assumption | decide)) (by first | assumption | decide)) hr ?_
    refine mr_istore_n dJ7_fill_53178_4 rfl (by decide) ?_
    have e : F = fun q => if q = r then F r else F q := by
      funext q
      by_cases h : q = r
      · subst h; simp
      · simp [h]
    rw [← mr_up_self hw]
    have h9 := lpM_J7_fill_53178 l G (F := F) (w := w) hn hr hP m 0 (F r) (by omega) (by omega) (fun j hj => by omega)
    rw [← e] at h9
    exact h9
