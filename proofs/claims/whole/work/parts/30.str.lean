/-! TEXTS: vS j the j-th constant, vS (100 + j) its bytes, vS 200 a formatter that nobody asks. -/
def mr_tc (j k : Nat) : Int := ((mr_sb.getD j []).getD k 0).toInt
theorem mr_tc_ok : ∀ j : Fin 6, ∀ k : Fin 19, 0 ≤ mr_tc j k ∧ mr_tc j k < 128 := by decide +kernel
theorem mr_tc_bd {j k : Nat} (hj : j < 6) (hk : k < mr_sl.getD j 0) : 0 ≤ mr_tc j k ∧ mr_tc j k < 128 := by
  have h : ∀ j : Fin 6, mr_sl.getD j 0 ≤ 19 := by decide
  have := h ⟨j, hj⟩
  exact mr_tc_ok ⟨j, hj⟩ ⟨k, Nat.lt_of_lt_of_le hk this⟩
theorem mr_sl_bd {j : Nat} (hj : j < 6) : mr_sl.getD j 0 ≤ 19 := by
  have h : ∀ j : Fin 6, mr_sl.getD j 0 ≤ 19 := by decide
  exact h ⟨j, hj⟩
theorem fl_J0_38 : Cond.fieldLink RJ0 38 RJ0 "COMPACT_STRINGS" "Z" ∈ mr_ws := mr_mem 360 (by decide +kernel) rfl
theorem fl_J0_1053 : Cond.fieldLink RJ0 1053 RJ3 "SIOOBE_FORMATTER" "Ljava/util/function/BiFunction;" ∈ mr_ws := mr_mem 376 (by decide +kernel) rfl
theorem fl_J0_9 : Cond.fieldLink RJ0 9 RJ0 "value" "[B" ∈ mr_ws := mr_mem 1353 (by decide +kernel) rfl
theorem fl_J0_15 : Cond.fieldLink RJ0 15 RJ0 "coder" "B" ∈ mr_ws := mr_mem 1354 (by decide +kernel) rfl
theorem ml_J0_335 : Cond.methodLink RJ0 335 yJ0_coder_7d493 ∈ mr_ws := mr_mem 356 (by decide +kernel) rfl
theorem ml_J0_492 : Cond.methodLink RJ0 492 yJ0_isLatin1_aae02 ∈ mr_ws := mr_mem 366 (by decide +kernel) rfl
theorem ml_J0_495 : Cond.methodLink RJ0 495 yJ1_charAt_3b067 ∈ mr_ws := mr_mem 370 (by decide +kernel) rfl
theorem ml_J1_9 : Cond.methodLink RJ1 9 yJ0_checkIndex_df160 ∈ mr_ws := mr_mem 373 (by decide +kernel) rfl
theorem ml_J0_1059 : Cond.methodLink RJ0 1059 yJ3_checkIndex_8e157 ∈ mr_ws := mr_mem 378 (by decide +kernel) rfl
/-- a method of String, virtual -/
def mr_CT (y : MethodName) : Prop := y.cls = "java/lang/String" ∧ Cond.instanceMethod y ∈ mr_ws ∧ Cond.selects y.cls y y ∈ mr_ws
theorem ct_J0_length_8abf5 : mr_CT yJ0_length_8abf5 := ⟨rfl, mr_mem 353 (by decide +kernel) rfl, mr_mem 354 (by decide +kernel) rfl⟩
theorem ct_J0_coder_7d493 : mr_CT yJ0_coder_7d493 := ⟨rfl, mr_mem 357 (by decide +kernel) rfl, mr_mem 358 (by decide +kernel) rfl⟩
theorem ct_J0_charAt_5068e : mr_CT yJ0_charAt_5068e := ⟨rfl, mr_mem 363 (by decide +kernel) rfl, mr_mem 364 (by decide +kernel) rfl⟩
theorem ct_J0_isLatin1_aae02 : mr_CT yJ0_isLatin1_aae02 := ⟨rfl, mr_mem 367 (by decide +kernel) rfl, mr_mem 368 (by decide +kernel) rfl⟩
section JT
variable {l : Launch} {G : mr_G} {own : String} {cc : ByteArray} {nL : Nat} {ret : Option FieldType} {rf rl : Nat} {Po : Option mr_AV → mr_Wd → Prop} {pc : Nat} {ls : List (Option mr_AV)} {st : List mr_AV} {w : mr_Wd}
theorem mr_gsC (ho : own = RJ0) (d : decode cc pc = .ok (.getstatic 38, 3)) (kk : mr_J l G own cc nL ret rf rl Po (pc + 3) ls (vI 1 :: st) w) : mr_J l G own cc nL ret rf rl Po pc ls st w := by
  intro p e s m args below meth c H locs lc hh hC hS hl
  obtain ⟨hx, hb, hml, hr, hlk, hown, hts, hK⟩ := id hh
  subst ho
  exact va_gets (ref := RJ0) hx hb hK.2.2.2.2.2.2.1 hS hown (hts _ fl_J0_38) (fun x hx => hx) d (kk p e s m args below meth c H locs lc hh hC hS hl)
theorem mr_gsF (ho : own = RJ0) (d : decode cc pc = .ok (.getstatic 1053, 3)) (k1 : mr_J l G own cc nL ret rf rl Po (pc + 3) ls (vN :: st) w) (k2 : mr_J l G own cc nL ret rf rl Po (pc + 3) ls (vS 200 :: st) w) : mr_J l G own cc nL ret rf rl Po pc ls st w := by
  intro p e s m args below meth c H locs lc hh hC hS hl
  obtain ⟨hx, hb, hml, hr, hlk, hown, hts, hK⟩ := id hh
  subst ho
  rcases hK.2.2.2.2.2.2.2 with h | h
  · exact va_gets (ref := RJ3) hx hb h hS hown (hts _ fl_J0_1053) (fun x hx => hx) d (k1 p e s m args below meth c H locs lc hh hC hS hl)
  · exact va_gets (ref := RJ3) hx hb h hS hown (hts _ fl_J0_1053) (fun x hx => hx) d (k2 p e s m args below meth c H locs lc hh hC hS hl)
theorem mr_getSv {j : Nat} (hj : j < 6) (ho : own = RJ0) (d : decode cc pc = .ok (.getfield 9, 3)) (kk : mr_J l G own cc nL ret rf rl Po (pc + 3) ls (vS (100 + j) :: st) w) : mr_J l G own cc nL ret rf rl Po pc ls (vS j :: st) w := by
  intro p e s m args below meth c H locs lc hh hC hS hl
  obtain ⟨hx, hb, hml, hr, hlk, hown, hts, hK⟩ := id hh
  subst ho
  exact vk_getf (ref := RJ0) hx hb (hK.2.2.2.2.2.1.1 j hj).2.2.1 hS hown (hts _ fl_J0_9) (fun x hx => hx) d (kk p e s m args below meth c H locs lc hh hC hS hl)
theorem mr_getSc {j : Nat} (hj : j < 6) (ho : own = RJ0) (d : decode cc pc = .ok (.getfield 15, 3)) (kk : mr_J l G own cc nL ret rf rl Po (pc + 3) ls (vI 0 :: st) w) : mr_J l G own cc nL ret rf rl Po pc ls (vS j :: st) w := by
  intro p e s m args below meth c H locs lc hh hC hS hl
  obtain ⟨hx, hb, hml, hr, hlk, hown, hts, hK⟩ := id hh
  subst ho
  exact vk_getf (ref := RJ0) hx hb (hK.2.2.2.2.2.1.1 j hj).2.1 hS hown (hts _ fl_J0_15) (fun x hx => hx) d (kk p e s m args below meth c H locs lc hh hC hS hl)
theorem mr_alenS {j : Nat} (hj : j < 6) (d : decode cc pc = .ok (.arraylength, 1)) (kk : mr_J l G own cc nL ret rf rl Po (pc + 1) ls (vI (mr_sl.getD j 0 : Nat) :: st) w) : mr_J l G own cc nL ret rf rl Po pc ls (vS (100 + j) :: st) w := by
  intro p e s m args below meth c H locs lc hh hC hS hl
  obtain ⟨hx, hb, hml, hr, hlk, hown, hts, hK⟩ := id hh
  exact va_tlen hx hb (hK.2.2.2.2.2.1.1 j hj).2.2.2 hS (Int32.ofInt_eq_ofNat (n := mr_sl.getD j 0)).symm d (kk p e s m args below meth c H locs lc hh hC hS hl)
theorem mr_baldS {j : Nat} {i : Int} (hj : j < 6) (d : decode cc pc = .ok (.baload, 1)) (h0 : 0 ≤ i) (h1 : i < (mr_sl.getD j 0 : Nat)) (kk : mr_J l G own cc nL ret rf rl Po (pc + 1) ls (vI (mr_tc j i.toNat) :: st) w) : mr_J l G own cc nL ret rf rl Po pc ls (vI i :: vS (100 + j) :: st) w := by
  intro p e s m args below meth c H locs lc hh hC hS hl
  obtain ⟨hx, hb, hml, hr, hlk, hown, hts, hK⟩ := id hh
  have h19 := mr_sl_bd hj
  obtain ⟨g1, g2⟩ := mr_idx h0 h1 (by omega)
  refine va_tb hx hb (hK.2.2.2.2.2.1.1 j hj).2.2.2 hS g1 (v := .int (Int32.ofInt (mr_tc j i.toNat))) ?_ d (kk p e s m args below meth c H locs lc hh hC hS hl)
  rw [g2]
  unfold mr_tc
  rw [Int32.ofInt_toInt]
theorem mr_ishr0 {x : Int} (d : decode cc pc = .ok (.ishr, 1)) (kk : mr_J l G own cc nL ret rf rl Po (pc + 1) ls (vI x :: st) w) : mr_J l G own cc nL ret rf rl Po pc ls (vI 0 :: vI x :: st) w := by
  intro p e s m args below meth c H locs lc hh hC hS hl
  refine lv_ishr hh.1 hh.2.1 d ?_
  have e0 : Int32.ofInt x >>> (Int32.ofInt 0 &&& 31) = Int32.ofInt x := by
    rw [show Int32.ofInt 0 &&& 31 = 0 from by decide]
    exact Int32.shiftRight_zero
  rw [e0]
  exact kk p e s m args below meth c H locs lc hh hC hS hl
theorem mr_i2c {x : Int} (d : decode cc pc = .ok (.i2c, 1)) (hx : 0 ≤ x ∧ x < 128) (kk : mr_J l G own cc nL ret rf rl Po (pc + 1) ls (vI x :: st) w) : mr_J l G own cc nL ret rf rl Po pc ls (vI x :: st) w := by
  intro p e s m args below meth c H locs lc hh hC hS hl
  refine lv_i2c hh.1 hh.2.1 d ?_ (kk p e s m args below meth c H locs lc hh hC hS hl)
  obtain ⟨k, hk⟩ : ∃ k : Fin 128, x = ((k : Nat) : Int) := ⟨⟨x.toNat, by omega⟩, by show x = ((x.toNat : Nat) : Int); omega⟩
  subst hk
  have h : ∀ k : Fin 128, ((Int32.ofInt ((k : Nat) : Int)).toUInt32 % 65536).toInt32 = Int32.ofInt ((k : Nat) : Int) := by decide +kernel
  exact h k
theorem mr_bret {x : Int} (hr0 : ret = some .byte) (hz : x = 0 ∨ x = 1) (d : decode cc pc = .ok (.ireturn, 1)) (k : Po (some (vI x)) w) : mr_J l G own cc nL ret rf rl Po pc ls [vI x] w := by
  intro p e s m args below meth c H locs lc hh hC hS hl
  obtain ⟨hx, hb, hml, hr, hlk, hown, hts, hK⟩ := id hh
  exact W.zret hx hb (hr.trans hr0) (by rcases hz with rfl | rfl <;> rfl) (fun t ht _ => ⟨⟨some (vI x), w, rfl, k, by rw [ht]; exact hC⟩, mr_F hS ht⟩) hS.2.2 d hlk
theorem mr_cret {x : Int} (hr0 : ret = some .char) (hz : 0 ≤ x ∧ x < 128) (d : decode cc pc = .ok (.ireturn, 1)) (k : Po (some (vI x)) w) : mr_J l G own cc nL ret rf rl Po pc ls [vI x] w := by
  intro p e s m args below meth c H locs lc hh hC hS hl
  obtain ⟨hx, hb, hml, hr, hlk, hown, hts, hK⟩ := id hh
  refine W.zret hx hb (hr.trans hr0) ?_ (fun t ht _ => ⟨⟨some (vI x), w, rfl, k, by rw [ht]; exact hC⟩, mr_F hS ht⟩) hS.2.2 d hlk
  obtain ⟨q, hk⟩ : ∃ q : Fin 128, x = ((q : Nat) : Int) := ⟨⟨x.toNat, by omega⟩, by show x = ((x.toNat : Nat) : Int); omega⟩
  subst hk
  have h : ∀ k : Fin 128, narrow .char (.int (Int32.ofInt ((k : Nat) : Int))) = .int (Int32.ofInt ((k : Nat) : Int)) := by decide +kernel
  exact h q
theorem mr_callT {y : MethodName} {idx n j : Nat} {bytes : ByteArray} {maxL rf2 rl2 : Nat} {ret2 : Option FieldType} {T : List mr_AV → mr_Wd → (Option mr_AV → mr_Wd → Prop) → Prop} {as : List mr_AV} {st0 : List mr_AV}
    (hj : j < 6) (d : decode cc pc = .ok (.invokevirtual idx, 3)) (hM : mr_Ok l G y bytes maxL ret2 rf2 rl2 T) (hl0 : Cond.methodLink own idx y ∈ mr_ws) (hcl : mr_CL y bytes maxL ret2 n) (hct : mr_CT y) (hR : rf2 + 1 ≤ rf ∧ 8 + (maxL + 11) + rl2 ≤ rl) (hn : as.length = n) (hst : st0 = as.reverse ++ vS j :: st) (hcat : (st.map mr_cat).sum ≤ 8)
    (kk : T (vS j :: as) w (fun r w2 => mr_J l G own cc nL ret rf rl Po (pc + 3) ls (r.toList ++ st) w2)) : mr_J l G own cc nL ret rf rl Po pc ls st0 w := by
  intro p e s m args below meth c H locs lc hh hC hS hl
  obtain ⟨hx, hb, hml, hr, hlk, hown, hts, hK⟩ := id hh
  obtain ⟨cell, q1, q2, q3⟩ := vk_recv (i := j) hK.2.2.2.2.2.1 hj hS
  have hstk : st0.map (mr_cv G) = (as.map (mr_cv G)).reverse ++ .ref (G.2.2.2.1 j) :: st.map (mr_cv G) := by
    rw [hst]; simp [mr_cv]
  refine mr_back (own := own) (cc := cc) (nL := nL) (ret := ret) (ls := ls) (a := (Value.ref (G.2.2.2.1 j) :: as.map (mr_cv G)).toArray) (va_runV (As := as.map (mr_cv G)) (b := G.2.2.2.1 j) (C := y.cls) (n := n) (index := idx) ⟨hx, hb, hml, hown, hts⟩ (hM (vS j :: as) w _ kk) ⟨callB_of n hts (mr_goodIn hcl.1) rfl rfl rfl (hts _ hcl.2.1) (hts _ hl0) hcl.2.2 hR, hts _ hct.2.1, hts _ hct.2.2⟩
    ⟨mr_Pc.blind _ _ _, ⟨cell, q1, q2, by rw [hct.1]; exact q3⟩, fun U hU hW => ⟨rfl, by rw [hU]; exact hC, hK.to (locs := locs) hW (by rw [hU]; exact hS)⟩⟩ rfl (by rw [List.length_map]; exact hn) hl.1 hstk (lv_room (by rw [mr_cats]; exact hcat)) d ⟨Nat.le_refl _, Nat.le_refl _⟩) hS (fun r w2 h => h) hh hl
/-- a text's constant -/
theorem mr_ldcS {idx j : Nat} {tx : String} (h0 : ∀ U : State, mr_TR G U → vk_R own idx tx (G.2.2.2.1 j) U) (d : decode cc pc = .ok (.ldc idx, 2)) (kk : mr_J l G own cc nL ret rf rl Po (pc + 2) ls (vS j :: st) w) : mr_J l G own cc nL ret rf rl Po pc ls st w := by
  intro p e s m args below meth c H locs lc hh hC hS hl
  obtain ⟨hx, hb, hml, hr, hlk, hown, hts, hK⟩ := id hh
  exact va_ldcS hx hb hown (h0 s hK.2.2.2.1) d (kk p e s m args below meth c H locs lc hh hC hS hl)
end JT
def T_J0_coder_7d493 (a : List mr_AV) (w : mr_Wd) (Po : Option mr_AV → mr_Wd → Prop) : Prop := ∃ j : Nat, a = [vS j] ∧ j < 6 ∧ Po (some (vI 0)) w
set_option maxHeartbeats 4000000 in
set_option maxRecDepth 20000 in
theorem ok_J0_coder_7d493 (l : Launch) (G : mr_G) : mr_Ok l G yJ0_coder_7d493 cJ0_coder_7d493 1 (some .byte) 0 0 T_J0_coder_7d493 := by
  refine mr_Ok.of (by decide +kernel) ?_
  rintro a w Po ⟨j, rfl, hj, hP⟩
  refine ⟨Nat.le_of_ble_eq_true rfl, ?_⟩
  show mr_J l G RJ0 cJ0_coder_7d493 1 (some .byte) 0 0 Po 0 [some (vS j)] [] w
  refine mr_gsC rfl dJ0_coder_7d493_0 ?_
  refine mr_if_eq (tgt := 13) dJ0_coder_7d493_3 (by decide) (by decide) (fun h => absurd h (by decide)) (fun _ => ?_)
  refine mr_aload_nS dJ0_coder_7d493_6 rfl ?_
  refine mr_getSc hj rfl dJ0_coder_7d493_7 ?_
  refine mr_goto (tgt := 14) dJ0_coder_7d493_10 (by decide) ?_
  exact mr_bret rfl (Or.inl rfl) dJ0_coder_7d493_14 hP
def T_J0_isLatin1_aae02 (a : List mr_AV) (w : mr_Wd) (Po : Option mr_AV → mr_Wd → Prop) : Prop := ∃ j : Nat, a = [vS j] ∧ j < 6 ∧ Po (some (vI 1)) w
set_option maxHeartbeats 4000000 in
set_option maxRecDepth 20000 in
theorem ok_J0_isLatin1_aae02 (l : Launch) (G : mr_G) : mr_Ok l G yJ0_isLatin1_aae02 cJ0_isLatin1_aae02 1 (some .boolean) 0 0 T_J0_isLatin1_aae02 := by
  refine mr_Ok.of (by decide +kernel) ?_
  rintro a w Po ⟨j, rfl, hj, hP⟩
  refine ⟨Nat.le_of_ble_eq_true rfl, ?_⟩
  show mr_J l G RJ0 cJ0_isLatin1_aae02 1 (some .boolean) 0 0 Po 0 [some (vS j)] [] w
  refine mr_gsC rfl dJ0_isLatin1_aae02_0 ?_
  refine mr_if_eq (tgt := 17) dJ0_isLatin1_aae02_3 (by decide) (by decide) (fun h => absurd h (by decide)) (fun _ => ?_)
  refine mr_aload_nS dJ0_isLatin1_aae02_6 rfl ?_
  refine mr_getSc hj rfl dJ0_isLatin1_aae02_7 ?_
  refine mr_if_ne (tgt := 17) dJ0_isLatin1_aae02_10 (by decide) (by decide) (fun h => absurd rfl h) (fun _ => ?_)
  refine mr_iconst dJ0_isLatin1_aae02_13 ?_
  refine mr_goto (tgt := 18) dJ0_isLatin1_aae02_14 (by decide) ?_
  exact mr_zret rfl (Or.inr rfl) dJ0_isLatin1_aae02_18 hP
def T_J0_length_8abf5 (a : List mr_AV) (w : mr_Wd) (Po : Option mr_AV → mr_Wd → Prop) : Prop := ∃ j : Nat, a = [vS j] ∧ j < 6 ∧ Po (some (vI (mr_sl.getD j 0 : Nat))) w
set_option maxHeartbeats 4000000 in
set_option maxRecDepth 20000 in
theorem ok_J0_length_8abf5 (l : Launch) (G : mr_G) : mr_Ok l G yJ0_length_8abf5 cJ0_length_8abf5 1 (some .int) 1 20 T_J0_length_8abf5 := by
  refine mr_Ok.of (by decide +kernel) ?_
  rintro a w Po ⟨j, rfl, hj, hP⟩
  refine ⟨Nat.le_of_ble_eq_true rfl, ?_⟩
  show mr_J l G RJ0 cJ0_length_8abf5 1 (some .int) 1 20 Po 0 [some (vS j)] [] w
  refine mr_aload_nS dJ0_length_8abf5_0 rfl ?_
  refine mr_getSv hj rfl dJ0_length_8abf5_1 ?_
  refine mr_alenS hj dJ0_length_8abf5_4 ?_
  refine mr_aload_nS dJ0_length_8abf5_5 rfl ?_
  refine mr_callT (as := []) hj dJ0_length_8abf5_6 (ok_J0_coder_7d493 l G) ml_J0_335 cl_J0_coder_7d493 ct_J0_coder_7d493 (by decide) rfl rfl (Nat.le_of_ble_eq_true rfl) ?_
  refine ⟨_, rfl, hj, ?_⟩
  dsimp only [Option.toList_some, Option.toList_none, List.cons_append, List.nil_append]
  refine mr_ishr0 dJ0_length_8abf5_9 ?_
  exact mr_iret rfl dJ0_length_8abf5_10 hP
def T_J3_checkIndex_8e157 (a : List mr_AV) (w : mr_Wd) (Po : Option mr_AV → mr_Wd → Prop) : Prop := ∃ (i n : Int) (v : mr_AV), a = [vI i, vI n, v] ∧ (v = vN ∨ v = vS 200) ∧ (0 ≤ i ∧ i < n) ∧ InR n ∧ Po (some (vI i)) w
set_option maxHeartbeats 4000000 in
set_option maxRecDepth 20000 in
theorem ok_J3_checkIndex_8e157 (l : Launch) (G : mr_G) : mr_Ok l G yJ3_checkIndex_8e157 cJ3_checkIndex_8e157 3 (some .int) 0 0 T_J3_checkIndex_8e157 := by
  refine mr_Ok.of (by decide +kernel) ?_
  rintro a w Po ⟨i, n, v, rfl, hv, hi, hn, hP⟩
  rcases hv with rfl | rfl
  · refine ⟨Nat.le_of_ble_eq_true rfl, ?_⟩
    show mr_J l G RJ3 cJ3_checkIndex_8e157 3 (some .int) 0 0 Po 0 [some (vI i), some (vI n), some vN] [] w
    refine mr_iload_n dJ3_checkIndex_8e157_0 rfl ?_
    refine mr_if_lt (tgt := 9) dJ3_checkIndex_8e157_1 (by decide) (by omega) (fun h => absurd h (by omega)) (fun _ => ?_)
    refine mr_iload_n dJ3_checkIndex_8e157_4 rfl ?_
    refine mr_iload_n dJ3_checkIndex_8e157_5 rfl ?_
    refine mr_icmp_lt (tgt := 16) dJ3_checkIndex_8e157_6 (by decide) (by omega) (by omega) (fun _ => ?_) (fun h => absurd h (by omega))
    refine mr_iload_n dJ3_checkIndex_8e157_16 rfl ?_
    exact mr_iret rfl dJ3_checkIndex_8e157_17 hP
  · refine ⟨Nat.le_of_ble_eq_true rfl, ?_⟩
    show mr_J l G RJ3 cJ3_checkIndex_8e157 3 (some .int) 0 0 Po 0 [some (vI i), some (vI n), some (vS 200)] [] w
    refine mr_iload_n dJ3_checkIndex_8e157_0 rfl ?_
    refine mr_if_lt (tgt := 9) dJ3_checkIndex_8e157_1 (by decide) (by omega) (fun h => absurd h (by omega)) (fun _ => ?_)
    refine mr_iload_n dJ3_checkIndex_8e157_4 rfl ?_
    refine mr_iload_n dJ3_checkIndex_8e157_5 rfl ?_
    refine mr_icmp_lt (tgt := 16) dJ3_checkIndex_8e157_6 (by decide) (by omega) (by omega) (fun _ => ?_) (fun h => absurd h (by omega))
    refine mr_iload_n dJ3_checkIndex_8e157_16 rfl ?_
    exact mr_iret rfl dJ3_checkIndex_8e157_17 hP
def T_J0_checkIndex_df160 (a : List mr_AV) (w : mr_Wd) (Po : Option mr_AV → mr_Wd → Prop) : Prop := ∃ (i n : Int), a = [vI i, vI n] ∧ (0 ≤ i ∧ i < n) ∧ InR n ∧ Po none w
set_option maxHeartbeats 4000000 in
set_option maxRecDepth 20000 in
theorem ok_J0_checkIndex_df160 (l : Launch) (G : mr_G) : mr_Ok l G yJ0_checkIndex_df160 cJ0_checkIndex_df160 2 none 1 22 T_J0_checkIndex_df160 := by
  refine mr_Ok.of (by decide +kernel) ?_
  rintro a w Po ⟨i, n, rfl, hi, hn, hP⟩
  refine ⟨Nat.le_of_ble_eq_true rfl, ?_⟩
  show mr_J l G RJ0 cJ0_checkIndex_df160 2 none 1 22 Po 0 [some (vI i), some (vI n)] [] w
  refine mr_iload_n dJ0_checkIndex_df160_0 rfl ?_
  refine mr_iload_n dJ0_checkIndex_df160_1 rfl ?_
  refine mr_gsF rfl dJ0_checkIndex_df160_2 ?_ ?_
  · refine mr_callS (as := [_, _, _]) dJ0_checkIndex_df160_5 (ok_J3_checkIndex_8e157 l G) ml_J0_1059 cl_J3_checkIndex_8e157 cs_J3_checkIndex_8e157 (by decide) rfl rfl (Nat.le_of_ble_eq_true rfl) ?_
    refine ⟨_, _, _, rfl, Or.inl rfl, hi, hn, ?_⟩
    dsimp only [Option.toList_some, Option.toList_none, List.cons_append, List.nil_append]
    refine mr_pop dJ0_checkIndex_df160_8 rfl ?_
    exact mr_vret rfl dJ0_checkIndex_df160_9 hP
  · refine mr_callS (as := [_, _, _]) dJ0_checkIndex_df160_5 (ok_J3_checkIndex_8e157 l G) ml_J0_1059 cl_J3_checkIndex_8e157 cs_J3_checkIndex_8e157 (by decide) rfl rfl (Nat.le_of_ble_eq_true rfl) ?_
    refine ⟨_, _, _, rfl, Or.inr rfl, hi, hn, ?_⟩
    dsimp only [Option.toList_some, Option.toList_none, List.cons_append, List.nil_append]
    refine mr_pop dJ0_checkIndex_df160_8 rfl ?_
    exact mr_vret rfl dJ0_checkIndex_df160_9 hP
def T_J1_charAt_3b067 (a : List mr_AV) (w : mr_Wd) (Po : Option mr_AV → mr_Wd → Prop) : Prop := ∃ (j : Nat) (i : Int), a = [vS (100 + j), vI i] ∧ j < 6 ∧ (0 ≤ i ∧ i < (mr_sl.getD j 0 : Nat)) ∧ Po (some (vI (mr_tc j i.toNat))) w
set_option maxHeartbeats 4000000 in
set_option maxRecDepth 20000 in
theorem ok_J1_charAt_3b067 (l : Launch) (G : mr_G) : mr_Ok l G yJ1_charAt_3b067 cJ1_charAt_3b067 2 (some .char) 2 43 T_J1_charAt_3b067 := by
  refine mr_Ok.of (by decide +kernel) ?_
  rintro a w Po ⟨j, i, rfl, hj, hi, hP⟩
  refine ⟨Nat.le_of_ble_eq_true rfl, ?_⟩
  show mr_J l G RJ1 cJ1_charAt_3b067 2 (some .char) 2 43 Po 0 [some (vS (100 + j)), some (vI i)] [] w
  have h19 := mr_sl_bd hj
  have htc := mr_tc_bd (k := i.toNat) hj (by omega)
  refine mr_iload_n dJ1_charAt_3b067_0 rfl ?_
  refine mr_aload_nS dJ1_charAt_3b067_1 rfl ?_
  refine mr_alenS hj dJ1_charAt_3b067_2 ?_
  refine mr_callS (as := [_, _]) dJ1_charAt_3b067_3 (ok_J0_checkIndex_df160 l G) ml_J1_9 cl_J0_checkIndex_df160 cs_J0_checkIndex_df160 (by decide) rfl rfl (Nat.le_of_ble_eq_true rfl) ?_
  refine ⟨_, _, rfl, hi, by omega, ?_⟩
  dsimp only [Option.toList_some, Option.toList_none, List.cons_append, List.nil_append]
  refine mr_aload_nS dJ1_charAt_3b067_6 rfl ?_
  refine mr_iload_n dJ1_charAt_3b067_7 rfl ?_
  refine mr_baldS hj dJ1_charAt_3b067_8 hi.1 hi.2 ?_
  refine mr_sipush dJ1_charAt_3b067_9 rfl ?_
  refine mr_iand 8 (by decide) dJ1_charAt_3b067_12 (by decide) ?_
  rw [show mr_tc j i.toNat % 2 ^ 8 = mr_tc j i.toNat by omega]
  refine mr_i2c dJ1_charAt_3b067_13 htc ?_
  exact mr_cret rfl htc dJ1_charAt_3b067_14 hP
def T_J0_charAt_5068e (a : List mr_AV) (w : mr_Wd) (Po : Option mr_AV → mr_Wd → Prop) : Prop := ∃ (j : Nat) (i : Int), a = [vS j, vI i] ∧ j < 6 ∧ (0 ≤ i ∧ i < (mr_sl.getD j 0 : Nat)) ∧ Po (some (vI (mr_tc j i.toNat))) w
set_option maxHeartbeats 4000000 in
set_option maxRecDepth 20000 in
theorem ok_J0_charAt_5068e (l : Launch) (G : mr_G) : mr_Ok l G yJ0_charAt_5068e cJ0_charAt_5068e 2 (some .char) 3 64 T_J0_charAt_5068e := by
  refine mr_Ok.of (by decide +kernel) ?_
  rintro a w Po ⟨j, i, rfl, hj, hi, hP⟩
  refine ⟨Nat.le_of_ble_eq_true rfl, ?_⟩
  show mr_J l G RJ0 cJ0_charAt_5068e 2 (some .char) 3 64 Po 0 [some (vS j), some (vI i)] [] w
  have htc := mr_tc_bd (k := i.toNat) hj (by omega)
  refine mr_aload_nS dJ0_charAt_5068e_0 rfl ?_
  refine mr_callT (as := []) hj dJ0_charAt_5068e_1 (ok_J0_isLatin1_aae02 l G) ml_J0_492 cl_J0_isLatin1_aae02 ct_J0_isLatin1_aae02 (by decide) rfl rfl (Nat.le_of_ble_eq_true rfl) ?_
  refine ⟨_, rfl, hj, ?_⟩
  dsimp only [Option.toList_some, Option.toList_none, List.cons_append, List.nil_append]
  refine mr_if_eq (tgt := 16) dJ0_charAt_5068e_4 (by decide) (by decide) (fun h => absurd h (by decide)) (fun _ => ?_)
  refine mr_aload_nS dJ0_charAt_5068e_7 rfl ?_
  refine mr_getSv hj rfl dJ0_charAt_5068e_8 ?_
  refine mr_iload_n dJ0_charAt_5068e_11 rfl ?_
  refine mr_callS (as := [_, _]) dJ0_charAt_5068e_12 (ok_J1_charAt_3b067 l G) ml_J0_495 cl_J1_charAt_3b067 cs_J1_charAt_3b067 (by decide) rfl rfl (Nat.le_of_ble_eq_true rfl) ?_
  refine ⟨_, _, rfl, hj, hi, ?_⟩
  dsimp only [Option.toList_some, Option.toList_none, List.cons_append, List.nil_append]
  exact mr_cret rfl htc dJ0_charAt_5068e_15 hP
