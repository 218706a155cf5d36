/-! ROW of the class: it answers, or it throws -/
def RNS : String := "java/util/NoSuchElementException"
def mx_nm : List String := ["java/lang/RuntimeException", "java/lang/Exception"]
abbrev cNS : ByteArray := prog_24_method_4_code
theorem dNS_0 : decode cNS 0 = .ok (.aload_n 0, 1) := by decide +kernel
theorem dNS_1 : decode cNS 1 = .ok (.aload_n 1, 1) := by decide +kernel
theorem dNS_2 : decode cNS 2 = .ok (.invokespecial 13, 3) := by decide +kernel
theorem dNS_5 : decode cNS 5 = .ok (.return_, 1) := by decide +kernel
def mx_L : List Cond := mx_at RX6 135 RNS 13 cNS mx_nm
def mx_B : List Cond := [.declares (Bundle.initS "java/lang/RuntimeException"), .declares (Bundle.initS "java/lang/Exception"), .declares (Bundle.initS Bundle.tN), .castable RNS RNS]
theorem mx_in : ∀ w ∈ mx_L, w ∈ lw_tbl := by
  have h : mx_L.all (fun w => decide (w ∈ lw_tbl)) = true := by decide +kernel
  exact fun w hw => of_decide_eq_true (List.all_eq_true.mp h w hw)
theorem mx_rest : ∀ w ∈ mx_L.filter (fun w => !goodWord w), w ∈ mx_B := by
  have h : (mx_L.filter (fun w => !goodWord w)).all (fun w => decide (w ∈ mx_B)) = true := by decide +kernel
  exact fun w hw => of_decide_eq_true (List.all_eq_true.mp h w hw)
theorem mx_ot : ∀ w ∈ Cond.classLink RX6 131 RNS :: Cond.initialized RNS :: mx_L, vx_ot w = true := by
  have h : (Cond.classLink RX6 131 RNS :: Cond.initialized RNS :: mx_L).all vx_ot = true := by decide +kernel
  exact List.all_eq_true.mp h
theorem mx_cl : Cond.classLink RX6 131 RNS ∈ mr_ws := mr_mem 869 (by decide +kernel) rfl
theorem mx_ini : Cond.initialized RNS ∈ mr_ws := mr_mem 95 (by decide +kernel) rfl
/-- what a throw wants of the start, beyond the words of the table -/
def mx_K (G : mr_G) (U : State) : Prop := (va_Nw (.declares (Bundle.initS "java/lang/RuntimeException")) U ∧ va_Nw (.declares (Bundle.initS "java/lang/Exception")) U ∧ va_Nw (.declares (Bundle.initS Bundle.tN)) U ∧ va_Nw (.castable RNS RNS) U) ∧ vx_Zq Bundle.tN "UNASSIGNED_STACK" Bundle.steD (mr_A G) U U.heap ∧ vx_Zq Bundle.tN "SUPPRESSED_SENTINEL" Bundle.listD (mr_A G) U U.heap
theorem mx_K.to {G : mr_G} {u U : State} {locs : List Loc} (hW : u.WarmedH U.vm) (hS : va_S (mr_A G) u.heap U.heap locs) (h : mx_K G u) : mx_K G U := by
  obtain ⟨⟨h1, h2, h3, h4⟩, h5, h6⟩ := h
  exact ⟨⟨h1.warmD hW, h2.warmD hW, h3.warmD hW, h4.warmC hW⟩, (h5.kept hS.2.1).moved hW.alike, (h6.kept hS.2.1).moved hW.alike⟩
theorem mx_K.same {G : mr_G} {u U : State} (hv : U.vm = u.vm) (hH : U.heap = u.heap) (h : mx_K G u) : mx_K G U := by
  obtain ⟨⟨h1, h2, h3, h4⟩, h5, h6⟩ := h
  have hA : u.vm.Alike U.vm := by rw [hv]; exact Vm.Alike.refl _
  exact ⟨⟨h1.same rfl hv.symm, h2.same rfl hv.symm, h3.same rfl hv.symm, h4.same rfl hv.symm⟩, (h5.kept (fun a _ _ => by rw [hH])).moved hA, (h6.kept (fun a _ _ => by rw [hH])).moved hA⟩
theorem mx_hat {G : mr_G} {args : Array Value} {s : State} (hts : ∀ w ∈ mr_ws, w.before args s = true) (hK : mx_K G s) : ∀ w ∈ mx_L, w.before args s = true := by
  obtain ⟨⟨h1, h2, h3, h4⟩, h5, h6⟩ := hK
  exact vx_hat (B := mx_B) (fun w hw => hts w (List.mem_filter.mpr ⟨mx_in w (List.mem_filter.mp hw).1, (List.mem_filter.mp hw).2⟩)) mx_rest (vx_c (h1.use rfl) (vx_c (h2.use rfl) (vx_c (h3.use rfl) (vx_c (h4.use rfl) vx_n))))
/-- a heap that only grew -/
theorem mr_C.grow {G : mr_G} {w : mr_Wd} {H H1 : Heap} (h : mr_C G w H) (hq : ∀ k : Nat, k < H.size → H1[k]? = H[k]?) : mr_C G w H1 := by
  intro k
  have hk := h k
  match w k, hk with
  | .inl o, h => exact va_at.kept (show va_at G.1 vwCl (mr_ad G k 0, .inr (o.1, o.2.map (mr_cv G))) H from h) (hq _ (va_at.lt (show va_at G.1 vwCl (mr_ad G k 0, .inr (o.1, o.2.map (mr_cv G))) H from h)))
  | .inr (.inl a), h => exact va_at.kept (show va_at G.1 vwCl (mr_ad G k 0, .inl (G.2.1 a.1, a.2.1, mr_arr a.1 a.2.2)) H from h) (hq _ (va_at.lt (show va_at G.1 vwCl (mr_ad G k 0, .inl (G.2.1 a.1, a.2.1, mr_arr a.1 a.2.2)) H from h)))
  | .inr (.inr (.inl a)), h => exact ⟨va_at.kept h.1 (hq _ h.1.lt), fun i hi => va_at.kept (h.2 i hi) (hq _ (h.2 i hi).lt)⟩
  | .inr (.inr (.inr _)), _ => trivial
/-- behind a throw -/
def mx_XC (G : mr_G) (Px : mr_Wd → Prop) : String → State → State → Prop := fun E st t => E = RNS ∧ (∃ w : mr_Wd, Px w ∧ mr_C G w t.heap) ∧ va_F (mr_A G) st t
section MX3
variable {p : Program} {l : Launch} {e : Env} {R : Room} {s : State} {m : MethodId} {args : Array Value} {below : List Frame} {meth : Method} {c : Code} {G : mr_G} {own : String} {cc : ByteArray} {nL : Nat} {ret : Option FieldType} {nc ns : Nat} {Q : State → Prop} {pc : Nat} {ls : List (Option mr_AV)} {st : List mr_AV} {w : mr_Wd}
theorem mrD_iload_n {i : Fin 4} {x : Int} (hh : mr_Hy p s m args meth c G own cc nL ret) (d : decode cc pc = .ok (.iload_n i, 1)) (hi : ls[(i : Nat)]? = some (some (vI x))) (k : mr_DJ p l e R s m args below meth c G nL nc ns Q (pc + 1) ls (vI x :: st) w) : mr_DJ p l e R s m args below meth c G nL nc ns Q pc ls st w := by
  intro H locs lc hC hS hl
  exact lv_iload_n hh.1 hh.2.1 d rfl (hl.2.2 _ _ hi) (k H locs lc hC hS hl)
theorem mrD_get {a idx ci k : Nat} {fs : List mr_AV} {v : mr_AV} (hh : mr_Hy p s m args meth c G own cc nL ret) (d : decode cc pc = .ok (.getfield idx, 3)) (hf : mr_FL own idx ci k) (hw : w a = eO ci fs) (hv : fs[k]? = some v) (kk : mr_DJ p l e R s m args below meth c G nL nc ns Q (pc + 3) ls (v :: st) w) : mr_DJ p l e R s m args below meth c G nL nc ns Q pc ls (vR a 0 :: st) w := by
  intro H locs lc hC hS hl
  obtain ⟨hx, hb, hml, hr, hlk, hown, hts, hK⟩ := id hh
  obtain ⟨C, T, N, h1, h2, h3, h4, h5⟩ := hf
  have hc := hC a
  rw [hw] at hc
  have hP : va_P G.1 vwCl [(mr_ad G a 0, .inr (ci, fs.map (mr_cv G)))] H := fun k9 q h9 => by
    cases k9 with
    | zero => cases h9; exact hc
    | succ n => simp at h9
  exact va_get (T := T) (N := N) (ci := ci) hx hb hts h3 hown hK.1 hP 0 rfl h1 k h2 (hts _ h5) (fun x hx => by rw [h4] at hx; exact hx) (v := mr_cv G v) (by rw [List.getElem?_map, hv]; rfl) d (kk H locs lc hC hS hl)
theorem mrD_if_lt {x : Int} {off : Int} {tgt : Nat} (hh : mr_Hy p s m args meth c G own cc nL ret) (d : decode cc pc = .ok (.ifCond .lt off, 3)) (ht : (pc : Int) + off = (tgt : Int)) (hx : InR x) (kt : x < 0 → mr_DJ p l e R s m args below meth c G nL nc ns Q tgt ls st w) (kf : 0 ≤ x → mr_DJ p l e R s m args below meth c G nL nc ns Q (pc + 3) ls st w) : mr_DJ p l e R s m args below meth c G nL nc ns Q pc ls (vI x :: st) w := by
  intro H locs lc hC hS hl
  refine lv_if_lt hh.1 hh.2.1 d ht (fun q => ?_) (fun q => ?_)
  · exact kt ((mr_lt hx mr_in0).mp q) H locs lc hC hS hl
  · exact kf (by have h9 := mt (mr_lt hx mr_in0).mpr q; omega) H locs lc hC hS hl
theorem mrD_lt {x y : Int} {off : Int} {tgt : Nat} (hh : mr_Hy p s m args meth c G own cc nL ret) (d : decode cc pc = .ok (.if_icmp .lt off, 3)) (ht : (pc : Int) + off = (tgt : Int)) (hx : InR x) (hy : InR y) (kt : x < y → mr_DJ p l e R s m args below meth c G nL nc ns Q tgt ls st w) (kf : y ≤ x → mr_DJ p l e R s m args below meth c G nL nc ns Q (pc + 3) ls st w) : mr_DJ p l e R s m args below meth c G nL nc ns Q pc ls (vI y :: vI x :: st) w := by
  intro H locs lc hC hS hl
  refine lv_icmp_lt hh.1 hh.2.1 d ht (fun q => ?_) (fun q => ?_)
  · exact kt ((mr_lt hx hy).mp q) H locs lc hC hS hl
  · exact kf (by have h9 := mt (mr_lt hx hy).mpr q; omega) H locs lc hC hS hl
/-- the throw of ROW -/
theorem mx_throw {Qc : Array Value → State → Outcome → State → Prop} {Px : mr_Wd → Prop} (hl : l.stackTraces = false) (hh : mr_Hy p s m args meth c G RX6 cc nL ret) (hX : mx_K G s) (hnc : nc = 0 ∧ ns = 0)
    (d0 : decode cc pc = .ok (.new 131, 3)) (d3 : decode cc (pc + 3) = .ok (.dup, 1)) (d4 : decode cc (pc + 4) = .ok (.ldc 133, 2)) (d6 : decode cc (pc + 6) = .ok (.invokespecial 135, 3)) (d9 : decode cc (pc + 9) = .ok (.athrow, 1))
    (hout : ∀ x ∈ c.exceptionTable.toList, False) (hRf : 6 ≤ R.frames) (hRl : 90 ≤ R.locals) (hRc : 1 ≤ R.cells) (hRs : 6 ≤ R.slots) (hPx : Px w) : mr_DJ p l e R s m args below meth c G nL nc ns (vx_MQ below Qc (mx_XC G Px) args s 1 6 (mr_A G)) pc ls [] w := by
  intro H locs lc hC hS hls
  obtain ⟨hx, hb, hml, hr, hlk, hown, hts, hK⟩ := id hh
  obtain ⟨rfl, rfl⟩ := hnc
  refine mx_make (own := RX6) (cls := RNS) (names := mx_nm) (A := mr_A G) (text := "no ROW of that rank") (sa := G.2.2.2.1 5) hx hb hl dNS_0 dNS_1 dNS_2 dNS_5 hown (by decide +kernel) (by decide +kernel) (hts _ mx_cl) (hts _ mx_ini) hK.2.2.2.1.2.2.2.2.2 (mx_hat hts hX) mx_ot hX.2.1 hX.2.2 hS (hls.1.trans hml.symm) d0 d3 d4 d6 (Nat.lt_of_lt_of_le (by decide) hRf) (Nat.le_trans (show 0 + (13 * (mx_nm.length + 1) + 43) ≤ 90 by decide) hRl) hRc hRs (fun q H1 ce h1 h2 h3 h4 h5 h6 => ?_)
  refine vx_athrow hx hb d9 ?_
  exact vx_out (E := RNS) (fun x hx => (hout x hx).elim) hlk h1 h2 h3 (fun t ht _ => ⟨rfl, ⟨w, hPx, by rw [ht]; exact hC.grow h5⟩, mr_F h6 ht⟩) h6.2.2 (Nat.le_refl _) (Nat.le_refl _)
end MX3

def mx_Pc (G : mr_G) (a : List mr_AV) (w : mr_Wd) : Array Value → State → Prop := fun v U => mr_Pc G a w v U ∧ mx_K G U
theorem mx_Pc.blind (G : mr_G) (a : List mr_AV) (w : mr_Wd) : FrameBlind (mx_Pc G a w) := fun v U g mk h => ⟨mr_Pc.blind G a w v U g mk h.1, h.2.same rfl rfl⟩
set_option maxHeartbeats 4000000 in
set_option maxRecDepth 20000 in
theorem ok_X6_row (l : Launch) (hlt : l.stackTraces = false) (G : mr_G) {w : mr_Wd} {n0 nx ct fk : Int} {g f im : Nat → Int} {S I : Nat → Nat → Int} {p x : Int} (hX : mr_XS w (n0, g, f, nx, ct, S, I, im, fk)) (h_p : InR p) (h_x : InR x) :
    vx_Met l yX6_row (Cond.code yX6_row cX6_row 3 (some .int) :: mr_ws) { frames := 8, cells := 1, slots := 6, locals := 200 } (mx_Pc G [vR 0 0, vI p, vI x] w) (mr_Q G (fun r w1 => (mr_pk f p ∧ 0 ≤ x ∧ x < mr_sz f p 0) ∧ r = some (vI (mr_tb (mr_frl f p 3 0 x (fun _ => 0)))) ∧ mr_XS w1 (n0, g, f, nx, ct, S, I, im, fk) ∧ mr_Fr w w1)) (mx_XC G (fun w1 => ¬ (mr_pk f p ∧ 0 ≤ x ∧ x < mr_sz f p 0) ∧ w1 = w)) 1 6 (mr_A G) := by
  refine vx_ofW (cc := cX6_row) (maxL := 3) (ret := some .int) (by decide +kernel) rfl ?_
  intro P e s m args below meth c s₁ B hml hout hv
  obtain ⟨⟨rfl, hC, hK⟩, hKX⟩ := hv
  have hts := atoms_spec (ws := Cond.code yX6_row cX6_row 3 (some .int) :: mr_ws) B.pre
  have hown : s.vm.findClass RX6 = some m.cls := findClass_of_methodNamed B.named
  have hh : mr_Hy P s m ([vR 0 0, vI p, vI x].map (mr_cv G)).toArray meth c G RX6 cX6_row 3 (some .int) := ⟨B.exec, B.bytes, hml, B.returns, B.notSynchronized, hown, fun w hw => hts w (List.mem_cons_of_mem _ hw), hK⟩
  obtain ⟨h1, h2⟩ := mr_en_sl G [vR 0 0, vI p, vI x]
  have hl := lv_entry ([vR 0 0, vI p, vI x].map (mr_cv G)) (n := 3) (by rw [h1]; exact Nat.le_of_ble_eq_true rfl)
  rw [lg_entry_eq]
  have main : mr_DJ P l e { frames := 8, cells := 1, slots := 6, locals := 200 } s m ([vR 0 0, vI p, vI x].map (mr_cv G)).toArray below meth c G 3 0 0 (vx_MQ below (mr_Q G (fun r w1 => (mr_pk f p ∧ 0 ≤ x ∧ x < mr_sz f p 0) ∧ r = some (vI (mr_tb (mr_frl f p 3 0 x (fun _ => 0)))) ∧ mr_XS w1 (n0, g, f, nx, ct, S, I, im, fk) ∧ mr_Fr w w1)) (mx_XC G (fun w1 => ¬ (mr_pk f p ∧ 0 ≤ x ∧ x < mr_sz f p 0) ∧ w1 = w)) ([vR 0 0, vI p, vI x].map (mr_cv G)).toArray s 1 6 (mr_A G)) 0 [some (vR 0 0), some (vI p), some (vI x)] [] w := by
    obtain ⟨⟨sd, h0⟩, h1, h2, h3, h4, h5, h6, h7, ⟨m0, cl0, ct0, R0, F0, hS⟩, ⟨rv, rk, rs, rn, ro, rl_, rln, rmd, ra, rb, h11, hrv, hrs⟩, h12, ⟨f13, h13⟩, ⟨nm, h14, hnm⟩, h15, h16, ⟨r17, h17⟩, hn0, hB, hnx, hct, hSB, hIB, him, hfk⟩ := id hX
    have hszb := mr_sz_bd hB p 0
    have hszr : InR (mr_sz f p 0) := ⟨by omega, by omega⟩
    have thr : ¬ (mr_pk f p ∧ 0 ≤ x ∧ x < mr_sz f p 0) → mr_DJ P l e { frames := 8, cells := 1, slots := 6, locals := 200 } s m ([vR 0 0, vI p, vI x].map (mr_cv G)).toArray below meth c G 3 0 0 (vx_MQ below (mr_Q G (fun r w1 => (mr_pk f p ∧ 0 ≤ x ∧ x < mr_sz f p 0) ∧ r = some (vI (mr_tb (mr_frl f p 3 0 x (fun _ => 0)))) ∧ mr_XS w1 (n0, g, f, nx, ct, S, I, im, fk) ∧ mr_Fr w w1)) (mx_XC G (fun w1 => ¬ (mr_pk f p ∧ 0 ≤ x ∧ x < mr_sz f p 0) ∧ w1 = w)) ([vR 0 0, vI p, vI x].map (mr_cv G)).toArray s 1 6 (mr_A G)) 27 [some (vR 0 0), some (vI p), some (vI x)] [] w := fun hno =>
      mx_throw hlt hh hKX ⟨rfl, rfl⟩ dX6_row_27 dX6_row_30 dX6_row_31 dX6_row_33 dX6_row_36 hout (by decide) (by decide) (by decide) (by decide) ⟨hno, rfl⟩
    refine mrD_aload_n hh dX6_row_0 rfl ?_
    refine mrD_get hh dX6_row_1 fl_X6_19 h0 rfl ?_
    refine mrD_iload_n hh dX6_row_4 rfl ?_
    refine mrD_callV (as := [_]) hh dX6_row_5 (ok_X0_hasPlace l G) ml_X6_124 cl_X0_hasPlace cv_X0_hasPlace (by decide) rfl rfl (Nat.le_of_ble_eq_true rfl) h3 ⟨by decide, by decide⟩ ?_
    refine ⟨3, _, _, rfl, ⟨h3, h4⟩, hB, h_p, fun hy => ?_, fun hy => ?_⟩
    · dsimp only [Option.toList_some, Option.toList_none, List.cons_append, List.nil_append]
      refine mrD_if_eq (tgt := 27) hh dX6_row_8 (by decide) ⟨by decide, by decide⟩ (fun h => absurd h (by decide)) (fun _ => ?_)
      refine mrD_iload_n hh dX6_row_11 rfl ?_
      refine mrD_if_lt (tgt := 27) hh dX6_row_12 (by decide) h_x (fun hx0 => thr (fun z => by omega)) (fun hx0 => ?_)
      refine mrD_iload_n hh dX6_row_15 rfl ?_
      refine mrD_aload_n hh dX6_row_16 rfl ?_
      refine mrD_get hh dX6_row_17 fl_X6_19 h0 rfl ?_
      refine mrD_iload_n hh dX6_row_20 rfl ?_
      refine mrD_callV (as := [_]) hh dX6_row_21 (ok_X0_sizeOf l G) ml_X6_127 cl_X0_sizeOf cv_X0_sizeOf (by decide) rfl rfl (Nat.le_of_ble_eq_true rfl) h3 ⟨by decide, by decide⟩ ?_
      refine ⟨3, _, _, rfl, ⟨h3, h4⟩, hB, h_p, ?_⟩
      dsimp only [Option.toList_some, Option.toList_none, List.cons_append, List.nil_append]
      refine mrD_lt (tgt := 37) hh dX6_row_24 (by decide) h_x hszr (fun hlt => ?_) (fun hge => thr (fun z => by omega))
      refine mrD_aload_n hh dX6_row_37 rfl ?_
      refine mrD_get hh dX6_row_38 fl_X6_19 h0 rfl ?_
      refine mrD_iload_n hh dX6_row_41 rfl ?_
      refine mrD_iload_n hh dX6_row_42 rfl ?_
      refine mrD_aload_n hh dX6_row_43 rfl ?_
      refine mrD_get hh dX6_row_44 fl_X6_55 h0 rfl ?_
      refine mrD_callV (as := [_, _, _]) hh dX6_row_47 (ok_X0_findRanked l G) ml_X6_138 cl_X0_findRanked cv_X0_findRanked (by decide) rfl rfl (Nat.le_of_ble_eq_true rfl) h3 ⟨by decide, by decide⟩ ?_
      refine xs_findRanked hX h_p ⟨hx0, by omega⟩ (fun w1 hX1 h171 hF1 => ?_)
      dsimp only [Option.toList_some, Option.toList_none, List.cons_append, List.nil_append]
      obtain ⟨⟨sd1, h01⟩, -⟩ := id hX1
      refine mrD_aload_n hh dX6_row_50 rfl ?_
      refine mrD_callV (as := []) hh dX6_row_51 (ok_X6_toldBack l G) ml_X6_121 cl_X6_toldBack cv_X6_toldBack (by decide) rfl rfl (Nat.le_of_ble_eq_true rfl) h01 ⟨by decide, by decide⟩ ?_
      refine ⟨_, _, _, rfl, h01, h171, ?_⟩
      dsimp only [Option.toList_some, Option.toList_none, List.cons_append, List.nil_append]
      intro H locs lc hC9 hS9 hl9
      exact vx_ret (W.widen (k := 1) (n := 6) (Nat.zero_le _) (Nat.zero_le _) (W.iret B.exec B.bytes B.returns (fun t ht _ => ⟨⟨some (vI _), w1, rfl, ⟨⟨hy, hx0, hlt⟩, rfl, hX1, hF1⟩, by rw [ht]; exact hC9⟩, mr_F hS9 ht⟩) hS9.2.2 dX6_row_54 B.notSynchronized))
    · dsimp only [Option.toList_some, Option.toList_none, List.cons_append, List.nil_append]
      exact mrD_if_eq (tgt := 27) hh dX6_row_8 (by decide) ⟨by decide, by decide⟩ (fun _ => thr (fun z => hy z.1)) (fun h => absurd rfl h)
  refine main s.heap [] _ hC va_S.rf ⟨hl.1, hl.2.1, fun i v hi => ?_⟩
  have h3 := h2 i v hi
  rw [List.getElem?_toArray, List.getElem?_append_left (List.getElem?_eq_some_iff.mp h3).1]
  exact h3
