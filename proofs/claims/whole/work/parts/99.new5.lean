/-! CONSTRUCTORS: words, the rest of the rows, from a walk to a contract -/
theorem nw_oi_X6 : Cond.methodLink RX6 1 Lib.objectInit ∈ mr_ws := mr_mem 101 (by decide +kernel) rfl
theorem nw_oi_X5 : Cond.methodLink RX5 3 Lib.objectInit ∈ mr_ws := mr_mem 109 (by decide +kernel) rfl
theorem nw_oi_X0 : Cond.methodLink RX0 5 Lib.objectInit ∈ mr_ws := mr_mem 123 (by decide +kernel) rfl
theorem nw_oi_X1 : Cond.methodLink RX1 3 Lib.objectInit ∈ mr_ws := mr_mem 135 (by decide +kernel) rfl
theorem nw_oi_X3 : Cond.methodLink RX3 3 Lib.objectInit ∈ mr_ws := mr_mem 153 (by decide +kernel) rfl
theorem nw_oi_X4 : Cond.methodLink RX4 3 Lib.objectInit ∈ mr_ws := mr_mem 159 (by decide +kernel) rfl
theorem nw_oi_X2 : Cond.methodLink RX2 3 Lib.objectInit ∈ mr_ws := mr_mem 186 (by decide +kernel) rfl
theorem nw_oi_X7 : Cond.methodLink RX7 80 Lib.objectInit ∈ mr_ws := mr_mem 959 (by decide +kernel) rfl
theorem nw_oii : Cond.instanceMethod Lib.objectInit ∈ mr_ws := mr_mem 102 (by decide +kernel) rfl
theorem nw_oic : Cond.code Lib.objectInit ⟨#[0xb1]⟩ 1 none ∈ mr_ws := mr_mem 103 (by decide +kernel) rfl
theorem nw_kl_L_8 : Cond.classLink RL 8 RX6 ∈ mr_ws := mr_mem 96 (by decide +kernel) rfl
theorem nw_kl_X6_7 : Cond.classLink RX6 7 RX5 ∈ mr_ws := mr_mem 104 (by decide +kernel) rfl
theorem nw_kl_X6_16 : Cond.classLink RX6 16 RX0 ∈ mr_ws := mr_mem 118 (by decide +kernel) rfl
theorem nw_kl_X6_23 : Cond.classLink RX6 23 RX1 ∈ mr_ws := mr_mem 130 (by decide +kernel) rfl
theorem nw_kl_X6_30 : Cond.classLink RX6 30 RX3 ∈ mr_ws := mr_mem 148 (by decide +kernel) rfl
theorem nw_kl_X3_9 : Cond.classLink RX3 9 RX4 ∈ mr_ws := mr_mem 154 (by decide +kernel) rfl
theorem nw_kl_X6_37 : Cond.classLink RX6 37 RX2 ∈ mr_ws := mr_mem 181 (by decide +kernel) rfl
theorem nw_kl_X2_9 : Cond.classLink RX2 9 RX0 ∈ mr_ws := mr_mem 187 (by decide +kernel) rfl
theorem nw_kl_L_16 : Cond.classLink RL 16 RX7 ∈ mr_ws := mr_mem 955 (by decide +kernel) rfl
theorem nw_kl_X1_11 : Cond.classLink RX1 11 "[[I" ∈ mr_ws := mr_mem 136 (by decide +kernel) rfl
theorem nw_kl_X4_11 : Cond.classLink RX4 11 "[[I" ∈ mr_ws := mr_mem 160 (by decide +kernel) rfl
theorem nw_kl_X6_46 : Cond.classLink RX6 46 "[[I" ∈ mr_ws := mr_mem 232 (by decide +kernel) rfl
theorem nw_in_X6 : Cond.instantiable RX6 10 ∈ mr_ws := mr_mem 97 (by decide +kernel) rfl
theorem nw_in_X5 : Cond.instantiable RX5 2 ∈ mr_ws := mr_mem 105 (by decide +kernel) rfl
theorem nw_in_X0 : Cond.instantiable RX0 1 ∈ mr_ws := mr_mem 119 (by decide +kernel) rfl
theorem nw_in_X1 : Cond.instantiable RX1 3 ∈ mr_ws := mr_mem 131 (by decide +kernel) rfl
theorem nw_in_X3 : Cond.instantiable RX3 1 ∈ mr_ws := mr_mem 149 (by decide +kernel) rfl
theorem nw_in_X4 : Cond.instantiable RX4 5 ∈ mr_ws := mr_mem 155 (by decide +kernel) rfl
theorem nw_in_X2 : Cond.instantiable RX2 14 ∈ mr_ws := mr_mem 182 (by decide +kernel) rfl
theorem nw_in_X7 : Cond.instantiable RX7 23 ∈ mr_ws := mr_mem 949 (by decide +kernel) rfl
theorem nw_im_X6 : Cond.instanceMethod yX6_init ∈ mr_ws := mr_mem 99 (by decide +kernel) rfl
theorem nw_im_X5 : Cond.instanceMethod yX5_init ∈ mr_ws := mr_mem 107 (by decide +kernel) rfl
theorem nw_im_X0 : Cond.instanceMethod yX0_init ∈ mr_ws := mr_mem 121 (by decide +kernel) rfl
theorem nw_im_X1 : Cond.instanceMethod yX1_init ∈ mr_ws := mr_mem 133 (by decide +kernel) rfl
theorem nw_im_X3 : Cond.instanceMethod yX3_init ∈ mr_ws := mr_mem 151 (by decide +kernel) rfl
theorem nw_im_X4 : Cond.instanceMethod yX4_init ∈ mr_ws := mr_mem 157 (by decide +kernel) rfl
theorem nw_im_X2 : Cond.instanceMethod yX2_init ∈ mr_ws := mr_mem 184 (by decide +kernel) rfl
theorem nw_im_X7 : Cond.instanceMethod yX7_init ∈ mr_ws := mr_mem 957 (by decide +kernel) rfl
theorem nw_ac_byte : Cond.arrayClass .byte ∈ mr_ws := mr_mem 117 (by decide +kernel) rfl
theorem nw_ac_int : Cond.arrayClass .int ∈ mr_ws := mr_mem 129 (by decide +kernel) rfl
theorem nw_ac_boolean : Cond.arrayClass .boolean ∈ mr_ws := mr_mem 264 (by decide +kernel) rfl
theorem nw_ac_long : Cond.arrayClass .long ∈ mr_ws := mr_mem 1340 (by decide +kernel) rfl
theorem nw_ao : Cond.arrayOver (.array .int) ∈ lw_tbl := List.mem_of_getElem? (i := 137) (by decide +kernel)
theorem nw_nl_X6_9 : Cond.methodLinkNest RX6 9 yX5_init RX6 ∈ lw_tbl := List.mem_of_getElem? (i := 106) (by decide +kernel)
theorem nw_nl_X6_18 : Cond.methodLinkNest RX6 18 yX0_init RX6 ∈ lw_tbl := List.mem_of_getElem? (i := 120) (by decide +kernel)
theorem nw_nl_X6_25 : Cond.methodLinkNest RX6 25 yX1_init RX6 ∈ lw_tbl := List.mem_of_getElem? (i := 132) (by decide +kernel)
theorem nw_nl_X6_32 : Cond.methodLinkNest RX6 32 yX3_init RX6 ∈ lw_tbl := List.mem_of_getElem? (i := 150) (by decide +kernel)
theorem nw_nl_X3_11 : Cond.methodLinkNest RX3 11 yX4_init RX6 ∈ lw_tbl := List.mem_of_getElem? (i := 156) (by decide +kernel)
theorem nw_nl_X2_11 : Cond.methodLinkNest RX2 11 yX0_init RX6 ∈ lw_tbl := List.mem_of_getElem? (i := 188) (by decide +kernel)
theorem nw_ff_X0_0 : mr_FF 0 0 (.array .int) := ⟨RX0, TX0, 1, tyX0, rfl, tyX0_ok, nmX0, rfl, by decide +kernel⟩
theorem nw_ff_X1_0 : mr_FF 1 0 (.array (.array .int)) := ⟨RX1, TX1, 3, tyX1, rfl, tyX1_ok, nmX1, rfl, by decide +kernel⟩
theorem nw_ff_X2_0 : mr_FF 2 0 (.object "ModuleRows$Tape") := ⟨RX2, TX2, 14, tyX2, rfl, tyX2_ok, nmX2, rfl, by decide +kernel⟩
theorem nw_ff_X2_1 : mr_FF 2 1 (.object "ModuleRows$Reckoner") := ⟨RX2, TX2, 14, tyX2, rfl, tyX2_ok, nmX2, rfl, by decide +kernel⟩
theorem nw_ff_X2_2 : mr_FF 2 2 (.object "ModuleRows$Book") := ⟨RX2, TX2, 14, tyX2, rfl, tyX2_ok, nmX2, rfl, by decide +kernel⟩
theorem nw_ff_X2_3 : mr_FF 2 3 (.array .int) := ⟨RX2, TX2, 14, tyX2, rfl, tyX2_ok, nmX2, rfl, by decide +kernel⟩
theorem nw_ff_X3_0 : mr_FF 3 0 (.object "ModuleRows$Shaper") := ⟨RX3, TX3, 1, tyX3, rfl, tyX3_ok, nmX3, rfl, by decide +kernel⟩
theorem nw_ff_X4_0 : mr_FF 4 0 (.array (.array .int)) := ⟨RX4, TX4, 5, tyX4, rfl, tyX4_ok, nmX4, rfl, by decide +kernel⟩
theorem nw_ff_X4_1 : mr_FF 4 1 (.array (.array .int)) := ⟨RX4, TX4, 5, tyX4, rfl, tyX4_ok, nmX4, rfl, by decide +kernel⟩
theorem nw_ff_X5_0 : mr_FF 5 0 (.array .byte) := ⟨RX5, TX5, 2, tyX5, rfl, tyX5_ok, nmX5, rfl, by decide +kernel⟩
theorem nw_ff_X6_0 : mr_FF 6 0 (.object "ModuleRows$Tape") := ⟨RX6, TX6, 10, tyX6, rfl, tyX6_ok, nmX6, rfl, by decide +kernel⟩
theorem nw_ff_X6_1 : mr_FF 6 1 (.object "ModuleRows$Book") := ⟨RX6, TX6, 10, tyX6, rfl, tyX6_ok, nmX6, rfl, by decide +kernel⟩
theorem nw_ff_X6_2 : mr_FF 6 2 (.object "ModuleRows$Past") := ⟨RX6, TX6, 10, tyX6, rfl, tyX6_ok, nmX6, rfl, by decide +kernel⟩
theorem nw_ff_X6_3 : mr_FF 6 3 (.object "ModuleRows$Reckoner") := ⟨RX6, TX6, 10, tyX6, rfl, tyX6_ok, nmX6, rfl, by decide +kernel⟩
theorem nw_ff_X6_4 : mr_FF 6 4 (.object "ModuleRows$Reader") := ⟨RX6, TX6, 10, tyX6, rfl, tyX6_ok, nmX6, rfl, by decide +kernel⟩
theorem nw_ff_X6_5 : mr_FF 6 5 (.array (.array .int)) := ⟨RX6, TX6, 10, tyX6, rfl, tyX6_ok, nmX6, rfl, by decide +kernel⟩
theorem nw_ff_X6_6 : mr_FF 6 6 (.array .boolean) := ⟨RX6, TX6, 10, tyX6, rfl, tyX6_ok, nmX6, rfl, by decide +kernel⟩
theorem nw_ff_X6_7 : mr_FF 6 7 (.array .int) := ⟨RX6, TX6, 10, tyX6, rfl, tyX6_ok, nmX6, rfl, by decide +kernel⟩
theorem nw_ff_X7_1 : mr_FF 7 1 (.array .int) := ⟨RX7, TX7, 23, tyX7, rfl, tyX7_ok, nmX7, rfl, by decide +kernel⟩
theorem nw_ff_X7_11 : mr_FF 7 11 (.array .int) := ⟨RX7, TX7, 23, tyX7, rfl, tyX7_ok, nmX7, rfl, by decide +kernel⟩
theorem nw_ff_X7_12 : mr_FF 7 12 (.array .int) := ⟨RX7, TX7, 23, tyX7, rfl, tyX7_ok, nmX7, rfl, by decide +kernel⟩
theorem nw_ff_X7_13 : mr_FF 7 13 (.array .int) := ⟨RX7, TX7, 23, tyX7, rfl, tyX7_ok, nmX7, rfl, by decide +kernel⟩
theorem nw_ff_X7_14 : mr_FF 7 14 (.array .int) := ⟨RX7, TX7, 23, tyX7, rfl, tyX7_ok, nmX7, rfl, by decide +kernel⟩
theorem nw_ff_X7_15 : mr_FF 7 15 (.array .boolean) := ⟨RX7, TX7, 23, tyX7, rfl, tyX7_ok, nmX7, rfl, by decide +kernel⟩
theorem nw_ff_X7_18 : mr_FF 7 18 (.array .boolean) := ⟨RX7, TX7, 23, tyX7, rfl, tyX7_ok, nmX7, rfl, by decide +kernel⟩
theorem nw_ff_X7_19 : mr_FF 7 19 (.array .boolean) := ⟨RX7, TX7, 23, tyX7, rfl, tyX7_ok, nmX7, rfl, by decide +kernel⟩
theorem nw_ff_X7_20 : mr_FF 7 20 (.array .int) := ⟨RX7, TX7, 23, tyX7, rfl, tyX7_ok, nmX7, rfl, by decide +kernel⟩
/-- words that are no words of the table: nest mates, arrays over arrays -/
def nw_Ne (U : State) : Prop := (Cond.arrayOver (.array .int)).before #[] U = true ∧ va_Nw (.methodLinkNest RX6 9 yX5_init RX6) U ∧ va_Nw (.methodLinkNest RX6 18 yX0_init RX6) U ∧ va_Nw (.methodLinkNest RX6 25 yX1_init RX6) U ∧ va_Nw (.methodLinkNest RX6 32 yX3_init RX6) U ∧ va_Nw (.methodLinkNest RX3 11 yX4_init RX6) U ∧ va_Nw (.methodLinkNest RX2 11 yX0_init RX6) U
theorem nw_Ne.ov {args : Array Value} {U : State} (h : nw_Ne U) : (Cond.arrayOver (.array .int)).before args U = true := h.1
theorem nw_Ne.to {u U : State} (hW : u.WarmedH U.vm) (h : nw_Ne u) : nw_Ne U := by
  obtain ⟨h1, h2, h3, h4, h5, h6, h7⟩ := h
  refine ⟨?_, h2.warmM hW, h3.warmM hW, h4.warmM hW, h5.warmM hW, h6.warmM hW, h7.warmM hW⟩
  have e := Cond.arrayOver_setVmC (args := #[]) (s := u) (vm' := U.vm) hW.alike (.array .int)
  exact e.trans h1
theorem nw_Ne.same {u U : State} (hv : U.vm = u.vm) (h : nw_Ne u) : nw_Ne U := by
  obtain ⟨h1, h2, h3, h4, h5, h6, h7⟩ := h
  refine ⟨?_, h2.same rfl hv.symm, h3.same rfl hv.symm, h4.same rfl hv.symm, h5.same rfl hv.symm, h6.same rfl hv.symm, h7.same rfl hv.symm⟩
  have e : (Cond.arrayOver (.array .int)).before #[] (u.setVm U.vm) = true := by
    rw [hv]
    exact h1
  exact e
theorem nw_Ne.of {args : Array Value} {U : State} (hts : ∀ w ∈ lw_tbl, w.before args U = true) : nw_Ne U := ⟨hts _ nw_ao, va_Nw.of rfl (hts _ nw_nl_X6_9), va_Nw.of rfl (hts _ nw_nl_X6_18), va_Nw.of rfl (hts _ nw_nl_X6_25), va_Nw.of rfl (hts _ nw_nl_X6_32), va_Nw.of rfl (hts _ nw_nl_X3_11), va_Nw.of rfl (hts _ nw_nl_X2_11)⟩
/-- what a constructor's contract asks -/
def nw_Pd (G : mr_G) (a : List mr_AV) (w : mr_Wd) (h : Nat) : Array Value → State → Prop := fun v U => nw_Pc G a w h v U ∧ nw_Ne U
theorem nw_Pd.blind (G : mr_G) (a : List mr_AV) (w : mr_Wd) (h : Nat) : FrameBlind (nw_Pd G a w h) := fun v U g mk q => ⟨nw_Pc.blind G a w h v U g mk q.1, q.2.same rfl⟩
/-- a constructor's contract -/
def nw_Met (l : Launch) (G : mr_G) (y : MethodName) (cc : ByteArray) (nL rf rl mc ms : Nat) (a : List mr_AV) (w : mr_Wd) (h : Nat) (w2 : mr_Wd) (h2 : Nat) : Prop :=
  Met l y (Cond.code y cc nL none :: mr_ws) { frames := rf, cells := mc, slots := ms, locals := rl } (nw_Pd G a w h) (nw_Q G (fun r w9 => r = none ∧ w9 = w2) h2) mc ms (mr_A G)
section NW5
variable {p : Program} {l : Launch} {e : Env} {R : Room} {s : State} {m : MethodId} {args : Array Value} {below : List Frame} {meth : Method} {c : Code} {G : mr_G} {own : String} {cc : ByteArray} {nL : Nat} {ret : Option FieldType} {nc ns h : Nat} {Q : State → Prop} {pc : Nat} {ls : List (Option mr_AV)} {st : List mr_AV} {w : mr_Wd}
theorem mrE_put {a idx ci k : Nat} {fs : List mr_AV} {v : mr_AV} {ty : FieldType} (hh : mr_Hy p s m args meth c G own cc nL ret) (d : decode cc pc = .ok (.putfield idx, 3)) (hf : mr_FL own idx ci k) (hp : mr_FP ci k ty) (hn : narrow ty (mr_cv G v) = mr_cv G v) (hfit : fits ty (mr_cv G v) = true) (hw : w a = eO ci fs) (hk : k < fs.length) (kk : mr_E p l e R s m args below meth c G nL nc ns Q h (pc + 3) ls st (mr_up w a (eO ci (fs.set k v)))) : mr_E p l e R s m args below meth c G nL nc ns Q h pc ls (v :: vR a 0 :: st) w := by
  intro H locs lc hz hC hS0 hl
  obtain ⟨hx, hb, hml, hr, hlk, hown, hts, hK⟩ := id hh
  obtain ⟨C, T, N, h1, h2, h3, h4, h5⟩ := hf
  obtain ⟨C', T', N', ty0, g1, g2, g3, g4, g5⟩ := hp
  have ee := h1.symm.trans g1
  cases ee
  have hc := hC a
  rw [hw] at hc
  have hap := va_apart (own := own) hts h3 ty0 g2 g3 hK.1 h1
  obtain ⟨r, q0, cell, q1, q2, q3, q4⟩ := hc
  have hr : r = (C, T, N) := Option.some.inj (q0.symm.trans h1)
  subst hr
  obtain ⟨hS, hfc, kC, hkC, hkind⟩ := hK.1.1 ci _ h1
  obtain ⟨cf, kf, fi, f, hi, hsl⟩ := hS k h2
  have hlay := hts _ (h3 _ (u_in_lay h2))
  unfold u_lay at hlay
  rw [if_neg (by rw [g4]; decide)] at hlay
  have hst := (u_facts hfc hkC (u_lays hts h3 h2) hi).1
  have h6 := u_store hfc hkC hkind hlay hi g5 hn hfit
  refine W.putK hx hb (f := f) ⟨hown, hts _ h5, ⟨_, _, _, by rw [h4] at hi; exact hi⟩, hst⟩ (by rw [q2]; exact h6) q1 q3 (by rw [hsl]; exact k2_hasslot (q4 k h2)) rfl rfl d fun H' e1 e2 e3 => ?_
  rw [hsl] at e1 ⊢
  refine kk H' _ lc (e2.trans hz) (hC.set (k := a) (i := 0) hK.2.1 e3 ?_) (hS0.put e2 e3 (hK.2.1.2 a 0)) hl
  show va_at G.1 vwCl (mr_ad G a 0, .inr (ci, (fs.set k v).map (mr_cv G))) H'
  rw [List.map_set]
  exact ⟨_, h1, t_OB.to (V := updV (vp_V (fs.map (mr_cv G))) k (mr_cv G v)) ⟨_, e1, q2, q3, t_set q4 hap h2 _⟩ (fun j _ => vp_updV_set (by rw [List.length_map]; exact hk) _ j)⟩
theorem mrE_astore_n {i : Fin 4} {a b : Nat} (hh : mr_Hy p s m args meth c G own cc nL ret) (d : decode cc pc = .ok (.astore_n i, 1)) (hn : mr_no2 ls = true) (hi : (i : Nat) < nL) (k : mr_E p l e R s m args below meth c G nL nc ns Q h (pc + 1) (ls.set (i : Nat) (some (vR a b))) st w) : mr_E p l e R s m args below meth c G nL nc ns Q h pc ls (vR a b :: st) w := by
  intro H locs lc hz hC hS hl
  exact lv_astore_n hh.1 hh.2.1 d rfl (mr_ls_has hl) hi rfl (fun lc' h' => k H locs lc' hz hC hS (mr_ls_set hn h'))
theorem mrE_istore {i : Nat} {x : Int} (hh : mr_Hy p s m args meth c G own cc nL ret) (d : decode cc pc = .ok (.istore i, 2)) (hn : mr_no2 ls = true) (hi : (i : Nat) < nL) (k : mr_E p l e R s m args below meth c G nL nc ns Q h (pc + 2) (ls.set (i : Nat) (some (vI x))) st w) : mr_E p l e R s m args below meth c G nL nc ns Q h pc ls (vI x :: st) w := by
  intro H locs lc hz hC hS hl
  exact lv_istore hh.1 hh.2.1 d (mr_ls_has hl) hi rfl (fun lc' h' => k H locs lc' hz hC hS (mr_ls_set hn h'))
theorem mrE_back {mc ms h2 : Nat} {w2 : mr_Wd} {H : Heap} {locs : List Loc} {lc : Array Slot} {st0 : List Value} {aa : Array Value}
    (hr9 : va_Run p l e R s m args below meth c H locs nc ns mc ms (F0 m pc lc st0) (st.map (mr_cv G)) (nw_Q G (fun r w9 => r = none ∧ w9 = w2) h2 aa) (mr_A G)) (hS : va_S (mr_A G) s.heap H locs) (hl : mr_ls G nL ls lc)
    (k : mr_E p l e R s m args below meth c G nL (nc + mc) (ns + ms) Q h2 (pc + 3) ls st w2) : W p l e R s m args below meth c H locs nc ns Q (F0 m pc lc st0) := by
  intro T hT X
  obtain ⟨v, st₀, t, T', L, h0, X', hL, e1, e2, ⟨⟨⟨r, w9, hv, hp, hC2⟩, hz9, hk9⟩, hsz⟩, go⟩ := hr9 T hT X
  obtain ⟨rfl, rfl⟩ := hp
  cases hv
  rw [h0] at hz9 hk9
  have hS2 : va_S (mr_A G) s.heap T'.heap (locs ++ L) := ⟨Nat.le_trans hS.1 (by rw [e1]; exact hz9), fun q h1 h2 => by rw [e1, hk9 q (Nat.lt_of_lt_of_le h1 hS.1) h2]; exact hS.2.1 q h1 h2, fun q hq => by
      rcases List.mem_append.mp hq with h | h
      · exact hS.2.2 q h
      · exact hL q h⟩
  obtain ⟨t2, a1, b1⟩ := k T'.heap (locs ++ L) lc (by rw [e1]; exact hsz) (by rw [e1]; exact hC2) hS2 hl T' rfl X'
  exact ⟨t2, go t2 a1, b1⟩

theorem mrE_callC {y : MethodName} {idx n b : Nat} {bytes : ByteArray} {maxL rf2 rl2 mc ms h2 : Nat} {w2 : mr_Wd} (as : List mr_AV) {st0 : List mr_AV} (hh : mr_Hy p s m args meth c G own cc nL ret) (hne : nw_Ne s)
    (d : decode cc pc = .ok (.invokespecial idx, 3)) (hM : nw_Met l G y bytes maxL rf2 rl2 mc ms (vR b 0 :: as) w h w2 h2) (hl0 : Cond.methodLink own idx y ∈ mr_ws) (hcl : mr_CL y bytes maxL none n) (hy : y.name = "<init>") (hin : Cond.instanceMethod y ∈ mr_ws) (hR : rf2 + 1 ≤ R.frames ∧ 8 + (maxL + 11) + rl2 ≤ R.locals) (hn : as.length = n) (hst : st0 = as.reverse ++ vR b 0 :: st) (hcat : (st.map mr_cat).sum ≤ 8) (hcs : nc + mc ≤ R.cells ∧ ns + ms ≤ R.slots)
    (k : mr_E p l e R s m args below meth c G nL (nc + mc) (ns + ms) Q h2 (pc + 3) ls st w2) : mr_E p l e R s m args below meth c G nL nc ns Q h pc ls st0 w := by
  intro H locs lc hz hC hS hl
  obtain ⟨hx, hb, hml, hr, hlk, hown, hts, hK⟩ := id hh
  have hstk : st0.map (mr_cv G) = (as.map (mr_cv G)).reverse ++ .ref (mr_ad G b 0) :: st.map (mr_cv G) := by
    rw [hst]; simp [mr_cv]
  refine mrE_back (aa := (Value.ref (mr_ad G b 0) :: as.map (mr_cv G)).toArray) (va_runI (e := e) (below := below) (meth := meth) (cells := nc) (slots := ns) (H := H) (locs := locs) (g := F0 m pc lc (st0.map (mr_cv G))) (rest := st.map (mr_cv G)) (As := as.map (mr_cv G)) (b := mr_ad G b 0) (n := n) (index := idx) ⟨hx, hb, hml, hown, hts⟩ hM ⟨callB_of n hts (mr_goodIn hcl.1) rfl rfl rfl (hts _ hcl.2.1) (hts _ hl0) hcl.2.2 hR, hy, hts _ hin⟩
    ⟨nw_Pd.blind _ _ _ _, fun U hU hW => ⟨⟨⟨rfl, by rw [hU]; exact hC, hK.to (locs := locs) hW (by rw [hU]; exact hS)⟩, by rw [hU]; exact hz⟩, hne.to hW⟩⟩ rfl (by rw [List.length_map]; exact hn) hl.1 hstk (lv_room (by rw [mr_cats]; exact hcat)) d hcs) hS hl k
theorem mrE_callCN {y : MethodName} {idx n b : Nat} {bytes : ByteArray} {maxL rf2 rl2 mc ms h2 : Nat} {w2 : mr_Wd} (as : List mr_AV) {st0 : List mr_AV} (hh : mr_Hy p s m args meth c G own cc nL ret) (hne : nw_Ne s)
    (d : decode cc pc = .ok (.invokespecial idx, 3)) (hM : nw_Met l G y bytes maxL rf2 rl2 mc ms (vR b 0 :: as) w h w2 h2) (hl0 : va_Nw (.methodLinkNest own idx y RX6) s) (hcl : mr_CL y bytes maxL none n) (hy : y.name = "<init>") (hin : Cond.instanceMethod y ∈ mr_ws) (hR : rf2 + 1 ≤ R.frames ∧ 8 + (maxL + 11) + rl2 ≤ R.locals) (hn : as.length = n) (hst : st0 = as.reverse ++ vR b 0 :: st) (hcat : (st.map mr_cat).sum ≤ 8) (hcs : nc + mc ≤ R.cells ∧ ns + ms ≤ R.slots)
    (k : mr_E p l e R s m args below meth c G nL (nc + mc) (ns + ms) Q h2 (pc + 3) ls st w2) : mr_E p l e R s m args below meth c G nL nc ns Q h pc ls st0 w := by
  intro H locs lc hz hC hS hl
  obtain ⟨hx, hb, hml, hr, hlk, hown, hts, hK⟩ := id hh
  have hstk : st0.map (mr_cv G) = (as.map (mr_cv G)).reverse ++ .ref (mr_ad G b 0) :: st.map (mr_cv G) := by
    rw [hst]; simp [mr_cv]
  refine mrE_back (aa := (Value.ref (mr_ad G b 0) :: as.map (mr_cv G)).toArray) (va_runIN (e := e) (below := below) (meth := meth) (cells := nc) (slots := ns) (H := H) (locs := locs) (g := F0 m pc lc (st0.map (mr_cv G))) (rest := st.map (mr_cv G)) (As := as.map (mr_cv G)) (b := mr_ad G b 0) (n := n) (index := idx) ⟨hx, hb, hml, hown, hts⟩ hM ⟨va_cnB (host := RX6) n hts (mr_goodIn hcl.1) rfl rfl rfl hl0 (hts _ hcl.2.1) hcl.2.2 hR, hy, hts _ hin⟩
    ⟨nw_Pd.blind _ _ _ _, fun U hU hW => ⟨⟨⟨rfl, by rw [hU]; exact hC, hK.to (locs := locs) hW (by rw [hU]; exact hS)⟩, by rw [hU]; exact hz⟩, hne.to hW⟩⟩ rfl (by rw [List.length_map]; exact hn) hl.1 hstk (lv_room (by rw [mr_cats]; exact hcat)) d hcs) hS hl k
end NW5
/-- from the walk of a constructor's body to its contract -/
theorem nw_of {l : Launch} {G : mr_G} {y : MethodName} {cc : ByteArray} {nL rf rl mc ms h h2 : Nat} {a : List mr_AV} {w w2 : mr_Wd} (hy : plainFor y = true) (hn : (mr_en a).length ≤ nL) (hnm : y.name = "<init>")
    (k : ∀ (p : Program) (e : Env) (s : State) (m : MethodId) (args : Array Value) (below : List Frame) (meth : Method) (c : Code), mr_Hy p s m args meth c G y.cls cc nL none → meth.name = "<init>" → nw_Ne s → mr_E p l e { frames := rf, cells := mc, slots := ms, locals := rl } s m args below meth c G nL 0 0 (MQ below (nw_Q G (fun r w9 => r = none ∧ w9 = w2) h2) args s mc ms (mr_A G)) h 0 (mr_pad nL (mr_en a)) [] w) : nw_Met l G y cc nL rf rl mc ms a w h w2 h2 := by
  refine va_MetF (cc := cc) (maxL := nL) (ret := none) hy rfl ?_
  intro p e s m args below meth c s₁ B hml hv
  obtain ⟨⟨⟨rfl, hC, hK⟩, hz⟩, hne⟩ := hv
  have hts := atoms_spec (ws := Cond.code y cc nL none :: mr_ws) B.pre
  have hown : s.vm.findClass y.cls = some m.cls := findClass_of_methodNamed B.named
  have hin : meth.name = "<init>" := (name_of_methodNamed B.named B.method).1.trans hnm
  obtain ⟨h1, h9⟩ := mr_en_sl G a
  have hl := lv_entry (a.map (mr_cv G)) (n := nL) (by rw [h1]; exact hn)
  rw [lg_entry_eq]
  refine k p e s m _ below meth c ⟨B.exec, B.bytes, hml, B.returns, B.notSynchronized, hown, fun w hw => hts w (List.mem_cons_of_mem _ hw), hK⟩ hin hne s.heap [] _ hz hC va_S.rf ⟨hl.1, hl.2.1, fun i v hi => ?_⟩
  have h3 := h9 i v (mr_pad_at hi)
  rw [List.getElem?_toArray, List.getElem?_append_left (List.getElem?_eq_some_iff.mp h3).1]
  exact h3
