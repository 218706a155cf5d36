/-! THE CASES OF THE LAW'S LOOP -/
def mr_LS (i : Int) : List (Option mr_AV) := [some (vS 300), some (vR 0 0), some (vR 18 0), some (vR 28 0), some (vI i), none, none]
def mr_LH (p : Program) (s : State) (m : MethodId) (args : Array Value) (meth : Method) (c : Code) (G : mr_G) (rt : Option FieldType) (R : Room) (nc ns L : Nat) (xs : Nat → Int32) : Prop := mr_Hy p s m args meth c G RL cL_law 7 rt ∧ va_X (G.2.2.2.1 300) L xs s s.heap ∧ G.2.2.2.1 300 < s.heap.size ∧ (¬ mr_A G (G.2.2.2.1 300)) ∧ L < 2147483648 ∧ (12 ≤ R.frames ∧ 424 ≤ R.locals) ∧ nc ≤ R.cells ∧ ns ≤ R.slots
theorem mr_xr (x : Int32) : InR x.toInt := ⟨by have := Int32.le_toInt x; omega, by have := Int32.toInt_lt x; omega⟩
theorem mr_cat_r (r : Option mr_AV) : ((r.toList ++ []).map mr_cat).sum ≤ 8 := by
  match r with
  | none => exact Nat.zero_le _
  | some (.inl x) => exact (by decide : (1 : Nat) ≤ 8)
  | some (.inr (.inl x)) => exact (by decide : (2 : Nat) ≤ 8)
  | some (.inr (.inr (.inl q))) => exact (by decide : (1 : Nat) ≤ 8)
  | some (.inr (.inr (.inr j))) => exact (by decide : (1 : Nat) ≤ 8)
theorem mr_IV_0 {w : mr_Wd} (h : mr_IV w) : ∃ fs : List mr_AV, w 0 = eO 6 fs := by
  obtain ⟨n0, nx, ct, fk, g, f, im, S, I, th, tp, sz, zo, fr, kd, nb, ft, pl, wd, sm, md, li, sd, T, N, R, K, Sn, ik, s1, s2, ls, hX, hM, hC, h28⟩ := h
  exact hX.1.elim (fun sd h => ⟨_, h⟩)
section LWC
variable {p : Program} {l : Launch} {e : Env} {R : Room} {s : State} {m : MethodId} {args : Array Value} {below : List Frame} {meth : Method} {c : Code} {G : mr_G} {own : String} {cc : ByteArray} {nL : Nat} {rt : Option FieldType} {nc ns : Nat} {Q : State → Prop} {pc L : Nat} {xs : Nat → Int32} {ls : List (Option mr_AV)} {st : List mr_AV} {w : mr_Wd} {i : Int}
theorem mrD_callP {y : MethodName} {idx ci n b : Nat} {bytes : ByteArray} {maxL rf2 rl2 : Nat} {ret2 : Option FieldType} {T : List mr_AV → mr_Wd → (Option mr_AV → mr_Wd → Prop) → Prop} (Pp : Option mr_AV → mr_Wd → Prop) (as : List mr_AV) {fs : List mr_AV} {st0 : List mr_AV} (hh : mr_Hy p s m args meth c G own cc nL rt)
    (d : decode cc pc = .ok (.invokevirtual idx, 3)) (hM : mr_Ok l G y bytes maxL ret2 rf2 rl2 T) (hl0 : Cond.methodLink own idx y ∈ mr_ws) (hcl : mr_CL y bytes maxL ret2 n) (hcv : mr_CV y ci) (hR : rf2 + 1 ≤ R.frames ∧ 8 + (maxL + 11) + rl2 ≤ R.locals) (hn : as.length = n) (hst : st0 = as.reverse ++ vR b 0 :: st) (hcat : (st.map mr_cat).sum ≤ 8) (hw : w b = eO ci fs) (hcs : nc ≤ R.cells ∧ ns ≤ R.slots)
    (kk : T (vR b 0 :: as) w Pp) (k : ∀ (r : Option mr_AV) (w2 : mr_Wd), Pp r w2 → mr_DJ p l e R s m args below meth c G nL nc ns Q (pc + 3) ls (r.toList ++ st) w2) : mr_DJ p l e R s m args below meth c G nL nc ns Q pc ls st0 w := by
  intro H locs lc hC hS hl
  obtain ⟨hx, hb, hml, hr, hlk, hown, hts, hK⟩ := id hh
  obtain ⟨T0, N0, hci⟩ := hcv.2.2
  have hc := hC b
  rw [hw] at hc
  obtain ⟨r, q0, cell, q1, q2, q3, q4⟩ := hc
  have hfc : s.vm.findClass y.cls = some (G.1.1 ci) := (hK.1.1 ci _ hci).2.1
  have hstk : st0.map (mr_cv G) = (as.map (mr_cv G)).reverse ++ .ref (mr_ad G b 0) :: st.map (mr_cv G) := by
    rw [hst]; simp [mr_cv]
  exact mrD_back (nL := nL) (ls := ls) (a := (Value.ref (mr_ad G b 0) :: as.map (mr_cv G)).toArray) (va_runV (As := as.map (mr_cv G)) (b := mr_ad G b 0) (C := y.cls) (n := n) (index := idx) ⟨hx, hb, hml, hown, hts⟩ (hM (vR b 0 :: as) w _ kk) ⟨callB_of n hts (mr_goodIn hcl.1) rfl rfl rfl (hts _ hcl.2.1) (hts _ hl0) hcl.2.2 hR, hts _ hcv.1, hts _ hcv.2.1⟩
    ⟨mr_Pc.blind _ _ _, ⟨cell, q1, by rw [q3]; rfl, by rw [q2]; exact hfc⟩, fun U hU hW => ⟨rfl, by rw [hU]; exact hC, hK.to (locs := locs) hW (by rw [hU]; exact hS)⟩⟩ rfl (by rw [List.length_map]; exact hn) hl.1 hstk (lv_room (by rw [mr_cats]; exact hcat)) d hcs) hS k hl
theorem lc_feed (hL0 : mr_LH p s m args meth c G rt R nc ns L xs) (hi0 : 0 ≤ i) (hi1 : i + 6 ≤ L) (h : mr_IV w) (k : ∀ w2 : mr_Wd, mr_IV w2 → mr_DJ p l e R s m args below meth c G 7 nc ns Q 1334 (mr_LS i) [] w2) : mr_DJ p l e R s m args below meth c G 7 nc ns Q 180 (mr_LS i) [] w := by
  obtain ⟨hh, hX, hbl, hbA, hL, hRR, hcs⟩ := hL0
  refine mrD_aload_n hh dL_law_180 (a := 0) (b := 0) rfl ?_
  refine mrD_arg hh hX hbl hbA hL rfl rfl dL_law_181 dL_law_182 dL_law_184 dL_law_185 dL_law_186 (by omega) (by omega) ?_
  refine mrD_arg hh hX hbl hbA hL rfl rfl dL_law_187 dL_law_188 dL_law_190 dL_law_191 dL_law_192 (by omega) (by omega) ?_
  refine mrD_arg hh hX hbl hbA hL rfl rfl dL_law_193 dL_law_194 dL_law_196 dL_law_197 dL_law_198 (by omega) (by omega) ?_
  refine mrD_arg hh hX hbl hbA hL rfl rfl dL_law_199 dL_law_200 dL_law_202 dL_law_203 dL_law_204 (by omega) (by omega) ?_
  refine mrD_arg hh hX hbl hbA hL rfl rfl dL_law_205 dL_law_206 dL_law_208 dL_law_209 dL_law_210 (by omega) (by omega) ?_
  obtain ⟨fs0, hw0⟩ := mr_IV_0 h
  refine mrD_callP (fun r w1 => T_X7_feed [vR 18 0, vI ((xs (i + 1).toNat).toInt), vI ((xs (i + 2).toNat).toInt), vI ((xs (i + 3).toNat).toInt), vI ((xs (i + 4).toNat).toInt), vI ((xs (i + 5).toNat).toInt)] w1 (fun r2 w2 => mr_EQ r r2 w2)) [vI ((xs (i + 1).toNat).toInt), vI ((xs (i + 2).toNat).toInt), vI ((xs (i + 3).toNat).toInt), vI ((xs (i + 4).toNat).toInt), vI ((xs (i + 5).toNat).toInt)] hh dL_law_211 (ok_X6_feed l G) ml_L_19 cl_X6_feed cv_X6_feed ⟨Nat.le_trans (by decide) hRR.1, Nat.le_trans (by decide) hRR.2⟩ rfl rfl (Nat.zero_le _) hw0 hcs (cs_feed h (mr_xr _) (mr_xr _) (mr_xr _) (mr_xr _) (mr_xr _)) (fun r w1 h1 => ?_)
  obtain ⟨fs1, hw1⟩ : ∃ fs : List mr_AV, w1 18 = eO 7 fs := by
    obtain ⟨_, _, _, _, _, _, _, _, _, _, _, _, _, _, _, _, _, _, _, _, _, _, _, _, _, _, _, _, _, hM, _⟩ := h1
    exact ⟨_, hM.1⟩
  refine mrD_aload_n hh dL_law_214 (a := 18) (b := 0) rfl ?_
  refine mrD_arg hh hX hbl hbA hL rfl rfl dL_law_215 dL_law_216 dL_law_218 dL_law_219 dL_law_220 (by omega) (by omega) ?_
  refine mrD_arg hh hX hbl hbA hL rfl rfl dL_law_221 dL_law_222 dL_law_224 dL_law_225 dL_law_226 (by omega) (by omega) ?_
  refine mrD_arg hh hX hbl hbA hL rfl rfl dL_law_227 dL_law_228 dL_law_230 dL_law_231 dL_law_232 (by omega) (by omega) ?_
  refine mrD_arg hh hX hbl hbA hL rfl rfl dL_law_233 dL_law_234 dL_law_236 dL_law_237 dL_law_238 (by omega) (by omega) ?_
  refine mrD_arg hh hX hbl hbA hL rfl rfl dL_law_239 dL_law_240 dL_law_242 dL_law_243 dL_law_244 (by omega) (by omega) ?_
  refine mrD_callP (st := r.toList ++ []) (fun r2 w2 => mr_EQ r r2 w2) [vI ((xs (i + 1).toNat).toInt), vI ((xs (i + 2).toNat).toInt), vI ((xs (i + 3).toNat).toInt), vI ((xs (i + 4).toNat).toInt), vI ((xs (i + 5).toNat).toInt)] hh dL_law_245 (ok_X7_feed l G) ml_L_23 cl_X7_feed cv_X7_feed ⟨Nat.le_trans (by decide) hRR.1, Nat.le_trans (by decide) hRR.2⟩ rfl rfl (mr_cat_r r) hw1 hcs h1 (fun r2 w2 h2 => ?_)
  obtain ⟨v, hv, hv2, hI⟩ := h2
  subst hv hv2
  exact mrD_same (x := v) (y := v) (st := []) (tgt := 1334) hh dL_law_248 (by decide) rfl (k w2 hI)
theorem lc_end (hL0 : mr_LH p s m args meth c G rt R nc ns L xs) (hi0 : 0 ≤ i) (hi1 : i + 6 ≤ L) (h : mr_IV w) (k : ∀ w2 : mr_Wd, mr_IV w2 → mr_DJ p l e R s m args below meth c G 7 nc ns Q 1334 (mr_LS i) [] w2) : mr_DJ p l e R s m args below meth c G 7 nc ns Q 253 (mr_LS i) [] w := by
  obtain ⟨hh, hX, hbl, hbA, hL, hRR, hcs⟩ := hL0
  refine mrD_aload_n hh dL_law_253 (a := 0) (b := 0) rfl ?_
  refine mrD_arg hh hX hbl hbA hL rfl rfl dL_law_254 dL_law_255 dL_law_257 dL_law_258 dL_law_259 (by omega) (by omega) ?_
  obtain ⟨fs0, hw0⟩ := mr_IV_0 h
  refine mrD_callP (fun r w1 => T_X7_end [vR 18 0, vI ((xs (i + 1).toNat).toInt)] w1 (fun r2 w2 => mr_EQ r r2 w2)) [vI ((xs (i + 1).toNat).toInt)] hh dL_law_260 (ok_X6_end l G) ml_L_24 cl_X6_end cv_X6_end ⟨Nat.le_trans (by decide) hRR.1, Nat.le_trans (by decide) hRR.2⟩ rfl rfl (Nat.zero_le _) hw0 hcs (cs_end h (mr_xr _)) (fun r w1 h1 => ?_)
  obtain ⟨fs1, hw1⟩ : ∃ fs : List mr_AV, w1 18 = eO 7 fs := by
    obtain ⟨_, _, _, _, _, _, _, _, _, _, _, _, _, _, _, _, _, _, _, _, _, _, _, _, _, hM, _⟩ := h1
    exact ⟨_, hM.1⟩
  refine mrD_aload_n hh dL_law_263 (a := 18) (b := 0) rfl ?_
  refine mrD_arg hh hX hbl hbA hL rfl rfl dL_law_264 dL_law_265 dL_law_267 dL_law_268 dL_law_269 (by omega) (by omega) ?_
  refine mrD_callP (st := r.toList ++ []) (fun r2 w2 => mr_EQ r r2 w2) [vI ((xs (i + 1).toNat).toInt)] hh dL_law_270 (ok_X7_end l G) ml_L_28 cl_X7_end cv_X7_end ⟨Nat.le_trans (by decide) hRR.1, Nat.le_trans (by decide) hRR.2⟩ rfl rfl (mr_cat_r r) hw1 hcs h1 (fun r2 w2 h2 => ?_)
  obtain ⟨v, hv, hv2, hI⟩ := h2
  subst hv hv2
  exact mrD_same (x := v) (y := v) (st := []) (tgt := 1334) hh dL_law_273 (by decide) rfl (k w2 hI)
theorem lc_text (hL0 : mr_LH p s m args meth c G rt R nc ns L xs) (hi0 : 0 ≤ i) (hi1 : i + 6 ≤ L) (h : mr_IV w) (k : ∀ w2 : mr_Wd, mr_IV w2 → mr_DJ p l e R s m args below meth c G 7 nc ns Q 1334 (mr_LS i) [] w2) : mr_DJ p l e R s m args below meth c G 7 nc ns Q 278 (mr_LS i) [] w := by
  obtain ⟨hh, hX, hbl, hbA, hL, hRR, hcs⟩ := hL0
  refine mrD_aload_n hh dL_law_278 (a := 0) (b := 0) rfl ?_
  obtain ⟨fs0, hw0⟩ := mr_IV_0 h
  refine mrD_callP (fun r w1 => T_X7_text [vR 18 0] w1 (fun r2 w2 => mr_EQ r r2 w2)) [] hh dL_law_279 (ok_X6_text l G) ml_L_29 cl_X6_text cv_X6_text ⟨Nat.le_trans (by decide) hRR.1, Nat.le_trans (by decide) hRR.2⟩ rfl rfl (Nat.zero_le _) hw0 hcs (cs_text h) (fun r w1 h1 => ?_)
  obtain ⟨fs1, hw1⟩ : ∃ fs : List mr_AV, w1 18 = eO 7 fs := by
    obtain ⟨_, _, _, _, _, _, _, _, _, _, _, _, _, _, _, _, _, _, _, _, _, _, _, _, _, hM, _⟩ := h1
    exact ⟨_, hM.1⟩
  refine mrD_aload_n hh dL_law_282 (a := 18) (b := 0) rfl ?_
  refine mrD_callP (st := r.toList ++ []) (fun r2 w2 => mr_EQ r r2 w2) [] hh dL_law_283 (ok_X7_text l G) ml_L_33 cl_X7_text cv_X7_text ⟨Nat.le_trans (by decide) hRR.1, Nat.le_trans (by decide) hRR.2⟩ rfl rfl (mr_cat_r r) hw1 hcs h1 (fun r2 w2 h2 => ?_)
  obtain ⟨v, hv, hv2, hI⟩ := h2
  subst hv hv2
  exact mrD_same (x := v) (y := v) (st := []) (tgt := 1334) hh dL_law_286 (by decide) rfl (k w2 hI)
theorem lc_fault (hL0 : mr_LH p s m args meth c G rt R nc ns L xs) (hi0 : 0 ≤ i) (hi1 : i + 6 ≤ L) (h : mr_IV w) (k : ∀ w2 : mr_Wd, mr_IV w2 → mr_DJ p l e R s m args below meth c G 7 nc ns Q 1334 (mr_LS i) [] w2) : mr_DJ p l e R s m args below meth c G 7 nc ns Q 291 (mr_LS i) [] w := by
  obtain ⟨hh, hX, hbl, hbA, hL, hRR, hcs⟩ := hL0
  refine mrD_aload_n hh dL_law_291 (a := 0) (b := 0) rfl ?_
  obtain ⟨fs0, hw0⟩ := mr_IV_0 h
  refine mrD_callP (fun r w1 => T_X7_fault [vR 18 0] w1 (fun r2 w2 => mr_EQ r r2 w2)) [] hh dL_law_292 (ok_X6_fault l G) ml_L_34 cl_X6_fault cv_X6_fault ⟨Nat.le_trans (by decide) hRR.1, Nat.le_trans (by decide) hRR.2⟩ rfl rfl (Nat.zero_le _) hw0 hcs (cs_fault h) (fun r w1 h1 => ?_)
  obtain ⟨fs1, hw1⟩ : ∃ fs : List mr_AV, w1 18 = eO 7 fs := by
    obtain ⟨_, _, _, _, _, _, _, _, _, _, _, _, _, _, _, _, _, _, _, _, _, _, _, _, hM, _⟩ := h1
    exact ⟨_, hM.1⟩
  refine mrD_aload_n hh dL_law_295 (a := 18) (b := 0) rfl ?_
  refine mrD_callP (st := r.toList ++ []) (fun r2 w2 => mr_EQ r r2 w2) [] hh dL_law_296 (ok_X7_fault l G) ml_L_37 cl_X7_fault cv_X7_fault ⟨Nat.le_trans (by decide) hRR.1, Nat.le_trans (by decide) hRR.2⟩ rfl rfl (mr_cat_r r) hw1 hcs h1 (fun r2 w2 h2 => ?_)
  obtain ⟨v, hv, hv2, hI⟩ := h2
  subst hv hv2
  exact mrD_same (x := v) (y := v) (st := []) (tgt := 1334) hh dL_law_299 (by decide) rfl (k w2 hI)
theorem lc_now (hL0 : mr_LH p s m args meth c G rt R nc ns L xs) (hi0 : 0 ≤ i) (hi1 : i + 6 ≤ L) (h : mr_IV w) (k : ∀ w2 : mr_Wd, mr_IV w2 → mr_DJ p l e R s m args below meth c G 7 nc ns Q 1334 (mr_LS i) [] w2) : mr_DJ p l e R s m args below meth c G 7 nc ns Q 304 (mr_LS i) [] w := by
  obtain ⟨hh, hX, hbl, hbA, hL, hRR, hcs⟩ := hL0
  refine mrD_aload_n hh dL_law_304 (a := 0) (b := 0) rfl ?_
  refine mrD_arg hh hX hbl hbA hL rfl rfl dL_law_305 dL_law_306 dL_law_308 dL_law_309 dL_law_310 (by omega) (by omega) ?_
  obtain ⟨fs0, hw0⟩ := mr_IV_0 h
  refine mrD_callP (fun r w1 => T_X7_now [vR 18 0, vI ((xs (i + 1).toNat).toInt)] w1 (fun r2 w2 => mr_EQ r r2 w2)) [vI ((xs (i + 1).toNat).toInt)] hh dL_law_311 (ok_X6_now l G) ml_L_38 cl_X6_now cv_X6_now ⟨Nat.le_trans (by decide) hRR.1, Nat.le_trans (by decide) hRR.2⟩ rfl rfl (Nat.zero_le _) hw0 hcs (cs_now h (mr_xr _)) (fun r w1 h1 => ?_)
  obtain ⟨fs1, hw1⟩ : ∃ fs : List mr_AV, w1 18 = eO 7 fs := by
    obtain ⟨_, _, _, _, _, _, _, _, _, _, _, _, _, _, _, _, _, _, _, _, _, _, _, _, _, hM, _⟩ := h1
    exact ⟨_, hM.1⟩
  refine mrD_aload_n hh dL_law_314 (a := 18) (b := 0) rfl ?_
  refine mrD_arg hh hX hbl hbA hL rfl rfl dL_law_315 dL_law_316 dL_law_318 dL_law_319 dL_law_320 (by omega) (by omega) ?_
  refine mrD_callP (st := r.toList ++ []) (fun r2 w2 => mr_EQ r r2 w2) [vI ((xs (i + 1).toNat).toInt)] hh dL_law_321 (ok_X7_now l G) ml_L_42 cl_X7_now cv_X7_now ⟨Nat.le_trans (by decide) hRR.1, Nat.le_trans (by decide) hRR.2⟩ rfl rfl (mr_cat_r r) hw1 hcs h1 (fun r2 w2 h2 => ?_)
  obtain ⟨v, hv, hv2, hI⟩ := h2
  subst hv hv2
  exact mrD_same (x := v) (y := v) (st := []) (tgt := 1334) hh dL_law_324 (by decide) rfl (k w2 hI)
theorem lc_lead (hL0 : mr_LH p s m args meth c G rt R nc ns L xs) (hi0 : 0 ≤ i) (hi1 : i + 6 ≤ L) (h : mr_IV w) (k : ∀ w2 : mr_Wd, mr_IV w2 → mr_DJ p l e R s m args below meth c G 7 nc ns Q 1334 (mr_LS i) [] w2) : mr_DJ p l e R s m args below meth c G 7 nc ns Q 329 (mr_LS i) [] w := by
  obtain ⟨hh, hX, hbl, hbA, hL, hRR, hcs⟩ := hL0
  refine mrD_aload_n hh dL_law_329 (a := 0) (b := 0) rfl ?_
  refine mrD_arg hh hX hbl hbA hL rfl rfl dL_law_330 dL_law_331 dL_law_333 dL_law_334 dL_law_335 (by omega) (by omega) ?_
  refine mrD_arg hh hX hbl hbA hL rfl rfl dL_law_336 dL_law_337 dL_law_339 dL_law_340 dL_law_341 (by omega) (by omega) ?_
  obtain ⟨fs0, hw0⟩ := mr_IV_0 h
  refine mrD_callP (fun r w1 => T_X7_lead [vR 18 0, vI ((xs (i + 1).toNat).toInt), vI ((xs (i + 2).toNat).toInt)] w1 (fun r2 w2 => mr_EQ r r2 w2)) [vI ((xs (i + 1).toNat).toInt), vI ((xs (i + 2).toNat).toInt)] hh dL_law_342 (ok_X6_lead l G) ml_L_43 cl_X6_lead cv_X6_lead ⟨Nat.le_trans (by decide) hRR.1, Nat.le_trans (by decide) hRR.2⟩ rfl rfl (Nat.zero_le _) hw0 hcs (cs_lead h (mr_xr _) (mr_xr _)) (fun r w1 h1 => ?_)
  obtain ⟨fs1, hw1⟩ : ∃ fs : List mr_AV, w1 18 = eO 7 fs := by
    obtain ⟨_, _, _, _, _, _, _, _, _, _, _, _, _, _, _, _, _, _, _, _, _, _, _, _, _, _, _, _, hM, _⟩ := h1
    exact ⟨_, hM.1⟩
  refine mrD_aload_n hh dL_law_345 (a := 18) (b := 0) rfl ?_
  refine mrD_arg hh hX hbl hbA hL rfl rfl dL_law_346 dL_law_347 dL_law_349 dL_law_350 dL_law_351 (by omega) (by omega) ?_
  refine mrD_arg hh hX hbl hbA hL rfl rfl dL_law_352 dL_law_353 dL_law_355 dL_law_356 dL_law_357 (by omega) (by omega) ?_
  refine mrD_callP (st := r.toList ++ []) (fun r2 w2 => mr_EQ r r2 w2) [vI ((xs (i + 1).toNat).toInt), vI ((xs (i + 2).toNat).toInt)] hh dL_law_358 (ok_X7_lead l G) ml_L_46 cl_X7_lead cv_X7_lead ⟨Nat.le_trans (by decide) hRR.1, Nat.le_trans (by decide) hRR.2⟩ rfl rfl (mr_cat_r r) hw1 hcs h1 (fun r2 w2 h2 => ?_)
  obtain ⟨v, hv, hv2, hI⟩ := h2
  subst hv hv2
  exact mrD_same (x := v) (y := v) (st := []) (tgt := 1334) hh dL_law_361 (by decide) rfl (k w2 hI)
theorem lc_form (hL0 : mr_LH p s m args meth c G rt R nc ns L xs) (hi0 : 0 ≤ i) (hi1 : i + 6 ≤ L) (h : mr_IV w) (k : ∀ w2 : mr_Wd, mr_IV w2 → mr_DJ p l e R s m args below meth c G 7 nc ns Q 1334 (mr_LS i) [] w2) : mr_DJ p l e R s m args below meth c G 7 nc ns Q 366 (mr_LS i) [] w := by
  obtain ⟨hh, hX, hbl, hbA, hL, hRR, hcs⟩ := hL0
  refine mrD_aload_n hh dL_law_366 (a := 0) (b := 0) rfl ?_
  refine mrD_arg hh hX hbl hbA hL rfl rfl dL_law_367 dL_law_368 dL_law_370 dL_law_371 dL_law_372 (by omega) (by omega) ?_
  refine mrD_arg hh hX hbl hbA hL rfl rfl dL_law_373 dL_law_374 dL_law_376 dL_law_377 dL_law_378 (by omega) (by omega) ?_
  obtain ⟨fs0, hw0⟩ := mr_IV_0 h
  refine mrD_callP (fun r w1 => T_X7_form [vR 18 0, vI ((xs (i + 1).toNat).toInt), vI ((xs (i + 2).toNat).toInt)] w1 (fun r2 w2 => mr_EQ r r2 w2)) [vI ((xs (i + 1).toNat).toInt), vI ((xs (i + 2).toNat).toInt)] hh dL_law_379 (ok_X6_form l G) ml_L_47 cl_X6_form cv_X6_form ⟨Nat.le_trans (by decide) hRR.1, Nat.le_trans (by decide) hRR.2⟩ rfl rfl (Nat.zero_le _) hw0 hcs (cs_form h (mr_xr _) (mr_xr _)) (fun r w1 h1 => ?_)
  obtain ⟨fs1, hw1⟩ : ∃ fs : List mr_AV, w1 18 = eO 7 fs := by
    obtain ⟨_, _, _, _, _, _, _, _, _, _, _, _, _, _, _, _, _, _, _, _, _, _, _, _, _, _, _, _, hM, _⟩ := h1
    exact ⟨_, hM.1⟩
  refine mrD_aload_n hh dL_law_382 (a := 18) (b := 0) rfl ?_
  refine mrD_arg hh hX hbl hbA hL rfl rfl dL_law_383 dL_law_384 dL_law_386 dL_law_387 dL_law_388 (by omega) (by omega) ?_
  refine mrD_arg hh hX hbl hbA hL rfl rfl dL_law_389 dL_law_390 dL_law_392 dL_law_393 dL_law_394 (by omega) (by omega) ?_
  refine mrD_callP (st := r.toList ++ []) (fun r2 w2 => mr_EQ r r2 w2) [vI ((xs (i + 1).toNat).toInt), vI ((xs (i + 2).toNat).toInt)] hh dL_law_395 (ok_X7_form l G) ml_L_50 cl_X7_form cv_X7_form ⟨Nat.le_trans (by decide) hRR.1, Nat.le_trans (by decide) hRR.2⟩ rfl rfl (mr_cat_r r) hw1 hcs h1 (fun r2 w2 h2 => ?_)
  obtain ⟨v, hv, hv2, hI⟩ := h2
  subst hv hv2
  exact mrD_same (x := v) (y := v) (st := []) (tgt := 1334) hh dL_law_398 (by decide) rfl (k w2 hI)
theorem lc_many (hL0 : mr_LH p s m args meth c G rt R nc ns L xs) (hi0 : 0 ≤ i) (hi1 : i + 6 ≤ L) (h : mr_IV w) (k : ∀ w2 : mr_Wd, mr_IV w2 → mr_DJ p l e R s m args below meth c G 7 nc ns Q 1334 (mr_LS i) [] w2) : mr_DJ p l e R s m args below meth c G 7 nc ns Q 403 (mr_LS i) [] w := by
  obtain ⟨hh, hX, hbl, hbA, hL, hRR, hcs⟩ := hL0
  refine mrD_aload_n hh dL_law_403 (a := 0) (b := 0) rfl ?_
  refine mrD_arg hh hX hbl hbA hL rfl rfl dL_law_404 dL_law_405 dL_law_407 dL_law_408 dL_law_409 (by omega) (by omega) ?_
  obtain ⟨fs0, hw0⟩ := mr_IV_0 h
  refine mrD_callP (fun r w1 => T_X7_many [vR 18 0, vI ((xs (i + 1).toNat).toInt)] w1 (fun r2 w2 => mr_EQ r r2 w2)) [vI ((xs (i + 1).toNat).toInt)] hh dL_law_410 (ok_X6_many l G) ml_L_51 cl_X6_many cv_X6_many ⟨Nat.le_trans (by decide) hRR.1, Nat.le_trans (by decide) hRR.2⟩ rfl rfl (Nat.zero_le _) hw0 hcs (cs_many h (mr_xr _)) (fun r w1 h1 => ?_)
  obtain ⟨fs1, hw1⟩ : ∃ fs : List mr_AV, w1 18 = eO 7 fs := by
    obtain ⟨_, _, _, _, _, _, _, _, _, _, _, _, _, _, _, _, _, _, _, _, _, _, _, _, _, _, _, hM, _⟩ := h1
    exact ⟨_, hM.1⟩
  refine mrD_aload_n hh dL_law_413 (a := 18) (b := 0) rfl ?_
  refine mrD_arg hh hX hbl hbA hL rfl rfl dL_law_414 dL_law_415 dL_law_417 dL_law_418 dL_law_419 (by omega) (by omega) ?_
  refine mrD_callP (st := r.toList ++ []) (fun r2 w2 => mr_EQ r r2 w2) [vI ((xs (i + 1).toNat).toInt)] hh dL_law_420 (ok_X7_many l G) ml_L_54 cl_X7_many cv_X7_many ⟨Nat.le_trans (by decide) hRR.1, Nat.le_trans (by decide) hRR.2⟩ rfl rfl (mr_cat_r r) hw1 hcs h1 (fun r2 w2 h2 => ?_)
  obtain ⟨v, hv, hv2, hI⟩ := h2
  subst hv hv2
  exact mrD_same (x := v) (y := v) (st := []) (tgt := 1334) hh dL_law_423 (by decide) rfl (k w2 hI)
theorem lc_rank (hL0 : mr_LH p s m args meth c G rt R nc ns L xs) (hi0 : 0 ≤ i) (hi1 : i + 6 ≤ L) (h : mr_IV w) (k : ∀ w2 : mr_Wd, mr_IV w2 → mr_DJ p l e R s m args below meth c G 7 nc ns Q 1334 (mr_LS i) [] w2) : mr_DJ p l e R s m args below meth c G 7 nc ns Q 496 (mr_LS i) [] w := by
  obtain ⟨hh, hX, hbl, hbA, hL, hRR, hcs⟩ := hL0
  refine mrD_aload_n hh dL_law_496 (a := 0) (b := 0) rfl ?_
  refine mrD_arg hh hX hbl hbA hL rfl rfl dL_law_497 dL_law_498 dL_law_500 dL_law_501 dL_law_502 (by omega) (by omega) ?_
  refine mrD_arg hh hX hbl hbA hL rfl rfl dL_law_503 dL_law_504 dL_law_506 dL_law_507 dL_law_508 (by omega) (by omega) ?_
  refine mrD_arg hh hX hbl hbA hL rfl rfl dL_law_509 dL_law_510 dL_law_512 dL_law_513 dL_law_514 (by omega) (by omega) ?_
  refine mrD_arg hh hX hbl hbA hL rfl rfl dL_law_515 dL_law_516 dL_law_518 dL_law_519 dL_law_520 (by omega) (by omega) ?_
  obtain ⟨fs0, hw0⟩ := mr_IV_0 h
  refine mrD_callP (fun r w1 => T_X7_rank [vR 18 0, vI ((xs (i + 1).toNat).toInt), vI ((xs (i + 2).toNat).toInt), vI ((xs (i + 3).toNat).toInt), vI ((xs (i + 4).toNat).toInt)] w1 (fun r2 w2 => mr_EQ r r2 w2)) [vI ((xs (i + 1).toNat).toInt), vI ((xs (i + 2).toNat).toInt), vI ((xs (i + 3).toNat).toInt), vI ((xs (i + 4).toNat).toInt)] hh dL_law_521 (ok_X6_rank l G) ml_L_64 cl_X6_rank cv_X6_rank ⟨Nat.le_trans (by decide) hRR.1, Nat.le_trans (by decide) hRR.2⟩ rfl rfl (Nat.zero_le _) hw0 hcs (cs_rank h (mr_xr _) (mr_xr _) (mr_xr _) (mr_xr _)) (fun r w1 h1 => ?_)
  obtain ⟨fs1, hw1⟩ : ∃ fs : List mr_AV, w1 18 = eO 7 fs := by
    obtain ⟨_, _, _, _, _, _, _, _, _, _, _, _, _, _, _, _, _, _, _, _, _, _, _, _, _, _, _, _, _, _, hM, _⟩ := h1
    exact ⟨_, hM.1⟩
  refine mrD_aload_n hh dL_law_524 (a := 18) (b := 0) rfl ?_
  refine mrD_arg hh hX hbl hbA hL rfl rfl dL_law_525 dL_law_526 dL_law_528 dL_law_529 dL_law_530 (by omega) (by omega) ?_
  refine mrD_arg hh hX hbl hbA hL rfl rfl dL_law_531 dL_law_532 dL_law_534 dL_law_535 dL_law_536 (by omega) (by omega) ?_
  refine mrD_arg hh hX hbl hbA hL rfl rfl dL_law_537 dL_law_538 dL_law_540 dL_law_541 dL_law_542 (by omega) (by omega) ?_
  refine mrD_arg hh hX hbl hbA hL rfl rfl dL_law_543 dL_law_544 dL_law_546 dL_law_547 dL_law_548 (by omega) (by omega) ?_
  refine mrD_callP (st := r.toList ++ []) (fun r2 w2 => mr_EQ r r2 w2) [vI ((xs (i + 1).toNat).toInt), vI ((xs (i + 2).toNat).toInt), vI ((xs (i + 3).toNat).toInt), vI ((xs (i + 4).toNat).toInt)] hh dL_law_549 (ok_X7_rank l G) ml_L_68 cl_X7_rank cv_X7_rank ⟨Nat.le_trans (by decide) hRR.1, Nat.le_trans (by decide) hRR.2⟩ rfl rfl (mr_cat_r r) hw1 hcs h1 (fun r2 w2 h2 => ?_)
  obtain ⟨v, hv, hv2, hI⟩ := h2
  subst hv hv2
  exact mrD_same (x := v) (y := v) (st := []) (tgt := 1334) hh dL_law_552 (by decide) rfl (k w2 hI)
theorem lc_beside (hL0 : mr_LH p s m args meth c G rt R nc ns L xs) (hi0 : 0 ≤ i) (hi1 : i + 6 ≤ L) (h : mr_IV w) (k : ∀ w2 : mr_Wd, mr_IV w2 → mr_DJ p l e R s m args below meth c G 7 nc ns Q 1334 (mr_LS i) [] w2) : mr_DJ p l e R s m args below meth c G 7 nc ns Q 557 (mr_LS i) [] w := by
  obtain ⟨hh, hX, hbl, hbA, hL, hRR, hcs⟩ := hL0
  refine mrD_aload_n hh dL_law_557 (a := 0) (b := 0) rfl ?_
  refine mrD_arg hh hX hbl hbA hL rfl rfl dL_law_558 dL_law_559 dL_law_561 dL_law_562 dL_law_563 (by omega) (by omega) ?_
  refine mrD_arg hh hX hbl hbA hL rfl rfl dL_law_564 dL_law_565 dL_law_567 dL_law_568 dL_law_569 (by omega) (by omega) ?_
  refine mrD_arg hh hX hbl hbA hL rfl rfl dL_law_570 dL_law_571 dL_law_573 dL_law_574 dL_law_575 (by omega) (by omega) ?_
  refine mrD_arg hh hX hbl hbA hL rfl rfl dL_law_576 dL_law_577 dL_law_579 dL_law_580 dL_law_581 (by omega) (by omega) ?_
  obtain ⟨fs0, hw0⟩ := mr_IV_0 h
  refine mrD_callP (fun r w1 => T_X7_beside [vR 18 0, vI ((xs (i + 1).toNat).toInt), vI ((xs (i + 2).toNat).toInt), vI ((xs (i + 3).toNat).toInt), vI ((xs (i + 4).toNat).toInt)] w1 (fun r2 w2 => mr_EQ r r2 w2)) [vI ((xs (i + 1).toNat).toInt), vI ((xs (i + 2).toNat).toInt), vI ((xs (i + 3).toNat).toInt), vI ((xs (i + 4).toNat).toInt)] hh dL_law_582 (ok_X6_beside l G) ml_L_69 cl_X6_beside cv_X6_beside ⟨Nat.le_trans (by decide) hRR.1, Nat.le_trans (by decide) hRR.2⟩ rfl rfl (Nat.zero_le _) hw0 hcs (cs_beside h (mr_xr _) (mr_xr _) (mr_xr _) (mr_xr _)) (fun r w1 h1 => ?_)
  obtain ⟨fs1, hw1⟩ : ∃ fs : List mr_AV, w1 18 = eO 7 fs := by
    obtain ⟨_, _, _, _, _, _, _, _, _, _, _, _, _, _, _, _, _, _, _, _, _, _, _, _, _, _, _, _, _, _, hM, _⟩ := h1
    exact ⟨_, hM.1⟩
  refine mrD_aload_n hh dL_law_585 (a := 18) (b := 0) rfl ?_
  refine mrD_arg hh hX hbl hbA hL rfl rfl dL_law_586 dL_law_587 dL_law_589 dL_law_590 dL_law_591 (by omega) (by omega) ?_
  refine mrD_arg hh hX hbl hbA hL rfl rfl dL_law_592 dL_law_593 dL_law_595 dL_law_596 dL_law_597 (by omega) (by omega) ?_
  refine mrD_arg hh hX hbl hbA hL rfl rfl dL_law_598 dL_law_599 dL_law_601 dL_law_602 dL_law_603 (by omega) (by omega) ?_
  refine mrD_arg hh hX hbl hbA hL rfl rfl dL_law_604 dL_law_605 dL_law_607 dL_law_608 dL_law_609 (by omega) (by omega) ?_
  refine mrD_callP (st := r.toList ++ []) (fun r2 w2 => mr_EQ r r2 w2) [vI ((xs (i + 1).toNat).toInt), vI ((xs (i + 2).toNat).toInt), vI ((xs (i + 3).toNat).toInt), vI ((xs (i + 4).toNat).toInt)] hh dL_law_610 (ok_X7_beside l G) ml_L_72 cl_X7_beside cv_X7_beside ⟨Nat.le_trans (by decide) hRR.1, Nat.le_trans (by decide) hRR.2⟩ rfl rfl (mr_cat_r r) hw1 hcs h1 (fun r2 w2 h2 => ?_)
  obtain ⟨v, hv, hv2, hI⟩ := h2
  subst hv hv2
  exact mrD_same (x := v) (y := v) (st := []) (tgt := 1334) hh dL_law_613 (by decide) rfl (k w2 hI)
theorem lc_few (hL0 : mr_LH p s m args meth c G rt R nc ns L xs) (hi0 : 0 ≤ i) (hi1 : i + 6 ≤ L) (h : mr_IV w) (k : ∀ w2 : mr_Wd, mr_IV w2 → mr_DJ p l e R s m args below meth c G 7 nc ns Q 1334 (mr_LS i) [] w2) : mr_DJ p l e R s m args below meth c G 7 nc ns Q 618 (mr_LS i) [] w := by
  obtain ⟨hh, hX, hbl, hbA, hL, hRR, hcs⟩ := hL0
  refine mrD_aload_n hh dL_law_618 (a := 0) (b := 0) rfl ?_
  refine mrD_arg hh hX hbl hbA hL rfl rfl dL_law_619 dL_law_620 dL_law_622 dL_law_623 dL_law_624 (by omega) (by omega) ?_
  obtain ⟨fs0, hw0⟩ := mr_IV_0 h
  refine mrD_callP (fun r w1 => T_X7_few [vR 18 0, vI ((xs (i + 1).toNat).toInt)] w1 (fun r2 w2 => mr_EQ r r2 w2)) [vI ((xs (i + 1).toNat).toInt)] hh dL_law_625 (ok_X6_few l G) ml_L_73 cl_X6_few cv_X6_few ⟨Nat.le_trans (by decide) hRR.1, Nat.le_trans (by decide) hRR.2⟩ rfl rfl (Nat.zero_le _) hw0 hcs (cs_few h (mr_xr _)) (fun r w1 h1 => ?_)
  obtain ⟨fs1, hw1⟩ : ∃ fs : List mr_AV, w1 18 = eO 7 fs := by
    obtain ⟨_, _, _, _, _, _, _, _, _, _, _, _, _, _, _, _, _, _, _, _, _, _, _, _, _, _, _, hM, _⟩ := h1
    exact ⟨_, hM.1⟩
  refine mrD_aload_n hh dL_law_628 (a := 18) (b := 0) rfl ?_
  refine mrD_arg hh hX hbl hbA hL rfl rfl dL_law_629 dL_law_630 dL_law_632 dL_law_633 dL_law_634 (by omega) (by omega) ?_
  refine mrD_callP (st := r.toList ++ []) (fun r2 w2 => mr_EQ r r2 w2) [vI ((xs (i + 1).toNat).toInt)] hh dL_law_635 (ok_X7_few l G) ml_L_76 cl_X7_few cv_X7_few ⟨Nat.le_trans (by decide) hRR.1, Nat.le_trans (by decide) hRR.2⟩ rfl rfl (mr_cat_r r) hw1 hcs h1 (fun r2 w2 h2 => ?_)
  obtain ⟨v, hv, hv2, hI⟩ := h2
  subst hv hv2
  exact mrD_same (x := v) (y := v) (st := []) (tgt := 1334) hh dL_law_638 (by decide) rfl (k w2 hI)
theorem lc_nought (hL0 : mr_LH p s m args meth c G rt R nc ns L xs) (hi0 : 0 ≤ i) (hi1 : i + 6 ≤ L) (h : mr_IV w) (k : ∀ w2 : mr_Wd, mr_IV w2 → mr_DJ p l e R s m args below meth c G 7 nc ns Q 1334 (mr_LS i) [] w2) : mr_DJ p l e R s m args below meth c G 7 nc ns Q 643 (mr_LS i) [] w := by
  obtain ⟨hh, hX, hbl, hbA, hL, hRR, hcs⟩ := hL0
  refine mrD_aload_n hh dL_law_643 (a := 0) (b := 0) rfl ?_
  refine mrD_arg hh hX hbl hbA hL rfl rfl dL_law_644 dL_law_645 dL_law_647 dL_law_648 dL_law_649 (by omega) (by omega) ?_
  obtain ⟨fs0, hw0⟩ := mr_IV_0 h
  refine mrD_callP (fun r w1 => T_X7_nought [vR 18 0, vI ((xs (i + 1).toNat).toInt)] w1 (fun r2 w2 => mr_EQ r r2 w2)) [vI ((xs (i + 1).toNat).toInt)] hh dL_law_650 (ok_X6_nought l G) ml_L_77 cl_X6_nought cv_X6_nought ⟨Nat.le_trans (by decide) hRR.1, Nat.le_trans (by decide) hRR.2⟩ rfl rfl (Nat.zero_le _) hw0 hcs (cs_nought h (mr_xr _)) (fun r w1 h1 => ?_)
  obtain ⟨fs1, hw1⟩ : ∃ fs : List mr_AV, w1 18 = eO 7 fs := by
    obtain ⟨_, _, _, _, _, _, _, _, _, _, _, _, _, _, _, _, _, _, _, _, _, _, _, _, _, _, _, hM, _⟩ := h1
    exact ⟨_, hM.1⟩
  refine mrD_aload_n hh dL_law_653 (a := 18) (b := 0) rfl ?_
  refine mrD_arg hh hX hbl hbA hL rfl rfl dL_law_654 dL_law_655 dL_law_657 dL_law_658 dL_law_659 (by omega) (by omega) ?_
  refine mrD_callP (st := r.toList ++ []) (fun r2 w2 => mr_EQ r r2 w2) [vI ((xs (i + 1).toNat).toInt)] hh dL_law_660 (ok_X7_nought l G) ml_L_80 cl_X7_nought cv_X7_nought ⟨Nat.le_trans (by decide) hRR.1, Nat.le_trans (by decide) hRR.2⟩ rfl rfl (mr_cat_r r) hw1 hcs h1 (fun r2 w2 h2 => ?_)
  obtain ⟨v, hv, hv2, hI⟩ := h2
  subst hv hv2
  exact mrD_same (x := v) (y := v) (st := []) (tgt := 1334) hh dL_law_663 (by decide) rfl (k w2 hI)
theorem lc_lies (hL0 : mr_LH p s m args meth c G rt R nc ns L xs) (hi0 : 0 ≤ i) (hi1 : i + 6 ≤ L) (h : mr_IV w) (k : ∀ w2 : mr_Wd, mr_IV w2 → mr_DJ p l e R s m args below meth c G 7 nc ns Q 1334 (mr_LS i) [] w2) : mr_DJ p l e R s m args below meth c G 7 nc ns Q 668 (mr_LS i) [] w := by
  obtain ⟨hh, hX, hbl, hbA, hL, hRR, hcs⟩ := hL0
  refine mrD_aload_n hh dL_law_668 (a := 0) (b := 0) rfl ?_
  refine mrD_arg hh hX hbl hbA hL rfl rfl dL_law_669 dL_law_670 dL_law_672 dL_law_673 dL_law_674 (by omega) (by omega) ?_
  refine mrD_arg hh hX hbl hbA hL rfl rfl dL_law_675 dL_law_676 dL_law_678 dL_law_679 dL_law_680 (by omega) (by omega) ?_
  obtain ⟨fs0, hw0⟩ := mr_IV_0 h
  refine mrD_callP (fun r w1 => T_X7_lies [vR 18 0, vI ((xs (i + 1).toNat).toInt), vI ((xs (i + 2).toNat).toInt)] w1 (fun r2 w2 => mr_EQ r r2 w2)) [vI ((xs (i + 1).toNat).toInt), vI ((xs (i + 2).toNat).toInt)] hh dL_law_681 (ok_X6_lies l G) ml_L_81 cl_X6_lies cv_X6_lies ⟨Nat.le_trans (by decide) hRR.1, Nat.le_trans (by decide) hRR.2⟩ rfl rfl (Nat.zero_le _) hw0 hcs (cs_lies h (mr_xr _) (mr_xr _)) (fun r w1 h1 => ?_)
  obtain ⟨fs1, hw1⟩ : ∃ fs : List mr_AV, w1 18 = eO 7 fs := by
    obtain ⟨_, _, _, _, _, _, _, _, _, _, _, _, _, _, _, _, _, _, _, _, _, _, _, _, _, _, _, _, hM, _⟩ := h1
    exact ⟨_, hM.1⟩
  refine mrD_aload_n hh dL_law_684 (a := 18) (b := 0) rfl ?_
  refine mrD_arg hh hX hbl hbA hL rfl rfl dL_law_685 dL_law_686 dL_law_688 dL_law_689 dL_law_690 (by omega) (by omega) ?_
  refine mrD_arg hh hX hbl hbA hL rfl rfl dL_law_691 dL_law_692 dL_law_694 dL_law_695 dL_law_696 (by omega) (by omega) ?_
  refine mrD_callP (st := r.toList ++ []) (fun r2 w2 => mr_EQ r r2 w2) [vI ((xs (i + 1).toNat).toInt), vI ((xs (i + 2).toNat).toInt)] hh dL_law_697 (ok_X7_lies l G) ml_L_84 cl_X7_lies cv_X7_lies ⟨Nat.le_trans (by decide) hRR.1, Nat.le_trans (by decide) hRR.2⟩ rfl rfl (mr_cat_r r) hw1 hcs h1 (fun r2 w2 h2 => ?_)
  obtain ⟨v, hv, hv2, hI⟩ := h2
  subst hv hv2
  exact mrD_same (x := v) (y := v) (st := []) (tgt := 1334) hh dL_law_700 (by decide) rfl (k w2 hI)
theorem lc_come (hL0 : mr_LH p s m args meth c G rt R nc ns L xs) (hi0 : 0 ≤ i) (hi1 : i + 6 ≤ L) (h : mr_IV w) (k : ∀ w2 : mr_Wd, mr_IV w2 → mr_DJ p l e R s m args below meth c G 7 nc ns Q 1334 (mr_LS i) [] w2) : mr_DJ p l e R s m args below meth c G 7 nc ns Q 705 (mr_LS i) [] w := by
  obtain ⟨hh, hX, hbl, hbA, hL, hRR, hcs⟩ := hL0
  refine mrD_aload_n hh dL_law_705 (a := 0) (b := 0) rfl ?_
  refine mrD_arg hh hX hbl hbA hL rfl rfl dL_law_706 dL_law_707 dL_law_709 dL_law_710 dL_law_711 (by omega) (by omega) ?_
  refine mrD_arg hh hX hbl hbA hL rfl rfl dL_law_712 dL_law_713 dL_law_715 dL_law_716 dL_law_717 (by omega) (by omega) ?_
  refine mrD_arg hh hX hbl hbA hL rfl rfl dL_law_718 dL_law_719 dL_law_721 dL_law_722 dL_law_723 (by omega) (by omega) ?_
  refine mrD_arg hh hX hbl hbA hL rfl rfl dL_law_724 dL_law_725 dL_law_727 dL_law_728 dL_law_729 (by omega) (by omega) ?_
  obtain ⟨fs0, hw0⟩ := mr_IV_0 h
  refine mrD_callP (fun r w1 => T_X7_come [vR 18 0, vI ((xs (i + 1).toNat).toInt), vI ((xs (i + 2).toNat).toInt), vI ((xs (i + 3).toNat).toInt), vI ((xs (i + 4).toNat).toInt)] w1 (fun r2 w2 => mr_EQ r r2 w2)) [vI ((xs (i + 1).toNat).toInt), vI ((xs (i + 2).toNat).toInt), vI ((xs (i + 3).toNat).toInt), vI ((xs (i + 4).toNat).toInt)] hh dL_law_730 (ok_X6_come l G) ml_L_85 cl_X6_come cv_X6_come ⟨Nat.le_trans (by decide) hRR.1, Nat.le_trans (by decide) hRR.2⟩ rfl rfl (Nat.zero_le _) hw0 hcs (cs_come h (mr_xr _) (mr_xr _) (mr_xr _) (mr_xr _)) (fun r w1 h1 => ?_)
  obtain ⟨fs1, hw1⟩ : ∃ fs : List mr_AV, w1 18 = eO 7 fs := by
    obtain ⟨_, _, _, _, _, _, _, _, _, _, _, _, _, _, _, _, _, _, _, _, _, _, _, _, _, _, _, _, _, _, _, hM, _⟩ := h1
    exact ⟨_, hM.1⟩
  refine mrD_aload_n hh dL_law_733 (a := 18) (b := 0) rfl ?_
  refine mrD_arg hh hX hbl hbA hL rfl rfl dL_law_734 dL_law_735 dL_law_737 dL_law_738 dL_law_739 (by omega) (by omega) ?_
  refine mrD_arg hh hX hbl hbA hL rfl rfl dL_law_740 dL_law_741 dL_law_743 dL_law_744 dL_law_745 (by omega) (by omega) ?_
  refine mrD_arg hh hX hbl hbA hL rfl rfl dL_law_746 dL_law_747 dL_law_749 dL_law_750 dL_law_751 (by omega) (by omega) ?_
  refine mrD_arg hh hX hbl hbA hL rfl rfl dL_law_752 dL_law_753 dL_law_755 dL_law_756 dL_law_757 (by omega) (by omega) ?_
  refine mrD_callP (st := r.toList ++ []) (fun r2 w2 => mr_EQ r r2 w2) [vI ((xs (i + 1).toNat).toInt), vI ((xs (i + 2).toNat).toInt), vI ((xs (i + 3).toNat).toInt), vI ((xs (i + 4).toNat).toInt)] hh dL_law_758 (ok_X7_come l G) ml_L_88 cl_X7_come cv_X7_come ⟨Nat.le_trans (by decide) hRR.1, Nat.le_trans (by decide) hRR.2⟩ rfl rfl (mr_cat_r r) hw1 hcs h1 (fun r2 w2 h2 => ?_)
  obtain ⟨v, hv, hv2, hI⟩ := h2
  subst hv hv2
  exact mrD_same (x := v) (y := v) (st := []) (tgt := 1334) hh dL_law_761 (by decide) rfl (k w2 hI)
theorem lc_clear (hL0 : mr_LH p s m args meth c G rt R nc ns L xs) (hi0 : 0 ≤ i) (hi1 : i + 6 ≤ L) (h : mr_IV w) (k : ∀ w2 : mr_Wd, mr_IV w2 → mr_DJ p l e R s m args below meth c G 7 nc ns Q 1334 (mr_LS i) [] w2) : mr_DJ p l e R s m args below meth c G 7 nc ns Q 766 (mr_LS i) [] w := by
  obtain ⟨hh, hX, hbl, hbA, hL, hRR, hcs⟩ := hL0
  refine mrD_aload_n hh dL_law_766 (a := 0) (b := 0) rfl ?_
  refine mrD_arg hh hX hbl hbA hL rfl rfl dL_law_767 dL_law_768 dL_law_770 dL_law_771 dL_law_772 (by omega) (by omega) ?_
  refine mrD_arg hh hX hbl hbA hL rfl rfl dL_law_773 dL_law_774 dL_law_776 dL_law_777 dL_law_778 (by omega) (by omega) ?_
  refine mrD_bool hh (mr_xr _) dL_law_779 dL_law_782 dL_law_783 dL_law_786 (fun z hz ez => ?_)
  have hzr : InR z := by rcases hz with q | q <;> subst q <;> exact ⟨by decide, by decide⟩
  obtain ⟨fs0, hw0⟩ := mr_IV_0 h
  refine mrD_callP (fun r w1 => T_X7_clear [vR 18 0, vI ((xs (i + 1).toNat).toInt), vI z] w1 (fun r2 w2 => mr_EQ r r2 w2)) [vI ((xs (i + 1).toNat).toInt), vI z] hh dL_law_787 (ok_X6_clear l G) ml_L_89 cl_X6_clear cv_X6_clear ⟨Nat.le_trans (by decide) hRR.1, Nat.le_trans (by decide) hRR.2⟩ rfl rfl (Nat.zero_le _) hw0 hcs (cs_clear h (mr_xr _) hzr) (fun r w1 h1 => ?_)
  obtain ⟨fs1, hw1⟩ : ∃ fs : List mr_AV, w1 18 = eO 7 fs := by
    obtain ⟨_, _, _, _, _, _, _, _, _, _, _, _, _, _, _, _, _, _, _, _, _, _, _, _, _, _, _, _, _, _, hM, _⟩ := h1
    exact ⟨_, hM.1⟩
  refine mrD_aload_n hh dL_law_790 (a := 18) (b := 0) rfl ?_
  refine mrD_arg hh hX hbl hbA hL rfl rfl dL_law_791 dL_law_792 dL_law_794 dL_law_795 dL_law_796 (by omega) (by omega) ?_
  refine mrD_arg hh hX hbl hbA hL rfl rfl dL_law_797 dL_law_798 dL_law_800 dL_law_801 dL_law_802 (by omega) (by omega) ?_
  refine mrD_bool hh (mr_xr _) dL_law_803 dL_law_806 dL_law_807 dL_law_810 (fun z2 hz2 ez2 => ?_)
  have ezz : z2 = z := by
    rcases hz with q | q <;> rcases hz2 with q2 | q2 <;> subst q <;> subst q2 <;> first | rfl | exact absurd (ez.mpr (ez2.mp rfl)) (by decide) | exact absurd (ez2.mpr (ez.mp rfl)) (by decide)
  subst ezz
  refine mrD_callP (st := r.toList ++ []) (fun r2 w2 => mr_EQ r r2 w2) [vI ((xs (i + 1).toNat).toInt), vI z2] hh dL_law_811 (ok_X7_clear l G) ml_L_93 cl_X7_clear cv_X7_clear ⟨Nat.le_trans (by decide) hRR.1, Nat.le_trans (by decide) hRR.2⟩ rfl rfl (mr_cat_r r) hw1 hcs h1 (fun r2 w2 h2 => ?_)
  obtain ⟨v, hv, hv2, hI⟩ := h2
  subst hv hv2
  exact mrD_same (x := v) (y := v) (st := []) (tgt := 1334) hh dL_law_814 (by decide) rfl (k w2 hI)
theorem lc_join (hL0 : mr_LH p s m args meth c G rt R nc ns L xs) (hi0 : 0 ≤ i) (hi1 : i + 6 ≤ L) (h : mr_IV w) (k : ∀ w2 : mr_Wd, mr_IV w2 → mr_DJ p l e R s m args below meth c G 7 nc ns Q 1334 (mr_LS i) [] w2) : mr_DJ p l e R s m args below meth c G 7 nc ns Q 819 (mr_LS i) [] w := by
  obtain ⟨hh, hX, hbl, hbA, hL, hRR, hcs⟩ := hL0
  refine mrD_aload_n hh dL_law_819 (a := 0) (b := 0) rfl ?_
  refine mrD_arg hh hX hbl hbA hL rfl rfl dL_law_820 dL_law_821 dL_law_823 dL_law_824 dL_law_825 (by omega) (by omega) ?_
  refine mrD_arg hh hX hbl hbA hL rfl rfl dL_law_826 dL_law_827 dL_law_829 dL_law_830 dL_law_831 (by omega) (by omega) ?_
  refine mrD_arg hh hX hbl hbA hL rfl rfl dL_law_832 dL_law_833 dL_law_835 dL_law_836 dL_law_837 (by omega) (by omega) ?_
  refine mrD_bool hh (mr_xr _) dL_law_838 dL_law_841 dL_law_842 dL_law_845 (fun z hz ez => ?_)
  refine mrD_arg hh hX hbl hbA hL rfl rfl dL_law_846 dL_law_847 dL_law_849 dL_law_850 dL_law_851 (by omega) (by omega) ?_
  have hzr : InR z := by rcases hz with q | q <;> subst q <;> exact ⟨by decide, by decide⟩
  obtain ⟨fs0, hw0⟩ := mr_IV_0 h
  refine mrD_callP (fun r w1 => T_X7_join [vR 18 0, vI ((xs (i + 1).toNat).toInt), vI ((xs (i + 2).toNat).toInt), vI z, vI ((xs (i + 4).toNat).toInt)] w1 (fun r2 w2 => mr_EQ r r2 w2)) [vI ((xs (i + 1).toNat).toInt), vI ((xs (i + 2).toNat).toInt), vI z, vI ((xs (i + 4).toNat).toInt)] hh dL_law_852 (ok_X6_join l G) ml_L_94 cl_X6_join cv_X6_join ⟨Nat.le_trans (by decide) hRR.1, Nat.le_trans (by decide) hRR.2⟩ rfl rfl (Nat.zero_le _) hw0 hcs (cs_join h (mr_xr _) (mr_xr _) hzr (mr_xr _)) (fun r w1 h1 => ?_)
  obtain ⟨fs1, hw1⟩ : ∃ fs : List mr_AV, w1 18 = eO 7 fs := by
    obtain ⟨_, _, _, _, _, _, _, _, _, _, _, _, _, _, _, _, _, _, _, _, _, _, _, _, _, _, _, _, _, _, _, _, hM, _⟩ := h1
    exact ⟨_, hM.1⟩
  refine mrD_aload_n hh dL_law_855 (a := 18) (b := 0) rfl ?_
  refine mrD_arg hh hX hbl hbA hL rfl rfl dL_law_856 dL_law_857 dL_law_859 dL_law_860 dL_law_861 (by omega) (by omega) ?_
  refine mrD_arg hh hX hbl hbA hL rfl rfl dL_law_862 dL_law_863 dL_law_865 dL_law_866 dL_law_867 (by omega) (by omega) ?_
  refine mrD_arg hh hX hbl hbA hL rfl rfl dL_law_868 dL_law_869 dL_law_871 dL_law_872 dL_law_873 (by omega) (by omega) ?_
  refine mrD_bool hh (mr_xr _) dL_law_874 dL_law_877 dL_law_878 dL_law_881 (fun z2 hz2 ez2 => ?_)
  refine mrD_arg hh hX hbl hbA hL rfl rfl dL_law_882 dL_law_883 dL_law_885 dL_law_886 dL_law_887 (by omega) (by omega) ?_
  have ezz : z2 = z := by
    rcases hz with q | q <;> rcases hz2 with q2 | q2 <;> subst q <;> subst q2 <;> first | rfl | exact absurd (ez.mpr (ez2.mp rfl)) (by decide) | exact absurd (ez2.mpr (ez.mp rfl)) (by decide)
  subst ezz
  refine mrD_callP (st := r.toList ++ []) (fun r2 w2 => mr_EQ r r2 w2) [vI ((xs (i + 1).toNat).toInt), vI ((xs (i + 2).toNat).toInt), vI z2, vI ((xs (i + 4).toNat).toInt)] hh dL_law_888 (ok_X7_join l G) ml_L_98 cl_X7_join cv_X7_join ⟨Nat.le_trans (by decide) hRR.1, Nat.le_trans (by decide) hRR.2⟩ rfl rfl (mr_cat_r r) hw1 hcs h1 (fun r2 w2 h2 => ?_)
  obtain ⟨v, hv, hv2, hI⟩ := h2
  subst hv hv2
  exact mrD_same (x := v) (y := v) (st := []) (tgt := 1334) hh dL_law_891 (by decide) rfl (k w2 hI)
theorem lc_upright (hL0 : mr_LH p s m args meth c G rt R nc ns L xs) (hi0 : 0 ≤ i) (hi1 : i + 6 ≤ L) (h : mr_IV w) (k : ∀ w2 : mr_Wd, mr_IV w2 → mr_DJ p l e R s m args below meth c G 7 nc ns Q 1334 (mr_LS i) [] w2) : mr_DJ p l e R s m args below meth c G 7 nc ns Q 896 (mr_LS i) [] w := by
  obtain ⟨hh, hX, hbl, hbA, hL, hRR, hcs⟩ := hL0
  refine mrD_aload_n hh dL_law_896 (a := 0) (b := 0) rfl ?_
  refine mrD_arg hh hX hbl hbA hL rfl rfl dL_law_897 dL_law_898 dL_law_900 dL_law_901 dL_law_902 (by omega) (by omega) ?_
  refine mrD_arg hh hX hbl hbA hL rfl rfl dL_law_903 dL_law_904 dL_law_906 dL_law_907 dL_law_908 (by omega) (by omega) ?_
  obtain ⟨fs0, hw0⟩ := mr_IV_0 h
  refine mrD_callP (fun r w1 => T_X7_upright [vR 18 0, vI ((xs (i + 1).toNat).toInt), vI ((xs (i + 2).toNat).toInt)] w1 (fun r2 w2 => mr_EQ r r2 w2)) [vI ((xs (i + 1).toNat).toInt), vI ((xs (i + 2).toNat).toInt)] hh dL_law_909 (ok_X6_upright l G) ml_L_99 cl_X6_upright cv_X6_upright ⟨Nat.le_trans (by decide) hRR.1, Nat.le_trans (by decide) hRR.2⟩ rfl rfl (Nat.zero_le _) hw0 hcs (cs_upright h (mr_xr _) (mr_xr _)) (fun r w1 h1 => ?_)
  obtain ⟨fs1, hw1⟩ : ∃ fs : List mr_AV, w1 18 = eO 7 fs := by
    obtain ⟨_, _, _, _, _, _, _, _, _, _, _, _, _, _, _, _, _, _, _, _, _, _, _, _, _, _, _, _, _, _, hM, _⟩ := h1
    exact ⟨_, hM.1⟩
  refine mrD_aload_n hh dL_law_912 (a := 18) (b := 0) rfl ?_
  refine mrD_arg hh hX hbl hbA hL rfl rfl dL_law_913 dL_law_914 dL_law_916 dL_law_917 dL_law_918 (by omega) (by omega) ?_
  refine mrD_arg hh hX hbl hbA hL rfl rfl dL_law_919 dL_law_920 dL_law_922 dL_law_923 dL_law_924 (by omega) (by omega) ?_
  refine mrD_callP (st := r.toList ++ []) (fun r2 w2 => mr_EQ r r2 w2) [vI ((xs (i + 1).toNat).toInt), vI ((xs (i + 2).toNat).toInt)] hh dL_law_925 (ok_X7_upright l G) ml_L_102 cl_X7_upright cv_X7_upright ⟨Nat.le_trans (by decide) hRR.1, Nat.le_trans (by decide) hRR.2⟩ rfl rfl (mr_cat_r r) hw1 hcs h1 (fun r2 w2 h2 => ?_)
  obtain ⟨v, hv, hv2, hI⟩ := h2
  subst hv hv2
  exact mrD_same (x := v) (y := v) (st := []) (tgt := 1334) hh dL_law_928 (by decide) rfl (k w2 hI)
theorem lc_times (hL0 : mr_LH p s m args meth c G rt R nc ns L xs) (hi0 : 0 ≤ i) (hi1 : i + 6 ≤ L) (h : mr_IV w) (k : ∀ w2 : mr_Wd, mr_IV w2 → mr_DJ p l e R s m args below meth c G 7 nc ns Q 1334 (mr_LS i) [] w2) : mr_DJ p l e R s m args below meth c G 7 nc ns Q 933 (mr_LS i) [] w := by
  obtain ⟨hh, hX, hbl, hbA, hL, hRR, hcs⟩ := hL0
  refine mrD_aload_n hh dL_law_933 (a := 0) (b := 0) rfl ?_
  refine mrD_arg hh hX hbl hbA hL rfl rfl dL_law_934 dL_law_935 dL_law_937 dL_law_938 dL_law_939 (by omega) (by omega) ?_
  refine mrD_arg hh hX hbl hbA hL rfl rfl dL_law_940 dL_law_941 dL_law_943 dL_law_944 dL_law_945 (by omega) (by omega) ?_
  refine mrD_arg hh hX hbl hbA hL rfl rfl dL_law_946 dL_law_947 dL_law_949 dL_law_950 dL_law_951 (by omega) (by omega) ?_
  refine mrD_bool hh (mr_xr _) dL_law_952 dL_law_955 dL_law_956 dL_law_959 (fun z hz ez => ?_)
  refine mrD_arg hh hX hbl hbA hL rfl rfl dL_law_960 dL_law_961 dL_law_963 dL_law_964 dL_law_965 (by omega) (by omega) ?_
  have hzr : InR z := by rcases hz with q | q <;> subst q <;> exact ⟨by decide, by decide⟩
  obtain ⟨fs0, hw0⟩ := mr_IV_0 h
  refine mrD_callP (fun r w1 => T_X7_times [vR 18 0, vI ((xs (i + 1).toNat).toInt), vI ((xs (i + 2).toNat).toInt), vI z, vI ((xs (i + 4).toNat).toInt)] w1 (fun r2 w2 => mr_EQ r r2 w2)) [vI ((xs (i + 1).toNat).toInt), vI ((xs (i + 2).toNat).toInt), vI z, vI ((xs (i + 4).toNat).toInt)] hh dL_law_966 (ok_X6_times l G) ml_L_103 cl_X6_times cv_X6_times ⟨Nat.le_trans (by decide) hRR.1, Nat.le_trans (by decide) hRR.2⟩ rfl rfl (Nat.zero_le _) hw0 hcs (cs_times h (mr_xr _) (mr_xr _) hzr (mr_xr _)) (fun r w1 h1 => ?_)
  obtain ⟨fs1, hw1⟩ : ∃ fs : List mr_AV, w1 18 = eO 7 fs := by
    obtain ⟨_, _, _, _, _, _, _, _, _, _, _, _, _, _, _, _, _, _, _, _, _, _, _, _, _, _, _, _, _, _, _, _, hM, _⟩ := h1
    exact ⟨_, hM.1⟩
  refine mrD_aload_n hh dL_law_969 (a := 18) (b := 0) rfl ?_
  refine mrD_arg hh hX hbl hbA hL rfl rfl dL_law_970 dL_law_971 dL_law_973 dL_law_974 dL_law_975 (by omega) (by omega) ?_
  refine mrD_arg hh hX hbl hbA hL rfl rfl dL_law_976 dL_law_977 dL_law_979 dL_law_980 dL_law_981 (by omega) (by omega) ?_
  refine mrD_arg hh hX hbl hbA hL rfl rfl dL_law_982 dL_law_983 dL_law_985 dL_law_986 dL_law_987 (by omega) (by omega) ?_
  refine mrD_bool hh (mr_xr _) dL_law_988 dL_law_991 dL_law_992 dL_law_995 (fun z2 hz2 ez2 => ?_)
  refine mrD_arg hh hX hbl hbA hL rfl rfl dL_law_996 dL_law_997 dL_law_999 dL_law_1000 dL_law_1001 (by omega) (by omega) ?_
  have ezz : z2 = z := by
    rcases hz with q | q <;> rcases hz2 with q2 | q2 <;> subst q <;> subst q2 <;> first | rfl | exact absurd (ez.mpr (ez2.mp rfl)) (by decide) | exact absurd (ez2.mpr (ez.mp rfl)) (by decide)
  subst ezz
  refine mrD_callP (st := r.toList ++ []) (fun r2 w2 => mr_EQ r r2 w2) [vI ((xs (i + 1).toNat).toInt), vI ((xs (i + 2).toNat).toInt), vI z2, vI ((xs (i + 4).toNat).toInt)] hh dL_law_1002 (ok_X7_times l G) ml_L_106 cl_X7_times cv_X7_times ⟨Nat.le_trans (by decide) hRR.1, Nat.le_trans (by decide) hRR.2⟩ rfl rfl (mr_cat_r r) hw1 hcs h1 (fun r2 w2 h2 => ?_)
  obtain ⟨v, hv, hv2, hI⟩ := h2
  subst hv hv2
  exact mrD_same (x := v) (y := v) (st := []) (tgt := 1334) hh dL_law_1005 (by decide) rfl (k w2 hI)
theorem lc_equate (hL0 : mr_LH p s m args meth c G rt R nc ns L xs) (hi0 : 0 ≤ i) (hi1 : i + 6 ≤ L) (h : mr_IV w) (k : ∀ w2 : mr_Wd, mr_IV w2 → mr_DJ p l e R s m args below meth c G 7 nc ns Q 1334 (mr_LS i) [] w2) : mr_DJ p l e R s m args below meth c G 7 nc ns Q 1010 (mr_LS i) [] w := by
  obtain ⟨hh, hX, hbl, hbA, hL, hRR, hcs⟩ := hL0
  refine mrD_aload_n hh dL_law_1010 (a := 0) (b := 0) rfl ?_
  refine mrD_arg hh hX hbl hbA hL rfl rfl dL_law_1011 dL_law_1012 dL_law_1014 dL_law_1015 dL_law_1016 (by omega) (by omega) ?_
  refine mrD_arg hh hX hbl hbA hL rfl rfl dL_law_1017 dL_law_1018 dL_law_1020 dL_law_1021 dL_law_1022 (by omega) (by omega) ?_
  refine mrD_arg hh hX hbl hbA hL rfl rfl dL_law_1023 dL_law_1024 dL_law_1026 dL_law_1027 dL_law_1028 (by omega) (by omega) ?_
  refine mrD_arg hh hX hbl hbA hL rfl rfl dL_law_1029 dL_law_1030 dL_law_1032 dL_law_1033 dL_law_1034 (by omega) (by omega) ?_
  refine mrD_arg hh hX hbl hbA hL rfl rfl dL_law_1035 dL_law_1036 dL_law_1038 dL_law_1039 dL_law_1040 (by omega) (by omega) ?_
  obtain ⟨fs0, hw0⟩ := mr_IV_0 h
  refine mrD_callP (fun r w1 => T_X7_equate [vR 18 0, vI ((xs (i + 1).toNat).toInt), vI ((xs (i + 2).toNat).toInt), vI ((xs (i + 3).toNat).toInt), vI ((xs (i + 4).toNat).toInt), vI ((xs (i + 5).toNat).toInt)] w1 (fun r2 w2 => mr_EQ r r2 w2)) [vI ((xs (i + 1).toNat).toInt), vI ((xs (i + 2).toNat).toInt), vI ((xs (i + 3).toNat).toInt), vI ((xs (i + 4).toNat).toInt), vI ((xs (i + 5).toNat).toInt)] hh dL_law_1041 (ok_X6_equate l G) ml_L_107 cl_X6_equate cv_X6_equate ⟨Nat.le_trans (by decide) hRR.1, Nat.le_trans (by decide) hRR.2⟩ rfl rfl (Nat.zero_le _) hw0 hcs (cs_equate h (mr_xr _) (mr_xr _) (mr_xr _) (mr_xr _) (mr_xr _)) (fun r w1 h1 => ?_)
  obtain ⟨fs1, hw1⟩ : ∃ fs : List mr_AV, w1 18 = eO 7 fs := by
    obtain ⟨_, _, _, _, _, _, _, _, _, _, _, _, _, _, _, _, _, _, _, _, _, _, _, _, _, _, _, _, _, _, _, hM, _⟩ := h1
    exact ⟨_, hM.1⟩
  refine mrD_aload_n hh dL_law_1044 (a := 18) (b := 0) rfl ?_
  refine mrD_arg hh hX hbl hbA hL rfl rfl dL_law_1045 dL_law_1046 dL_law_1048 dL_law_1049 dL_law_1050 (by omega) (by omega) ?_
  refine mrD_arg hh hX hbl hbA hL rfl rfl dL_law_1051 dL_law_1052 dL_law_1054 dL_law_1055 dL_law_1056 (by omega) (by omega) ?_
  refine mrD_arg hh hX hbl hbA hL rfl rfl dL_law_1057 dL_law_1058 dL_law_1060 dL_law_1061 dL_law_1062 (by omega) (by omega) ?_
  refine mrD_arg hh hX hbl hbA hL rfl rfl dL_law_1063 dL_law_1064 dL_law_1066 dL_law_1067 dL_law_1068 (by omega) (by omega) ?_
  refine mrD_arg hh hX hbl hbA hL rfl rfl dL_law_1069 dL_law_1070 dL_law_1072 dL_law_1073 dL_law_1074 (by omega) (by omega) ?_
  refine mrD_callP (st := r.toList ++ []) (fun r2 w2 => mr_EQ r r2 w2) [vI ((xs (i + 1).toNat).toInt), vI ((xs (i + 2).toNat).toInt), vI ((xs (i + 3).toNat).toInt), vI ((xs (i + 4).toNat).toInt), vI ((xs (i + 5).toNat).toInt)] hh dL_law_1075 (ok_X7_equate l G) ml_L_110 cl_X7_equate cv_X7_equate ⟨Nat.le_trans (by decide) hRR.1, Nat.le_trans (by decide) hRR.2⟩ rfl rfl (mr_cat_r r) hw1 hcs h1 (fun r2 w2 h2 => ?_)
  obtain ⟨v, hv, hv2, hI⟩ := h2
  subst hv hv2
  exact mrD_same (x := v) (y := v) (st := []) (tgt := 1334) hh dL_law_1078 (by decide) rfl (k w2 hI)
theorem lc_drop (hL0 : mr_LH p s m args meth c G rt R nc ns L xs) (hi0 : 0 ≤ i) (hi1 : i + 6 ≤ L) (h : mr_IV w) (k : ∀ w2 : mr_Wd, mr_IV w2 → mr_DJ p l e R s m args below meth c G 7 nc ns Q 1334 (mr_LS i) [] w2) : mr_DJ p l e R s m args below meth c G 7 nc ns Q 1083 (mr_LS i) [] w := by
  obtain ⟨hh, hX, hbl, hbA, hL, hRR, hcs⟩ := hL0
  refine mrD_aload_n hh dL_law_1083 (a := 0) (b := 0) rfl ?_
  refine mrD_arg hh hX hbl hbA hL rfl rfl dL_law_1084 dL_law_1085 dL_law_1087 dL_law_1088 dL_law_1089 (by omega) (by omega) ?_
  obtain ⟨fs0, hw0⟩ := mr_IV_0 h
  refine mrD_callP (fun r w1 => T_X7_drop [vR 18 0, vI ((xs (i + 1).toNat).toInt)] w1 (fun r2 w2 => mr_EQ r r2 w2)) [vI ((xs (i + 1).toNat).toInt)] hh dL_law_1090 (ok_X6_drop l G) ml_L_111 cl_X6_drop cv_X6_drop ⟨Nat.le_trans (by decide) hRR.1, Nat.le_trans (by decide) hRR.2⟩ rfl rfl (Nat.zero_le _) hw0 hcs (cs_drop h (mr_xr _)) (fun r w1 h1 => ?_)
  obtain ⟨fs1, hw1⟩ : ∃ fs : List mr_AV, w1 18 = eO 7 fs := by
    obtain ⟨_, _, _, _, _, _, _, _, _, _, _, _, _, _, _, _, _, _, _, _, _, _, _, _, _, _, _, hM, _⟩ := h1
    exact ⟨_, hM.1⟩
  refine mrD_aload_n hh dL_law_1093 (a := 18) (b := 0) rfl ?_
  refine mrD_arg hh hX hbl hbA hL rfl rfl dL_law_1094 dL_law_1095 dL_law_1097 dL_law_1098 dL_law_1099 (by omega) (by omega) ?_
  refine mrD_callP (st := r.toList ++ []) (fun r2 w2 => mr_EQ r r2 w2) [vI ((xs (i + 1).toNat).toInt)] hh dL_law_1100 (ok_X7_drop l G) ml_L_114 cl_X7_drop cv_X7_drop ⟨Nat.le_trans (by decide) hRR.1, Nat.le_trans (by decide) hRR.2⟩ rfl rfl (mr_cat_r r) hw1 hcs h1 (fun r2 w2 h2 => ?_)
  obtain ⟨v, hv, hv2, hI⟩ := h2
  subst hv hv2
  exact mrD_same (x := v) (y := v) (st := []) (tgt := 1334) hh dL_law_1103 (by decide) rfl (k w2 hI)
theorem lc_equation (hL0 : mr_LH p s m args meth c G rt R nc ns L xs) (hi0 : 0 ≤ i) (hi1 : i + 6 ≤ L) (h : mr_IV w) (k : ∀ w2 : mr_Wd, mr_IV w2 → mr_DJ p l e R s m args below meth c G 7 nc ns Q 1334 (mr_LS i) [] w2) : mr_DJ p l e R s m args below meth c G 7 nc ns Q 1108 (mr_LS i) [] w := by
  obtain ⟨hh, hX, hbl, hbA, hL, hRR, hcs⟩ := hL0
  refine mrD_aload_n hh dL_law_1108 (a := 0) (b := 0) rfl ?_
  refine mrD_arg hh hX hbl hbA hL rfl rfl dL_law_1109 dL_law_1110 dL_law_1112 dL_law_1113 dL_law_1114 (by omega) (by omega) ?_
  refine mrD_arg hh hX hbl hbA hL rfl rfl dL_law_1115 dL_law_1116 dL_law_1118 dL_law_1119 dL_law_1120 (by omega) (by omega) ?_
  obtain ⟨fs0, hw0⟩ := mr_IV_0 h
  refine mrD_callP (fun r w1 => T_X7_equation [vR 18 0, vI ((xs (i + 1).toNat).toInt), vI ((xs (i + 2).toNat).toInt)] w1 (fun r2 w2 => mr_EQ r r2 w2)) [vI ((xs (i + 1).toNat).toInt), vI ((xs (i + 2).toNat).toInt)] hh dL_law_1121 (ok_X6_equation l G) ml_L_115 cl_X6_equation cv_X6_equation ⟨Nat.le_trans (by decide) hRR.1, Nat.le_trans (by decide) hRR.2⟩ rfl rfl (Nat.zero_le _) hw0 hcs (cs_equation h (mr_xr _) (mr_xr _)) (fun r w1 h1 => ?_)
  obtain ⟨fs1, hw1⟩ : ∃ fs : List mr_AV, w1 18 = eO 7 fs := by
    obtain ⟨_, _, _, _, _, _, _, _, _, _, _, _, _, _, _, _, _, _, _, _, _, _, _, _, _, _, _, _, hM, _⟩ := h1
    exact ⟨_, hM.1⟩
  refine mrD_aload_n hh dL_law_1124 (a := 18) (b := 0) rfl ?_
  refine mrD_arg hh hX hbl hbA hL rfl rfl dL_law_1125 dL_law_1126 dL_law_1128 dL_law_1129 dL_law_1130 (by omega) (by omega) ?_
  refine mrD_arg hh hX hbl hbA hL rfl rfl dL_law_1131 dL_law_1132 dL_law_1134 dL_law_1135 dL_law_1136 (by omega) (by omega) ?_
  refine mrD_callP (st := r.toList ++ []) (fun r2 w2 => mr_EQ r r2 w2) [vI ((xs (i + 1).toNat).toInt), vI ((xs (i + 2).toNat).toInt)] hh dL_law_1137 (ok_X7_equation l G) ml_L_118 cl_X7_equation cv_X7_equation ⟨Nat.le_trans (by decide) hRR.1, Nat.le_trans (by decide) hRR.2⟩ rfl rfl (mr_cat_r r) hw1 hcs h1 (fun r2 w2 h2 => ?_)
  obtain ⟨v, hv, hv2, hI⟩ := h2
  subst hv hv2
  exact mrD_same (x := v) (y := v) (st := []) (tgt := 1334) hh dL_law_1140 (by decide) rfl (k w2 hI)
theorem lc_solutions (hL0 : mr_LH p s m args meth c G rt R nc ns L xs) (hi0 : 0 ≤ i) (hi1 : i + 6 ≤ L) (h : mr_IV w) (k : ∀ w2 : mr_Wd, mr_IV w2 → mr_DJ p l e R s m args below meth c G 7 nc ns Q 1334 (mr_LS i) [] w2) : mr_DJ p l e R s m args below meth c G 7 nc ns Q 1145 (mr_LS i) [] w := by
  obtain ⟨hh, hX, hbl, hbA, hL, hRR, hcs⟩ := hL0
  refine mrD_aload_n hh dL_law_1145 (a := 0) (b := 0) rfl ?_
  obtain ⟨fs0, hw0⟩ := mr_IV_0 h
  refine mrD_callP (fun r w1 => T_X7_solutions [vR 18 0] w1 (fun r2 w2 => mr_EQ r r2 w2)) [] hh dL_law_1146 (ok_X6_solutions l G) ml_L_119 cl_X6_solutions cv_X6_solutions ⟨Nat.le_trans (by decide) hRR.1, Nat.le_trans (by decide) hRR.2⟩ rfl rfl (Nat.zero_le _) hw0 hcs (cs_solutions h) (fun r w1 h1 => ?_)
  obtain ⟨fs1, hw1⟩ : ∃ fs : List mr_AV, w1 18 = eO 7 fs := by
    obtain ⟨_, _, _, _, _, _, _, _, _, _, _, _, _, _, _, _, _, _, _, _, _, _, _, _, _, _, hM, _⟩ := h1
    exact ⟨_, hM.1⟩
  refine mrD_aload_n hh dL_law_1149 (a := 18) (b := 0) rfl ?_
  refine mrD_callP (st := r.toList ++ []) (fun r2 w2 => mr_EQ r r2 w2) [] hh dL_law_1150 (ok_X7_solutions l G) ml_L_122 cl_X7_solutions cv_X7_solutions ⟨Nat.le_trans (by decide) hRR.1, Nat.le_trans (by decide) hRR.2⟩ rfl rfl (mr_cat_r r) hw1 hcs h1 (fun r2 w2 h2 => ?_)
  obtain ⟨v, hv, hv2, hI⟩ := h2
  subst hv hv2
  exact mrD_same (x := v) (y := v) (st := []) (tgt := 1334) hh dL_law_1153 (by decide) rfl (k w2 hI)
theorem lc_solution (hL0 : mr_LH p s m args meth c G rt R nc ns L xs) (hi0 : 0 ≤ i) (hi1 : i + 6 ≤ L) (h : mr_IV w) (k : ∀ w2 : mr_Wd, mr_IV w2 → mr_DJ p l e R s m args below meth c G 7 nc ns Q 1334 (mr_LS i) [] w2) : mr_DJ p l e R s m args below meth c G 7 nc ns Q 1158 (mr_LS i) [] w := by
  obtain ⟨hh, hX, hbl, hbA, hL, hRR, hcs⟩ := hL0
  refine mrD_aload_n hh dL_law_1158 (a := 0) (b := 0) rfl ?_
  obtain ⟨fs0, hw0⟩ := mr_IV_0 h
  refine mrD_callP (fun r w1 => T_X7_solution [vR 18 0] w1 (fun r2 w2 => mr_EQ r r2 w2)) [] hh dL_law_1159 (ok_X6_solution l G) ml_L_123 cl_X6_solution cv_X6_solution ⟨Nat.le_trans (by decide) hRR.1, Nat.le_trans (by decide) hRR.2⟩ rfl rfl (Nat.zero_le _) hw0 hcs (cs_solution h) (fun r w1 h1 => ?_)
  obtain ⟨fs1, hw1⟩ : ∃ fs : List mr_AV, w1 18 = eO 7 fs := by
    obtain ⟨_, _, _, _, _, _, _, _, _, _, _, _, _, _, _, _, _, _, _, _, _, _, _, _, _, _, hM, _⟩ := h1
    exact ⟨_, hM.1⟩
  refine mrD_aload_n hh dL_law_1162 (a := 18) (b := 0) rfl ?_
  refine mrD_callP (st := r.toList ++ []) (fun r2 w2 => mr_EQ r r2 w2) [] hh dL_law_1163 (ok_X7_solution l G) ml_L_126 cl_X7_solution cv_X7_solution ⟨Nat.le_trans (by decide) hRR.1, Nat.le_trans (by decide) hRR.2⟩ rfl rfl (mr_cat_r r) hw1 hcs h1 (fun r2 w2 h2 => ?_)
  obtain ⟨v, hv, hv2, hI⟩ := h2
  subst hv hv2
  exact mrD_same (x := v) (y := v) (st := []) (tgt := 1334) hh dL_law_1166 (by decide) rfl (k w2 hI)
theorem lc_witness (hL0 : mr_LH p s m args meth c G rt R nc ns L xs) (hi0 : 0 ≤ i) (hi1 : i + 6 ≤ L) (h : mr_IV w) (k : ∀ w2 : mr_Wd, mr_IV w2 → mr_DJ p l e R s m args below meth c G 7 nc ns Q 1334 (mr_LS i) [] w2) : mr_DJ p l e R s m args below meth c G 7 nc ns Q 1171 (mr_LS i) [] w := by
  obtain ⟨hh, hX, hbl, hbA, hL, hRR, hcs⟩ := hL0
  refine mrD_aload_n hh dL_law_1171 (a := 0) (b := 0) rfl ?_
  obtain ⟨fs0, hw0⟩ := mr_IV_0 h
  refine mrD_callP (fun r w1 => T_X7_witness [vR 18 0] w1 (fun r2 w2 => mr_EQ r r2 w2)) [] hh dL_law_1172 (ok_X6_witness l G) ml_L_127 cl_X6_witness cv_X6_witness ⟨Nat.le_trans (by decide) hRR.1, Nat.le_trans (by decide) hRR.2⟩ rfl rfl (Nat.zero_le _) hw0 hcs (cs_witness h) (fun r w1 h1 => ?_)
  obtain ⟨fs1, hw1⟩ : ∃ fs : List mr_AV, w1 18 = eO 7 fs := by
    obtain ⟨_, _, _, _, _, _, _, _, _, _, _, _, _, _, _, _, _, _, _, _, _, _, _, _, _, _, hM, _⟩ := h1
    exact ⟨_, hM.1⟩
  refine mrD_aload_n hh dL_law_1175 (a := 18) (b := 0) rfl ?_
  refine mrD_callP (st := r.toList ++ []) (fun r2 w2 => mr_EQ r r2 w2) [] hh dL_law_1176 (ok_X7_witness l G) ml_L_130 cl_X7_witness cv_X7_witness ⟨Nat.le_trans (by decide) hRR.1, Nat.le_trans (by decide) hRR.2⟩ rfl rfl (mr_cat_r r) hw1 hcs h1 (fun r2 w2 h2 => ?_)
  obtain ⟨v, hv, hv2, hI⟩ := h2
  subst hv hv2
  exact mrD_same (x := v) (y := v) (st := []) (tgt := 1334) hh dL_law_1179 (by decide) rfl (k w2 hI)
theorem lc_kernel (hL0 : mr_LH p s m args meth c G rt R nc ns L xs) (hi0 : 0 ≤ i) (hi1 : i + 6 ≤ L) (h : mr_IV w) (k : ∀ w2 : mr_Wd, mr_IV w2 → mr_DJ p l e R s m args below meth c G 7 nc ns Q 1334 (mr_LS i) [] w2) : mr_DJ p l e R s m args below meth c G 7 nc ns Q 1184 (mr_LS i) [] w := by
  obtain ⟨hh, hX, hbl, hbA, hL, hRR, hcs⟩ := hL0
  refine mrD_aload_n hh dL_law_1184 (a := 0) (b := 0) rfl ?_
  refine mrD_arg hh hX hbl hbA hL rfl rfl dL_law_1185 dL_law_1186 dL_law_1188 dL_law_1189 dL_law_1190 (by omega) (by omega) ?_
  obtain ⟨fs0, hw0⟩ := mr_IV_0 h
  refine mrD_callP (fun r w1 => T_X7_kernel [vR 18 0, vI ((xs (i + 1).toNat).toInt)] w1 (fun r2 w2 => mr_EQ r r2 w2)) [vI ((xs (i + 1).toNat).toInt)] hh dL_law_1191 (ok_X6_kernel l G) ml_L_131 cl_X6_kernel cv_X6_kernel ⟨Nat.le_trans (by decide) hRR.1, Nat.le_trans (by decide) hRR.2⟩ rfl rfl (Nat.zero_le _) hw0 hcs (cs_kernel h (mr_xr _)) (fun r w1 h1 => ?_)
  obtain ⟨fs1, hw1⟩ : ∃ fs : List mr_AV, w1 18 = eO 7 fs := by
    obtain ⟨_, _, _, _, _, _, _, _, _, _, _, _, _, _, _, _, _, _, _, _, _, _, _, _, _, _, _, _, _, hM, _⟩ := h1
    exact ⟨_, hM.1⟩
  refine mrD_aload_n hh dL_law_1194 (a := 18) (b := 0) rfl ?_
  refine mrD_arg hh hX hbl hbA hL rfl rfl dL_law_1195 dL_law_1196 dL_law_1198 dL_law_1199 dL_law_1200 (by omega) (by omega) ?_
  refine mrD_callP (st := r.toList ++ []) (fun r2 w2 => mr_EQ r r2 w2) [vI ((xs (i + 1).toNat).toInt)] hh dL_law_1201 (ok_X7_kernel l G) ml_L_134 cl_X7_kernel cv_X7_kernel ⟨Nat.le_trans (by decide) hRR.1, Nat.le_trans (by decide) hRR.2⟩ rfl rfl (mr_cat_r r) hw1 hcs h1 (fun r2 w2 h2 => ?_)
  obtain ⟨v, hv, hv2, hI⟩ := h2
  subst hv hv2
  exact mrD_same (x := v) (y := v) (st := []) (tgt := 1334) hh dL_law_1204 (by decide) rfl (k w2 hI)
theorem lc_sides (hL0 : mr_LH p s m args meth c G rt R nc ns L xs) (hi0 : 0 ≤ i) (hi1 : i + 6 ≤ L) (h : mr_IV w) (k : ∀ w2 : mr_Wd, mr_IV w2 → mr_DJ p l e R s m args below meth c G 7 nc ns Q 1334 (mr_LS i) [] w2) : mr_DJ p l e R s m args below meth c G 7 nc ns Q 1209 (mr_LS i) [] w := by
  obtain ⟨hh, hX, hbl, hbA, hL, hRR, hcs⟩ := hL0
  refine mrD_aload_n hh dL_law_1209 (a := 0) (b := 0) rfl ?_
  refine mrD_arg hh hX hbl hbA hL rfl rfl dL_law_1210 dL_law_1211 dL_law_1213 dL_law_1214 dL_law_1215 (by omega) (by omega) ?_
  obtain ⟨fs0, hw0⟩ := mr_IV_0 h
  refine mrD_callP (fun r w1 => T_X7_sides [vR 18 0, vI ((xs (i + 1).toNat).toInt)] w1 (fun r2 w2 => mr_EQ r r2 w2)) [vI ((xs (i + 1).toNat).toInt)] hh dL_law_1216 (ok_X6_sides l G) ml_L_135 cl_X6_sides cv_X6_sides ⟨Nat.le_trans (by decide) hRR.1, Nat.le_trans (by decide) hRR.2⟩ rfl rfl (Nat.zero_le _) hw0 hcs (cs_sides h (mr_xr _)) (fun r w1 h1 => ?_)
  obtain ⟨fs1, hw1⟩ : ∃ fs : List mr_AV, w1 18 = eO 7 fs := by
    obtain ⟨_, _, _, _, _, _, _, _, _, _, _, _, _, _, _, _, _, _, _, _, _, _, _, _, _, _, _, hM, _⟩ := h1
    exact ⟨_, hM.1⟩
  refine mrD_aload_n hh dL_law_1219 (a := 18) (b := 0) rfl ?_
  refine mrD_arg hh hX hbl hbA hL rfl rfl dL_law_1220 dL_law_1221 dL_law_1223 dL_law_1224 dL_law_1225 (by omega) (by omega) ?_
  refine mrD_callP (st := r.toList ++ []) (fun r2 w2 => mr_EQ r r2 w2) [vI ((xs (i + 1).toNat).toInt)] hh dL_law_1226 (ok_X7_sides l G) ml_L_138 cl_X7_sides cv_X7_sides ⟨Nat.le_trans (by decide) hRR.1, Nat.le_trans (by decide) hRR.2⟩ rfl rfl (mr_cat_r r) hw1 hcs h1 (fun r2 w2 h2 => ?_)
  obtain ⟨v, hv, hv2, hI⟩ := h2
  subst hv hv2
  exact mrD_same (x := v) (y := v) (st := []) (tgt := 1334) hh dL_law_1229 (by decide) rfl (k w2 hI)
theorem lc_drawn (hL0 : mr_LH p s m args meth c G rt R nc ns L xs) (hi0 : 0 ≤ i) (hi1 : i + 6 ≤ L) (h : mr_IV w) (k : ∀ w2 : mr_Wd, mr_IV w2 → mr_DJ p l e R s m args below meth c G 7 nc ns Q 1334 (mr_LS i) [] w2) : mr_DJ p l e R s m args below meth c G 7 nc ns Q 1234 (mr_LS i) [] w := by
  obtain ⟨hh, hX, hbl, hbA, hL, hRR, hcs⟩ := hL0
  refine mrD_aload_n hh dL_law_1234 (a := 0) (b := 0) rfl ?_
  refine mrD_arg hh hX hbl hbA hL rfl rfl dL_law_1235 dL_law_1236 dL_law_1238 dL_law_1239 dL_law_1240 (by omega) (by omega) ?_
  refine mrD_arg hh hX hbl hbA hL rfl rfl dL_law_1241 dL_law_1242 dL_law_1244 dL_law_1245 dL_law_1246 (by omega) (by omega) ?_
  obtain ⟨fs0, hw0⟩ := mr_IV_0 h
  refine mrD_callP (fun r w1 => T_X7_drawn [vR 18 0, vI ((xs (i + 1).toNat).toInt), vI ((xs (i + 2).toNat).toInt)] w1 (fun r2 w2 => mr_EQ r r2 w2)) [vI ((xs (i + 1).toNat).toInt), vI ((xs (i + 2).toNat).toInt)] hh dL_law_1247 (ok_X6_drawn l G) ml_L_139 cl_X6_drawn cv_X6_drawn ⟨Nat.le_trans (by decide) hRR.1, Nat.le_trans (by decide) hRR.2⟩ rfl rfl (Nat.zero_le _) hw0 hcs (cs_drawn h (mr_xr _)) (fun r w1 h1 => ?_)
  obtain ⟨fs1, hw1⟩ : ∃ fs : List mr_AV, w1 18 = eO 7 fs := by
    obtain ⟨_, _, _, _, _, _, _, _, _, _, _, _, _, _, _, _, _, _, _, _, _, _, _, _, _, _, _, _, _, hM, _⟩ := h1
    exact ⟨_, hM.1⟩
  refine mrD_aload_n hh dL_law_1250 (a := 18) (b := 0) rfl ?_
  refine mrD_arg hh hX hbl hbA hL rfl rfl dL_law_1251 dL_law_1252 dL_law_1254 dL_law_1255 dL_law_1256 (by omega) (by omega) ?_
  refine mrD_arg hh hX hbl hbA hL rfl rfl dL_law_1257 dL_law_1258 dL_law_1260 dL_law_1261 dL_law_1262 (by omega) (by omega) ?_
  refine mrD_callP (st := r.toList ++ []) (fun r2 w2 => mr_EQ r r2 w2) [vI ((xs (i + 1).toNat).toInt), vI ((xs (i + 2).toNat).toInt)] hh dL_law_1263 (ok_X7_drawn l G) ml_L_142 cl_X7_drawn cv_X7_drawn ⟨Nat.le_trans (by decide) hRR.1, Nat.le_trans (by decide) hRR.2⟩ rfl rfl (mr_cat_r r) hw1 hcs h1 (fun r2 w2 h2 => ?_)
  obtain ⟨v, hv, hv2, hI⟩ := h2
  subst hv hv2
  exact mrD_same (x := v) (y := v) (st := []) (tgt := 1334) hh dL_law_1266 (by decide) rfl (k w2 hI)
theorem lc_undo (hL0 : mr_LH p s m args meth c G rt R nc ns L xs) (hi0 : 0 ≤ i) (hi1 : i + 6 ≤ L) (h : mr_IV w) (k : ∀ w2 : mr_Wd, mr_IV w2 → mr_DJ p l e R s m args below meth c G 7 nc ns Q 1334 (mr_LS i) [] w2) : mr_DJ p l e R s m args below meth c G 7 nc ns Q 1271 (mr_LS i) [] w := by
  obtain ⟨hh, hX, hbl, hbA, hL, hRR, hcs⟩ := hL0
  refine mrD_aload_n hh dL_law_1271 (a := 0) (b := 0) rfl ?_
  obtain ⟨fs0, hw0⟩ := mr_IV_0 h
  refine mrD_callP (fun r w1 => T_X7_undo [vR 18 0] w1 (fun r2 w2 => mr_EQ r r2 w2)) [] hh dL_law_1272 (ok_X6_undo l G) ml_L_143 cl_X6_undo cv_X6_undo ⟨Nat.le_trans (by decide) hRR.1, Nat.le_trans (by decide) hRR.2⟩ rfl rfl (Nat.zero_le _) hw0 hcs (cs_undo h) (fun r w1 h1 => ?_)
  obtain ⟨fs1, hw1⟩ : ∃ fs : List mr_AV, w1 18 = eO 7 fs := by
    obtain ⟨_, _, _, _, _, _, _, _, _, _, _, _, _, _, _, _, _, _, _, _, _, _, _, _, hM, _⟩ := h1
    exact ⟨_, hM.1⟩
  refine mrD_aload_n hh dL_law_1275 (a := 18) (b := 0) rfl ?_
  refine mrD_callP (st := r.toList ++ []) (fun r2 w2 => mr_EQ r r2 w2) [] hh dL_law_1276 (ok_X7_undo l G) ml_L_146 cl_X7_undo cv_X7_undo ⟨Nat.le_trans (by decide) hRR.1, Nat.le_trans (by decide) hRR.2⟩ rfl rfl (mr_cat_r r) hw1 hcs h1 (fun r2 w2 h2 => ?_)
  obtain ⟨v, hv, hv2, hI⟩ := h2
  subst hv hv2
  exact mrD_same (x := v) (y := v) (st := []) (tgt := 1334) hh dL_law_1279 (by decide) rfl (k w2 hI)
theorem lc_image (hL0 : mr_LH p s m args meth c G rt R nc ns L xs) (hi0 : 0 ≤ i) (hi1 : i + 6 ≤ L) (h : mr_IV w) (k : ∀ w2 : mr_Wd, mr_IV w2 → mr_DJ p l e R s m args below meth c G 7 nc ns Q 1334 (mr_LS i) [] w2) : mr_DJ p l e R s m args below meth c G 7 nc ns Q 1284 (mr_LS i) [] w := by
  obtain ⟨hh, hX, hbl, hbA, hL, hRR, hcs⟩ := hL0
  refine mrD_aload_n hh dL_law_1284 (a := 0) (b := 0) rfl ?_
  refine mrD_arg hh hX hbl hbA hL rfl rfl dL_law_1285 dL_law_1286 dL_law_1288 dL_law_1289 dL_law_1290 (by omega) (by omega) ?_
  obtain ⟨fs0, hw0⟩ := mr_IV_0 h
  refine mrD_callP (fun r w1 => T_X7_image [vR 18 0, vI ((xs (i + 1).toNat).toInt)] w1 (fun r2 w2 => mr_EQ r r2 w2)) [vI ((xs (i + 1).toNat).toInt)] hh dL_law_1291 (ok_X6_image l G) ml_L_147 cl_X6_image cv_X6_image ⟨Nat.le_trans (by decide) hRR.1, Nat.le_trans (by decide) hRR.2⟩ rfl rfl (Nat.zero_le _) hw0 hcs (cs_image h (mr_xr _)) (fun r w1 h1 => ?_)
  obtain ⟨fs1, hw1⟩ : ∃ fs : List mr_AV, w1 18 = eO 7 fs := by
    obtain ⟨_, _, _, _, _, _, _, _, _, _, _, _, _, _, _, _, _, _, _, _, _, _, _, _, _, hM, _⟩ := h1
    exact ⟨_, hM.1⟩
  refine mrD_aload_n hh dL_law_1294 (a := 18) (b := 0) rfl ?_
  refine mrD_arg hh hX hbl hbA hL rfl rfl dL_law_1295 dL_law_1296 dL_law_1298 dL_law_1299 dL_law_1300 (by omega) (by omega) ?_
  refine mrD_callP (st := r.toList ++ []) (fun r2 w2 => mr_EQ r r2 w2) [vI ((xs (i + 1).toNat).toInt)] hh dL_law_1301 (ok_X7_image l G) ml_L_150 cl_X7_image cv_X7_image ⟨Nat.le_trans (by decide) hRR.1, Nat.le_trans (by decide) hRR.2⟩ rfl rfl (mr_cat_r r) hw1 hcs h1 (fun r2 w2 h2 => ?_)
  obtain ⟨v, hv, hv2, hI⟩ := h2
  subst hv hv2
  exact mrD_same (x := v) (y := v) (st := []) (tgt := 1334) hh dL_law_1304 (by decide) rfl (k w2 hI)
theorem lc_restore (hL0 : mr_LH p s m args meth c G rt R nc ns L xs) (hi0 : 0 ≤ i) (hi1 : i + 6 ≤ L) (h : mr_IV w) (k : ∀ w2 : mr_Wd, mr_IV w2 → mr_DJ p l e R s m args below meth c G 7 nc ns Q 1334 (mr_LS i) [] w2) : mr_DJ p l e R s m args below meth c G 7 nc ns Q 1309 (mr_LS i) [] w := by
  obtain ⟨hh, hX, hbl, hbA, hL, hRR, hcs⟩ := hL0
  refine mrD_aload_n hh dL_law_1309 (a := 0) (b := 0) rfl ?_
  refine mrD_arg hh hX hbl hbA hL rfl rfl dL_law_1310 dL_law_1311 dL_law_1313 dL_law_1314 dL_law_1315 (by omega) (by omega) ?_
  obtain ⟨fs0, hw0⟩ := mr_IV_0 h
  refine mrD_callP (fun r w1 => T_X7_restore [vR 18 0, vI ((xs (i + 1).toNat).toInt)] w1 (fun r2 w2 => mr_EQ r r2 w2)) [vI ((xs (i + 1).toNat).toInt)] hh dL_law_1316 (ok_X6_restore l G) ml_L_151 cl_X6_restore cv_X6_restore ⟨Nat.le_trans (by decide) hRR.1, Nat.le_trans (by decide) hRR.2⟩ rfl rfl (Nat.zero_le _) hw0 hcs (cs_restore h (mr_xr _)) (fun r w1 h1 => ?_)
  obtain ⟨fs1, hw1⟩ : ∃ fs : List mr_AV, w1 18 = eO 7 fs := by
    obtain ⟨_, _, _, _, _, _, _, _, _, _, _, _, _, _, _, _, _, _, _, _, _, _, _, _, _, hM, _⟩ := h1
    exact ⟨_, hM.1⟩
  refine mrD_aload_n hh dL_law_1319 (a := 18) (b := 0) rfl ?_
  refine mrD_arg hh hX hbl hbA hL rfl rfl dL_law_1320 dL_law_1321 dL_law_1323 dL_law_1324 dL_law_1325 (by omega) (by omega) ?_
  refine mrD_callP (st := r.toList ++ []) (fun r2 w2 => mr_EQ r r2 w2) [vI ((xs (i + 1).toNat).toInt)] hh dL_law_1326 (ok_X7_restore l G) ml_L_154 cl_X7_restore cv_X7_restore ⟨Nat.le_trans (by decide) hRR.1, Nat.le_trans (by decide) hRR.2⟩ rfl rfl (mr_cat_r r) hw1 hcs h1 (fun r2 w2 h2 => ?_)
  obtain ⟨v, hv, hv2, hI⟩ := h2
  subst hv hv2
  exact mrD_same (x := v) (y := v) (st := []) (tgt := 1334) hh dL_law_1329 (by decide) rfl (k w2 hI)
end LWC
