section MX5
variable {p : Program} {l : Launch} {e : Env} {R : Room} {s : State} {m : MethodId} {args : Array Value} {below : List Frame} {meth : Method} {c : Code} {G : mr_G} {own : String} {cc : ByteArray} {nL : Nat} {ret : Option FieldType} {nc ns : Nat} {Q : State → Prop} {pc : Nat} {ls : List (Option mr_AV)} {st : List mr_AV} {w : mr_Wd}
theorem mrD_lcmp {x y : Int} (hh : mr_Hy p s m args meth c G own cc nL ret) (d : decode cc pc = .ok (.lcmp, 1)) (hx : InL x) (hy : InL y) (kk : ∀ q : Int, (-1 ≤ q ∧ q ≤ 1) → (q = 0 ↔ x = y) → mr_DJ p l e R s m args below meth c G nL nc ns Q (pc + 1) ls (vI q :: st) w) : mr_DJ p l e R s m args below meth c G nL nc ns Q pc ls (vL y :: vL x :: st) w := by
  intro H locs lc hC hS hl
  refine W.lcmp hh.1 hh.2.1 d ?_
  have hlt : Int64.ofInt x < Int64.ofInt y ↔ x < y := by rw [Int64.lt_iff_toInt_lt, mr_toL hx, mr_toL hy]
  have hgt : Int64.ofInt x > Int64.ofInt y ↔ y < x := by
    show Int64.ofInt y < Int64.ofInt x ↔ y < x
    rw [Int64.lt_iff_toInt_lt, mr_toL hx, mr_toL hy]
  have heq : Int64.ofInt x = Int64.ofInt y ↔ x = y := by rw [← Int64.toInt_inj, mr_toL hx, mr_toL hy]
  unfold lg_cmp
  by_cases c1 : y < x
  · rw [if_pos (hgt.mpr c1)]
    exact kk 1 ⟨by decide, by decide⟩ ⟨fun h => by omega, fun h => by omega⟩ H locs lc hC hS hl
  · rw [if_neg (fun q => c1 (hgt.mp q))]
    by_cases c2 : x = y
    · rw [if_pos (heq.mpr c2)]
      exact kk 0 ⟨by decide, by decide⟩ ⟨fun _ => c2, fun _ => rfl⟩ H locs lc hC hS hl
    · rw [if_neg (fun q => c2 (heq.mp q))]
      exact kk (-1) ⟨by decide, by decide⟩ ⟨fun h => by omega, fun h => absurd h c2⟩ H locs lc hC hS hl
theorem mrD_backM {mc ms : Nat} {H : Heap} {locs : List Loc} {lc : Array Slot} {st0 : List Value} {a : Array Value} {Po2 : Option mr_AV → mr_Wd → Prop}
    (hr : va_Run p l e R s m args below meth c H locs nc ns mc ms (F0 m pc lc st0) (st.map (mr_cv G)) (mr_Q G Po2 a) (mr_A G)) (hS : va_S (mr_A G) s.heap H locs)
    (kk : ∀ (r : Option mr_AV) (w2 : mr_Wd), Po2 r w2 → mr_DJ p l e R s m args below meth c G nL (nc + mc) (ns + ms) Q (pc + 3) ls (r.toList ++ st) w2) (hl : mr_ls G nL ls lc) :
    W p l e R s m args below meth c H locs nc ns Q (F0 m pc lc st0) := by
  intro T hT X
  obtain ⟨v, st₀, t, T', L, h0, X', hL, e1, e2, ⟨⟨r, w2, hv, hp, hC⟩, hz, hk⟩, go⟩ := hr T hT X
  cases hv
  rw [h0] at hz hk
  have hS2 : va_S (mr_A G) s.heap T'.heap (locs ++ L) := ⟨Nat.le_trans hS.1 (by rw [e1]; exact hz), fun q h1 h2 => by rw [e1, hk q (Nat.lt_of_lt_of_le h1 hS.1) h2]; exact hS.2.1 q h1 h2, fun q hq => by
      rcases List.mem_append.mp hq with h | h
      · exact hS.2.2 q h
      · exact hL q h⟩
  obtain ⟨t2, a1, b1⟩ := kk r w2 hp T'.heap (locs ++ L) lc (by rw [e1]; exact hC) hS2 hl T' rfl X'
  refine ⟨t2, go t2 ?_, b1⟩
  have e3 : (r.map (mr_cv G)).toList ++ st.map (mr_cv G) = (r.toList ++ st).map (mr_cv G) := by cases r <;> simp
  show Steps _ _ _ (T'.setTop (F0 m (pc + 3) lc ((r.map (mr_cv G)).toList ++ st.map (mr_cv G)))) t2
  rw [e3]
  exact a1
theorem mx_st : Cond.static yL_row ∈ mr_ws := mr_mem 862 (by decide +kernel) rfl
theorem mx_gW : GoodIn mr_ws (Cond.codeWith yL_row cL_row 5 (some .int) mx_hs :: mr_ws) := fun w h => by
  rcases List.mem_cons.mp h with rfl | h
  · exact ⟨mx_cw, mr_ws_good mx_cw⟩
  · exact ⟨h, mr_ws_good h⟩
theorem mx_callL {Pp : Option mr_AV → mr_Wd → Prop} (as : List mr_AV) {st0 : List mr_AV} (hh : mr_Hy p s m args meth c G RL cc nL ret) (hX : mx_K G s)
    (d : decode cc pc = .ok (.invokestatic 55, 3)) (hM : Met l yL_row (Cond.codeWith yL_row cL_row 5 (some .int) mx_hs :: mr_ws) { frames := 9, cells := 1, slots := 6, locals := 222 } (mx_Pc G as w) (mr_Q G Pp) 1 6 (mr_A G)) (hR : 10 ≤ R.frames ∧ 246 ≤ R.locals) (hn : as.length = 4) (hst : st0 = as.reverse ++ st) (hcat : (st.map mr_cat).sum ≤ 8) (hcs : nc + 1 ≤ R.cells ∧ ns + 6 ≤ R.slots)
    (k : ∀ (r : Option mr_AV) (w2 : mr_Wd), Pp r w2 → mr_DJ p l e R s m args below meth c G nL (nc + 1) (ns + 6) Q (pc + 3) ls (r.toList ++ st) w2) : mr_DJ p l e R s m args below meth c G nL nc ns Q pc ls st0 w := by
  intro H locs lc hC hS hl
  obtain ⟨hx, hb, hml, hr, hlk, hown, hts, hK⟩ := id hh
  have hstk : st0.map (mr_cv G) = (as.map (mr_cv G)).reverse ++ st.map (mr_cv G) := by
    rw [hst]; simp
  exact mrD_backM (nL := nL) (ls := ls) (a := (as.map (mr_cv G)).toArray) (vx_runSW (As := as.map (mr_cv G)) (n := 4) (index := 55) ⟨hx, hb, hml, hown, hts⟩ hM ⟨⟨rfl, rfl, hR.1, hR.2, pay_in hts mx_gW, List.mem_cons_self⟩, hts _ mx_cw, hts _ iz_L, ⟨by decide, by decide⟩, fun sig h => by
      have h2 : (parseMethodDescriptor yL_row.desc).map (fun d => d.parameters.length) = some 4 := by decide +kernel
      rw [h] at h2
      exact (Option.some.inj h2).symm, hts _ ml_L_55, hts _ mx_st⟩
    ⟨mx_Pc.blind _ _ _, fun U hU hW => ⟨⟨rfl, by rw [hU]; exact hC, hK.to (locs := locs) hW (by rw [hU]; exact hS)⟩, hX.to (locs := locs) hW (by rw [hU]; exact hS)⟩⟩ rfl (by rw [List.length_map]; exact hn) hl.1 hstk (lv_room (by rw [mr_cats]; exact hcat)) d hcs) hS k hl
end MX5
theorem mr_MW_cg {w w2 : mr_Wd} {th tp sz zo fr kd nb ft pl wd sm md li sd : Int} {T N R K Sn ik s1 s2 ls : Nat → Int} (hF : ∀ k : Nat, 18 ≤ k → k ≠ 28 → w2 k = w k) (hM : mr_MW w th tp sz zo fr kd nb ft pl wd sm md li sd T N R K Sn ik s1 s2 ls) : mr_MW w2 th tp sz zo fr kd nb ft pl wd sm md li sd T N R K Sn ik s1 s2 ls := by
  obtain ⟨a1, a2, a3, a4, a5, a6, a7, a8, a9, a10, a11⟩ := hM
  exact ⟨(hF _ (by decide) (by decide)).trans a1, (hF _ (by decide) (by decide)).trans a2, (hF _ (by decide) (by decide)).trans a3, (hF _ (by decide) (by decide)).trans a4, (hF _ (by decide) (by decide)).trans a5, (hF _ (by decide) (by decide)).trans a6, (hF _ (by decide) (by decide)).trans a7, (hF _ (by decide) (by decide)).trans a8, (hF _ (by decide) (by decide)).trans a9, (hF _ (by decide) (by decide)).trans a10, a11⟩
theorem cr_tb {n0 nx ct fk : Int} {g f im : Nat → Int} {S I : Nat → Nat → Int} {tp ft nb wd sm : Int} {T N K Sn ik : Nat → Int} (hC : mr_CI n0 nx ct fk g f im S I tp ft nb wd sm T N K Sn ik) {p x : Int} (hp : mr_pk f p ∧ 0 ≤ x ∧ x < mr_sz f p 0) : InR (mr_tb (mr_frl f p 3 0 x (fun _ => 0))) := by
  obtain ⟨c1, c2, c3, c4, ⟨c5, c6⟩, c7, c8, c9⟩ := id hC
  obtain ⟨W, L, hNG, e0, e1, e2, hWC, hz, hf0⟩ := mr_OK_NG c4
  obtain ⟨hW, hCq⟩ := hWC hp.1.1
  have hF := hW.2.2.2.2.2.1 p hp.1.2.1 hp.1.2.2
  have hM1 : 1 ≤ f 0 := by have := hp.1.1; omega
  have hsz := (mr_sz_e hM1 rfl hW.2.1 hW.2.2.2.1 hF).1
  obtain ⟨k1, k2, k3⟩ := mr_frl_ok hM1 rfl hW.2.1 hW.2.2.2.1 hF (k := x) ⟨hp.2.1, by rw [← hsz]; exact hp.2.2⟩ (z := fun _ => 0) (fun _ _ => rfl)
  have b0 := k1 0 (by decide)
  have b1 := k1 1 (by decide)
  have b2 := k1 2 (by decide)
  unfold mr_tb
  exact ⟨by omega, by omega⟩
section MX6
variable {p : Program} {l : Launch} {e : Env} {R : Room} {s : State} {m : MethodId} {args : Array Value} {below : List Frame} {meth : Method} {c : Code} {G : mr_G} {rt : Option FieldType} {nc ns : Nat} {Q : State → Prop} {L : Nat} {xs : Nat → Int32} {w : mr_Wd} {i : Int}
set_option maxHeartbeats 1000000 in
theorem lc_row (hlt : l.stackTraces = false) (hKX : mx_K G s) (hL0 : mr_LH p s m args meth c G rt R (nc + 1) (ns + 6) L xs) (hi0 : 0 ≤ i) (hi1 : i + 6 ≤ L) (h : mr_IV w) (k : ∀ w2 : mr_Wd, mr_IV w2 → mr_DJ p l e R s m args below meth c G 7 (nc + 1) (ns + 6) Q 1334 (mr_LS i) [] w2) : mr_DJ p l e R s m args below meth c G 7 nc ns Q 428 (mr_LS i) [] w := by
  obtain ⟨hh, hX, hbl, hbA, hL, hRR, hcs⟩ := hL0
  obtain ⟨n0, nx, ct, fk, g, f, im, S, I, th, tp, sz, zo, fr, kd, nb, ft, pl, wd, sm, md, li, sd, T, N, R9, K, Sn, ik, s1, s2, ls, hXS, hM, hC, ⟨fo, h28⟩⟩ := h
  -- behind the law's row: both sides told, v in out where nothing was thrown
  have rest : ∀ (tv v : Int) (w2 : mr_Wd), (tv = 0 ∨ tv = 1) → InR v → (tv = 0 → ∃ f2 : Nat → Int, w2 28 = eA 3 1 f2 ∧ f2 0 = v) → T_X7_row [vR 18 0, vI ((xs (i + 1).toNat).toInt), vI ((xs (i + 2).toNat).toInt)] w2 (mr_RT tv v w2) → (∃ fs : List mr_AV, w2 18 = eO 7 fs) → mr_DJ p l e R s m args below meth c G 7 (nc + 1) (ns + 6) Q 445 (mr_LS i) [vI tv] w2 := fun tv v w2 htv hv ho hT ⟨fs1, hw1⟩ => by
    have hsr : InR tv := by rcases htv with q | q <;> subst q <;> exact ⟨by decide, by decide⟩
    refine mrD_istore hh dL_law_445 rfl (by decide) ?_
    refine mrD_aload_n hh dL_law_447 (a := 18) (b := 0) rfl ?_
    refine mrD_arg hh hX hbl hbA hL rfl rfl dL_law_448 dL_law_449 dL_law_451 dL_law_452 dL_law_453 (by omega) (by omega) ?_
    refine mrD_arg hh hX hbl hbA hL rfl rfl dL_law_454 dL_law_455 dL_law_457 dL_law_458 dL_law_459 (by omega) (by omega) ?_
    refine mrD_callP (mr_RT tv v w2) [vI ((xs (i + 1).toNat).toInt), vI ((xs (i + 2).toNat).toInt)] hh dL_law_460 (ok_X7_row l G) ml_L_60 cl_X7_row cv_X7_row ⟨Nat.le_trans (by decide) hRR.1, Nat.le_trans (by decide) hRR.2⟩ rfl rfl (Nat.zero_le _) hw1 hcs hT (fun r w3 h3 => ?_)
    obtain ⟨hr, hI3, h283, tp3, sz3, zo3, fr3, kd3, nb3, ft3, pl3, wd3, sm3, md3, li3, sd3, h183⟩ := h3
    subst hr
    refine mrD_istore hh dL_law_463 rfl (by decide) ?_
    refine mrD_aload_n hh dL_law_465 (a := 18) (b := 0) rfl ?_
    refine mrD_callP (fun r w4 => r = some (vI tv) ∧ w4 = w3) [] hh dL_law_466 (ok_X7_thrown l G) ml_L_61 cl_X7_thrown cv_X7_thrown ⟨Nat.le_trans (by decide) hRR.1, Nat.le_trans (by decide) hRR.2⟩ rfl rfl (Nat.zero_le _) h183 hcs ⟨_, _, _, _, _, _, _, _, _, _, _, _, _, _, rfl, h183, rfl, rfl⟩ (fun r w4 h4 => ?_)
    obtain ⟨hr, hw4⟩ := h4
    subst hr hw4
    refine mrD_iload hh dL_law_469 (x := tv) rfl ?_
    refine mrD_same (x := tv) (y := tv) (st := []) (tgt := 476) hh dL_law_471 (by decide) rfl ?_
    refine mrD_iload hh dL_law_476 (x := tv) rfl ?_
    have fin : mr_DJ p l e R s m args below meth c G 7 (nc + 1) (ns + 6) Q 493 [some (vS 300), some (vR 0 0), some (vR 18 0), some (vR 28 0), some (vI i), some (vI tv), some (vI v)] [] w4 := by
      refine mrD_goto (tgt := 1334) hh dL_law_493 (by decide) ?_
      exact mrD_weak (mr_LS i) hh ⟨rfl, rfl, rfl, rfl, rfl, trivial⟩ (k w4 hI3)
    refine mrD_if_ne (tgt := 493) hh dL_law_478 (by decide) hsr (fun _ => fin) (fun hz => ?_)
    obtain ⟨f2, h282, hf2⟩ := ho hz
    refine mrD_aload_n hh dL_law_481 (a := 28) (b := 0) rfl ?_
    refine mrD_iconst hh dL_law_482 ?_
    refine mrD_lald hh dL_law_483 (h283.trans h282) (Int.le_refl 0) (by decide) (by decide) ?_
    refine mrD_iload hh dL_law_484 (x := v) rfl ?_
    refine mrD_i2l hh dL_law_486 hv ?_
    refine mrD_lcmp hh dL_law_487 (by rw [show f2 (0 : Int).toNat = v from hf2]; exact ⟨by have := hv.1; omega, by have := hv.2; omega⟩) ⟨by have := hv.1; omega, by have := hv.2; omega⟩ (fun q hq1 hq2 => ?_)
    have hq0 : q = 0 := hq2.mpr hf2
    subst hq0
    exact mrD_if_eq (tgt := 493) hh dL_law_488 (by decide) mr_in0 (fun _ => fin) (fun z => absurd rfl z)
  refine mrD_aload_n hh dL_law_428 (a := 0) (b := 0) rfl ?_
  refine mrD_arg hh hX hbl hbA hL rfl rfl dL_law_429 dL_law_430 dL_law_432 dL_law_433 dL_law_434 (by omega) (by omega) ?_
  refine mrD_arg hh hX hbl hbA hL rfl rfl dL_law_435 dL_law_436 dL_law_438 dL_law_439 dL_law_440 (by omega) (by omega) ?_
  refine mrD_aload_n hh dL_law_441 (a := 28) (b := 0) rfl ?_
  refine mx_callL [vR 0 0, vI ((xs (i + 1).toNat).toInt), vI ((xs (i + 2).toNat).toInt), vR 28 0] hh hKX dL_law_442 (ok_L_row l hlt G hXS h28 (mr_xr _) (mr_xr _) (fun hp => cr_tb hC hp)) ⟨Nat.le_trans (by decide) hRR.1, Nat.le_trans (by decide) hRR.2⟩ rfl rfl (Nat.zero_le _) hcs (fun r w2 hp => ?_)
  rcases hp with ⟨hc, hr, hX2, hF2, f2, h282, hf2⟩ | ⟨hno, hr, hw2⟩
  · subst hr
    have hM2 := mr_MW_cg hF2 hM
    exact rest 0 _ w2 (Or.inl rfl) (cr_tb hC hc) (fun _ => ⟨f2, h282, hf2⟩) ((cr_row hX2 hM2 hC ⟨f2, h282⟩ (mr_xr _) (mr_xr _)).1 hc) ⟨_, hM2.1⟩
  · subst hr hw2
    exact rest 1 0 _ (Or.inr rfl) mr_in0 (fun z => absurd z (by decide)) ((cr_row hXS hM hC ⟨fo, h28⟩ (mr_xr _) (mr_xr _)).2 hno) ⟨_, hM.1⟩
end MX6
