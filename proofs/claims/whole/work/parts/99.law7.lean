section MX4
variable {p : Program} {l : Launch} {e : Env} {R : Room} {s : State} {m : MethodId} {args : Array Value} {below : List Frame} {meth : Method} {c : Code} {G : mr_G} {own : String} {cc : ByteArray} {nL : Nat} {ret : Option FieldType} {nc ns : Nat} {Q : State → Prop} {pc : Nat} {ls : List (Option mr_AV)} {st : List mr_AV} {w : mr_Wd}
theorem mrD_i2l {x : Int} (hh : mr_Hy p s m args meth c G own cc nL ret) (d : decode cc pc = .ok (.i2l, 1)) (hx : InR x) (k : mr_DJ p l e R s m args below meth c G nL nc ns Q (pc + 1) ls (vL x :: st) w) : mr_DJ p l e R s m args below meth c G nL nc ns Q pc ls (vI x :: st) w := by
  intro H locs lc hC hS hl
  exact lv_i2l hh.1 hh.2.1 d (Int32.toInt64_ofInt (by have := hx.1; show (-2147483648 : Int) ≤ x; omega) (by have := hx.2; show x ≤ (2147483647 : Int); omega)) (k H locs lc hC hS hl)
theorem mrD_last {a n : Nat} {f : Nat → Int} {i x : Int} (hh : mr_Hy p s m args meth c G own cc nL ret) (d : decode cc pc = .ok (.lastore, 1)) (hw : w a = eA 3 n f) (h0 : 0 ≤ i) (h1 : i < n) (hn : n < 2147483648) (k : mr_DJ p l e R s m args below meth c G nL nc ns Q (pc + 1) ls st (mr_up w a (eA 3 n (mr_fs f i.toNat x)))) : mr_DJ p l e R s m args below meth c G nL nc ns Q pc ls (vL x :: vI i :: vR a 0 :: st) w := by
  intro H locs lc hC hS hl
  obtain ⟨hx, hb, hml, hr, hlk, hown, hts, hK⟩ := id hh
  have hc := hC a
  rw [hw] at hc
  obtain ⟨g1, g2⟩ := mr_idx h0 h1 hn
  have hc : H[mr_ad G a 0]? = some (arrV (G.2.1 3) n (fun j => .long (Int64.ofInt (f j)))) := hc
  refine W.last hx hb hc ((hK.1.2 3 _ rfl).1 n (fun j => .long (Int64.ofInt (f j)))) (fun q => by cases q) (by rw [arrV_size]; exact g1) rfl rfl d fun H1 e1 z oq => ?_
  refine k H1 _ lc (hC.set (k := a) (i := 0) hK.2.1 oq ?_) (hS.put z oq (hK.2.1.2 a 0)) hl
  show H1[mr_ad G a 0]? = some (arrV (G.2.1 3) n (fun j => .long (Int64.ofInt (mr_fs f i.toNat x j))))
  rw [e1, arrV_store, g2]
  refine congrArg some (congrArg (arrV _ n) (funext fun q => ?_))
  by_cases hq : q = i.toNat <;> simp [updV, mr_fs, hq]
theorem mrD_lald {a n : Nat} {f : Nat → Int} {i : Int} (hh : mr_Hy p s m args meth c G own cc nL ret) (d : decode cc pc = .ok (.laload, 1)) (hw : w a = eA 3 n f) (h0 : 0 ≤ i) (h1 : i < n) (hn : n < 2147483648) (k : mr_DJ p l e R s m args below meth c G nL nc ns Q (pc + 1) ls (vL (f i.toNat) :: st) w) : mr_DJ p l e R s m args below meth c G nL nc ns Q pc ls (vI i :: vR a 0 :: st) w := by
  intro H locs lc hC hS hl
  obtain ⟨hx, hb, hml, hr, hlk, hown, hts, hK⟩ := id hh
  have hc := hC a
  rw [hw] at hc
  have hP : va_P G.1 vwCl [(mr_ad G a 0, .inl (G.2.1 3, n, .inr (.inl (fun j => Int64.ofInt (f j)))))] H := fun k9 q h9 => by
    cases k9 with
    | zero => cases h9; exact hc
    | succ n => simp at h9
  obtain ⟨g1, g2⟩ := mr_idx h0 h1 hn
  refine va_lald hx hb hK.1 hP 0 3 rfl rfl (i := Int32.ofInt i) g1 d ?_
  rw [g2]
  exact k H locs lc hC hS hl
theorem mrX_callV {y : MethodName} {idx ci n b : Nat} {bytes : ByteArray} {maxL rf2 rl2 : Nat} {ret2 : Option FieldType} {Pp : Option mr_AV → mr_Wd → Prop} {Px : mr_Wd → Prop} (as : List mr_AV) {fs : List mr_AV} {st0 : List mr_AV} (hh : mr_Hy p s m args meth c G own cc nL ret) (hX : mx_K G s)
    (d : decode cc pc = .ok (.invokevirtual idx, 3)) (hM : vx_Met l y (Cond.code y bytes maxL ret2 :: mr_ws) { frames := rf2, cells := 1, slots := 6, locals := rl2 } (mx_Pc G (vR b 0 :: as) w) (mr_Q G Pp) (mx_XC G Px) 1 6 (mr_A G)) (hl0 : Cond.methodLink own idx y ∈ mr_ws) (hcl : mr_CL y bytes maxL ret2 n) (hcv : mr_CV y ci) (hR : rf2 + 1 ≤ R.frames ∧ 8 + (maxL + 11) + rl2 ≤ R.locals) (hn : as.length = n) (hst : st0 = as.reverse ++ vR b 0 :: st) (hcat : (st.map mr_cat).sum ≤ 8) (hw : w b = eO ci fs) (hcs : nc + 1 ≤ R.cells ∧ ns + 6 ≤ R.slots)
    (k : ∀ (r : Option mr_AV) (w2 : mr_Wd), Pp r w2 → mr_DJ p l e R s m args below meth c G nL (nc + 1) (ns + 6) Q (pc + 3) ls (r.toList ++ st) w2)
    (kx : ∀ (w2 : mr_Wd) (q : Addr) (ce : Cell) (H1 : Heap) (locs1 : List Loc) (lc : Array Slot), Px w2 → mr_C G w2 H1 → va_S (mr_A G) s.heap H1 locs1 → mr_ls G nL ls lc → H1[q]? = some ce → ce.vm = .none → s.vm.findClass RNS = some ce.cls → vx_W p l e R s m args below meth c H1 locs1 (nc + 1) (ns + 6) Q (F0 m pc lc (st.map (mr_cv G))) q) : mr_DJ p l e R s m args below meth c G nL nc ns Q pc ls st0 w := by
  intro H locs lc hC hS hl
  obtain ⟨hx, hb, hml, hr, hlk, hown, hts, hK⟩ := id hh
  obtain ⟨T0, N0, hci⟩ := hcv.2.2
  have hc := hC b
  rw [hw] at hc
  obtain ⟨r, q0, cell, q1, q2, q3, q4⟩ := hc
  have hfc : s.vm.findClass y.cls = some (G.1.1 ci) := (hK.1.1 ci _ hci).2.1
  have hstk : st0.map (mr_cv G) = (as.map (mr_cv G)).reverse ++ .ref (mr_ad G b 0) :: st.map (mr_cv G) := by
    rw [hst]; simp [mr_cv]
  have hr9 := vx_runV (e := e) (below := below) (meth := meth) (cells := nc) (slots := ns) (H := H) (locs := locs) (g := F0 m pc lc (st0.map (mr_cv G))) (rest := st.map (mr_cv G)) (As := as.map (mr_cv G)) (b := mr_ad G b 0) (C := y.cls) (n := n) (index := idx) ⟨hx, hb, hml, hown, hts⟩ hM ⟨callB_of n hts (mr_goodIn hcl.1) rfl rfl rfl (hts _ hcl.2.1) (hts _ hl0) hcl.2.2 hR, hts _ hcv.1, hts _ hcv.2.1⟩
    ⟨mx_Pc.blind _ _ _, ⟨cell, q1, by rw [q3]; rfl, by rw [q2]; exact hfc⟩, fun U hU hW => ⟨⟨rfl, by rw [hU]; exact hC, hK.to (locs := locs) hW (by rw [hU]; exact hS)⟩, hX.to (locs := locs) hW (by rw [hU]; exact hS)⟩⟩ rfl (by rw [List.length_map]; exact hn) hl.1 hstk (lv_room (by rw [mr_cats]; exact hcat)) d hcs
  have hk9 : ∀ {st₀ t T' : State} {L : List Loc}, st₀.heap = H → T'.heap = t.heap → (∀ q ∈ L, mr_A G q.base) → va_F (mr_A G) st₀ t → va_S (mr_A G) s.heap T'.heap (locs ++ L) := fun {st₀ t T' L} h0 e1 hL hF => by
    obtain ⟨hz, hk⟩ := hF
    rw [h0] at hz hk
    exact ⟨Nat.le_trans hS.1 (by rw [e1]; exact hz), fun q h1 h2 => by rw [e1, hk q (Nat.lt_of_lt_of_le h1 hS.1) h2]; exact hS.2.1 q h1 h2, fun q hq => by
      rcases List.mem_append.mp hq with h | h
      · exact hS.2.2 q h
      · exact hL q h⟩
  intro T hT X
  rcases hr9 T hT X with ⟨v, st₀, t, T', L, h0, X', hL, e1, e2, ⟨⟨r, w2, hv, hp, hC2⟩, hF⟩, go⟩ | ⟨q, st₀, t, T', L, E, ce, h0, X', hL, e1, e2, ⟨hE, ⟨w2, hp, hC2⟩, hF⟩, hce, hcv9, hcl9, stp⟩
  · cases hv
    obtain ⟨t2, a1, b1⟩ := k r w2 hp T'.heap (locs ++ L) lc (by rw [e1]; exact hC2) (hk9 h0 e1 hL hF) hl T' rfl X'
    refine ⟨t2, go t2 ?_, b1⟩
    have e3 : (r.map (mr_cv G)).toList ++ st.map (mr_cv G) = (r.toList ++ st).map (mr_cv G) := by cases r <;> simp
    show Steps _ _ _ (T'.setTop (F0 m (pc + 3) lc ((r.map (mr_cv G)).toList ++ st.map (mr_cv G)))) t2
    rw [e3]
    exact a1
  · subst hE
    obtain ⟨t2, a1, b1⟩ := kx w2 q ce T'.heap (locs ++ L) lc hp (by rw [e1]; exact hC2) (hk9 h0 e1 hL hF) hl (by rw [e1]; exact hce) hcv9 hcl9 T' rfl X'
    exact ⟨t2, stp.trans a1, b1⟩
end MX4
def mx_hs : List (Nat × Nat × Nat × Nat) := [(0, 10, 13, 13)]
theorem mx_cw : Cond.codeWith yL_row cL_row 5 (some .int) mx_hs ∈ mr_ws := mr_mem 863 (by decide +kernel) rfl
theorem mx_cl13 : Cond.classLink RL 13 RNS ∈ mr_ws := mr_mem 864 (by decide +kernel) rfl
/-- behind the law's row: 0 and the answer in out, or 1 -/
def mx_Po (w : mr_Wd) (q : mr_SX) (hc : Prop) (v : Int) (r : Option mr_AV) (w2 : mr_Wd) : Prop := (hc ∧ r = some (vI 0) ∧ mr_XS w2 q ∧ (∀ k : Nat, 18 ≤ k → k ≠ 28 → w2 k = w k) ∧ ∃ fo : Nat → Int, w2 28 = eA 3 1 fo ∧ fo 0 = v) ∨ (¬ hc ∧ r = some (vI 1) ∧ w2 = w)
set_option maxHeartbeats 4000000 in
set_option maxRecDepth 20000 in
theorem ok_L_row (l : Launch) (hlt : l.stackTraces = false) (G : mr_G) {w : mr_Wd} {n0 nx ct fk : Int} {g f im : Nat → Int} {S I : Nat → Nat → Int} {p x : Int} {fo : Nat → Int} (hX : mr_XS w (n0, g, f, nx, ct, S, I, im, fk)) (h28 : w 28 = eA 3 1 fo) (h_p : InR p) (h_x : InR x) (htb : (mr_pk f p ∧ 0 ≤ x ∧ x < mr_sz f p 0) → InR (mr_tb (mr_frl f p 3 0 x (fun _ => 0)))) :
    Met l yL_row (Cond.codeWith yL_row cL_row 5 (some .int) mx_hs :: mr_ws) { frames := 9, cells := 1, slots := 6, locals := 222 } (mx_Pc G [vR 0 0, vI p, vI x, vR 28 0] w) (mr_Q G (mx_Po w (n0, g, f, nx, ct, S, I, im, fk) (mr_pk f p ∧ 0 ≤ x ∧ x < mr_sz f p 0) (mr_tb (mr_frl f p 3 0 x (fun _ => 0))))) 1 6 (mr_A G) := by
  refine va_MetW (cc := cL_row) (maxL := 5) (ret := some .int) (by decide +kernel) rfl ?_
  intro P e s m args below meth c s₁ B hml hv
  obtain ⟨⟨rfl, hC, hK⟩, hKX⟩ := hv
  have hts := atoms_spec (ws := Cond.codeWith yL_row cL_row 5 (some .int) mx_hs :: mr_ws) B.pre
  have hown : s.vm.findClass RL = some m.cls := findClass_of_methodNamed B.named
  have htab := vx_table (x := yL_row) B (hts _ List.mem_cons_self)
  have hh : mr_Hy P s m ([vR 0 0, vI p, vI x, vR 28 0].map (mr_cv G)).toArray meth c G RL cL_row 5 (some .int) := ⟨B.exec, B.bytes, hml, B.returns, B.notSynchronized, hown, fun w hw => hts w (List.mem_cons_of_mem _ hw), hK⟩
  obtain ⟨h1, h2⟩ := mr_en_sl G [vR 0 0, vI p, vI x, vR 28 0]
  have hl := lv_entry ([vR 0 0, vI p, vI x, vR 28 0].map (mr_cv G)) (n := 5) (by rw [h1]; exact Nat.le_of_ble_eq_true rfl)
  rw [lg_entry_eq]
  have main : mr_DJ P l e { frames := 9, cells := 1, slots := 6, locals := 222 } s m ([vR 0 0, vI p, vI x, vR 28 0].map (mr_cv G)).toArray below meth c G 5 0 0 (MQ below (mr_Q G (mx_Po w (n0, g, f, nx, ct, S, I, im, fk) (mr_pk f p ∧ 0 ≤ x ∧ x < mr_sz f p 0) (mr_tb (mr_frl f p 3 0 x (fun _ => 0))))) ([vR 0 0, vI p, vI x, vR 28 0].map (mr_cv G)).toArray s 1 6 (mr_A G)) 0 [some (vR 0 0), some (vI p), some (vI x), some (vR 28 0), none] [] w := by
    obtain ⟨⟨sd, h0⟩, -⟩ := id hX
    refine mrD_aload_n hh dL_row_0 rfl ?_
    refine mrD_iconst hh dL_row_1 ?_
    refine mrD_aload_n hh dL_row_2 rfl ?_
    refine mrD_iload_n hh dL_row_3 rfl ?_
    refine mrD_iload_n hh dL_row_4 rfl ?_
    refine mrX_callV [vI p, vI x] hh hKX dL_row_5 (ok_X6_row l hlt G hX h_p h_x) ml_L_7 cl_X6_row cv_X6_row ⟨by decide, by decide⟩ rfl rfl (Nat.le_of_ble_eq_true rfl) h0 ⟨by decide, by decide⟩ (fun r w2 hp => ?_) (fun w2 q ce H1 locs1 lc hp hC2 hS2 hl2 hce hcv hcl => ?_)
    · obtain ⟨hc, hr, hX2, hF2⟩ := hp
      subst hr
      refine mrD_i2l hh dL_row_8 (htb hc) ?_
      refine mrD_last hh dL_row_9 ((hF2 28 (by decide)).trans h28) (Int.le_refl 0) (by decide) (by decide) ?_
      refine mrD_goto (tgt := 17) hh dL_row_10 (by decide) ?_
      refine mrD_iconst hh dL_row_17 ?_
      intro H locs lc hC9 hS9 hl9
      exact W.iret B.exec B.bytes B.returns (fun t ht _ => ⟨⟨some (vI 0), _, rfl, Or.inl ⟨hc, rfl, mr_XS_cg (fun k hk => mr_up_ne _ _ (by omega)) hX2, fun k hk hk2 => (mr_up_ne _ _ hk2).trans (hF2 k hk), _, mr_up_same _ _ _, mr_fs_same _ _ _⟩, by rw [ht]; exact hC9⟩, mr_F hS9 ht⟩) hS9.2.2 dL_row_18 B.notSynchronized
    · obtain ⟨hno, rfl⟩ := hp
      refine vx_catch (own := RL) (name := RNS) (E := RNS) hown [] ⟨0, 10, 13, 13⟩ [] htab (fun z hz => nomatch hz) (by decide) (by decide) (hh.2.2.2.2.2.2.1 _ mx_cl13) (hKX.1.2.2.2.use rfl) hce hcv hcl ?_
      refine lv_astore B.exec B.bytes dL_row_13 (mr_ls_has hl2) (by decide) rfl (fun lc2 _ => ?_)
      refine lv_iconst (v := 1) B.exec B.bytes dL_row_15 rfl ?_
      exact W.iret B.exec B.bytes B.returns (fun t ht _ => ⟨⟨some (vI 1), _, rfl, Or.inr ⟨hno, rfl, rfl⟩, by rw [ht]; exact hC2⟩, mr_F hS2 ht⟩) hS2.2.2 dL_row_16 B.notSynchronized
  refine main s.heap [] _ hC va_S.rf ⟨hl.1, hl.2.1, fun i v hi => ?_⟩
  have h3 := h2 i v (mr_pad_at (n := 5) hi)
  rw [List.getElem?_toArray, List.getElem?_append_left (List.getElem?_eq_some_iff.mp h3).1]
  exact h3
