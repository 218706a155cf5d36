/-! THE CLAIM OUT OF ONE WALK OF THE LAW'S BODY. Your part is whole_start (and what it stands on); all else here is the same for every law, but numbers. -/
def R_law : String := "ModuleRowsLaw"
def lw_P (b : Addr) (xs : List Int32) (args : Array Value) (s : State) : Prop := args = #[.ref b] ∧ s.IntsAt b xs ∧ xs.length ≤ 3072 ∧ (Jvm.Cond.and given_1 narrow_1).before args s = true
def lw_Q (_ : Array Value) (s : State) (o : Outcome) (t : State) : Prop := o = .returned (some (.int 1)) ∧ Framed s o t [] 601024 7293034
def lw_Z (below : List Frame) (a : Array Value) (s : State) : State → Prop := fun t => ∃ o, t.status = .running ∧ Ended t below o ∧ lw_Q a s o t
/-- the law's own end, with 1 on the stack, nothing written that was there before, its room as the claim has it -/
theorem lw_ret {p : Program} {l : Launch} {e : Env} {s : State} {m : MethodId} {below : List Frame} {meth : Method} {c : Code} {b : Nat} (hx : p.tables.exec = Jvm.exec) (hb : c.code = code) (hr : meth.sig.returnType = ret) (hlocks : meth.locks = false) {pc : Nat} {H : Heap} {ls : Array Slot} (hdg : decode code pc = .ok (.ireturn, 1)) : W p l e room_1 s m #[Value.ref b] below meth c H [] 601024 7293034 (lw_Z below #[Value.ref b] s) (F0 m pc ls [.int 1]) := by
  intro T hT X
  obtain ⟨fs, hret, hrun, hended, hW, hframe⟩ := X.leave (v := some (.int 1)) (hlocks := hlocks) (fun h => by rw [hr] at h; cases h)
  have hmeth' : T.vm.method? m = some meth := X.method'
  refine ⟨T.setFrames fs, ?_, .returned (some (.int 1)), hrun, hended, rfl, ⟨_, rfl⟩, hW, hframe⟩
  jvm_step X.here [X.here.top, hx, hb, hdg, hmeth', hr, ret, narrow_b1]
  (try refine ⟨rfl, ?_⟩); (try refine ⟨rfl, ?_⟩)
  first | (intro acts; rw [hret _ acts rfl rfl rfl]) | rw [hret _ _ rfl rfl rfl]
  exact Steps.refl _
/-- what holds at the law's entry: the machine, the code, the tables' words (any of lw_tbl by 'hts w (by decide +kernel)'), the script of L ints xs at the cell b, what the Statement gives of the start (any of its parts by flat_of_before) -/
def lw_At (p : Program) (s : State) (m : MethodId) (meth : Method) (c : Code) (b L : Nat) (xs : Nat → Int32) : Prop :=
  p.tables.exec = Jvm.exec ∧ c.code = code ∧ meth.sig.returnType = ret ∧ c.maxLocals = 7 ∧ s.vm.findClass R_law = some m.cls ∧ (∀ w ∈ lw_tbl, w.before #[Value.ref b] s = true) ∧ va_X b L xs s s.heap ∧ b < s.heap.size ∧ meth.locks = false ∧ (Jvm.Cond.and given_1 narrow_1).before #[Value.ref b] s = true
set_option maxHeartbeats 4000000 in
set_option maxRecDepth 20000 in
theorem whole_start {p : Program} {e : Env} {s : State} {m : MethodId} {below : List Frame} {meth : Method} {c : Code} (l : Launch) (hflags : l.flags = flags0) {b L : Nat} {xs : Nat → Int32} (hL : L ≤ 3072) (C0 : lw_At p s m meth c b L xs) : W p l e room_1 s m #[Value.ref b] below meth c s.heap [] 0 0 (lw_Z below #[Value.ref b] s) (entryFrame m ([Value.ref b] : List Value).toArray 7) := by
  obtain ⟨hx, hb, hr, hml, hown, hts, hX, hbl, hlocks, hgv⟩ := id C0
  obtain ⟨G, hK, hKX, hAD, hlo, h300⟩ := st_all hts hgv
  have hh : mr_Hy p s m #[Value.ref b] meth c G RL cL_law 7 ret := ⟨hx, hb, hml, hr, hlocks, hown, fun w hw => hts w (List.mem_filter.mp hw).1, hK⟩
  have hne : nw_Ne s := nw_Ne.of hts
  have hlt : l.stackTraces = false := by
    unfold Launch.stackTraces
    rw [hflags]
    decide
  have hl := lv_entry ([.ref b]) (n := 7) (Nat.le_of_ble_eq_true rfl)
  rw [lg_entry_eq]
  generalize (lg_sl ([.ref b]) ++ List.replicate (7 - (lg_sl ([.ref b])).length) Slot.unset).toArray = lc0 at hl ⊢
  have hl : lv_has lc0 7 [(0, .ref b)] := hl
  have hls : mr_ls G 7 [some (vS 300), none, none, none, none, none, none] lc0 := ⟨hl.1, hl.2.1, fun i v hi => by
    match i, hi with
    | 0, hi =>
      have e : vS 300 = v := Option.some.inj (Option.some.inj hi)
      subst e
      show lc0[0]? = some (.val (.ref (G.2.2.2.1 300)))
      rw [h300]
      exact lv_at hl 0 rfl
    | 1, hi => simp at hi
    | 2, hi => simp at hi
    | 3, hi => simp at hi
    | 4, hi => simp at hi
    | 5, hi => simp at hi
    | 6, hi => simp at hi
    | i + 7, hi => simp at hi⟩
  have hend : ∀ (a' b' : Nat) (w : mr_Wd) (ls : List (Option mr_AV)), a' ≤ room_1.cells → b' ≤ room_1.slots → mr_DJ p l e room_1 s m #[Value.ref b] below meth c G 7 a' b' (lw_Z below #[Value.ref b] s) 1341 ls [vI 1] w := fun a' b' w ls h1 h2 => by
    intro H locs lc hC hS hl2
    refine va_forget (fun q hq => ?_) ?_
    · have h3 : mr_lo G ≤ q.base := hS.2.2 q hq
      rw [hlo] at h3
      exact h3
    · have e1 : ([vI 1] : List mr_AV).map (mr_cv G) = [.int 1] := congrArg (fun z : Int32 => [Value.int z]) (show Int32.ofInt 1 = 1 by decide)
      rw [e1]
      exact W.widen (k := 601024) (n := 7293034) h1 h2 (lw_ret hx hb hr hlocks dL_law_1341)
  have hLH : mr_LH p s m #[Value.ref b] meth c G ret room_1 0 0 L xs := ⟨hh, by rw [h300]; exact hX, by rw [h300]; exact hbl, by rw [h300]; exact Nat.not_le.mpr (by rw [hlo]; exact hbl), by omega, ⟨Nat.le_of_ble_eq_true rfl, Nat.le_of_ble_eq_true rfl⟩, Nat.zero_le _, Nat.zero_le _⟩
  have main : mr_E p l e room_1 s m #[Value.ref b] below meth c G 7 0 0 (lw_Z below #[Value.ref b] s) s.heap.size 0 [some (vS 300), none, none, none, none, none, none] [] (fun _ => eU) := by
    refine mrE_new (ci := 6) (N := 10) (kk := 0) (T := TX6) (ty := tyX6) (fs := [vN, vN, vN, vN, vN, vN, vN, vN, vI 0, vI 0]) hh dL_law_0 rfl in_X6 tyX6_ok nw_kl_L_8 nw_in_X6 iz_X6 (nw_dfX6 G) (hAD.one 0 rfl rfl) ⟨Nat.le_of_ble_eq_true rfl, Nat.le_of_ble_eq_true rfl⟩ ?_
    refine mrE_dup hh dL_law_3 rfl ?_
    refine mrE_callC (st := [vR 0 0]) [] hh hne dL_law_4 (nw_X6 l hAD rfl) ml_L_15 cl_X6_init rfl nw_im_X6 ⟨Nat.le_of_ble_eq_true rfl, Nat.le_of_ble_eq_true rfl⟩ rfl rfl (by decide) ⟨Nat.le_of_ble_eq_true rfl, Nat.le_of_ble_eq_true rfl⟩ ?_
    refine mrE_astore_n hh dL_law_7 rfl (by decide) ?_
    refine mrE_new (ci := 7) (N := 23) (kk := 18) (T := TX7) (ty := tyX7) (fs := [vI 0, vN, vI 0, vI 0, vI 0, vI 0, vI 0, vI 0, vI 0, vI 0, vL 0, vN, vN, vN, vN, vN, vI 0, vI 0, vN, vN, vN, vI 0, vI 0]) hh dL_law_8 rfl in_X7 tyX7_ok nw_kl_L_16 nw_in_X7 iz_X7 (nw_dfX7 G) (hAD.one 41 rfl (by omega)) ⟨Nat.le_of_ble_eq_true rfl, Nat.le_of_ble_eq_true rfl⟩ ?_
    refine mrE_dup hh dL_law_11 rfl ?_
    refine mrE_callC (st := [vR 18 0]) [] hh hne dL_law_12 (nw_X7 l hAD rfl) ml_L_18 cl_X7_init rfl nw_im_X7 ⟨Nat.le_of_ble_eq_true rfl, Nat.le_of_ble_eq_true rfl⟩ rfl rfl (by decide) ⟨Nat.le_of_ble_eq_true rfl, Nat.le_of_ble_eq_true rfl⟩ ?_
    refine mrE_astore_n hh dL_law_15 rfl (by decide) ?_
    refine mrE_iconst hh dL_law_16 ?_
    refine mrE_newa_long (kk := 28) (N := 1) hh dL_law_17 nw_ac_long rfl (Nat.le_of_ble_eq_true rfl) (hAD.one 51 rfl (by omega)) ⟨Nat.le_of_ble_eq_true rfl, Nat.le_of_ble_eq_true rfl⟩ ?_
    refine mrE_astore_n hh dL_law_19 rfl (by decide) ?_
    refine mrE_iconst hh dL_law_20 ?_
    refine mrE_istore hh dL_law_21 rfl (by decide) ?_
    intro H locs lc hz hC hS hl2
    exact law_loop hlt hKX hLH hL hend 513 0 _ _ st_w (Int.le_refl 0) (by omega) (by decide) (Nat.le_of_ble_eq_true rfl) (Nat.le_of_ble_eq_true rfl) st_iv H locs lc hC hS hl2
  exact main s.heap [] lc0 rfl (fun k => trivial) va_S.rf hls
