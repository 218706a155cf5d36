section JS
variable {l : Launch} {G : mr_G} {own : String} {cc : ByteArray} {nL : Nat} {ret : Option FieldType} {rf rl : Nat} {Po : Option mr_AV → mr_Wd → Prop} {pc : Nat} {ls : List (Option mr_AV)} {st : List mr_AV} {w : mr_Wd}
theorem mr_icmp_eq {x y : Int} {off : Int} {tgt : Nat} (d : decode cc pc = .ok (.if_icmp .eq off, 3)) (ht : (pc : Int) + off = (tgt : Int)) (hx : InR x) (hy : InR y) (kt : x = y → mr_J l G own cc nL ret rf rl Po tgt ls (st) w) (kf : x ≠ y → mr_J l G own cc nL ret rf rl Po (pc + 3) ls (st) w) : mr_J l G own cc nL ret rf rl Po pc ls (vI y :: vI x :: st) w := by
  intro p e s m args below meth c H locs lc hh hC hS hl
  refine lv_icmp_eq hh.1 hh.2.1 d ht (fun q => kt ((mr_eq hx hy).mp q) p e s m args below meth c H locs lc hh hC hS hl) (fun q => kf ?_ p e s m args below meth c H locs lc hh hC hS hl)
  have q2 : ¬ (x = y) := fun z => q ((mr_eq hx hy).mpr z)
  exact q2
theorem mr_if_eq {x : Int} {off : Int} {tgt : Nat} (d : decode cc pc = .ok (.ifCond .eq off, 3)) (ht : (pc : Int) + off = (tgt : Int)) (hx : InR x) (kt : x = 0 → mr_J l G own cc nL ret rf rl Po tgt ls (st) w) (kf : x ≠ 0 → mr_J l G own cc nL ret rf rl Po (pc + 3) ls (st) w) : mr_J l G own cc nL ret rf rl Po pc ls (vI x :: st) w := by
  intro p e s m args below meth c H locs lc hh hC hS hl
  refine lv_if_eq hh.1 hh.2.1 d ht (fun q => kt ((mr_eq hx mr_in0).mp q) p e s m args below meth c H locs lc hh hC hS hl) (fun q => kf ?_ p e s m args below meth c H locs lc hh hC hS hl)
  have q2 : ¬ (x = 0) := fun z => q ((mr_eq hx mr_in0).mpr z)
  exact q2
theorem mr_icmp_ne {x y : Int} {off : Int} {tgt : Nat} (d : decode cc pc = .ok (.if_icmp .ne off, 3)) (ht : (pc : Int) + off = (tgt : Int)) (hx : InR x) (hy : InR y) (kt : x ≠ y → mr_J l G own cc nL ret rf rl Po tgt ls (st) w) (kf : x = y → mr_J l G own cc nL ret rf rl Po (pc + 3) ls (st) w) : mr_J l G own cc nL ret rf rl Po pc ls (vI y :: vI x :: st) w := by
  intro p e s m args below meth c H locs lc hh hC hS hl
  refine lv_icmp_ne hh.1 hh.2.1 d ht (fun q => kt ((not_congr (mr_eq hx hy)).mp q) p e s m args below meth c H locs lc hh hC hS hl) (fun q => kf ?_ p e s m args below meth c H locs lc hh hC hS hl)
  exact (mr_eq hx hy).mp q

theorem mr_if_ne {x : Int} {off : Int} {tgt : Nat} (d : decode cc pc = .ok (.ifCond .ne off, 3)) (ht : (pc : Int) + off = (tgt : Int)) (hx : InR x) (kt : x ≠ 0 → mr_J l G own cc nL ret rf rl Po tgt ls (st) w) (kf : x = 0 → mr_J l G own cc nL ret rf rl Po (pc + 3) ls (st) w) : mr_J l G own cc nL ret rf rl Po pc ls (vI x :: st) w := by
  intro p e s m args below meth c H locs lc hh hC hS hl
  refine lv_if_ne hh.1 hh.2.1 d ht (fun q => kt ((not_congr (mr_eq hx mr_in0)).mp q) p e s m args below meth c H locs lc hh hC hS hl) (fun q => kf ?_ p e s m args below meth c H locs lc hh hC hS hl)
  exact (mr_eq hx mr_in0).mp q

theorem mr_icmp_lt {x y : Int} {off : Int} {tgt : Nat} (d : decode cc pc = .ok (.if_icmp .lt off, 3)) (ht : (pc : Int) + off = (tgt : Int)) (hx : InR x) (hy : InR y) (kt : x < y → mr_J l G own cc nL ret rf rl Po tgt ls (st) w) (kf : y ≤ x → mr_J l G own cc nL ret rf rl Po (pc + 3) ls (st) w) : mr_J l G own cc nL ret rf rl Po pc ls (vI y :: vI x :: st) w := by
  intro p e s m args below meth c H locs lc hh hC hS hl
  refine lv_icmp_lt hh.1 hh.2.1 d ht (fun q => kt ((mr_lt hx hy).mp q) p e s m args below meth c H locs lc hh hC hS hl) (fun q => kf ?_ p e s m args below meth c H locs lc hh hC hS hl)
  have q2 : ¬ (x < y) := fun z => q ((mr_lt hx hy).mpr z)
  omega
theorem mr_if_lt {x : Int} {off : Int} {tgt : Nat} (d : decode cc pc = .ok (.ifCond .lt off, 3)) (ht : (pc : Int) + off = (tgt : Int)) (hx : InR x) (kt : x < 0 → mr_J l G own cc nL ret rf rl Po tgt ls (st) w) (kf : 0 ≤ x → mr_J l G own cc nL ret rf rl Po (pc + 3) ls (st) w) : mr_J l G own cc nL ret rf rl Po pc ls (vI x :: st) w := by
  intro p e s m args below meth c H locs lc hh hC hS hl
  refine lv_if_lt hh.1 hh.2.1 d ht (fun q => kt ((mr_lt hx mr_in0).mp q) p e s m args below meth c H locs lc hh hC hS hl) (fun q => kf ?_ p e s m args below meth c H locs lc hh hC hS hl)
  have q2 : ¬ (x < 0) := fun z => q ((mr_lt hx mr_in0).mpr z)
  omega
theorem mr_icmp_ge {x y : Int} {off : Int} {tgt : Nat} (d : decode cc pc = .ok (.if_icmp .ge off, 3)) (ht : (pc : Int) + off = (tgt : Int)) (hx : InR x) (hy : InR y) (kt : y ≤ x → mr_J l G own cc nL ret rf rl Po tgt ls (st) w) (kf : x < y → mr_J l G own cc nL ret rf rl Po (pc + 3) ls (st) w) : mr_J l G own cc nL ret rf rl Po pc ls (vI y :: vI x :: st) w := by
  intro p e s m args below meth c H locs lc hh hC hS hl
  refine lv_icmp_ge hh.1 hh.2.1 d ht (fun q => kt ((mr_le hy hx).mp q) p e s m args below meth c H locs lc hh hC hS hl) (fun q => kf ?_ p e s m args below meth c H locs lc hh hC hS hl)
  have q2 : ¬ (y ≤ x) := fun z => q ((mr_le hy hx).mpr z)
  omega
theorem mr_if_ge {x : Int} {off : Int} {tgt : Nat} (d : decode cc pc = .ok (.ifCond .ge off, 3)) (ht : (pc : Int) + off = (tgt : Int)) (hx : InR x) (kt : 0 ≤ x → mr_J l G own cc nL ret rf rl Po tgt ls (st) w) (kf : x < 0 → mr_J l G own cc nL ret rf rl Po (pc + 3) ls (st) w) : mr_J l G own cc nL ret rf rl Po pc ls (vI x :: st) w := by
  intro p e s m args below meth c H locs lc hh hC hS hl
  refine lv_if_ge hh.1 hh.2.1 d ht (fun q => kt ((mr_le mr_in0 hx).mp q) p e s m args below meth c H locs lc hh hC hS hl) (fun q => kf ?_ p e s m args below meth c H locs lc hh hC hS hl)
  have q2 : ¬ (0 ≤ x) := fun z => q ((mr_le mr_in0 hx).mpr z)
  omega
theorem mr_icmp_gt {x y : Int} {off : Int} {tgt : Nat} (d : decode cc pc = .ok (.if_icmp .gt off, 3)) (ht : (pc : Int) + off = (tgt : Int)) (hx : InR x) (hy : InR y) (kt : y < x → mr_J l G own cc nL ret rf rl Po tgt ls (st) w) (kf : x ≤ y → mr_J l G own cc nL ret rf rl Po (pc + 3) ls (st) w) : mr_J l G own cc nL ret rf rl Po pc ls (vI y :: vI x :: st) w := by
  intro p e s m args below meth c H locs lc hh hC hS hl
  refine lv_icmp_gt hh.1 hh.2.1 d ht (fun q => kt ((mr_lt hy hx).mp q) p e s m args below meth c H locs lc hh hC hS hl) (fun q => kf ?_ p e s m args below meth c H locs lc hh hC hS hl)
  have q2 : ¬ (y < x) := fun z => q ((mr_lt hy hx).mpr z)
  omega
theorem mr_if_gt {x : Int} {off : Int} {tgt : Nat} (d : decode cc pc = .ok (.ifCond .gt off, 3)) (ht : (pc : Int) + off = (tgt : Int)) (hx : InR x) (kt : 0 < x → mr_J l G own cc nL ret rf rl Po tgt ls (st) w) (kf : x ≤ 0 → mr_J l G own cc nL ret rf rl Po (pc + 3) ls (st) w) : mr_J l G own cc nL ret rf rl Po pc ls (vI x :: st) w := by
  intro p e s m args below meth c H locs lc hh hC hS hl
  refine lv_if_gt hh.1 hh.2.1 d ht (fun q => kt ((mr_lt mr_in0 hx).mp q) p e s m args below meth c H locs lc hh hC hS hl) (fun q => kf ?_ p e s m args below meth c H locs lc hh hC hS hl)
  have q2 : ¬ (0 < x) := fun z => q ((mr_lt mr_in0 hx).mpr z)
  omega
theorem mr_icmp_le {x y : Int} {off : Int} {tgt : Nat} (d : decode cc pc = .ok (.if_icmp .le off, 3)) (ht : (pc : Int) + off = (tgt : Int)) (hx : InR x) (hy : InR y) (kt : x ≤ y → mr_J l G own cc nL ret rf rl Po tgt ls (st) w) (kf : y < x → mr_J l G own cc nL ret rf rl Po (pc + 3) ls (st) w) : mr_J l G own cc nL ret rf rl Po pc ls (vI y :: vI x :: st) w := by
  intro p e s m args below meth c H locs lc hh hC hS hl
  refine lv_icmp_le hh.1 hh.2.1 d ht (fun q => kt ((mr_le hx hy).mp q) p e s m args below meth c H locs lc hh hC hS hl) (fun q => kf ?_ p e s m args below meth c H locs lc hh hC hS hl)
  have q2 : ¬ (x ≤ y) := fun z => q ((mr_le hx hy).mpr z)
  omega
theorem mr_if_le {x : Int} {off : Int} {tgt : Nat} (d : decode cc pc = .ok (.ifCond .le off, 3)) (ht : (pc : Int) + off = (tgt : Int)) (hx : InR x) (kt : x ≤ 0 → mr_J l G own cc nL ret rf rl Po tgt ls (st) w) (kf : 0 < x → mr_J l G own cc nL ret rf rl Po (pc + 3) ls (st) w) : mr_J l G own cc nL ret rf rl Po pc ls (vI x :: st) w := by
  intro p e s m args below meth c H locs lc hh hC hS hl
  refine lv_if_le hh.1 hh.2.1 d ht (fun q => kt ((mr_le hx mr_in0).mp q) p e s m args below meth c H locs lc hh hC hS hl) (fun q => kf ?_ p e s m args below meth c H locs lc hh hC hS hl)
  have q2 : ¬ (x ≤ 0) := fun z => q ((mr_le hx mr_in0).mpr z)
  omega
theorem mr_icmp_same {x y : Int} {off : Int} {tgt : Nat} (d : decode cc pc = .ok (.if_icmp .eq off, 3)) (ht : (pc : Int) + off = (tgt : Int)) (hxy : x = y) (kt : mr_J l G own cc nL ret rf rl Po tgt ls (st) w) : mr_J l G own cc nL ret rf rl Po pc ls (vI y :: vI x :: st) w := by
  intro p e s m args below meth c H locs lc hh hC hS hl
  subst hxy
  exact lv_icmp_eq hh.1 hh.2.1 d ht (fun _ => kt p e s m args below meth c H locs lc hh hC hS hl) (fun q => absurd rfl q)
theorem mr_goto {off : Int} {tgt : Nat} (d : decode cc pc = .ok (.goto off, 3)) (ht : (pc : Int) + off = (tgt : Int)) (k : mr_J l G own cc nL ret rf rl Po tgt ls (st) w) : mr_J l G own cc nL ret rf rl Po pc ls (st) w := fun p e s m args below meth c H locs lc hh hC hS hl =>
  lv_goto hh.1 hh.2.1 d ht (k p e s m args below meth c H locs lc hh hC hS hl)
theorem mr_dup {v : mr_AV} (d : decode cc pc = .ok (.dup, 1)) (hc : (mr_cv G v).category = 1) (k : mr_J l G own cc nL ret rf rl Po (pc + 1) ls (v :: v :: st) w) : mr_J l G own cc nL ret rf rl Po pc ls (v :: st) w := fun p e s m args below meth c H locs lc hh hC hS hl =>
  lv_dup hh.1 hh.2.1 d hc (k p e s m args below meth c H locs lc hh hC hS hl)
theorem mr_pop {v : mr_AV} (d : decode cc pc = .ok (.pop, 1)) (hc : (mr_cv G v).category = 1) (k : mr_J l G own cc nL ret rf rl Po (pc + 1) ls (st) w) : mr_J l G own cc nL ret rf rl Po pc ls (v :: st) w := fun p e s m args below meth c H locs lc hh hC hS hl =>
  lv_pop hh.1 hh.2.1 d hc (k p e s m args below meth c H locs lc hh hC hS hl)
theorem mr_dup2 {v u : mr_AV} (d : decode cc pc = .ok (.dup2, 1)) (hc : (mr_cv G v).category = 1) (hc2 : (mr_cv G u).category = 1) (k : mr_J l G own cc nL ret rf rl Po (pc + 1) ls (v :: u :: v :: u :: st) w) : mr_J l G own cc nL ret rf rl Po pc ls (v :: u :: st) w := fun p e s m args below meth c H locs lc hh hC hS hl =>
  lv_dup2_11 hh.1 hh.2.1 d hc hc2 (k p e s m args below meth c H locs lc hh hC hS hl)
/-- a list of locals as the kit's pairs -/
def mr_pl (G : mr_G) (ls : List (Option mr_AV)) : List (Nat × Value) := (List.range ls.length).filterMap fun i => match ls[i]? with
  | some (some v) => some (i, mr_cv G v)
  | _ => none
theorem mr_pl_mem {ls : List (Option mr_AV)} {q : Nat × Value} (h : q ∈ mr_pl G ls) : ∃ v, ls[q.1]? = some (some v) ∧ q.2 = mr_cv G v := by
  obtain ⟨i, -, hi⟩ := List.mem_filterMap.mp h
  split at hi
  · rename_i v hv
    cases hi
    exact ⟨v, hv, rfl⟩
  · cases hi
theorem mr_pl_in {ls : List (Option mr_AV)} {i : Nat} {v : mr_AV} (h : ls[i]? = some (some v)) : (i, mr_cv G v) ∈ mr_pl G ls := by
  refine List.mem_filterMap.mpr ⟨i, List.mem_range.mpr (List.getElem?_eq_some_iff.mp h).1, ?_⟩
  rw [h]
theorem mr_ls_has {ls : List (Option mr_AV)} {lc : Array Slot} (h : mr_ls G nL ls lc) : lv_has lc nL (mr_pl G ls) := ⟨h.1, h.2.1, fun q hq => by
  obtain ⟨v, h1, h2⟩ := mr_pl_mem hq
  rw [h2]
  exact h.2.2 _ _ h1⟩
def mr_no2 : List (Option mr_AV) → Bool
  | [] => true
  | some (.inr (.inl _)) :: _ => false
  | _ :: r => mr_no2 r
theorem mr_no2_at : ∀ {ls : List (Option mr_AV)} {i : Nat} {v : mr_AV}, mr_no2 ls = true → ls[i]? = some (some v) → (mr_cv G v).category = 1
  | [], i, v, _, h => by simp at h
  | o :: r, 0, v, hn, h => by
    simp at h
    subst h
    match v, hn with
    | .inl x, _ => rfl
    | .inr (.inl x), hn => simp [mr_no2] at hn
    | .inr (.inr (.inl (some q))), _ => rfl
    | .inr (.inr (.inl none)), _ => rfl
    | .inr (.inr (.inr j)), _ => rfl
  | o :: r, i + 1, v, hn, h => by
    have h2 : r[i]? = some (some v) := by simpa using h
    refine mr_no2_at (ls := r) ?_ h2
    match o, hn with
    | none, hn => exact hn
    | some (.inl x), hn => exact hn
    | some (.inr (.inl x)), hn => simp [mr_no2] at hn
    | some (.inr (.inr x)), hn => exact hn
theorem mr_ls_set {ls : List (Option mr_AV)} {lc : Array Slot} {i : Nat} {v : mr_AV} (hn : mr_no2 ls = true) (h : lv_has lc nL ((i, mr_cv G v) :: (mr_pl G ls).filter (fun q => !(q.1 == i) && !(q.1 + 1 == i && q.2.category == 2)))) : mr_ls G nL (ls.set i (some v)) lc := by
  refine ⟨h.1, h.2.1, fun j u hj => ?_⟩
  by_cases e : i = j
  · subst e
    rw [List.getElem?_set_self'] at hj
    cases hq : ls[i]? with
    | none => rw [hq] at hj; simp at hj
    | some z =>
      rw [hq] at hj
      simp at hj
      subst hj
      exact h.2.2 _ List.mem_cons_self
  · rw [List.getElem?_set_ne e] at hj
    refine h.2.2 (j, mr_cv G u) (List.mem_cons_of_mem _ (List.mem_filter.mpr ⟨mr_pl_in hj, ?_⟩))
    have e1 : (mr_cv G u).category = 1 := mr_no2_at hn hj
    simp [e1]
    exact fun q => e q.symm
theorem mr_istore_n {i : Fin 4} {x : Int} (d : decode cc pc = .ok (.istore_n i, 1)) (hn : mr_no2 ls = true) (hi : (i : Nat) < nL) (k : mr_J l G own cc nL ret rf rl Po (pc + 1) (ls.set (i : Nat) (some (vI x))) (st) w) : mr_J l G own cc nL ret rf rl Po pc ls (vI x :: st) w := by
  intro p e s m args below meth c H locs lc hh hC hS hl
  exact lv_istore_n hh.1 hh.2.1 d rfl (mr_ls_has hl) hi rfl (fun lc' h' => k p e s m args below meth c H locs lc' hh hC hS (mr_ls_set hn h'))
theorem mr_istore {i : Nat} {x : Int} (d : decode cc pc = .ok (.istore i, 2)) (hn : mr_no2 ls = true) (hi : (i : Nat) < nL) (k : mr_J l G own cc nL ret rf rl Po (pc + 2) (ls.set (i : Nat) (some (vI x))) (st) w) : mr_J l G own cc nL ret rf rl Po pc ls (vI x :: st) w := by
  intro p e s m args below meth c H locs lc hh hC hS hl
  exact lv_istore hh.1 hh.2.1 d (mr_ls_has hl) hi rfl (fun lc' h' => k p e s m args below meth c H locs lc' hh hC hS (mr_ls_set hn h'))
theorem mr_astore_n {i : Fin 4} {a b : Nat} (d : decode cc pc = .ok (.astore_n i, 1)) (hn : mr_no2 ls = true) (hi : (i : Nat) < nL) (k : mr_J l G own cc nL ret rf rl Po (pc + 1) (ls.set (i : Nat) (some (vR a b))) (st) w) : mr_J l G own cc nL ret rf rl Po pc ls (vR a b :: st) w := by
  intro p e s m args below meth c H locs lc hh hC hS hl
  exact lv_astore_n hh.1 hh.2.1 d rfl (mr_ls_has hl) hi rfl (fun lc' h' => k p e s m args below meth c H locs lc' hh hC hS (mr_ls_set hn h'))
theorem mr_astore {i : Nat} {a b : Nat} (d : decode cc pc = .ok (.astore i, 2)) (hn : mr_no2 ls = true) (hi : (i : Nat) < nL) (k : mr_J l G own cc nL ret rf rl Po (pc + 2) (ls.set (i : Nat) (some (vR a b))) (st) w) : mr_J l G own cc nL ret rf rl Po pc ls (vR a b :: st) w := by
  intro p e s m args below meth c H locs lc hh hC hS hl
  exact lv_astore hh.1 hh.2.1 d (mr_ls_has hl) hi rfl (fun lc' h' => k p e s m args below meth c H locs lc' hh hC hS (mr_ls_set hn h'))
theorem mr_iinc {i : Nat} {n x : Int} (d : decode cc pc = .ok (.iinc i n, 3)) (hn : mr_no2 ls = true) (hi : i < nL) (hx : ls[i]? = some (some (vI x))) (k : mr_J l G own cc nL ret rf rl Po (pc + 3) (ls.set i (some (vI (x + n)))) (st) w) : mr_J l G own cc nL ret rf rl Po pc ls (st) w := by
  intro p e s m args below meth c H locs lc hh hC hS hl
  obtain ⟨q, hq⟩ := List.getElem?_of_mem (mr_pl_in (G := G) hx)
  exact lv_iinc hh.1 hh.2.1 d (mr_ls_has hl) hq (Int32.ofInt_add x n).symm hi rfl (fun lc' h' => k p e s m args below meth c H locs lc' hh hC hS (mr_ls_set (v := vI (x + n)) hn h'))
def mr_leL : List (Option mr_AV) → List (Option mr_AV) → Prop
  | [], _ => True
  | none :: r, _ :: r' => mr_leL r r'
  | none :: _, [] => False
  | some v :: r, some v' :: r' => v = v' ∧ mr_leL r r'
  | some _ :: _, _ => False
theorem mr_leL_at : ∀ {a b : List (Option mr_AV)} {i : Nat} {v : mr_AV}, mr_leL a b → a[i]? = some (some v) → b[i]? = some (some v)
  | [], b, i, v, _, h => by simp at h
  | none :: r, b :: r', 0, v, _, h => by simp at h
  | none :: r, b :: r', i + 1, v, hl, h => by
    have h2 : r[i]? = some (some v) := by simpa using h
    simpa using mr_leL_at (a := r) (b := r') hl h2
  | none :: r, [], i, v, hl, h => hl.elim
  | some u :: r, some u' :: r', 0, v, hl, h => by
    have e := hl.1
    subst e
    simpa using h
  | some u :: r, some u' :: r', i + 1, v, hl, h => by
    have h2 : r[i]? = some (some v) := by simpa using h
    simpa using mr_leL_at (a := r) (b := r') hl.2 h2
  | some u :: r, none :: r', i, v, hl, h => hl.elim
  | some u :: r, [], i, v, hl, h => hl.elim
theorem mr_weak (ls' : List (Option mr_AV)) (h : mr_leL ls' ls) (k : mr_J l G own cc nL ret rf rl Po pc ls' (st) w) : mr_J l G own cc nL ret rf rl Po pc ls (st) w := fun p e s m args below meth c H locs lc hh hC hS hl =>
  k p e s m args below meth c H locs lc hh hC hS ⟨hl.1, hl.2.1, fun i v hi => hl.2.2 i v (mr_leL_at h hi)⟩
end JS
