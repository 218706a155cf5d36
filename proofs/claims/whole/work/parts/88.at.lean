/-! the class's reading, token by token, beside the Model's -/
abbrev mr_Ct9 : Type := (Int × Int) ⊕ ((Nat → Int) × Int)
def mr_at (n0 : Int) (g : Nat → Int) (C : mr_Ct9) (n op sl ln md : Int) (f nm : Nat → Int) (v : Int) : Prop := ∃ m : Nat, n0 - n < m ∧ C = mr_rt n0 g m n op sl ln md f nm v
noncomputable def mr_vv (n0 : Int) (g : Nat → Int) (n v : Int) : Int := if mr_tK n0 g n = 3 then mr_tV n0 g n else v
section AT
variable {n0 : Int} {g : Nat → Int} {C : mr_Ct9} {n op sl ln md v : Int} {f nm : Nat → Int}
theorem mr_at_un (hn : 0 ≤ n ∧ n ≤ n0) (h : mr_at n0 g C n op sl ln md f nm v) : ∃ m : Nat, n0 - n < ((m + 1 : Nat) : Int) ∧ C = if mr_tK n0 g n = 1 ∧ op = 0 ∧ n0 ≤ 500 then .inr (f, ln) else
    match mr_tt n0 g op sl ln md f nm (mr_vv n0 g n v) (mr_tK n0 g n) (mr_tS n0 g n) (mr_tX n0 g n) with
    | .inl e => .inl e
    | .inr (op', sl', nm') => if mr_tK n0 g n = 4 then mr_rt n0 g m (mr_tX n0 g n) 0 sl' (ln + 1) (mr_fin op' md f nm' (mr_vv n0 g n v)).2 (mr_fin op' md f nm' (mr_vv n0 g n v)).1 nm' (mr_vv n0 g n v)
      else mr_rt n0 g m (mr_tX n0 g n) op' sl' ln md f nm' (mr_vv n0 g n v) := by
  obtain ⟨m, hm, e⟩ := h
  cases m with
  | zero => omega
  | succ m =>
    refine ⟨m, hm, ?_⟩
    rw [e]
    conv => lhs; unfold mr_rt
    rfl
theorem mr_at_end (hn : 0 ≤ n ∧ n ≤ n0) (h : mr_at n0 g C n op sl ln md f nm v) (h1 : mr_tK n0 g n = 1 ∧ op = 0 ∧ n0 ≤ 500) : C = .inr (f, ln) := by
  obtain ⟨m, hm, e⟩ := mr_at_un hn h
  rw [e, if_pos h1]
theorem mr_at_bad (hn : 0 ≤ n ∧ n ≤ n0) (h : mr_at n0 g C n op sl ln md f nm v) (h1 : ¬ (mr_tK n0 g n = 1 ∧ op = 0 ∧ n0 ≤ 500)) {e : Int × Int} (ht : mr_tt n0 g op sl ln md f nm (mr_vv n0 g n v) (mr_tK n0 g n) (mr_tS n0 g n) (mr_tX n0 g n) = .inl e) : C = .inl e := by
  obtain ⟨m, hm, e⟩ := mr_at_un hn h
  rw [e, if_neg h1, ht]
theorem mr_at_go (hn0 : 0 ≤ n0 ∧ n0 ≤ 540) (hn : 0 ≤ n ∧ n ≤ n0) (h : mr_at n0 g C n op sl ln md f nm v) (h1 : mr_tK n0 g n ≠ 1) (h4 : mr_tK n0 g n ≠ 4) {op' sl' : Int} {nm' : Nat → Int} (ht : mr_tt n0 g op sl ln md f nm (mr_vv n0 g n v) (mr_tK n0 g n) (mr_tS n0 g n) (mr_tX n0 g n) = .inr (op', sl', nm')) : mr_at n0 g C (mr_tX n0 g n) op' sl' ln md f nm' (mr_vv n0 g n v) := by
  obtain ⟨m, hm, e⟩ := mr_at_un hn h
  have b := (mr_tk_bd (g := g) hn0 hn).2.2.2.1 h1
  refine ⟨m, by omega, ?_⟩
  rw [e, if_neg (fun z => h1 z.1), ht]
  exact if_neg h4
theorem mr_at_line (hn0 : 0 ≤ n0 ∧ n0 ≤ 540) (hn : 0 ≤ n ∧ n ≤ n0) (h : mr_at n0 g C n op sl ln md f nm v) (h4 : mr_tK n0 g n = 4) {op' sl' : Int} {nm' : Nat → Int} (ht : mr_tt n0 g op sl ln md f nm (mr_vv n0 g n v) (mr_tK n0 g n) (mr_tS n0 g n) (mr_tX n0 g n) = .inr (op', sl', nm')) : mr_at n0 g C (mr_tX n0 g n) 0 sl' (ln + 1) (mr_fin op' md f nm' (mr_vv n0 g n v)).2 (mr_fin op' md f nm' (mr_vv n0 g n v)).1 nm' (mr_vv n0 g n v) := by
  obtain ⟨m, hm, e⟩ := mr_at_un hn h
  have b := (mr_tk_bd (g := g) hn0 hn).2.2.2.1 (by omega)
  refine ⟨m, by omega, ?_⟩
  rw [e, if_neg (fun z => by have := z.1; omega), ht]
  exact if_pos h4
variable {k s x : Int}
theorem mr_tt_num (h0 : op ≠ 0) (hs : sl < mr_due op f ∨ (op = 4 ∧ sl = mr_due op f + 1)) : (k ≠ 3 → mr_tt n0 g op sl ln md f nm v k s x = .inl (1, s)) ∧ (k = 3 → (v < mr_lst2 op sl ∨ mr_mst2 op sl f < v) → mr_tt n0 g op sl ln md f nm v k s x = .inl (2, s)) ∧ (k = 3 → ¬ (v < mr_lst2 op sl ∨ mr_mst2 op sl f < v) → mr_tt n0 g op sl ln md f nm v k s x = .inr (op, sl + 1, mr_nset op sl f nm v)) := by
  unfold mr_tt
  rw [if_neg h0, if_pos hs]
  exact ⟨fun z => if_neg z, fun z y => by rw [if_pos z, if_pos y], fun z y => by rw [if_pos z, if_neg y]⟩
theorem mr_tt_is4 (h0 : op = 4) (hs : sl = mr_due op f) : (mr_isw n0 g k s x 4 → mr_tt n0 g op sl ln md f nm v k s x = .inr (op, sl + 1, nm)) ∧ (¬ mr_isw n0 g k s x 4 → mr_tt n0 g op sl ln md f nm v k s x = .inl (1, s)) := by
  unfold mr_tt
  rw [if_neg (by omega), if_neg (by omega), if_pos ⟨h0, hs⟩]
  exact ⟨fun z => mr_if_pos z, fun z => mr_if_neg z⟩
theorem mr_tt_stop (h0 : op ≠ 0) (hs : ¬ (sl < mr_due op f ∨ (op = 4 ∧ sl = mr_due op f + 1))) (h4 : ¬ (op = 4 ∧ sl = mr_due op f)) : (k = 4 → mr_tt n0 g op sl ln md f nm v k s x = .inr (op, sl + 1, nm)) ∧ (k ≠ 4 → mr_tt n0 g op sl ln md f nm v k s x = .inl (1, s)) := by
  unfold mr_tt
  rw [if_neg h0, if_neg hs, if_neg h4]
  exact ⟨fun z => if_pos z, fun z => if_neg z⟩
theorem mr_tt_l0 (hl : ln = 0) : (mr_isw n0 g k s x 0 → mr_tt n0 g 0 sl ln md f nm v k s x = .inr (1, 0, fun _ => 0)) ∧ (¬ mr_isw n0 g k s x 0 → mr_tt n0 g 0 sl ln md f nm v k s x = .inl (1, s)) := by
  unfold mr_tt
  rw [if_pos rfl, if_pos hl]
  exact ⟨fun z => mr_if_pos z, fun z => mr_if_neg z⟩
theorem mr_tt_l1 (hl : ln ≠ 0) : (mr_isw n0 g k s x 1 → md < 4 → mr_tt n0 g 0 sl ln md f nm v k s x = .inr (2, 0, fun _ => 0)) ∧ (mr_isw n0 g k s x 1 → ¬ md < 4 → mr_tt n0 g 0 sl ln md f nm v k s x = .inl (3, s)) ∧ (¬ mr_isw n0 g k s x 1 → mr_isw n0 g k s x 2 → 0 < md → mr_tt n0 g 0 sl ln md f nm v k s x = .inr (3, 0, fun _ => 0)) ∧ (¬ mr_isw n0 g k s x 1 → mr_isw n0 g k s x 2 → ¬ 0 < md → mr_tt n0 g 0 sl ln md f nm v k s x = .inl (1, s)) ∧ (¬ mr_isw n0 g k s x 1 → ¬ mr_isw n0 g k s x 2 → mr_isw n0 g k s x 3 → f 2 < 3 → mr_tt n0 g 0 sl ln md f nm v k s x = .inr (4, 0, fun _ => 0)) ∧ (¬ mr_isw n0 g k s x 1 → ¬ mr_isw n0 g k s x 2 → mr_isw n0 g k s x 3 → ¬ f 2 < 3 → mr_tt n0 g 0 sl ln md f nm v k s x = .inl (3, s)) ∧ (¬ mr_isw n0 g k s x 1 → ¬ mr_isw n0 g k s x 2 → ¬ mr_isw n0 g k s x 3 → mr_tt n0 g 0 sl ln md f nm v k s x = .inl (1, s)) := by
  unfold mr_tt
  rw [if_pos rfl, if_neg hl]
  exact ⟨fun z y => by rw [mr_if_pos z, if_pos y], fun z y => by rw [mr_if_pos z, if_neg y], fun z z2 y => by rw [mr_if_neg z, mr_if_pos z2, if_pos y], fun z z2 y => by rw [mr_if_neg z, mr_if_pos z2, if_neg y], fun z z2 z3 y => by rw [mr_if_neg z, mr_if_neg z2, mr_if_pos z3, if_pos y], fun z z2 z3 y => by rw [mr_if_neg z, mr_if_neg z2, mr_if_pos z3, if_neg y], fun z z2 z3 => by rw [mr_if_neg z, mr_if_neg z2, mr_if_neg z3]⟩
end AT
