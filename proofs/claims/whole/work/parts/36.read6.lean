theorem mr_ttc {Po : Option mr_AV → mr_Wd → Prop} {w : mr_Wd} {v k s n op sl ln md fk fp n0 : Int} {g f nm : Nat → Int} (h14 : w 14 = eA 0 3 nm) (hF : ∀ (op1 sl1 : Int) (nm1 : Nat → Int) (a b : Int), (sl1 = 0 ∨ (op ≠ 0 ∧ sl1 = sl + 1)) → (nm1 = (fun _ => 0) ∨ nm1 = nm) → mr_tt n0 g op sl ln md f nm v k s n = .inl (a, b) → Po none (mr_up (mr_up w 14 (eA 0 3 nm1)) 11 (eRD v k s n op1 sl1 ln md a b))) (hO : ∀ (op1 sl1 : Int) (nm1 : Nat → Int), mr_tt n0 g op sl ln md f nm v k s n = .inr (op1, sl1, nm1) → Po none (mr_up (mr_up w 14 (eA 0 3 nm1)) 11 (eRD v k s n op1 sl1 ln md fk fp))) : (op = 0 → ln = 0 → mr_isw n0 g k s n 0 → Po none (mr_up (mr_up w 14 (eA 0 3 (fun _ => 0))) 11 (eRD v k s n 1 0 ln md fk fp))) ∧ (op = 0 → ln = 0 → ¬ mr_isw n0 g k s n 0 → Po none (mr_up (mr_up w 14 (eA 0 3 (fun _ => 0))) 11 (eRD v k s n op 0 ln md 1 s))) ∧ (op = 0 → ln ≠ 0 → mr_isw n0 g k s n 1 → md < 4 → Po none (mr_up (mr_up w 14 (eA 0 3 (fun _ => 0))) 11 (eRD v k s n 2 0 ln md fk fp))) ∧ (op = 0 → ln ≠ 0 → mr_isw n0 g k s n 1 → 4 ≤ md → Po none (mr_up (mr_up w 14 (eA 0 3 (fun _ => 0))) 11 (eRD v k s n op 0 ln md 3 s))) ∧ (op = 0 → ln ≠ 0 → ¬ mr_isw n0 g k s n 1 → mr_isw n0 g k s n 2 → 0 < md → Po none (mr_up (mr_up w 14 (eA 0 3 (fun _ => 0))) 11 (eRD v k s n 3 0 ln md fk fp))) ∧ (op = 0 → ln ≠ 0 → ¬ mr_isw n0 g k s n 1 → mr_isw n0 g k s n 2 → md ≤ 0 → Po none (mr_up (mr_up w 14 (eA 0 3 (fun _ => 0))) 11 (eRD v k s n op 0 ln md 1 s))) ∧ (op = 0 → ln ≠ 0 → ¬ mr_isw n0 g k s n 1 → ¬ mr_isw n0 g k s n 2 → mr_isw n0 g k s n 3 → f 2 < 3 → Po none (mr_up (mr_up w 14 (eA 0 3 (fun _ => 0))) 11 (eRD v k s n 4 0 ln md fk fp))) ∧ (op = 0 → ln ≠ 0 → ¬ mr_isw n0 g k s n 1 → ¬ mr_isw n0 g k s n 2 → mr_isw n0 g k s n 3 → 3 ≤ f 2 → Po none (mr_up (mr_up w 14 (eA 0 3 (fun _ => 0))) 11 (eRD v k s n op 0 ln md 3 s))) ∧ (op = 0 → ln ≠ 0 → ¬ mr_isw n0 g k s n 1 → ¬ mr_isw n0 g k s n 2 → ¬ mr_isw n0 g k s n 3 → Po none (mr_up (mr_up w 14 (eA 0 3 (fun _ => 0))) 11 (eRD v k s n op 0 ln md 1 s))) ∧ (op ≠ 0 → (sl < mr_due op f ∨ (op = 4 ∧ sl = mr_due op f + 1)) → k ≠ 3 → Po none (mr_up w 11 (eRD v k s n op (sl + 1) ln md 1 s))) ∧ (op ≠ 0 → (sl < mr_due op f ∨ (op = 4 ∧ sl = mr_due op f + 1)) → k = 3 → (v < mr_lst2 op sl ∨ mr_mst2 op sl f < v) → Po none (mr_up w 11 (eRD v k s n op (sl + 1) ln md 2 s))) ∧ (op ≠ 0 → (sl < mr_due op f ∨ (op = 4 ∧ sl = mr_due op f + 1)) → k = 3 → mr_lst2 op sl ≤ v → v ≤ mr_mst2 op sl f → Po none (mr_up (mr_up w 14 (eA 0 3 (mr_nset op sl f nm v))) 11 (eRD v k s n op (sl + 1) ln md fk fp))) ∧ (op ≠ 0 → ¬ (sl < mr_due op f ∨ (op = 4 ∧ sl = mr_due op f + 1)) → (op = 4 ∧ sl = mr_due op f) → mr_isw n0 g k s n 4 → Po none (mr_up w 11 (eRD v k s n op (sl + 1) ln md fk fp))) ∧ (op ≠ 0 → ¬ (sl < mr_due op f ∨ (op = 4 ∧ sl = mr_due op f + 1)) → (op = 4 ∧ sl = mr_due op f) → ¬ mr_isw n0 g k s n 4 → Po none (mr_up w 11 (eRD v k s n op (sl + 1) ln md 1 s))) ∧ (op ≠ 0 → ¬ (sl < mr_due op f ∨ (op = 4 ∧ sl = mr_due op f + 1)) → ¬ (op = 4 ∧ sl = mr_due op f) → k = 4 → Po none (mr_up w 11 (eRD v k s n op (sl + 1) ln md fk fp))) ∧ (op ≠ 0 → ¬ (sl < mr_due op f ∨ (op = 4 ∧ sl = mr_due op f + 1)) → ¬ (op = 4 ∧ sl = mr_due op f) → k ≠ 4 → Po none (mr_up w 11 (eRD v k s n op (sl + 1) ln md 1 s))) :=
  ⟨fun z0 z1 z2 => by
      have e : mr_tt n0 g op sl ln md f nm v k s n = .inr (1, 0, fun _ => 0) := by
        unfold mr_tt
        rw [if_pos z0, if_pos z1, mr_if_pos z2]
      exact hO _ _ _ e,
    fun z0 z1 z2 => by
      have e : mr_tt n0 g op sl ln md f nm v k s n = .inl (1, s) := by
        unfold mr_tt
        rw [if_pos z0, if_pos z1, mr_if_neg z2]
      exact hF _ _ _ _ _ (Or.inl rfl) (Or.inl rfl) e,
    fun z0 z1 z2 z3 => by
      have e : mr_tt n0 g op sl ln md f nm v k s n = .inr (2, 0, fun _ => 0) := by
        unfold mr_tt
        rw [if_pos z0, if_neg z1, mr_if_pos z2, if_pos z3]
      exact hO _ _ _ e,
    fun z0 z1 z2 z3 => by
      have e : mr_tt n0 g op sl ln md f nm v k s n = .inl (3, s) := by
        unfold mr_tt
        rw [if_pos z0, if_neg z1, mr_if_pos z2, if_neg (Int.not_lt.mpr z3)]
      exact hF _ _ _ _ _ (Or.inl rfl) (Or.inl rfl) e,
    fun z0 z1 z2 z3 z4 => by
      have e : mr_tt n0 g op sl ln md f nm v k s n = .inr (3, 0, fun _ => 0) := by
        unfold mr_tt
        rw [if_pos z0, if_neg z1, mr_if_neg z2, mr_if_pos z3, if_pos z4]
      exact hO _ _ _ e,
    fun z0 z1 z2 z3 z4 => by
      have e : mr_tt n0 g op sl ln md f nm v k s n = .inl (1, s) := by
        unfold mr_tt
        rw [if_pos z0, if_neg z1, mr_if_neg z2, mr_if_pos z3, if_neg (Int.not_lt.mpr z4)]
      exact hF _ _ _ _ _ (Or.inl rfl) (Or.inl rfl) e,
    fun z0 z1 z2 z3 z4 z5 => by
      have e : mr_tt n0 g op sl ln md f nm v k s n = .inr (4, 0, fun _ => 0) := by
        unfold mr_tt
        rw [if_pos z0, if_neg z1, mr_if_neg z2, mr_if_neg z3, mr_if_pos z4, if_pos z5]
      exact hO _ _ _ e,
    fun z0 z1 z2 z3 z4 z5 => by
      have e : mr_tt n0 g op sl ln md f nm v k s n = .inl (3, s) := by
        unfold mr_tt
        rw [if_pos z0, if_neg z1, mr_if_neg z2, mr_if_neg z3, mr_if_pos z4, if_neg (Int.not_lt.mpr z5)]
      exact hF _ _ _ _ _ (Or.inl rfl) (Or.inl rfl) e,
    fun z0 z1 z2 z3 z4 => by
      have e : mr_tt n0 g op sl ln md f nm v k s n = .inl (1, s) := by
        unfold mr_tt
        rw [if_pos z0, if_neg z1, mr_if_neg z2, mr_if_neg z3, mr_if_neg z4]
      exact hF _ _ _ _ _ (Or.inl rfl) (Or.inl rfl) e,
    fun z0 z1 z2 => by
      have e : mr_tt n0 g op sl ln md f nm v k s n = .inl (1, s) := by
        unfold mr_tt
        rw [if_neg z0, if_pos z1, if_neg z2]
      have h9 := hF op (sl + 1) nm _ _ (Or.inr ⟨z0, rfl⟩) (Or.inr rfl) e
      rw [mr_up_self h14] at h9
      exact h9,
    fun z0 z1 z2 z3 => by
      have e : mr_tt n0 g op sl ln md f nm v k s n = .inl (2, s) := by
        unfold mr_tt
        rw [if_neg z0, if_pos z1, if_pos z2, if_pos z3]
      have h9 := hF op (sl + 1) nm _ _ (Or.inr ⟨z0, rfl⟩) (Or.inr rfl) e
      rw [mr_up_self h14] at h9
      exact h9,
    fun z0 z1 z2 z3 z4 => by
      have e : mr_tt n0 g op sl ln md f nm v k s n = .inr (op, sl + 1, mr_nset op sl f nm v) := by
        unfold mr_tt
        rw [if_neg z0, if_pos z1, if_pos z2, if_neg (fun z => z.elim (fun y => absurd y (Int.not_lt.mpr z3)) (fun y => absurd y (Int.not_lt.mpr z4)))]
      exact hO _ _ _ e,
    fun z0 z1 z2 z3 => by
      have e : mr_tt n0 g op sl ln md f nm v k s n = .inr (op, sl + 1, nm) := by
        unfold mr_tt
        rw [if_neg z0, if_neg z1, if_pos z2, mr_if_pos z3]
      have h9 := hO _ _ _ e
      rw [mr_up_self h14] at h9
      exact h9,
    fun z0 z1 z2 z3 => by
      have e : mr_tt n0 g op sl ln md f nm v k s n = .inl (1, s) := by
        unfold mr_tt
        rw [if_neg z0, if_neg z1, if_pos z2, mr_if_neg z3]
      have h9 := hF op (sl + 1) nm _ _ (Or.inr ⟨z0, rfl⟩) (Or.inr rfl) e
      rw [mr_up_self h14] at h9
      exact h9,
    fun z0 z1 z2 z3 => by
      have e : mr_tt n0 g op sl ln md f nm v k s n = .inr (op, sl + 1, nm) := by
        unfold mr_tt
        rw [if_neg z0, if_neg z1, if_neg z2, if_pos z3]
      have h9 := hO _ _ _ e
      rw [mr_up_self h14] at h9
      exact h9,
    fun z0 z1 z2 z3 => by
      have e : mr_tt n0 g op sl ln md f nm v k s n = .inl (1, s) := by
        unfold mr_tt
        rw [if_neg z0, if_neg z1, if_neg z2, if_neg z3]
      have h9 := hF op (sl + 1) nm _ _ (Or.inr ⟨z0, rfl⟩) (Or.inr rfl) e
      rw [mr_up_self h14] at h9
      exact h9⟩
/-- the reader's world -/
def mr_wR (w : mr_Wd) (f nm : Nat → Int) (rd : mr_AE) (m cl ct : Int) (R F : Nat → Nat → Int) : mr_Wd := mr_wS (mr_up (mr_up (mr_up w 13 (eA 0 51 f)) 14 (eA 0 3 nm)) 11 rd) m cl ct R F
section WR
variable (w : mr_Wd) (f nm f' nm' : Nat → Int) (rd rd' : mr_AE) (m cl ct m' cl' ct' : Int) (R F R' F' : Nat → Nat → Int)
theorem mr_wR_11 : mr_wR w f nm rd m cl ct R F 11 = rd := rfl
theorem mr_wR_13 : mr_wR w f nm rd m cl ct R F 13 = eA 0 51 f := rfl
theorem mr_wR_14 : mr_wR w f nm rd m cl ct R F 14 = eA 0 3 nm := rfl
theorem mr_wR_8 : mr_wR w f nm rd m cl ct R F 8 = eO 4 [vR 9 0, vR 10 0, vI m, vI cl, vI ct] := rfl
theorem mr_wR_9 : mr_wR w f nm rd m cl ct R F 9 = eM 6 7 R := rfl
theorem mr_wR_10 : mr_wR w f nm rd m cl ct R F 10 = eM 7 7 F := rfl
theorem mr_wR_ne {k : Nat} (h : k ≠ 8 ∧ k ≠ 9 ∧ k ≠ 10 ∧ k ≠ 11 ∧ k ≠ 13 ∧ k ≠ 14) : mr_wR w f nm rd m cl ct R F k = w k := by
  unfold mr_wR
  rw [mr_wS_ne _ _ _ _ _ _ ⟨h.1, h.2.1, h.2.2.1⟩, mr_up_ne _ _ h.2.2.2.1, mr_up_ne _ _ h.2.2.2.2.2, mr_up_ne _ _ h.2.2.2.2.1]
theorem mr_wR_ex {w1 w2 : mr_Wd} (h8 : w1 8 = w2 8) (h9 : w1 9 = w2 9) (h10 : w1 10 = w2 10) (h11 : w1 11 = w2 11) (h13 : w1 13 = w2 13) (h14 : w1 14 = w2 14) (h : ∀ k : Nat, k ≠ 8 ∧ k ≠ 9 ∧ k ≠ 10 ∧ k ≠ 11 ∧ k ≠ 13 ∧ k ≠ 14 → w1 k = w2 k) : w1 = w2 := by
  funext k
  by_cases e8 : k = 8
  · subst e8; exact h8
  by_cases e9 : k = 9
  · subst e9; exact h9
  by_cases e10 : k = 10
  · subst e10; exact h10
  by_cases e11 : k = 11
  · subst e11; exact h11
  by_cases e13 : k = 13
  · subst e13; exact h13
  by_cases e14 : k = 14
  · subst e14; exact h14
  exact h k ⟨e8, e9, e10, e11, e13, e14⟩
theorem mr_wR_u11 : mr_up (mr_wR w f nm rd m cl ct R F) 11 rd' = mr_wR w f nm rd' m cl ct R F := by
  refine mr_wR_ex rfl rfl rfl rfl rfl rfl (fun k hk => ?_)
  rw [mr_up_ne _ _ hk.2.2.2.1, mr_wR_ne _ _ _ _ _ _ _ _ _ hk, mr_wR_ne _ _ _ _ _ _ _ _ _ hk]
theorem mr_wR_u13 : mr_up (mr_wR w f nm rd m cl ct R F) 13 (eA 0 51 f') = mr_wR w f' nm rd m cl ct R F := by
  refine mr_wR_ex rfl rfl rfl rfl rfl rfl (fun k hk => ?_)
  rw [mr_up_ne _ _ hk.2.2.2.2.1, mr_wR_ne _ _ _ _ _ _ _ _ _ hk, mr_wR_ne _ _ _ _ _ _ _ _ _ hk]
theorem mr_wR_u14 : mr_up (mr_wR w f nm rd m cl ct R F) 14 (eA 0 3 nm') = mr_wR w f nm' rd m cl ct R F := by
  refine mr_wR_ex rfl rfl rfl rfl rfl rfl (fun k hk => ?_)
  rw [mr_up_ne _ _ hk.2.2.2.2.2, mr_wR_ne _ _ _ _ _ _ _ _ _ hk, mr_wR_ne _ _ _ _ _ _ _ _ _ hk]
theorem mr_wR_wS : mr_wS (mr_wR w f nm rd m cl ct R F) m' cl' ct' R' F' = mr_wR w f nm rd m' cl' ct' R' F' := by
  refine mr_wR_ex rfl rfl rfl rfl rfl rfl (fun k hk => ?_)
  rw [mr_wS_ne _ _ _ _ _ _ ⟨hk.1, hk.2.1, hk.2.2.1⟩, mr_wR_ne _ _ _ _ _ _ _ _ _ hk, mr_wR_ne _ _ _ _ _ _ _ _ _ hk]
end WR
theorem mr_tbA_cg {f r : Nat → Int} {p : Int} (h1 : 0 ≤ f 1) (R R' : Nat → Nat → Int) : ∀ q : Nat, (q : Int) < f 1 + 1 → mr_tbA f r p R q = mr_tbA f r p R' q := by
  intro q hq
  unfold mr_tbA
  by_cases e : q = (f 1).toNat
  · subst e; rw [mr_Rw_same, mr_Rw_same]
  · rw [mr_Rw_ne _ _ e, mr_Rw_ne _ _ e, mr_aR_at _ (Int.le_refl 0), mr_aR_at _ (Int.le_refl 0), if_pos ⟨by omega, by omega⟩, if_pos ⟨by omega, by omega⟩]
theorem mr_abs_in {f : Nat → Int} (h1 : 0 ≤ f 1) (r : Nat → Int) (p : Int) (R F : Nat → Nat → Int) : mr_abs f r p R F = mr_abs f r p mr_Zz mr_Zz := by
  unfold mr_abs
  rw [mr_sh_cg (by omega) h1 F mr_Zz (mr_tbA_cg h1 R mr_Zz)]
theorem mr_abs_bd {f : Nat → Int} (hB : mr_Bd f) (hM : 1 ≤ f 0) (r : Nat → Int) {p : Int} (hp : 0 ≤ p) (R F : Nat → Nat → Int) : mr_Bd (mr_abs f r p R F) := by
  have h1 := hB.1 1
  unfold mr_abs
  refine mr_pt_bd hB _ _ _ _ hp (fun c a => ?_)
  exact mr_sh_in (hB.1 0).2 (mr_shp_bm hM (by omega) h1.1 (mr_tbA_bm hM h1.1)) _ _
theorem mr_sse_bd2 {f : Nat → Int} (hB : mr_Bd f) (i h v : Int) (hv : 0 ≤ v ∧ v ≤ 30) : mr_Bd (mr_sse f i h v) := mr_sse_bd hB i h v hv
theorem mr_seq_bd {f r : Nat → Int} (hB : mr_Bd f) (hr : mr_Rd r) (i v : Int) (hv : 0 ≤ v ∧ v ≤ 30) : mr_Bd (mr_seq f i r v) :=
  mr_sse_bd (mr_sse_bd (mr_sse_bd (mr_sse_bd hB _ _ _ (hr 0)) _ _ _ (hr 1)) _ _ _ (hr 2)) _ _ _ hv
theorem mr_seq_lo (f r : Nat → Int) (i v : Int) {k : Nat} (hk : k < 39) : mr_seq f i r v k = f k := by
  unfold mr_seq
  rw [mr_sse_lo _ _ _ _ hk, mr_sse_lo _ _ _ _ hk, mr_sse_lo _ _ _ _ hk, mr_sse_lo _ _ _ _ hk]
theorem mr_fsB {f : Nat → Int} (hB : mr_Bd f) {x : Int} (hx : 0 ≤ x ∧ x ≤ 3) : mr_Bd (mr_fs f 2 x) := by
  refine ⟨fun k => ?_, ?_, ?_⟩
  · unfold mr_fs
    split
    · omega
    · exact hB.1 k
  · rw [mr_fs_ne _ _ (by decide)]; exact hB.2.1
  · rw [mr_fs_same]; exact hx.2
theorem mr_eqn_bd {f r : Nat → Int} (hB : mr_Bd f) (hr : mr_Rd r) (v : Int) (hv : 0 ≤ v ∧ v ≤ 30) : mr_Bd (mr_eqn f r v) := mr_fsB (mr_seq_bd hB hr _ _ hv) ⟨by omega, by omega⟩
theorem mr_anew_bd {x y : Int} (hx : 0 ≤ x ∧ x ≤ 30) : mr_Bd (mr_anew x y) := by
  refine ⟨fun k => ?_, ?_, ?_⟩
  · unfold mr_anew mr_fs
    split
    · omega
    · split
      · exact hx
      · show (0 : Int) ≤ 0 ∧ (0 : Int) ≤ 30
        decide
  · unfold mr_anew
    rw [mr_fs_same]
    omega
  · unfold mr_anew
    rw [mr_fs_ne _ _ (by decide), mr_fs_ne _ _ (by decide)]
    decide
/-- what stays true token by token -/
def mr_Iv (op sl ln md : Int) (f nm : Nat → Int) (v n : Int) : Prop := mr_Bd f ∧ mr_Rd nm ∧ (0 ≤ op ∧ op ≤ 4) ∧ (0 ≤ sl ∧ sl ≤ 20) ∧ (0 ≤ ln ∧ ln ≤ n) ∧ (0 ≤ md ∧ md ≤ 4) ∧ (0 ≤ v ∧ v ≤ 99) ∧ (ln = 0 → op ≤ 1) ∧ (1 ≤ ln → 1 ≤ f 0 ∧ op ≠ 1) ∧ (op = 3 → 1 ≤ md) ∧ (op = 2 → md < 4) ∧ (op ≠ 0 → sl ≤ mr_due op f + 2) ∧ (op = 1 → 1 ≤ sl → 1 ≤ nm 0) ∧ (op = 4 → mr_due op f + 2 ≤ sl → v ≤ 30)
theorem mr_due_bd {f : Nat → Int} (hB : mr_Bd f) (op : Int) : 0 ≤ mr_due op f ∧ mr_due op f ≤ 3 := by
  have h1 := hB.1 1
  have h2 := hB.2.1
  unfold mr_due
  split
  · omega
  · split <;> omega
theorem mr_zRd : mr_Rd (fun _ => 0) := fun j => ⟨Int.le_refl 0, by show (0 : Int) ≤ 30; decide⟩
theorem mr_Iv_open {op sl ln md : Int} {f nm : Nat → Int} {v n x : Int} (h : mr_Iv op sl ln md f nm v n) (hn : n ≤ x) (v' : Int) (hv : 0 ≤ v' ∧ v' ≤ 99) (q : Int) (hq : 1 ≤ q ∧ q ≤ 4) (h0 : ln = 0 → q = 1) (h1 : ln ≠ 0 → q ≠ 1) (h2 : q = 2 → md < 4) (h3 : q = 3 → 0 < md) : mr_Iv q 0 ln md f (fun _ => 0) v' x := by
  obtain ⟨a1, a2, a3, a4, a5, a6, a7, a8, a9, a10, a11, a12, a13, a14⟩ := h
  have hd := mr_due_bd a1 q
  exact ⟨a1, mr_zRd, by omega, by decide, by omega, a6, hv, fun z => by have := h0 z; omega, fun z => ⟨(a9 z).1, h1 (by omega)⟩, fun z => by have := h3 z; omega, h2, fun _ => by omega, fun _ z => by omega, fun _ z => by omega⟩
theorem mr_Iv_tt {n0 : Int} {g : Nat → Int} {op sl ln md : Int} {f nm : Nat → Int} {v n : Int} {k s x v' : Int} {op' sl' : Int} {nm' : Nat → Int} (h : mr_Iv op sl ln md f nm v n) (hn : n ≤ x) (hv : 0 ≤ v' ∧ v' ≤ 99) (hv3 : k ≠ 3 → v' = v) (ht : mr_tt n0 g op sl ln md f nm v' k s x = .inr (op', sl', nm')) : (k ≠ 4 → mr_Iv op' sl' ln md f nm' v' x) ∧ (k = 4 → op' = op ∧ op ≠ 0 ∧ nm' = nm ∧ sl' = sl + 1 ∧ (op = 1 → 2 ≤ sl) ∧ (op = 4 → mr_due op f + 2 ≤ sl)) := by
  have hI := h
  obtain ⟨a1, a2, a3, a4, a5, a6, a7, a8, a9, a10, a11, a12, a13, a14⟩ := h
  have hd := mr_due_bd a1 op
  have hf0 := a1.1 0
  unfold mr_tt at ht
  by_cases c0 : op = 0
  · rw [if_pos c0] at ht
    by_cases c1 : ln = 0
    · rw [if_pos c1] at ht
      by_cases c2 : mr_isw n0 g k s x 0
      · rw [mr_if_pos c2] at ht
        cases ht
        exact ⟨fun _ => mr_Iv_open hI hn v' hv 1 (by decide) (fun _ => rfl) (fun z => absurd c1 z) (fun z => absurd z (by decide)) (fun z => absurd z (by decide)), fun z => by have := c2.1; omega⟩
      · rw [mr_if_neg c2] at ht
        cases ht
    · rw [if_neg c1] at ht
      by_cases c2 : mr_isw n0 g k s x 1
      · rw [mr_if_pos c2] at ht
        by_cases c3 : md < 4
        · rw [if_pos c3] at ht
          cases ht
          exact ⟨fun _ => mr_Iv_open hI hn v' hv 2 (by decide) (fun z => absurd z c1) (fun _ => by decide) (fun _ => c3) (fun z => absurd z (by decide)), fun z => by have := c2.1; omega⟩
        · rw [if_neg c3] at ht
          cases ht
      · rw [mr_if_neg c2] at ht
        by_cases c3 : mr_isw n0 g k s x 2
        · rw [mr_if_pos c3] at ht
          by_cases c4 : 0 < md
          · rw [if_pos c4] at ht
            cases ht
            exact ⟨fun _ => mr_Iv_open hI hn v' hv 3 (by decide) (fun z => absurd z c1) (fun _ => by decide) (fun z => absurd z (by decide)) (fun _ => c4), fun z => by have := c3.1; omega⟩
          · rw [if_neg c4] at ht
            cases ht
        · rw [mr_if_neg c3] at ht
          by_cases c4 : mr_isw n0 g k s x 3
          · rw [mr_if_pos c4] at ht
            by_cases c5 : f 2 < 3
            · rw [if_pos c5] at ht
              cases ht
              exact ⟨fun _ => mr_Iv_open hI hn v' hv 4 (by decide) (fun z => absurd z c1) (fun _ => by decide) (fun z => absurd z (by decide)) (fun z => absurd z (by decide)), fun z => by have := c4.1; omega⟩
            · rw [if_neg c5] at ht
              cases ht
          · rw [mr_if_neg c4] at ht
            cases ht
  · rw [if_neg c0] at ht
    have hs12 := a12 c0
    by_cases c1 : sl < mr_due op f ∨ (op = 4 ∧ sl = mr_due op f + 1)
    · rw [if_pos c1] at ht
      by_cases c2 : k = 3
      · rw [if_pos c2] at ht
        by_cases c3 : v' < mr_lst2 op sl ∨ mr_mst2 op sl f < v'
        · rw [if_pos c3] at ht
          cases ht
        · rw [if_neg c3] at ht
          cases ht
          have hl : mr_lst2 op sl ≤ v' := by omega
          have hm : v' ≤ mr_mst2 op sl f := by omega
          have hmm : mr_mst2 op sl f ≤ 30 := by unfold mr_mst2; split <;> (try split) <;> omega
          refine ⟨fun _ => ⟨a1, ?_, a3, by omega, by omega, a6, hv, a8, a9, a10, a11, fun _ => by omega, fun z1 z2 => ?_, fun z1 z2 => by omega⟩, fun z => by omega⟩
          · unfold mr_nset
            split
            · exact mr_fs_bd a2 _ ⟨hv.1, by omega⟩
            · exact a2
          · unfold mr_nset
            have hdue : mr_due op f = 2 := by unfold mr_due; rw [if_pos z1]
            rw [if_pos ⟨a4.1, by omega, by omega⟩]
            by_cases c4 : sl = 0
            · subst c4
              have : mr_lst2 op 0 = 2 := by unfold mr_lst2; rw [if_pos z1, if_pos rfl]
              show 1 ≤ mr_fs nm (Int.toNat 0) v' 0
              rw [show Int.toNat 0 = 0 from rfl, mr_fs_same]
              omega
            · rw [mr_fs_ne _ _ (by omega)]
              exact a13 z1 (by omega)
      · rw [if_neg c2] at ht
        cases ht
    · rw [if_neg c1] at ht
      by_cases c2 : op = 4 ∧ sl = mr_due op f
      · rw [if_pos c2] at ht
        by_cases c3 : mr_isw n0 g k s x 4
        · rw [mr_if_pos c3] at ht
          cases ht
          exact ⟨fun _ => ⟨a1, a2, a3, by omega, by omega, a6, hv, a8, a9, a10, a11, fun _ => by omega, fun z1 z2 => by omega, fun z1 z2 => by omega⟩, fun z => by have := c3.1; omega⟩
        · rw [mr_if_neg c3] at ht
          cases ht
      · rw [if_neg c2] at ht
        by_cases c3 : k = 4
        · rw [if_pos c3] at ht
          cases ht
          refine ⟨fun z => absurd c3 z, fun _ => ⟨rfl, c0, rfl, rfl, fun z => ?_, fun z => by omega⟩⟩
          have hdue : mr_due op f = 2 := by unfold mr_due; rw [if_pos z]
          omega
        · rw [if_neg c3] at ht
          cases ht
theorem mr_Iv_fin {op sl ln md : Int} {f nm : Nat → Int} {v n x : Int} (h : mr_Iv op sl ln md f nm v n) (hx : n < x) (h0 : op ≠ 0) (h1 : op = 1 → 2 ≤ sl) (h4 : op = 4 → mr_due op f + 2 ≤ sl) : mr_Iv 0 (sl + 1) (ln + 1) (mr_fin op md f nm v).2 (mr_fin op md f nm v).1 nm v x := by
  obtain ⟨a1, a2, a3, a4, a5, a6, a7, a8, a9, a10, a11, a12, a13, a14⟩ := h
  have hd := mr_due_bd a1 op
  have hs := a12 h0
  have key : mr_Bd (mr_fin op md f nm v).1 ∧ 1 ≤ (mr_fin op md f nm v).1 0 ∧ (0 ≤ (mr_fin op md f nm v).2 ∧ (mr_fin op md f nm v).2 ≤ 4) := by
    unfold mr_fin
    by_cases c1 : op = 1
    · rw [if_pos c1]
      refine ⟨mr_anew_bd (a2 0), ?_, a6⟩
      have := a13 c1 (by have := h1 c1; omega)
      exact this
    · rw [if_neg c1]
      have hl : 1 ≤ ln := by
        by_cases e : ln = 0
        · have := a8 e; omega
        · omega
      have hM := (a9 hl).1
      by_cases c2 : op = 2
      · rw [if_pos c2]
        have := a11 c2
        exact ⟨a1, hM, by show 0 ≤ md + 1 ∧ md + 1 ≤ 4; omega⟩
      · rw [if_neg c2]
        by_cases c3 : op = 3
        · rw [if_pos c3]
          have := a10 c3
          refine ⟨mr_abs_bd a1 hM _ (by omega) _ _, ?_, a6⟩
          show 1 ≤ mr_abs f nm (md - 1) mr_Zz mr_Zz 0
          unfold mr_abs
          show 1 ≤ mr_pt f (md - 1) _ (f 1) 0 0
          rw [mr_pt_lo f (md - 1) _ (f 1) 0 (by omega) (by decide)]
          exact hM
        · rw [if_neg c3]
          have c4 : op = 4 := by omega
          refine ⟨mr_eqn_bd a1 a2 v ⟨a7.1, a14 c4 (h4 c4)⟩, ?_, a6⟩
          show 1 ≤ mr_eqn f nm v 0
          unfold mr_eqn
          rw [mr_fs_ne _ _ (by decide), mr_seq_lo _ _ _ _ (by decide)]
          exact hM
  exact ⟨key.1, a2, by decide, by omega, by omega, key.2.2, a7, fun _ => by decide, fun _ => ⟨key.2.1, by decide⟩, fun z => absurd z (by decide), fun z => absurd z (by decide), fun z => absurd rfl z, fun z => absurd z (by decide), fun z => absurd z (by decide)⟩
