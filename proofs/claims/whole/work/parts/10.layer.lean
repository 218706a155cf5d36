/-! THE LAYER: states as numbers (Int), a world by names of its cells; one row an instruction; a call by a method's transformer. -/
abbrev mr_AV : Type := Int ⊕ Int ⊕ Option (Nat × Nat) ⊕ Nat
abbrev vI (x : Int) : mr_AV := .inl x
abbrev vL (x : Int) : mr_AV := .inr (.inl x)
abbrev vR (k i : Nat) : mr_AV := .inr (.inr (.inl (some (k, i))))
abbrev vN : mr_AV := .inr (.inr (.inl none))
abbrev vS (j : Nat) : mr_AV := .inr (.inr (.inr j))
abbrev mr_AE : Type := (Nat × List mr_AV) ⊕ (Nat × Nat × (Nat → Int)) ⊕ (Nat × Nat × (Nat → Nat → Int)) ⊕ Unit
abbrev eO (c : Nat) (fs : List mr_AV) : mr_AE := .inl (c, fs)
abbrev eA (t n : Nat) (f : Nat → Int) : mr_AE := .inr (.inl (t, n, f))
abbrev eM (n k : Nat) (F : Nat → Nat → Int) : mr_AE := .inr (.inr (.inl (n, k, F)))
abbrev eU : mr_AE := .inr (.inr (.inr ()))
abbrev mr_Wd : Type := Nat → mr_AE
/-- the classes' numbers and slots; the array classes (0 int, 1 boolean, 2 byte, 3 long, 4 int[]); the addresses; those of the texts; the lowest one -/
abbrev mr_G : Type := va_G × (Nat → ClassId) × (Nat → Nat → Nat) × (Nat → Nat) × Nat
abbrev mr_ad (G : mr_G) : Nat → Nat → Nat := G.2.2.1
abbrev mr_lo (G : mr_G) : Nat := G.2.2.2.2
abbrev mr_A (G : mr_G) : Nat → Prop := fun q => mr_lo G ≤ q
def mr_cv (G : mr_G) (v : mr_AV) : Value := match v with
  | .inl x => .int (Int32.ofInt x)
  | .inr (.inl x) => .long (Int64.ofInt x)
  | .inr (.inr (.inl (some q))) => .ref (mr_ad G q.1 q.2)
  | .inr (.inr (.inl none)) => .null
  | .inr (.inr (.inr j)) => .ref (G.2.2.2.1 j)
def mr_arr (t : Nat) (f : Nat → Int) : (Nat → Int32) ⊕ (Nat → Int64) ⊕ (Nat → UInt32) ⊕ (Nat → UInt64) ⊕ (Nat → Option Nat) := match t with
  | 3 => .inr (.inl (fun j => Int64.ofInt (f j)))
  | _ => .inl (fun j => Int32.ofInt (f j))
def mr_ce (G : mr_G) (k : Nat) (e : mr_AE) (H : Heap) : Prop := match e with
  | .inl o => va_at G.1 vwCl (mr_ad G k 0, .inr (o.1, o.2.map (mr_cv G))) H
  | .inr (.inl a) => va_at G.1 vwCl (mr_ad G k 0, .inl (G.2.1 a.1, a.2.1, mr_arr a.1 a.2.2)) H
  | .inr (.inr (.inl a)) => va_at G.1 vwCl (mr_ad G k 0, .inl (G.2.1 4, a.1, .inr (.inr (.inr (.inr (fun i => some (mr_ad G k (i + 1)))))))) H ∧ ∀ i : Nat, i < a.1 → va_at G.1 vwCl (mr_ad G k (i + 1), .inl (G.2.1 0, a.2.1, .inl (fun j => Int32.ofInt (a.2.2 i j)))) H
  | .inr (.inr (.inr _)) => True
def mr_C (G : mr_G) (w : mr_Wd) (H : Heap) : Prop := ∀ k : Nat, mr_ce G k (w k) H
def mr_tys (G : mr_G) : List (ClassId × FieldType) := [(G.2.1 0, .int), (G.2.1 1, .boolean), (G.2.1 2, .byte), (G.2.1 3, .long), (G.2.1 4, .array .int)]
def mr_Ap (G : mr_G) : Prop := (∀ k i k' i' : Nat, mr_ad G k i = mr_ad G k' i' → k = k' ∧ i = i') ∧ ∀ k i : Nat, mr_lo G ≤ mr_ad G k i
/-- the texts: their lengths and bytes -/
def mr_sl : List Nat := [6, 6, 3, 8, 2, 19]
def mr_sb : List (List Int32) := [[109, 111, 100, 117, 108, 111], [109, 111, 100, 117, 108, 101], [114, 111, 119], [101, 113, 117, 97, 116, 105, 111, 110], [105, 115], [110, 111, 32, 82, 79, 87, 32, 111, 102, 32, 116, 104, 97, 116, 32, 114, 97, 110, 107]]
def mr_TR (G : mr_G) (U : State) : Prop := vk_R RX2 112 "modulo" (G.2.2.2.1 0) U ∧ vk_R RX2 122 "module" (G.2.2.2.1 1) U ∧ vk_R RX2 124 "row" (G.2.2.2.1 2) U ∧ vk_R RX2 126 "equation" (G.2.2.2.1 3) U ∧ vk_R RX2 143 "is" (G.2.2.2.1 4) U ∧ vk_R RX6 133 "no ROW of that rank" (G.2.2.2.1 5) U
def mr_TS (G : mr_G) (U : State) (H : Heap) : Prop := vk_S 6 mr_sl mr_sb G.2.2.2.1 (fun j => G.2.2.2.1 (100 + j)) (mr_A G) U H ∧ va_Z "java/lang/String" "COMPACT_STRINGS" "Z" (.int 1) (mr_A G) U H ∧ (va_Z "jdk/internal/util/Preconditions" "SIOOBE_FORMATTER" "Ljava/util/function/BiFunction;" .null (mr_A G) U H ∨ va_Z "jdk/internal/util/Preconditions" "SIOOBE_FORMATTER" "Ljava/util/function/BiFunction;" (.ref (G.2.2.2.1 200)) (mr_A G) U H)
def mr_Ne (U : State) : Prop := va_Nw (.fieldLinkNest RX2 40 RX0 "cells" "[I" RX6) U ∧ va_Nw (.methodLinkNest RX3 97 yX0_residue RX6) U
def mr_K (G : mr_G) (U : State) : Prop := va_K G.1 vwCl (mr_tys G) U ∧ mr_Ap G ∧ mr_Ne U ∧ mr_TR G U ∧ mr_lo G ≤ U.heap.size ∧ mr_TS G U U.heap
theorem mr_TS.to {G : mr_G} {u U : State} {H H1 : Heap} (hvm : u.vm.Alike U.vm) (hq : ∀ a : Nat, a < H.size → ¬ mr_A G a → H1[a]? = H[a]?) (h : mr_TS G u H) : mr_TS G U H1 := by
  obtain ⟨h1, h2, h3⟩ := h
  exact ⟨(h1.kept hq).moved hvm, (h2.kept hq).moved hvm, h3.elim (fun z => Or.inl ((z.kept hq).moved hvm)) (fun z => Or.inr ((z.kept hq).moved hvm))⟩
theorem mr_K.to {G : mr_G} {u U : State} {locs : List Loc} (hW : u.WarmedH U.vm) (hS : va_S (mr_A G) u.heap U.heap locs) (h : mr_K G u) : mr_K G U := by
  obtain ⟨h1, h2, h3, h4, h5, h6⟩ := h
  refine ⟨h1.moved hW.alike, h2, ⟨h3.1.warmF hW, h3.2.warmM hW⟩, ?_, Nat.le_trans h5 hS.1, h6.to hW.alike hS.2.1⟩
  obtain ⟨a, b, c, d, e, f⟩ := h4
  exact ⟨a.warm hW, b.warm hW, c.warm hW, d.warm hW, e.warm hW, f.warm hW⟩
theorem mr_K.same {G : mr_G} {u U : State} (hv : U.vm = u.vm) (hH : U.heap = u.heap) (h : mr_K G u) : mr_K G U := by
  obtain ⟨h1, h2, h3, h4, h5, h6⟩ := h
  have hA : u.vm.Alike U.vm := by rw [hv]; exact Vm.Alike.refl _
  refine ⟨h1.moved hA, h2, ⟨h3.1.same rfl hv.symm, h3.2.same rfl hv.symm⟩, ?_, by rw [hH]; exact h5, h6.to hA (fun a _ _ => by rw [hH])⟩
  obtain ⟨a, b, c, d, e, f⟩ := h4
  exact ⟨a.same hv, b.same hv, c.same hv, d.same hv, e.same hv, f.same hv⟩
def mr_up (w : mr_Wd) (k : Nat) (e : mr_AE) : mr_Wd := fun j => if j = k then e else w j
def mr_ls (G : mr_G) (nL : Nat) (ls : List (Option mr_AV)) (lc : Array Slot) : Prop := lc.size = nL ∧ lv_wf lc ∧ ∀ (i : Nat) (v : mr_AV), ls[i]? = some (some v) → lc[i]? = some (.val (mr_cv G v))
def mr_Q (G : mr_G) (Po : Option mr_AV → mr_Wd → Prop) : Array Value → State → Outcome → State → Prop := fun _ st o t => (∃ (r : Option mr_AV) (w : mr_Wd), o = .returned (r.map (mr_cv G)) ∧ Po r w ∧ mr_C G w t.heap) ∧ va_F (mr_A G) st t
/-- what a method's frame knows of itself -/
def mr_Hy (p : Program) (s : State) (m : MethodId) (args : Array Value) (meth : Method) (c : Code) (G : mr_G) (own : String) (cc : ByteArray) (nL : Nat) (ret : Option FieldType) : Prop :=
  p.tables.exec = Jvm.exec ∧ c.code = cc ∧ c.maxLocals = nL ∧ meth.sig.returnType = ret ∧ meth.locks = false ∧ s.vm.findClass own = some m.cls ∧ (∀ w ∈ mr_ws, w.before args s = true) ∧ mr_K G s
def mr_J (l : Launch) (G : mr_G) (own : String) (cc : ByteArray) (nL : Nat) (ret : Option FieldType) (rf rl : Nat) (Po : Option mr_AV → mr_Wd → Prop) (pc : Nat) (ls : List (Option mr_AV)) (st : List mr_AV) (w : mr_Wd) : Prop :=
  ∀ (p : Program) (e : Env) (s : State) (m : MethodId) (args : Array Value) (below : List Frame) (meth : Method) (c : Code) (H : Heap) (locs : List Loc) (lc : Array Slot),
    mr_Hy p s m args meth c G own cc nL ret → mr_C G w H → va_S (mr_A G) s.heap H locs → mr_ls G nL ls lc →
    W p l e { frames := rf, cells := 0, slots := 0, locals := rl } s m args below meth c H locs 0 0 (MQ below (mr_Q G Po) args s 0 0 (mr_A G)) (F0 m pc lc (st.map (mr_cv G)))
/-- an int's range -/
abbrev InR (x : Int) : Prop := -2147483648 ≤ x ∧ x < 2147483648
theorem mr_toInt {x : Int} (h : InR x) : (Int32.ofInt x).toInt = x := Int32.toInt_ofInt_of_le (by have := h.1; omega) (by have := h.2; omega)
theorem mr_lt {x y : Int} (hx : InR x) (hy : InR y) : Int32.ofInt x < Int32.ofInt y ↔ x < y := by rw [Int32.lt_iff_toInt_lt, mr_toInt hx, mr_toInt hy]
theorem mr_le {x y : Int} (hx : InR x) (hy : InR y) : Int32.ofInt x ≤ Int32.ofInt y ↔ x ≤ y := by rw [Int32.le_iff_toInt_le, mr_toInt hx, mr_toInt hy]
theorem mr_eq {x y : Int} (hx : InR x) (hy : InR y) : Int32.ofInt x = Int32.ofInt y ↔ x = y := by rw [← Int32.toInt_inj, mr_toInt hx, mr_toInt hy]
theorem mr_z : (0 : Int32) = Int32.ofInt 0 := rfl
theorem mr_in0 : InR 0 := ⟨by decide, by decide⟩
theorem mr_idx {i : Int} {n : Nat} (h0 : 0 ≤ i) (h1 : i < n) (hn : n < 2147483648) : vp_in (Int32.ofInt i) n ∧ (Int32.ofInt i).toNatClampNeg = i.toNat := by
  have e : (Int32.ofInt i).toNatClampNeg = i.toNat := Int32.toNatClampNeg_ofInt_of_le (by omega) (by omega)
  refine ⟨?_, e⟩
  rintro (q | q)
  · rw [mr_z, mr_lt ⟨by omega, by omega⟩ mr_in0] at q
    omega
  · rw [e] at q
    omega
section JR
variable {l : Launch} {G : mr_G} {own : String} {cc : ByteArray} {nL : Nat} {ret : Option FieldType} {rf rl : Nat} {Po : Option mr_AV → mr_Wd → Prop} {pc : Nat} {ls : List (Option mr_AV)} {st : List mr_AV} {w : mr_Wd}
/-- the same place, another stack and the rest: a row of the machine that leaves heap and locals -/
theorem mr_iadd {x y : Int} (d : decode cc pc = .ok (.iadd, 1)) (k : mr_J l G own cc nL ret rf rl Po (pc + 1) ls (vI (x + y) :: st) w) : mr_J l G own cc nL ret rf rl Po pc ls (vI y :: vI x :: st) w := by
  intro p e s m args below meth c H locs lc hh hC hS hl
  have h := k p e s m args below meth c H locs lc hh hC hS hl
  refine lv_iadd hh.1 hh.2.1 d ?_
  rw [← Int32.ofInt_add]
  exact h
theorem mr_isub {x y : Int} (d : decode cc pc = .ok (.isub, 1)) (k : mr_J l G own cc nL ret rf rl Po (pc + 1) ls (vI (x - y) :: st) w) : mr_J l G own cc nL ret rf rl Po pc ls (vI y :: vI x :: st) w := by
  intro p e s m args below meth c H locs lc hh hC hS hl
  have h := k p e s m args below meth c H locs lc hh hC hS hl
  refine lv_isub hh.1 hh.2.1 d ?_
  rw [← Int32.ofInt_sub]
  exact h
theorem mr_imul {x y : Int} (d : decode cc pc = .ok (.imul, 1)) (k : mr_J l G own cc nL ret rf rl Po (pc + 1) ls (vI (x * y) :: st) w) : mr_J l G own cc nL ret rf rl Po pc ls (vI y :: vI x :: st) w := by
  intro p e s m args below meth c H locs lc hh hC hS hl
  have h := k p e s m args below meth c H locs lc hh hC hS hl
  refine lv_imul hh.1 hh.2.1 d ?_
  rw [← Int32.ofInt_mul]
  exact h
theorem mr_ineg {x : Int} (d : decode cc pc = .ok (.ineg, 1)) (k : mr_J l G own cc nL ret rf rl Po (pc + 1) ls (vI (-x) :: st) w) : mr_J l G own cc nL ret rf rl Po pc ls (vI x :: st) w := by
  intro p e s m args below meth c H locs lc hh hC hS hl
  have h := k p e s m args below meth c H locs lc hh hC hS hl
  refine lv_ineg hh.1 hh.2.1 d ?_
  rw [← Int32.ofInt_neg]
  exact h
theorem mr_ne0 {y : Int} (hy : InR y) (h0 : y ≠ 0) : ¬ Int32.ofInt y = 0 := by
  rw [mr_z, mr_eq hy mr_in0]
  exact h0
theorem mr_idiv {x y : Int} (d : decode cc pc = .ok (.idiv, 1)) (hx : InR x) (hy : InR y) (h0 : y ≠ 0) (k : mr_J l G own cc nL ret rf rl Po (pc + 1) ls (vI (x.tdiv y) :: st) w) : mr_J l G own cc nL ret rf rl Po pc ls (vI y :: vI x :: st) w := by
  intro p e s m args below meth c H locs lc hh hC hS hl
  have h := k p e s m args below meth c H locs lc hh hC hS hl
  refine lv_idiv hh.1 hh.2.1 d (mr_ne0 hy h0) ?_
  rw [← Int32.ofInt_tdiv (by have := hx.1; show (-2147483648 : Int) ≤ x; omega) (by have := hx.2; show x ≤ (2147483647 : Int); omega) (by have := hy.1; show (-2147483648 : Int) ≤ y; omega) (by have := hy.2; show y ≤ (2147483647 : Int); omega)]
  exact h
theorem mr_irem {x y : Int} (d : decode cc pc = .ok (.irem, 1)) (hx : InR x) (hy : InR y) (h0 : y ≠ 0) (k : mr_J l G own cc nL ret rf rl Po (pc + 1) ls (vI (x.tmod y) :: st) w) : mr_J l G own cc nL ret rf rl Po pc ls (vI y :: vI x :: st) w := by
  intro p e s m args below meth c H locs lc hh hC hS hl
  have h := k p e s m args below meth c H locs lc hh hC hS hl
  refine lv_irem hh.1 hh.2.1 d (mr_ne0 hy h0) ?_
  rw [← Int32.ofInt_tdiv (by have := hx.1; show (-2147483648 : Int) ≤ x; omega) (by have := hx.2; show x ≤ (2147483647 : Int); omega) (by have := hy.1; show (-2147483648 : Int) ≤ y; omega) (by have := hy.2; show y ≤ (2147483647 : Int); omega), ← Int32.ofInt_mul, ← Int32.ofInt_sub, Int.mul_comm, ← Int.tmod_def]
  exact h
theorem mr_iconst {n : Int} (d : decode cc pc = .ok (.iconst n, 1)) (k : mr_J l G own cc nL ret rf rl Po (pc + 1) ls (vI n :: st) w) : mr_J l G own cc nL ret rf rl Po pc ls st w := fun p e s m args below meth c H locs lc hh hC hS hl =>
  lv_iconst hh.1 hh.2.1 d rfl (k p e s m args below meth c H locs lc hh hC hS hl)
theorem mr_bipush {n : Int} (d : decode cc pc = .ok (.bipush n, 2)) (hn : (Int8.ofInt n).toInt32 = Int32.ofInt n) (k : mr_J l G own cc nL ret rf rl Po (pc + 2) ls (vI n :: st) w) : mr_J l G own cc nL ret rf rl Po pc ls st w := fun p e s m args below meth c H locs lc hh hC hS hl =>
  lv_bipush hh.1 hh.2.1 d hn (k p e s m args below meth c H locs lc hh hC hS hl)
theorem mr_sipush {n : Int} (d : decode cc pc = .ok (.sipush n, 3)) (hn : (Int16.ofInt n).toInt32 = Int32.ofInt n) (k : mr_J l G own cc nL ret rf rl Po (pc + 3) ls (vI n :: st) w) : mr_J l G own cc nL ret rf rl Po pc ls st w := fun p e s m args below meth c H locs lc hh hC hS hl =>
  lv_sipush hh.1 hh.2.1 d hn (k p e s m args below meth c H locs lc hh hC hS hl)
theorem mr_iload_n {i : Fin 4} {x : Int} (d : decode cc pc = .ok (.iload_n i, 1)) (hi : ls[(i : Nat)]? = some (some (vI x))) (k : mr_J l G own cc nL ret rf rl Po (pc + 1) ls (vI x :: st) w) : mr_J l G own cc nL ret rf rl Po pc ls st w := fun p e s m args below meth c H locs lc hh hC hS hl =>
  lv_iload_n hh.1 hh.2.1 d rfl (hl.2.2 _ _ hi) (k p e s m args below meth c H locs lc hh hC hS hl)
theorem mr_iload {i : Nat} {x : Int} (d : decode cc pc = .ok (.iload i, 2)) (hi : ls[i]? = some (some (vI x))) (k : mr_J l G own cc nL ret rf rl Po (pc + 2) ls (vI x :: st) w) : mr_J l G own cc nL ret rf rl Po pc ls st w := fun p e s m args below meth c H locs lc hh hC hS hl =>
  lv_iload hh.1 hh.2.1 d (hl.2.2 _ _ hi) (k p e s m args below meth c H locs lc hh hC hS hl)
theorem mr_lload_n {i : Fin 4} {x : Int} (d : decode cc pc = .ok (.lload_n i, 1)) (hi : ls[(i : Nat)]? = some (some (vL x))) (k : mr_J l G own cc nL ret rf rl Po (pc + 1) ls (vL x :: st) w) : mr_J l G own cc nL ret rf rl Po pc ls st w := fun p e s m args below meth c H locs lc hh hC hS hl =>
  lv_lload_n hh.1 hh.2.1 d rfl (hl.2.2 _ _ hi) (k p e s m args below meth c H locs lc hh hC hS hl)
theorem mr_aload_n {i : Fin 4} {a b : Nat} (d : decode cc pc = .ok (.aload_n i, 1)) (hi : ls[(i : Nat)]? = some (some (vR a b))) (k : mr_J l G own cc nL ret rf rl Po (pc + 1) ls (vR a b :: st) w) : mr_J l G own cc nL ret rf rl Po pc ls st w := fun p e s m args below meth c H locs lc hh hC hS hl =>
  lv_aload_n hh.1 hh.2.1 d rfl (hl.2.2 _ _ hi) (k p e s m args below meth c H locs lc hh hC hS hl)
theorem mr_aload {i : Nat} {a b : Nat} (d : decode cc pc = .ok (.aload i, 2)) (hi : ls[i]? = some (some (vR a b))) (k : mr_J l G own cc nL ret rf rl Po (pc + 2) ls (vR a b :: st) w) : mr_J l G own cc nL ret rf rl Po pc ls st w := fun p e s m args below meth c H locs lc hh hC hS hl =>
  lv_aload hh.1 hh.2.1 d (hl.2.2 _ _ hi) (k p e s m args below meth c H locs lc hh hC hS hl)
theorem mr_aload_nS {i : Fin 4} {j : Nat} (d : decode cc pc = .ok (.aload_n i, 1)) (hi : ls[(i : Nat)]? = some (some (vS j))) (k : mr_J l G own cc nL ret rf rl Po (pc + 1) ls (vS j :: st) w) : mr_J l G own cc nL ret rf rl Po pc ls st w := fun p e s m args below meth c H locs lc hh hC hS hl =>
  lv_aload_n hh.1 hh.2.1 d rfl (hl.2.2 _ _ hi) (k p e s m args below meth c H locs lc hh hC hS hl)
end JR
