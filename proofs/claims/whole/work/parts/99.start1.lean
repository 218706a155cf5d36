/-! THE START: addresses, what holds at the law's entry, the first world -/
def st_pr (k i : Nat) : Nat := (k + i) * (k + i) + i
theorem st_pr_inj {k i k' i' : Nat} (h : st_pr k i = st_pr k' i') : k = k' ∧ i = i' := by
  unfold st_pr at h
  have key : ∀ a b x y : Nat, x ≤ a → a < b → a * a + x ≠ b * b + y := fun a b x y hx hab => by
    have h1 : (a + 1) * (a + 1) ≤ b * b := Nat.mul_le_mul hab hab
    have h2 : (a + 1) * (a + 1) = a * a + 2 * a + 1 := by
      rw [Nat.add_mul, Nat.mul_add]
      omega
    omega
  rcases Nat.lt_trichotomy (k + i) (k' + i') with q | q | q
  · exact absurd h (key _ _ i i' (by omega) q)
  · rw [q] at h
    have h3 : i = i' := Nat.add_left_cancel h
    omega
  · exact absurd h.symm (key _ _ i' i (by omega) q)
def st_off (k i : Nat) : Nat := if (k, i) ∈ nw_L then nw_L.idxOf (k, i) else 52 + st_pr k i
theorem st_off_in : ∀ q ∈ nw_L, nw_L[st_off q.1 q.2]? = some q := by decide +kernel
theorem st_off_at : ∀ j : Nat, j < 52 → (nw_L[j]?).map (fun q => st_off q.1 q.2) = some j := by decide +kernel
theorem st_off_no {k i : Nat} (h : (k, i) ∉ nw_L) : st_off k i = 52 + st_pr k i := if_neg h
theorem st_off_lt {k i : Nat} (h : (k, i) ∈ nw_L) : st_off k i < 52 := by
  have e : nw_L[st_off k i]? = some (k, i) := st_off_in (k, i) h
  exact (List.getElem?_eq_some_iff.mp e).1
theorem st_off_inj {k i k' i' : Nat} (h : st_off k i = st_off k' i') : k = k' ∧ i = i' := by
  by_cases h1 : (k, i) ∈ nw_L
  · by_cases h2 : (k', i') ∈ nw_L
    · have e1 : nw_L[st_off k i]? = some (k, i) := st_off_in (k, i) h1
      have e2 : nw_L[st_off k' i']? = some (k', i') := st_off_in (k', i') h2
      rw [h, e2] at e1
      have e3 := Option.some.inj e1
      exact ⟨(congrArg Prod.fst e3).symm, (congrArg Prod.snd e3).symm⟩
    · have h3 := st_off_lt h1
      rw [h, st_off_no h2] at h3
      omega
  · by_cases h2 : (k', i') ∈ nw_L
    · have h3 := st_off_lt h2
      rw [← h, st_off_no h1] at h3
      omega
    · rw [st_off_no h1, st_off_no h2] at h
      exact st_pr_inj (by omega)
def st_tx (b t2 : Nat) (adK adV : Nat → Nat) : Nat → Nat := fun j => if j = 300 then b else if j = 200 then t2 else if j < 100 then adK j else adV (j - 100)
def st_G (D : va_G) (ar : Nat → ClassId) (h0 : Nat) (tx : Nat → Nat) : mr_G := (D, ar, fun k i => h0 + st_off k i, tx, h0)
theorem st_AD (D : va_G) (ar : Nat → ClassId) (h0 : Nat) (tx : Nat → Nat) : nw_AD (st_G D ar h0 tx) h0 := fun j q hq => by
  have hj : j < 52 := (List.getElem?_eq_some_iff.mp hq).1
  have e := st_off_at j hj
  rw [hq] at e
  have e2 : st_off q.1 q.2 = j := Option.some.inj e
  show h0 + st_off q.1 q.2 = h0 + j
  rw [e2]
theorem st_Ap (D : va_G) (ar : Nat → ClassId) (h0 : Nat) (tx : Nat → Nat) : mr_Ap (st_G D ar h0 tx) := ⟨fun k i k' i' e => st_off_inj (Nat.add_left_cancel (show h0 + st_off k i = h0 + st_off k' i' from e)), fun k i => Nat.le_add_right h0 (st_off k i)⟩
theorem st_S {N : Nat} {len : List Nat} {byt : List (List Int32)} {adK adV adK' adV' : Nat → Nat} {A : Nat → Prop} {U : State} {H : Heap} (h : vk_S N len byt adK adV A U H) (e1 : ∀ i : Nat, i < N → adK' i = adK i) (e2 : ∀ i : Nat, i < N → adV' i = adV i) : vk_S N len byt adK' adV' A U H :=
  ⟨fun i hi => by rw [e1 i hi, e2 i hi]; exact h.1 i hi, fun i j hi hj e => h.2 i j hi hj (by rw [← e1 i hi, ← e1 j hj]; exact e)⟩
/-- the texts -/
def st_tm : Nat → Term := fun i => match i with
  | 0 => .string RX2 112
  | 1 => .string RX2 122
  | 2 => .string RX2 124
  | 3 => .string RX2 126
  | 4 => .string RX2 143
  | _ => .string RX6 133
abbrev st_F : List Cond := flatC (Jvm.Cond.and given_1 narrow_1)
theorem st_f1 : ∀ i : Nat, i < 6 → Cond.exactly (st_tm i) "java/lang/String" ∈ st_F := by decide +kernel
theorem st_f2 : ∀ i : Nat, i < 6 → Cond.eq (.field (st_tm i) "java/lang/String" "coder" "B") (.int 0) ∈ st_F := by decide +kernel
theorem st_f3 : ∀ i : Nat, i < 6 → Cond.arrayOf (.field (st_tm i) "java/lang/String" "value" "[B") .byte ∈ st_F := by decide +kernel
theorem st_f4 : ∀ i : Nat, i < 6 → Cond.eq (.length (.field (st_tm i) "java/lang/String" "value" "[B")) (.int (Int32.ofNat (mr_sl.getD i 0))) ∈ st_F := by decide +kernel
theorem st_f5 : ∀ i : Nat, i < 6 → ∀ j : Nat, j < mr_sl.getD i 0 → Cond.eq (.elem (.field (st_tm i) "java/lang/String" "value" "[B") (.int (Int32.ofNat j))) (.int ((mr_sb.getD i []).getD j 0)) ∈ st_F := by decide +kernel
theorem st_f6 : ∀ i : Nat, i < 6 → ∀ j : Nat, j < 6 → i ≠ j → Cond.not (Cond.eq (st_tm i) (st_tm j)) ∈ st_F ∨ Cond.not (Cond.eq (st_tm j) (st_tm i)) ∈ st_F := by decide +kernel
theorem st_f7 : ∀ i : Nat, i < 6 → mr_sl.getD i 0 < 2 ^ 31 := by decide +kernel
section ST
variable {s : State} {b : Nat}
theorem st_str (hs : ∀ c ∈ st_F, c.before #[Value.ref b] s = true) : ∃ adK adV : Nat → Nat, vk_S 6 mr_sl mr_sb adK adV (fun q => s.heap.size ≤ q) s s.heap ∧ ∀ i : Nat, i < 6 → (st_tm i).eval #[Value.ref b] s none [] s = some (.ref (adK i)) :=
  vk_Sof (args := #[Value.ref b]) st_f7 (fun i hi => hs _ (st_f1 i hi)) (fun i hi => hs _ (st_f2 i hi)) (fun i hi => hs _ (st_f3 i hi)) (fun i hi => hs _ (st_f4 i hi)) (fun i hi j hj => hs _ (st_f5 i hi j hj)) (fun i j hi hj hij => (st_f6 i hi j hj hij).elim (fun h => Or.inl (hs _ h)) (fun h => Or.inr (hs _ h))) (fun q hq => Nat.not_le.mpr hq)
theorem st_cls (hws : ∀ w ∈ mr_ws, w.before #[Value.ref b] s = true) : ∃ (dC : Nat → ClassId) (dI : Nat → Nat → Nat), ∀ (k : Nat) (q : vw_C), vwCl[k]? = some q → u_Kn s q.1 q.2.1 q.2.2 (dC k) (dI k) := by
  obtain ⟨c0, i0, h0⟩ := u_known (C := RX0) (T := TX0) (N := 1) (n := 1) hws in_X0 (hws _ nw_in_X0)
  obtain ⟨c1, i1, h1⟩ := u_known (C := RX1) (T := TX1) (N := 3) (n := 3) hws in_X1 (hws _ nw_in_X1)
  obtain ⟨c2, i2, h2⟩ := u_known (C := RX2) (T := TX2) (N := 14) (n := 14) hws in_X2 (hws _ nw_in_X2)
  obtain ⟨c3, i3, h3⟩ := u_known (C := RX3) (T := TX3) (N := 1) (n := 1) hws in_X3 (hws _ nw_in_X3)
  obtain ⟨c4, i4, h4⟩ := u_known (C := RX4) (T := TX4) (N := 5) (n := 5) hws in_X4 (hws _ nw_in_X4)
  obtain ⟨c5, i5, h5⟩ := u_known (C := RX5) (T := TX5) (N := 2) (n := 2) hws in_X5 (hws _ nw_in_X5)
  obtain ⟨c6, i6, h6⟩ := u_known (C := RX6) (T := TX6) (N := 10) (n := 10) hws in_X6 (hws _ nw_in_X6)
  obtain ⟨c7, i7, h7⟩ := u_known (C := RX7) (T := TX7) (N := 23) (n := 23) hws in_X7 (hws _ nw_in_X7)
  refine ⟨fun k => match k with | 0 => c0 | 1 => c1 | 2 => c2 | 3 => c3 | 4 => c4 | 5 => c5 | 6 => c6 | _ => c7, fun k => match k with | 0 => i0 | 1 => i1 | 2 => i2 | 3 => i3 | 4 => i4 | 5 => i5 | 6 => i6 | _ => i7, fun k q hq => ?_⟩
  match k, hq with
  | 0, hq => cases hq; exact h0
  | 1, hq => cases hq; exact h1
  | 2, hq => cases hq; exact h2
  | 3, hq => cases hq; exact h3
  | 4, hq => cases hq; exact h4
  | 5, hq => cases hq; exact h5
  | 6, hq => cases hq; exact h6
  | 7, hq => cases hq; exact h7
  | k + 8, hq => exact absurd (List.getElem?_eq_some_iff.mp hq).1 (show ¬ k + 8 < 8 by omega)
theorem st_arr (hws : ∀ w ∈ mr_ws, w.before #[Value.ref b] s = true) (hov : (Cond.arrayOver (.array .int)).before #[Value.ref b] s = true) : ∃ ar : Nat → ClassId, ∀ (k : Nat) (q : ClassId × FieldType), [(ar 0, FieldType.int), (ar 1, .boolean), (ar 2, .byte), (ar 3, .long), (ar 4, .array .int)][k]? = some q → ArrOfT s q.1 q.2 ∧ va_RA s q.1 q.2 := by
  obtain ⟨c0, k0, m0, a0, b0, d0⟩ := Cond.arrayClass_spec (hws _ nw_ac_int)
  obtain ⟨c1, k1, m1, a1, b1, d1⟩ := Cond.arrayClass_spec (hws _ nw_ac_boolean)
  obtain ⟨c2, k2, m2, a2, b2, d2⟩ := Cond.arrayClass_spec (hws _ nw_ac_byte)
  obtain ⟨c3, k3, m3, a3, b3, d3⟩ := Cond.arrayClass_spec (hws _ nw_ac_long)
  obtain ⟨m4, c4, k4, e4, -, b4, d4, a4⟩ := arrayOverA_spec hov
  refine ⟨fun k => match k with | 0 => c0 | 1 => c1 | 2 => c2 | 3 => c3 | _ => c4, fun k q hq => ?_⟩
  match k, hq with
  | 0, hq => cases hq; exact ⟨fun n z => ⟨fun k h => (by cases h), k0, b0, m0, d0⟩, a0⟩
  | 1, hq => cases hq; exact ⟨fun n z => ⟨fun k h => (by cases h), k1, b1, m1, d1⟩, a1⟩
  | 2, hq => cases hq; exact ⟨fun n z => ⟨fun k h => (by cases h), k2, b2, m2, d2⟩, a2⟩
  | 3, hq => cases hq; exact ⟨fun n z => ⟨fun k h => (by cases h), k3, b3, m3, d3⟩, a3⟩
  | 4, hq => cases hq; exact ⟨fun n z => ⟨fun k h => (by cases h), k4, b4, m4, d4⟩, a4⟩
  | k + 5, hq => exact absurd (List.getElem?_eq_some_iff.mp hq).1 (show ¬ k + 5 < 5 by omega)
theorem st_sr0 : Cond.stringRef RX2 112 "modulo" ∈ lw_tbl := (List.mem_of_getElem? (i := 347) (by decide +kernel))
theorem st_sr1 : Cond.stringRef RX2 122 "module" ∈ lw_tbl := (List.mem_of_getElem? (i := 408) (by decide +kernel))
theorem st_sr2 : Cond.stringRef RX2 124 "row" ∈ lw_tbl := (List.mem_of_getElem? (i := 409) (by decide +kernel))
theorem st_sr3 : Cond.stringRef RX2 126 "equation" ∈ lw_tbl := (List.mem_of_getElem? (i := 410) (by decide +kernel))
theorem st_sr4 : Cond.stringRef RX2 143 "is" ∈ lw_tbl := (List.mem_of_getElem? (i := 443) (by decide +kernel))
theorem st_sr5 : Cond.stringRef RX6 133 "no ROW of that rank" ∈ lw_tbl := (List.mem_of_getElem? (i := 908) (by decide +kernel))
theorem st_ls0 : Cond.laysStatic "java/lang/String" "COMPACT_STRINGS" "Z" ∈ lw_tbl := (List.mem_of_getElem? (i := 361) (by decide +kernel))
theorem st_ls1 : Cond.laysStatic "jdk/internal/util/Preconditions" "SIOOBE_FORMATTER" "Ljava/util/function/BiFunction;" ∈ lw_tbl := (List.mem_of_getElem? (i := 377) (by decide +kernel))
theorem st_ls2 : Cond.laysStatic Bundle.tN "UNASSIGNED_STACK" Bundle.steD ∈ lw_tbl := (List.mem_of_getElem? (i := 896) (by decide +kernel))
theorem st_ls3 : Cond.laysStatic Bundle.tN "SUPPRESSED_SENTINEL" Bundle.listD ∈ lw_tbl := (List.mem_of_getElem? (i := 898) (by decide +kernel))
theorem st_iz0 : Cond.initialized "java/lang/String" ∈ lw_tbl := (List.mem_of_getElem? (i := 87) (by decide +kernel))
theorem st_iz1 : Cond.initialized "jdk/internal/util/Preconditions" ∈ lw_tbl := (List.mem_of_getElem? (i := 89) (by decide +kernel))
theorem st_iz2 : Cond.initialized Bundle.tN ∈ lw_tbl := (List.mem_of_getElem? (i := 92) (by decide +kernel))
theorem st_de0 : Cond.declares (Bundle.initS "java/lang/RuntimeException") ∈ lw_tbl := (List.mem_of_getElem? (i := 873) (by decide +kernel))
theorem st_de1 : Cond.declares (Bundle.initS "java/lang/Exception") ∈ lw_tbl := (List.mem_of_getElem? (i := 875) (by decide +kernel))
theorem st_de2 : Cond.declares (Bundle.initS Bundle.tN) ∈ lw_tbl := (List.mem_of_getElem? (i := 877) (by decide +kernel))
theorem st_ca0 : Cond.castable RNS RNS ∈ lw_tbl := (List.mem_of_getElem? (i := 871) (by decide +kernel))
theorem st_nf0 : Cond.fieldLinkNest RX2 40 RX0 "cells" "[I" RX6 ∈ lw_tbl := (List.mem_of_getElem? (i := 125) (by decide +kernel))
theorem st_nf1 : Cond.methodLinkNest RX3 97 yX0_residue RX6 ∈ lw_tbl := (List.mem_of_getElem? (i := 816) (by decide +kernel))
theorem st_g0 : Cond.eq (.static "java/lang/String" "COMPACT_STRINGS" "Z") (.int 1) ∈ st_F := by decide +kernel
theorem st_g1 : Cond.isRef (.static "jdk/internal/util/Preconditions" "SIOOBE_FORMATTER" "Ljava/util/function/BiFunction;") ∈ st_F := by decide +kernel
theorem st_g2 : Cond.isRef (.static Bundle.tN "UNASSIGNED_STACK" Bundle.steD) ∈ st_F := by decide +kernel
theorem st_g3 : Cond.isRef (.static Bundle.tN "SUPPRESSED_SENTINEL" Bundle.listD) ∈ st_F := by decide +kernel
theorem st_all (hts : ∀ w ∈ lw_tbl, w.before #[Value.ref b] s = true) (hgv : (Jvm.Cond.and given_1 narrow_1).before #[Value.ref b] s = true) : ∃ G : mr_G, mr_K G s ∧ mx_K G s ∧ nw_AD G s.heap.size ∧ mr_lo G = s.heap.size ∧ G.2.2.2.1 300 = b := by
  have hws : ∀ w ∈ mr_ws, w.before #[Value.ref b] s = true := fun w hw => hts w (List.mem_filter.mp hw).1
  have hs : ∀ c ∈ st_F, c.before #[Value.ref b] s = true := flat_of_before _ hgv
  have hA : ∀ q : Nat, q < s.heap.size → ¬ (fun q : Nat => s.heap.size ≤ q) q := fun q hq => Nat.not_le.mpr hq
  obtain ⟨dC, dI, hcls⟩ := st_cls hws
  obtain ⟨ar, harr⟩ := st_arr hws (hts _ nw_ao)
  obtain ⟨adK, adV, hS, hev⟩ := st_str hs
  obtain ⟨t2, ht2⟩ : ∃ t2 : Nat, va_Z "jdk/internal/util/Preconditions" "SIOOBE_FORMATTER" "Ljava/util/function/BiFunction;" .null (fun q => s.heap.size ≤ q) s s.heap ∨ va_Z "jdk/internal/util/Preconditions" "SIOOBE_FORMATTER" "Ljava/util/function/BiFunction;" (.ref t2) (fun q => s.heap.size ≤ q) s s.heap := by
    rcases va_Zqof (A := fun q => s.heap.size ≤ q) (hts _ st_ls1) (hts _ st_iz1) (hs _ st_g1) hA with h | ⟨t, h⟩
    · exact ⟨0, Or.inl h⟩
    · exact ⟨t, Or.inr h⟩
  have hZ : va_Z "java/lang/String" "COMPACT_STRINGS" "Z" (.int 1) (fun q => s.heap.size ≤ q) s s.heap := va_Zof (hts _ st_ls0) (hts _ st_iz0) (va_eqt (hs _ st_g0)) hA
  refine ⟨st_G (dC, dI) ar s.heap.size (st_tx b t2 adK adV), ⟨⟨hcls, harr⟩, st_Ap _ _ _ _, ⟨va_Nw.of rfl (hts _ st_nf0), va_Nw.of rfl (hts _ st_nf1)⟩, ⟨vk_R.of (hts _ st_sr0) (hev 0 (by decide)), vk_R.of (hts _ st_sr1) (hev 1 (by decide)), vk_R.of (hts _ st_sr2) (hev 2 (by decide)), vk_R.of (hts _ st_sr3) (hev 3 (by decide)), vk_R.of (hts _ st_sr4) (hev 4 (by decide)), vk_R.of (hts _ st_sr5) (hev 5 (by decide))⟩, Nat.le_refl _, ⟨st_S hS (fun i hi => ?_) (fun i hi => ?_), hZ, ht2⟩⟩, ⟨⟨va_Nw.of rfl (hts _ st_de0), va_Nw.of rfl (hts _ st_de1), va_Nw.of rfl (hts _ st_de2), va_Nw.of rfl (hts _ st_ca0)⟩, vx_Zqof (hts _ st_ls2) (hts _ st_iz2) (hs _ st_g2) hA, vx_Zqof (hts _ st_ls3) (hts _ st_iz2) (hs _ st_g3) hA⟩, st_AD _ _ _ _, rfl, rfl⟩
  · show st_tx b t2 adK adV i = adK i
    unfold st_tx
    rw [if_neg (by omega), if_neg (by omega), if_pos (by omega)]
  · show st_tx b t2 adK adV (100 + i) = adV i
    unfold st_tx
    rw [if_neg (by omega), if_neg (by omega), if_neg (by omega), Nat.add_sub_cancel_left]
end ST
/-- the world when the loop begins -/
def st_w : mr_Wd := mr_up (nw_w7 (mr_up (nw_w6 (mr_up (fun _ => eU) 0 (eO 6 [vN, vN, vN, vN, vN, vN, vN, vN, vI 0, vI 0]))) 18 (eO 7 [vI 0, vN, vI 0, vI 0, vI 0, vI 0, vI 0, vI 0, vI 0, vI 0, vL 0, vN, vN, vN, vN, vN, vI 0, vI 0, vN, vN, vN, vI 0, vI 0]))) 28 (eA 3 1 (fun _ => 0))
theorem st_Bd : mr_Bd (fun _ => 0) := ⟨fun _ => ⟨Int.le_refl 0, (show (0 : Int) ≤ 30 by decide)⟩, by decide, by decide⟩
theorem st_xs : mr_XS st_w (0, (fun _ => 0), (fun _ => 0), 0, 0, (fun _ _ => 0), (fun _ _ => 0), (fun _ => 0), 0) :=
  ⟨⟨0, rfl⟩, rfl, rfl, rfl, rfl, rfl, rfl, rfl, ⟨1, 0, 0, fun _ _ => 0, fun _ _ => 0, rfl, rfl, rfl⟩, ⟨0, 0, 0, 0, 0, 0, 0, 0, 0, 0, rfl, by decide, by decide⟩, rfl, ⟨(fun _ => 0), rfl⟩, ⟨(fun _ => 0), rfl, fun _ => ⟨Int.le_refl 0, (show (0 : Int) ≤ 30 by decide)⟩⟩, rfl, rfl, ⟨(fun _ => 0), rfl⟩, by decide, st_Bd, by decide, by decide, fun _ => st_Bd, fun _ => st_Bd, fun _ => Or.inl rfl, by decide⟩
theorem st_mw : mr_MW st_w 0 0 0 0 0 0 0 0 0 0 0 0 0 0 (fun _ => 0) (fun _ => 0) (fun _ => 0) (fun _ => 0) (fun _ => 0) (fun _ => 0) (fun _ => 0) (fun _ => 0) (fun _ => 0) :=
  ⟨rfl, rfl, rfl, rfl, rfl, rfl, rfl, rfl, rfl, rfl, fun _ => Or.inl rfl, fun _ => Or.inl rfl, fun _ => Or.inl rfl⟩
theorem st_ci : mr_CI 0 0 0 0 (fun _ => 0) (fun _ => 0) (fun _ => 0) (fun _ _ => 0) (fun _ _ => 0) 0 0 0 0 0 (fun _ => 0) (fun _ => 0) (fun _ => 0) (fun _ => 0) (fun _ => 0) :=
  ⟨rfl, fun j hj => absurd hj (by omega), rfl, Or.inl ⟨rfl, rfl, rfl, rfl, rfl, rfl⟩, ⟨rfl, fun j hj => absurd hj (by omega)⟩, fun q _ => ⟨rfl, fun h => absurd rfl h⟩, ⟨by omega, by omega⟩, ⟨by omega, by omega⟩⟩
theorem st_iv : mr_IV st_w := ⟨0, 0, 0, 0, (fun _ => 0), (fun _ => 0), (fun _ => 0), (fun _ _ => 0), (fun _ _ => 0), 0, 0, 0, 0, 0, 0, 0, 0, 0, 0, 0, 0, 0, 0, (fun _ => 0), (fun _ => 0), (fun _ => 0), (fun _ => 0), (fun _ => 0), (fun _ => 0), (fun _ => 0), (fun _ => 0), (fun _ => 0), st_xs, st_mw, st_ci, (fun _ => 0), rfl⟩
