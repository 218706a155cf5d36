/-! TOKENS as the Model has them -/
def mr_hg (a : Nat → Int) : Nat → Int
  | 0 => 0
  | m + 1 => 27 * mr_hg a m + a m - 96
def mr_hs (n0 : Int) (g : Nat → Int) (p : Int) (m : Nat) : Int := mr_hg (fun i => mr_ba n0 g (p + i)) m
theorem mr_hg_nn {a : Nat → Int} : ∀ m : Nat, (∀ i, i < m → 97 ≤ a i ∧ a i ≤ 122) → 0 ≤ mr_hg a m
  | 0, _ => Int.le_refl 0
  | m + 1, h => by
    have ih := mr_hg_nn m (fun i hi => h i (by omega))
    have := h m (by omega)
    show 0 ≤ 27 * mr_hg a m + a m - 96
    omega
theorem mr_hg_un {a b : Nat → Int} : ∀ m l : Nat, (∀ i, i < m → 97 ≤ a i ∧ a i ≤ 122) → (∀ i, i < l → 97 ≤ b i ∧ b i ≤ 122) → mr_hg a m = mr_hg b l → m = l ∧ ∀ i, i < m → a i = b i
  | 0, 0, _, _, _ => ⟨rfl, fun i hi => absurd hi (by omega)⟩
  | 0, l + 1, _, hb, e => by
    have h1 := mr_hg_nn l (fun i hi => hb i (by omega))
    have h2 := hb l (by omega)
    have e' : (0 : Int) = 27 * mr_hg b l + b l - 96 := e
    omega
  | m + 1, 0, ha, _, e => by
    have h1 := mr_hg_nn m (fun i hi => ha i (by omega))
    have h2 := ha m (by omega)
    have e' : 27 * mr_hg a m + a m - 96 = (0 : Int) := e
    omega
  | m + 1, l + 1, ha, hb, e => by
    have h2 := ha m (by omega)
    have h3 := hb l (by omega)
    have e' : 27 * mr_hg a m + a m - 96 = 27 * mr_hg b l + b l - 96 := e
    obtain ⟨k1, k2⟩ := mr_hg_un m l (fun i hi => ha i (by omega)) (fun i hi => hb i (by omega)) (by omega)
    subst k1
    refine ⟨rfl, fun i hi => ?_⟩
    by_cases q : i = m
    · subst q; omega
    · exact k2 i (by omega)
theorem mr_hg_cg {a b : Nat → Int} : ∀ m : Nat, (∀ i, i < m → a i = b i) → mr_hg a m = mr_hg b m
  | 0, _ => rfl
  | m + 1, h => by
    show 27 * mr_hg a m + a m - 96 = 27 * mr_hg b m + b m - 96
    rw [mr_hg_cg m (fun i hi => h i (by omega)), h m (by omega)]
theorem mr_hg_bd {a : Nat → Int} : ∀ m : Nat, (∀ i, i < m → 48 ≤ a i ∧ a i ≤ 122) → -(50 * 27 ^ m - 2) ≤ mr_hg a m ∧ mr_hg a m ≤ 50 * 27 ^ m - 2
  | 0, _ => by show -(50 * 27 ^ 0 - 2) ≤ (0 : Int) ∧ (0 : Int) ≤ 50 * 27 ^ 0 - 2; decide
  | m + 1, h => by
    have ih := mr_hg_bd m (fun i hi => h i (by omega))
    have h2 := h m (by omega)
    have e : mr_hg a (m + 1) = 27 * mr_hg a m + a m - 96 := rfl
    have e2 : (27 : Int) ^ (m + 1) = 27 ^ m * 27 := Int.pow_succ 27 m
    rw [e, e2]
    omega
theorem mr_hg_in {a : Nat → Int} {m : Nat} (hm : m ≤ 9) (h : ∀ i, i < m → 48 ≤ a i ∧ a i ≤ 122) : InL (mr_hg a m) := by
  have b := mr_hg_bd m h
  have e : (27 : Int) ^ m ≤ 27 ^ 9 := by
    have := mr_pow_mo (q := 27) (by decide) m (9 - m)
    rw [show m + (9 - m) = 9 by omega] at this
    exact this
  have e9 : (27 : Int) ^ 9 = 7625597484987 := by decide
  rw [e9] at e
  omega
/-- the words -/
def mr_wc (j : Nat) : Int := match j with
  | 0 => 729 * mr_four 109 111 100 117 + 324 + 15
  | 1 => 729 * mr_four 109 111 100 117 + 324 + 5
  | 2 => 13550
  | 3 => 531441 * mr_four 101 113 117 97 + mr_four 116 105 111 110
  | _ => 262
theorem mr_wc_e : ∀ j : Fin 5, mr_wc j = mr_hg (mr_tc j) (mr_sl.getD j 0) ∧ (2 ≤ mr_sl.getD j 0 ∧ mr_sl.getD j 0 ≤ 8) ∧ ∀ i : Fin 9, (i : Nat) < mr_sl.getD j 0 → 97 ≤ mr_tc j i ∧ mr_tc j i ≤ 122 := by decide +kernel
def mr_mk (n0 K : Int) : Int := if K = 1 then (if n0 ≤ 500 then 0 else 1) else if K = 0 then 1 else K
/-- the token at a place, in the Model's fields -/
def mr_Tok (n0 : Int) (g : Nat → Int) (n fr kd nb wd zo : Int) : Prop := fr = mr_tS n0 g n ∧ kd = mr_mk n0 (mr_tK n0 g n) ∧ (mr_tK n0 g n ≠ 1 → zo = mr_tX n0 g n) ∧ (mr_tK n0 g n = 3 → nb = mr_tV n0 g n) ∧ (mr_tK n0 g n = 2 → wd = mr_hs n0 g (mr_tS n0 g n) (min (mr_tX n0 g n - mr_tS n0 g n) 9).toNat ∧ ∀ x : Int, mr_tS n0 g n ≤ x → x < mr_tX n0 g n → mr_let n0 g x) ∧ InL wd ∧ (-1000000 ≤ nb ∧ nb ≤ 1000000) ∧ (0 ≤ zo ∧ zo ≤ n0)
def mr_skq (n0 : Int) (g : Nat → Int) (n p : Int) : Prop := n ≤ p ∧ p ≤ n0 ∧ (∀ x : Int, n ≤ x → x < p → mr_bla n0 g x) ∧ (p = n0 ∨ ¬ mr_bla n0 g p)
section TK
variable {n0 n p : Int} {g : Nat → Int}
theorem mr_skq_hi (hn0 : 0 ≤ n0 ∧ n0 ≤ 540) (hn : 0 ≤ n) (h : mr_skq n0 g n p) (hp : min n0 500 ≤ p) : mr_tK n0 g n = 1 ∧ mr_tS n0 g n = min n0 500 := by
  have hs := mr_sk_ok (n0 := n0) (g := g) 541 n (by omega)
  have e : mr_tp n0 g n = mr_sk n0 g 541 n := rfl
  rw [← e] at hs
  have hi : min n0 500 ≤ mr_tp n0 g n := by
    rcases (show min n0 500 ≤ mr_tp n0 g n ∨ mr_tp n0 g n < min n0 500 by omega) with q | q
    · exact q
    · exfalso
      rcases hs.2.2.2 with z | z
      · omega
      · exact z (h.2.2.1 _ hs.1 (by omega))
  unfold mr_tK mr_tS
  rw [if_pos hi, if_pos hi]
  exact ⟨rfl, rfl⟩
theorem mr_skq_lo (hn0 : 0 ≤ n0 ∧ n0 ≤ 540) (hn : 0 ≤ n) (h : mr_skq n0 g n p) (hp : p < min n0 500) : mr_tp n0 g n = p := by
  have hs := mr_sk_ok (n0 := n0) (g := g) 541 n (by omega)
  refine mr_skp_un hs ⟨h.1, h.2.2.1, fun _ => by omega, Or.inr ?_⟩
  rcases h.2.2.2 with z | z
  · omega
  · exact z
theorem mr_tok_sign (hn0 : 0 ≤ n0 ∧ n0 ≤ 540) (hn : 0 ≤ n) (h : mr_skq n0 g n p) (hp : p < min n0 500) (hl : ¬ mr_let n0 g p) (hd : ¬ mr_dig n0 g p) : mr_tK n0 g n = (if mr_ba n0 g p = 59 then 4 else 0) ∧ mr_tS n0 g n = p ∧ mr_tX n0 g n = p + 1 := by
  have e := mr_skq_lo hn0 hn h hp
  have hne : ¬ min n0 500 ≤ p := by omega
  have hnl : ¬ (mr_let n0 g p ∨ mr_dig n0 g p) := fun z => z.elim hl hd
  refine ⟨?_, ?_, ?_⟩
  · unfold mr_tK; rw [e, if_neg hne, mr_if_neg hnl]
  · unfold mr_tS; rw [e, if_neg hne]
  · unfold mr_tX; rw [e, if_neg hne, mr_if_neg hnl]
theorem mr_tok_run (hn0 : 0 ≤ n0 ∧ n0 ≤ 540) (hn : 0 ≤ n) (h : mr_skq n0 g n p) (hp : p < min n0 500) (hl : mr_let n0 g p ∨ mr_dig n0 g p) {q : Int} (hq : mr_run n0 g p q) : mr_tS n0 g n = p ∧ mr_tX n0 g n = q ∧ mr_tV n0 g n = mr_nv n0 g p q ∧ ((∀ x : Int, p ≤ x → x < q → mr_let n0 g x) → mr_tK n0 g n = 2) ∧ (¬ (∀ x : Int, p ≤ x → x < q → mr_let n0 g x) → (∀ x : Int, p ≤ x → x < q → mr_dig n0 g x) → q - p ≤ 2 → mr_tK n0 g n = 3) ∧ (¬ (∀ x : Int, p ≤ x → x < q → mr_let n0 g x) → ¬ ((∀ x : Int, p ≤ x → x < q → mr_dig n0 g x) ∧ q - p ≤ 2) → mr_tK n0 g n = 0) := by
  have e := mr_skq_lo hn0 hn h hp
  have e2 : mr_tq n0 g n = q := by
    unfold mr_tq
    rw [e]
    exact mr_run_un (mr_rn_ok 541 p (by omega) (by have := h.1; omega)) hq
  have s : mr_tS n0 g n = p := by unfold mr_tS; rw [e, if_neg (by omega)]
  have x : mr_tX n0 g n = q := by unfold mr_tX; rw [e, if_neg (by omega), mr_if_pos hl, e2]
  refine ⟨s, x, by unfold mr_tV; rw [s, x], fun z => ?_, fun z1 z2 z3 => ?_, fun z1 z2 => ?_⟩
  · unfold mr_tK; rw [e, if_neg (by omega), mr_if_pos hl, e2, mr_if_pos z]
  · unfold mr_tK; rw [e, if_neg (by omega), mr_if_pos hl, e2, mr_if_neg z1, mr_if_pos ⟨z2, z3⟩]
  · unfold mr_tK; rw [e, if_neg (by omega), mr_if_pos hl, e2, mr_if_neg z1, mr_if_neg z2]
theorem mr_mk_bd (hn0 : 0 ≤ n0 ∧ n0 ≤ 540) (hn : 0 ≤ n ∧ n ≤ n0) : (0 ≤ mr_mk n0 (mr_tK n0 g n) ∧ mr_mk n0 (mr_tK n0 g n) ≤ 4) ∧ (mr_mk n0 (mr_tK n0 g n) = 2 ↔ mr_tK n0 g n = 2) ∧ (mr_mk n0 (mr_tK n0 g n) = 3 ↔ mr_tK n0 g n = 3) ∧ (mr_mk n0 (mr_tK n0 g n) = 4 ↔ mr_tK n0 g n = 4) ∧ (mr_mk n0 (mr_tK n0 g n) = 0 ↔ (mr_tK n0 g n = 1 ∧ n0 ≤ 500)) := by
  have b := (mr_tk_bd (g := g) hn0 hn).1
  unfold mr_mk
  split
  · split <;> omega
  · split <;> omega
/-- a word, by its number -/
theorem mr_isw_e (hn0 : 0 ≤ n0 ∧ n0 ≤ 540) (hn : 0 ≤ n ∧ n ≤ n0) {fr kd nb wd zo : Int} (h : mr_Tok n0 g n fr kd nb wd zo) {j : Nat} (hj : j < 5) : (kd = 2 ∧ wd = mr_wc j) ↔ mr_isw n0 g (mr_tK n0 g n) (mr_tS n0 g n) (mr_tX n0 g n) j := by
  obtain ⟨h1, h2, h3, h4, h5, h6, h7, h8⟩ := h
  have mb := (mr_mk_bd (g := g) hn0 hn).2.1
  obtain ⟨w1, w2, w3⟩ := mr_wc_e ⟨j, hj⟩
  have w1' : mr_wc j = mr_hg (mr_tc j) (mr_sl.getD j 0) := w1
  have w2' : 2 ≤ mr_sl.getD j 0 ∧ mr_sl.getD j 0 ≤ 8 := w2
  have w3' : ∀ i, i < mr_sl.getD j 0 → 97 ≤ mr_tc j i ∧ mr_tc j i ≤ 122 := fun i hi => w3 ⟨i, by omega⟩ hi
  rw [h2, mb]
  unfold mr_isw
  refine ⟨fun ⟨k, e⟩ => ?_, fun ⟨k, e1, e2⟩ => ⟨k, ?_⟩⟩
  · obtain ⟨hw, hl⟩ := h5 k
    have dig : ∀ i, i < (min (mr_tX n0 g n - mr_tS n0 g n) 9).toNat → 97 ≤ mr_ba n0 g (mr_tS n0 g n + (i : Int)) ∧ mr_ba n0 g (mr_tS n0 g n + (i : Int)) ≤ 122 := fun i hi => hl _ (by omega) (by omega)
    have u := mr_hg_un _ _ dig w3' (by rw [← w1', ← e, hw]; rfl)
    refine ⟨k, by omega, fun i hi => u.2 i (by omega)⟩
  · rw [(h5 k).1, w1', show (min (mr_tX n0 g n - mr_tS n0 g n) 9).toNat = mr_sl.getD j 0 by omega]
    exact mr_hg_cg _ (fun i hi => e2 i hi)
end TK
