/-! THE TEXT, as numbers: tokens by their place -/
noncomputable def mr_if {α : Type} (P : Prop) (a b : α) : α := @ite α P (Classical.propDecidable P) a b
theorem mr_if_pos {α : Type} {P : Prop} {a b : α} (h : P) : mr_if P a b = a := by unfold mr_if; exact if_pos h
theorem mr_if_neg {α : Type} {P : Prop} {a b : α} (h : ¬ P) : mr_if P a b = b := by unfold mr_if; exact if_neg h
noncomputable def mr_sk (n0 : Int) (g : Nat → Int) : Nat → Int → Int
  | 0, n => n
  | m + 1, n => mr_if (n < min n0 500 ∧ mr_bla n0 g n) (mr_sk n0 g m (n + 1)) n
theorem mr_sk_ok {n0 : Int} {g : Nat → Int} : ∀ (m : Nat) (n : Int), min n0 500 - n ≤ m → mr_skp n0 g n (mr_sk n0 g m n)
  | 0, n, h => ⟨Int.le_refl n, fun x h1 h2 => by unfold mr_sk at h2; omega, fun z => by unfold mr_sk at z; omega, Or.inl (by unfold mr_sk; omega)⟩
  | m + 1, n, h => by
    unfold mr_sk
    by_cases c : n < min n0 500 ∧ mr_bla n0 g n
    · rw [mr_if_pos c]
      obtain ⟨h1, h2, h3, h4⟩ := mr_sk_ok (n0 := n0) (g := g) m (n + 1) (by omega)
      refine ⟨by omega, fun x g1 g2 => ?_, fun _ => ?_, h4⟩
      · by_cases e : x = n
        · subst e; exact c.2
        · exact h2 x (by omega) g2
      · by_cases e : n + 1 < mr_sk n0 g m (n + 1)
        · exact h3 e
        · omega
    · rw [mr_if_neg c]
      refine ⟨Int.le_refl n, fun x g1 g2 => by omega, fun z => by omega, ?_⟩
      by_cases e : min n0 500 ≤ n
      · exact Or.inl e
      · exact Or.inr (fun z => c ⟨by omega, z⟩)
theorem mr_skp_un {n0 : Int} {g : Nat → Int} {n p q : Int} (h : mr_skp n0 g n p) (h' : mr_skp n0 g n q) : p = q := by
  have key : ∀ a b : Int, mr_skp n0 g n a → mr_skp n0 g n b → ¬ a < b := by
    intro a b ha hb hab
    have h1 := hb.2.1 a ha.1 hab
    have h2 := hb.2.2.1 (by have := ha.1; omega)
    rcases ha.2.2.2 with z | z
    · omega
    · exact z h1
  have k1 := key p q h h'
  have k2 := key q p h' h
  omega
noncomputable def mr_rn (n0 : Int) (g : Nat → Int) : Nat → Int → Int
  | 0, q => q
  | m + 1, q => mr_if (q < n0 ∧ (mr_let n0 g q ∨ mr_dig n0 g q)) (mr_rn n0 g m (q + 1)) q
theorem mr_rn_ok {n0 : Int} {g : Nat → Int} : ∀ (m : Nat) (p : Int), p ≤ n0 → n0 - p ≤ m → mr_run n0 g p (mr_rn n0 g m p)
  | 0, p, h, h2 => ⟨Int.le_refl p, by unfold mr_rn; omega, fun x g1 g2 => by unfold mr_rn at g2; omega, Or.inl (by unfold mr_rn; omega)⟩
  | m + 1, p, h, h2 => by
    unfold mr_rn
    by_cases c : p < n0 ∧ (mr_let n0 g p ∨ mr_dig n0 g p)
    · rw [mr_if_pos c]
      obtain ⟨h3, h4, h5, h6⟩ := mr_rn_ok (n0 := n0) (g := g) m (p + 1) (by omega) (by omega)
      refine ⟨by omega, h4, fun x g1 g2 => ?_, h6⟩
      by_cases e : x = p
      · subst e; exact c.2
      · exact h5 x (by omega) g2
    · rw [mr_if_neg c]
      refine ⟨Int.le_refl p, h, fun x g1 g2 => by omega, ?_⟩
      by_cases e : p = n0
      · exact Or.inl e
      · exact Or.inr (fun z => c ⟨by omega, z⟩)
theorem mr_run_un {n0 : Int} {g : Nat → Int} {p a b : Int} (h : mr_run n0 g p a) (h' : mr_run n0 g p b) : a = b := by
  have key : ∀ a b : Int, mr_run n0 g p a → mr_run n0 g p b → ¬ a < b := by
    intro a b ha hb hab
    have h1 := hb.2.2.1 a ha.1 hab
    rcases ha.2.2.2 with z | z
    · have := hb.2.1; omega
    · exact z h1
  have k1 := key a b h h'
  have k2 := key b a h' h
  omega
noncomputable def mr_tp (n0 : Int) (g : Nat → Int) (n : Int) : Int := mr_sk n0 g 541 n
noncomputable def mr_tq (n0 : Int) (g : Nat → Int) (n : Int) : Int := mr_rn n0 g 541 (mr_tp n0 g n)
noncomputable def mr_tK (n0 : Int) (g : Nat → Int) (n : Int) : Int := if min n0 500 ≤ mr_tp n0 g n then 1 else mr_if (mr_let n0 g (mr_tp n0 g n) ∨ mr_dig n0 g (mr_tp n0 g n)) (mr_if (∀ x : Int, mr_tp n0 g n ≤ x → x < mr_tq n0 g n → mr_let n0 g x) 2 (mr_if ((∀ x : Int, mr_tp n0 g n ≤ x → x < mr_tq n0 g n → mr_dig n0 g x) ∧ mr_tq n0 g n - mr_tp n0 g n ≤ 2) 3 0)) (if mr_ba n0 g (mr_tp n0 g n) = 59 then 4 else 0)
noncomputable def mr_tS (n0 : Int) (g : Nat → Int) (n : Int) : Int := if min n0 500 ≤ mr_tp n0 g n then min n0 500 else mr_tp n0 g n
noncomputable def mr_tX (n0 : Int) (g : Nat → Int) (n : Int) : Int := if min n0 500 ≤ mr_tp n0 g n then mr_tp n0 g n else mr_if (mr_let n0 g (mr_tp n0 g n) ∨ mr_dig n0 g (mr_tp n0 g n)) (mr_tq n0 g n) (mr_tp n0 g n + 1)
noncomputable def mr_tV (n0 : Int) (g : Nat → Int) (n : Int) : Int := mr_nv n0 g (mr_tS n0 g n) (mr_tX n0 g n)
theorem mr_sct_of {n0 : Int} {g : Nat → Int} {w : mr_Wd} {v k op sl ln md fk fp n : Int} {Q : mr_Wd → Prop} (hn0 : 0 ≤ n0 ∧ n0 ≤ 540) (hn : 0 ≤ n) (h : Q (mr_up w 11 (eRD (if mr_tK n0 g n = 3 then mr_tV n0 g n else v) (mr_tK n0 g n) (mr_tS n0 g n) (mr_tX n0 g n) op sl ln md fk fp))) : mr_sct n0 g w v k op sl ln md fk fp n Q := by
  intro p hp
  have e : mr_tp n0 g n = p := mr_skp_un (mr_sk_ok 541 n (by omega)) hp
  unfold mr_tV mr_tK mr_tS mr_tX at h
  unfold mr_tq at h
  rw [e] at h
  refine ⟨fun h1 s hs => ?_, fun h1 => ⟨fun q r1 r2 r3 => ?_, fun q r1 r2 r3 r4 => ?_, fun q r1 r2 r3 r4 => ?_, fun r1 r2 => ?_, fun r1 r2 => ?_⟩⟩
  · subst hs
    rw [if_pos h1, if_pos h1, if_pos h1] at h
    exact h
  · have e2 : mr_rn n0 g 541 p = q := mr_run_un (mr_rn_ok 541 p (by omega) (by have := hp.1; omega)) r1
    have hl : mr_let n0 g p ∨ mr_dig n0 g p := r1.2.2.1 p (Int.le_refl p) r2
    have hn1 : ¬ min n0 500 ≤ p := by omega
    rw [if_neg hn1, if_neg hn1, if_neg hn1, e2, mr_if_pos hl, mr_if_pos hl, mr_if_pos r3] at h
    exact h
  · have e2 : mr_rn n0 g 541 p = q := mr_run_un (mr_rn_ok 541 p (by omega) (by have := hp.1; omega)) r1
    have hl : mr_let n0 g p ∨ mr_dig n0 g p := r1.2.2.1 p (Int.le_refl p) r2
    have hn1 : ¬ min n0 500 ≤ p := by omega
    have hnl : ¬ (∀ x : Int, p ≤ x → x < q → mr_let n0 g x) := fun z => by
      have a := z p (Int.le_refl p) r2
      have b := r3 p (Int.le_refl p) r2
      unfold mr_let at a
      unfold mr_dig at b
      omega
    rw [if_neg hn1, if_neg hn1, if_neg hn1, e2, mr_if_pos hl, mr_if_pos hl, mr_if_neg hnl, mr_if_pos ⟨r3, r4⟩] at h
    exact h
  · have e2 : mr_rn n0 g 541 p = q := mr_run_un (mr_rn_ok 541 p (by omega) (by have := hp.1; omega)) r1
    have hl : mr_let n0 g p ∨ mr_dig n0 g p := r1.2.2.1 p (Int.le_refl p) r2
    have hn1 : ¬ min n0 500 ≤ p := by omega
    rw [if_neg hn1, if_neg hn1, if_neg hn1, e2, mr_if_pos hl, mr_if_pos hl, mr_if_neg r3, mr_if_neg (fun z => by have := r4 z.1; have := z.2; omega)] at h
    exact h
  · have hn1 : ¬ min n0 500 ≤ p := by omega
    rw [if_neg hn1, if_neg hn1, if_neg hn1, mr_if_neg r1, mr_if_neg r1, if_pos r2] at h
    exact h
  · have hn1 : ¬ min n0 500 ≤ p := by omega
    rw [if_neg hn1, if_neg hn1, if_neg hn1, mr_if_neg r1, mr_if_neg r1, if_neg r2] at h
    exact h
/-- what holds of every token -/
theorem mr_tk_bd {n0 : Int} {g : Nat → Int} {n : Int} (hn0 : 0 ≤ n0 ∧ n0 ≤ 540) (hn : 0 ≤ n ∧ n ≤ n0) : (0 ≤ mr_tK n0 g n ∧ mr_tK n0 g n ≤ 4) ∧ (0 ≤ mr_tS n0 g n ∧ mr_tS n0 g n ≤ 500) ∧ (n ≤ mr_tX n0 g n ∧ mr_tX n0 g n ≤ n0) ∧ (mr_tK n0 g n ≠ 1 → n < mr_tX n0 g n) ∧ (mr_tK n0 g n = 3 → 0 ≤ mr_tV n0 g n ∧ mr_tV n0 g n ≤ 99) ∧ (mr_tK n0 g n = 1 → mr_tS n0 g n = min n0 500) := by
  have hs := mr_sk_ok (n0 := n0) (g := g) 541 n (by omega)
  have e : mr_tp n0 g n = mr_sk n0 g 541 n := rfl
  rw [← e] at hs
  obtain ⟨h1, h2, h3, h4⟩ := hs
  unfold mr_tV mr_tK mr_tS mr_tX
  by_cases c : min n0 500 ≤ mr_tp n0 g n
  · rw [if_pos c, if_pos c, if_pos c]
    refine ⟨by decide, by omega, ⟨h1, ?_⟩, fun z => absurd rfl z, fun z => absurd z (by decide), fun _ => rfl⟩
    by_cases e2 : n < mr_tp n0 g n
    · have := h3 e2; omega
    · omega
  · rw [if_neg c, if_neg c, if_neg c]
    by_cases c2 : mr_let n0 g (mr_tp n0 g n) ∨ mr_dig n0 g (mr_tp n0 g n)
    · rw [mr_if_pos c2, mr_if_pos c2]
      have hr : mr_run n0 g (mr_tp n0 g n) (mr_tq n0 g n) := mr_rn_ok 541 _ (by omega) (by omega)
      have hlt := mr_run_lt hr (by omega) c2
      have hq := hr.2.1
      by_cases c3 : ∀ x : Int, mr_tp n0 g n ≤ x → x < mr_tq n0 g n → mr_let n0 g x
      · rw [mr_if_pos c3]
        exact ⟨by decide, by omega, ⟨by omega, hq⟩, fun _ => by omega, fun z => absurd z (by decide), fun z => absurd z (by decide)⟩
      · rw [mr_if_neg c3]
        by_cases c4 : (∀ x : Int, mr_tp n0 g n ≤ x → x < mr_tq n0 g n → mr_dig n0 g x) ∧ mr_tq n0 g n - mr_tp n0 g n ≤ 2
        · rw [mr_if_pos c4]
          refine ⟨by decide, by omega, ⟨by omega, hq⟩, fun _ => by omega, fun _ => ?_, fun z => absurd z (by decide)⟩
          have d1 := c4.1 (mr_tp n0 g n) (Int.le_refl _) hlt
          unfold mr_dig at d1
          unfold mr_nv
          rw [if_neg (by omega)]
          by_cases e3 : mr_tq n0 g n = mr_tp n0 g n + 1
          · rw [if_pos e3]; omega
          · rw [if_neg e3]
            have d2 := c4.1 (mr_tp n0 g n + 1) (by omega) (by omega)
            unfold mr_dig at d2
            omega
        · rw [mr_if_neg c4]
          exact ⟨by decide, by omega, ⟨by omega, hq⟩, fun _ => by omega, fun z => absurd z (by decide), fun z => absurd z (by decide)⟩
    · rw [mr_if_neg c2, mr_if_neg c2]
      split
      · exact ⟨by decide, by omega, by omega, fun _ => by omega, fun z => absurd z (by decide), fun z => absurd z (by decide)⟩
      · exact ⟨by decide, by omega, by omega, fun _ => by omega, fun z => absurd z (by decide), fun z => absurd z (by decide)⟩
/-- one TOKEN taken: a FAULT, or the open line, how far it is, its numbers -/
noncomputable def mr_tt (n0 : Int) (g : Nat → Int) (op sl ln md : Int) (f nm : Nat → Int) (v k s n : Int) : (Int × Int) ⊕ (Int × Int × (Nat → Int)) :=
  if op = 0 then (if ln = 0 then mr_if (mr_isw n0 g k s n 0) (.inr (1, 0, fun _ => 0)) (.inl (1, s)) else mr_if (mr_isw n0 g k s n 1) (if md < 4 then .inr (2, 0, fun _ => 0) else .inl (3, s)) (mr_if (mr_isw n0 g k s n 2) (if 0 < md then .inr (3, 0, fun _ => 0) else .inl (1, s)) (mr_if (mr_isw n0 g k s n 3) (if f 2 < 3 then .inr (4, 0, fun _ => 0) else .inl (3, s)) (.inl (1, s)))))
  else if sl < mr_due op f ∨ (op = 4 ∧ sl = mr_due op f + 1) then (if k = 3 then (if v < mr_lst2 op sl ∨ mr_mst2 op sl f < v then .inl (2, s) else .inr (op, sl + 1, mr_nset op sl f nm v)) else .inl (1, s))
  else if op = 4 ∧ sl = mr_due op f then mr_if (mr_isw n0 g k s n 4) (.inr (op, sl + 1, nm)) (.inl (1, s))
  else if k = 4 then .inr (op, sl + 1, nm) else .inl (1, s)
/-- a LINE finished: the told book, how many modules -/
noncomputable def mr_fin (op md : Int) (f nm : Nat → Int) (v : Int) : (Nat → Int) × Int :=
  if op = 1 then (mr_anew (nm 0) (nm 1), md) else if op = 2 then (f, md + 1) else if op = 3 then (mr_abs f nm (md - 1) mr_Zz mr_Zz, md) else (mr_eqn f nm v, md)
/-- the rest of a text, token by token -/
noncomputable def mr_rt (n0 : Int) (g : Nat → Int) : Nat → Int → Int → Int → Int → Int → (Nat → Int) → (Nat → Int) → Int → (Int × Int) ⊕ ((Nat → Int) × Int)
  | 0, _, _, _, _, _, _, _, _ => .inl (0, 0)
  | m + 1, n, op, sl, ln, md, f, nm, v =>
    if mr_tK n0 g n = 1 ∧ op = 0 ∧ n0 ≤ 500 then .inr (f, ln) else
    match mr_tt n0 g op sl ln md f nm (if mr_tK n0 g n = 3 then mr_tV n0 g n else v) (mr_tK n0 g n) (mr_tS n0 g n) (mr_tX n0 g n) with
    | .inl e => .inl e
    | .inr (op', sl', nm') => if mr_tK n0 g n = 4 then mr_rt n0 g m (mr_tX n0 g n) 0 sl' (ln + 1) (mr_fin op' md f nm' (if mr_tK n0 g n = 3 then mr_tV n0 g n else v)).2 (mr_fin op' md f nm' (if mr_tK n0 g n = 3 then mr_tV n0 g n else v)).1 nm' (if mr_tK n0 g n = 3 then mr_tV n0 g n else v)
      else mr_rt n0 g m (mr_tX n0 g n) op' sl' ln md f nm' (if mr_tK n0 g n = 3 then mr_tV n0 g n else v)
