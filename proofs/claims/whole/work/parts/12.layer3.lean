theorem mr_up_same (w : mr_Wd) (k : Nat) (e : mr_AE) : mr_up w k e k = e := if_pos rfl
theorem mr_up_ne (w : mr_Wd) {k j : Nat} (e : mr_AE) (h : j ≠ k) : mr_up w k e j = w j := if_neg h
theorem mr_ce_kept {G : mr_G} {k : Nat} {e : mr_AE} {H H1 : Heap} (h : mr_ce G k e H) (hq : ∀ i : Nat, H1[mr_ad G k i]? = H[mr_ad G k i]?) : mr_ce G k e H1 := by
  match e, h with
  | .inl o, h => exact va_at.kept (show va_at G.1 vwCl (mr_ad G k 0, .inr (o.1, o.2.map (mr_cv G))) H from h) (hq 0)
  | .inr (.inl a), h => exact va_at.kept (show va_at G.1 vwCl (mr_ad G k 0, .inl (G.2.1 a.1, a.2.1, mr_arr a.1 a.2.2)) H from h) (hq 0)
  | .inr (.inr (.inl a)), h => exact ⟨va_at.kept h.1 (hq 0), fun i hi => va_at.kept (h.2 i hi) (hq (i + 1))⟩
  | .inr (.inr (.inr _)), _ => trivial
/-- one cell is written: the world but for its name stays -/
theorem mr_C.set {G : mr_G} {w : mr_Wd} {H H1 : Heap} {k i : Nat} {e : mr_AE} (hA : mr_Ap G) (h : mr_C G w H) (ho : ∀ q, q ≠ mr_ad G k i → H1[q]? = H[q]?) (hn : mr_ce G k e H1) : mr_C G (mr_up w k e) H1 := by
  intro j
  by_cases hj : j = k
  · subst hj
    rw [mr_up_same]
    exact hn
  · rw [mr_up_ne w e hj]
    exact mr_ce_kept (h j) (fun i' => ho _ (fun q => hj (hA.1 _ _ _ _ q).1))
def mr_fs (f : Nat → Int) (i : Nat) (x : Int) : Nat → Int := fun j => if j = i then x else f j
def mr_Fs (F : Nat → Nat → Int) (r i : Nat) (x : Int) : Nat → Nat → Int := fun a => if a = r then mr_fs (F r) i x else F a
section JF
variable {l : Launch} {G : mr_G} {own : String} {cc : ByteArray} {nL : Nat} {ret : Option FieldType} {rf rl : Nat} {Po : Option mr_AV → mr_Wd → Prop} {pc : Nat} {ls : List (Option mr_AV)} {st : List mr_AV} {w : mr_Wd}
theorem mr_get {a idx ci k : Nat} {fs : List mr_AV} {v : mr_AV} (d : decode cc pc = .ok (.getfield idx, 3)) (hf : mr_FL own idx ci k) (hw : w a = eO ci fs) (hv : fs[k]? = some v) (kk : mr_J l G own cc nL ret rf rl Po (pc + 3) ls (v :: st) w) : mr_J l G own cc nL ret rf rl Po pc ls (vR a 0 :: st) w := by
  intro p e s m args below meth c H locs lc hh hC hS hl
  obtain ⟨hx, hb, hml, hr, hlk, hown, hts, hK⟩ := id hh
  obtain ⟨C, T, N, h1, h2, h3, h4, h5⟩ := hf
  have hc := hC a
  rw [hw] at hc
  have hP : va_P G.1 vwCl [(mr_ad G a 0, .inr (ci, fs.map (mr_cv G)))] H := fun k9 q h9 => by
    cases k9 with
    | zero => cases h9; exact hc
    | succ n => simp at h9
  exact va_get (T := T) (N := N) (ci := ci) hx hb hts h3 hown hK.1 hP 0 rfl h1 k h2 (hts _ h5) (fun x hx => by rw [h4] at hx; exact hx) (v := mr_cv G v) (by rw [List.getElem?_map, hv]; rfl) d (kk p e s m args below meth c H locs lc hh hC hS hl)
theorem mr_getN {a : Nat} {q : mr_AV} (hown2 : own = RX2) (h3 : ∀ w ∈ u_ws RX0 TX0 1, w ∈ mr_ws) (d : decode cc pc = .ok (.getfield 40, 3)) (hw : w a = eO 0 [q]) (kk : mr_J l G own cc nL ret rf rl Po (pc + 3) ls (q :: st) w) : mr_J l G own cc nL ret rf rl Po pc ls (vR a 0 :: st) w := by
  intro p e s m args below meth c H locs lc hh hC hS hl
  obtain ⟨hx, hb, hml, hr, hlk, hown, hts, hK⟩ := id hh
  have hc := hC a
  rw [hw] at hc
  have hP : va_P G.1 vwCl [(mr_ad G a 0, .inr (0, [mr_cv G q]))] H := fun k9 q h9 => by
    cases k9 with
    | zero => cases h9; exact hc
    | succ n => simp at h9
  subst hown2
  exact va_getN (T := TX0) (N := 1) (ci := 0) (C := RX0) (host := RX6) (ref := RX0) hx hb hts h3 hown hK.1 hP 0 rfl rfl 0 (by decide) (va_Nw.use rfl hK.2.2.1.1) (fun x hx => hx) (v := mr_cv G q) rfl d (kk p e s m args below meth c H locs lc hh hC hS hl)
theorem mr_put {a idx ci k : Nat} {fs : List mr_AV} {v : mr_AV} {ty : FieldType} (d : decode cc pc = .ok (.putfield idx, 3)) (hf : mr_FL own idx ci k) (hp : mr_FP ci k ty) (hn : narrow ty (mr_cv G v) = mr_cv G v) (hfit : fits ty (mr_cv G v) = true) (hw : w a = eO ci fs) (hk : k < fs.length) (kk : mr_J l G own cc nL ret rf rl Po (pc + 3) ls st (mr_up w a (eO ci (fs.set k v)))) : mr_J l G own cc nL ret rf rl Po pc ls (v :: vR a 0 :: st) w := by
  intro p e s m args below meth c H locs lc hh hC hS0 hl
  obtain ⟨hx, hb, hml, hr, hlk, hown, hts, hK⟩ := id hh
  obtain ⟨C, T, N, h1, h2, h3, h4, h5⟩ := hf
  obtain ⟨C', T', N', ty0, g1, g2, g3, g4, g5⟩ := hp
  have ee := h1.symm.trans g1
  cases ee
  have hc := hC a
  rw [hw] at hc
  have hap := va_apart (own := own) hts h3 ty0 g2 g3 hK.1 h1
  obtain ⟨r, q0, cell, q1, q2, q3, q4⟩ := hc
  have hr : r = (C, T, N) := Option.some.inj (q0.symm.trans h1)
  subst hr
  obtain ⟨hS, hfc, kC, hkC, hkind⟩ := hK.1.1 ci _ h1
  obtain ⟨cf, kf, fi, f, hi, hsl⟩ := hS k h2
  have hlay := hts _ (h3 _ (u_in_lay h2))
  unfold u_lay at hlay
  rw [if_neg (by rw [g4]; decide)] at hlay
  have hst := (u_facts hfc hkC (u_lays hts h3 h2) hi).1
  have h6 := u_store hfc hkC hkind hlay hi g5 hn hfit
  refine W.putK hx hb (f := f) ⟨hown, hts _ h5, ⟨_, _, _, by rw [h4] at hi; exact hi⟩, hst⟩ (by rw [q2]; exact h6) q1 q3 (by rw [hsl]; exact k2_hasslot (q4 k h2)) rfl rfl d fun H' e1 e2 e3 => ?_
  rw [hsl] at e1 ⊢
  refine kk p e s m args below meth c H' _ lc hh (hC.set (k := a) (i := 0) hK.2.1 e3 ?_) (hS0.put e2 e3 (hK.2.1.2 a 0)) hl
  show va_at G.1 vwCl (mr_ad G a 0, .inr (ci, (fs.set k v).map (mr_cv G))) H'
  rw [List.map_set]
  exact ⟨_, h1, t_OB.to (V := updV (vp_V (fs.map (mr_cv G))) k (mr_cv G v)) ⟨_, e1, q2, q3, t_set q4 hap h2 _⟩ (fun j _ => vp_updV_set (by rw [List.length_map]; exact hk) _ j)⟩
/-- arrays of ints -/
theorem mr_iald {a n : Nat} {f : Nat → Int} {i : Int} (d : decode cc pc = .ok (.iaload, 1)) (hw : w a = eA 0 n f) (h0 : 0 ≤ i) (h1 : i < n) (hn : n < 2147483648) (kk : mr_J l G own cc nL ret rf rl Po (pc + 1) ls (vI (f i.toNat) :: st) w) : mr_J l G own cc nL ret rf rl Po pc ls (vI i :: vR a 0 :: st) w := by
  intro p e s m args below meth c H locs lc hh hC hS hl
  obtain ⟨hx, hb, hml, hr, hlk, hown, hts, hK⟩ := id hh
  have hc := hC a
  rw [hw] at hc
  have hP : va_P G.1 vwCl [(mr_ad G a 0, .inl (G.2.1 0, n, .inl (fun j => Int32.ofInt (f j))))] H := fun k9 q h9 => by
    cases k9 with
    | zero => cases h9; exact hc
    | succ n => simp at h9
  obtain ⟨g1, g2⟩ := mr_idx h0 h1 hn
  refine va_iald hx hb hK.1 hP 0 0 rfl rfl (i := Int32.ofInt i) g1 d ?_
  rw [g2]
  exact kk p e s m args below meth c H locs lc hh hC hS hl
theorem mr_iast {a n : Nat} {f : Nat → Int} {i x : Int} (d : decode cc pc = .ok (.iastore, 1)) (hw : w a = eA 0 n f) (h0 : 0 ≤ i) (h1 : i < n) (hn : n < 2147483648) (kk : mr_J l G own cc nL ret rf rl Po (pc + 1) ls st (mr_up w a (eA 0 n (mr_fs f i.toNat x)))) : mr_J l G own cc nL ret rf rl Po pc ls (vI x :: vI i :: vR a 0 :: st) w := by
  intro p e s m args below meth c H locs lc hh hC hS hl
  obtain ⟨hx, hb, hml, hr, hlk, hown, hts, hK⟩ := id hh
  have hc := hC a
  rw [hw] at hc
  obtain ⟨g1, g2⟩ := mr_idx h0 h1 hn
  have hc : H[mr_ad G a 0]? = some (arrV (G.2.1 0) n (fun j => .int (Int32.ofInt (f j)))) := hc
  refine W.iast hx hb hc ((hK.1.2 0 _ rfl).1 n (fun j => .int (Int32.ofInt (f j)))) (fun q => by cases q) (by rw [arrV_size]; exact g1) rfl rfl d fun H1 e1 z oq => ?_
  refine kk p e s m args below meth c H1 _ lc hh (hC.set (k := a) (i := 0) hK.2.1 oq ?_) (hS.put z oq (hK.2.1.2 a 0)) hl
  show H1[mr_ad G a 0]? = some (arrV (G.2.1 0) n (fun j => .int (Int32.ofInt (mr_fs f i.toNat x j))))
  rw [e1, arrV_store, g2]
  refine congrArg some (congrArg (arrV _ n) (funext fun q => ?_))
  by_cases hq : q = i.toNat <;> simp [updV, mr_fs, hq]
theorem mr_ialdM {a r n k : Nat} {F : Nat → Nat → Int} {i : Int} (d : decode cc pc = .ok (.iaload, 1)) (hw : w a = eM n k F) (hr0 : r < n) (h0 : 0 ≤ i) (h1 : i < k) (hn : k < 2147483648) (kk : mr_J l G own cc nL ret rf rl Po (pc + 1) ls (vI (F r i.toNat) :: st) w) : mr_J l G own cc nL ret rf rl Po pc ls (vI i :: vR a (r + 1) :: st) w := by
  intro p e s m args below meth c H locs lc hh hC hS hl
  obtain ⟨hx, hb, hml, hr, hlk, hown, hts, hK⟩ := id hh
  have hc := hC a
  rw [hw] at hc
  have hP : va_P G.1 vwCl [(mr_ad G a (r + 1), .inl (G.2.1 0, k, .inl (fun j => Int32.ofInt (F r j))))] H := fun k9 q h9 => by
    cases k9 with
    | zero => cases h9; exact hc.2 r hr0
    | succ n => simp at h9
  obtain ⟨g1, g2⟩ := mr_idx h0 h1 hn
  refine va_iald hx hb hK.1 hP 0 0 rfl rfl (i := Int32.ofInt i) g1 d ?_
  rw [g2]
  exact kk p e s m args below meth c H locs lc hh hC hS hl
theorem mr_iastM {a r n k : Nat} {F : Nat → Nat → Int} {i x : Int} (d : decode cc pc = .ok (.iastore, 1)) (hw : w a = eM n k F) (hr0 : r < n) (h0 : 0 ≤ i) (h1 : i < k) (hn : k < 2147483648) (kk : mr_J l G own cc nL ret rf rl Po (pc + 1) ls st (mr_up w a (eM n k (mr_Fs F r i.toNat x)))) : mr_J l G own cc nL ret rf rl Po pc ls (vI x :: vI i :: vR a (r + 1) :: st) w := by
  intro p e s m args below meth c H locs lc hh hC hS hl
  obtain ⟨hx, hb, hml, hr, hlk, hown, hts, hK⟩ := id hh
  have hc := hC a
  rw [hw] at hc
  obtain ⟨g1, g2⟩ := mr_idx h0 h1 hn
  have hc1 : H[mr_ad G a (r + 1)]? = some (arrV (G.2.1 0) k (fun j => .int (Int32.ofInt (F r j)))) := hc.2 r hr0
  refine W.iast hx hb hc1 ((hK.1.2 0 _ rfl).1 k (fun j => .int (Int32.ofInt (F r j)))) (fun q => by cases q) (by rw [arrV_size]; exact g1) rfl rfl d fun H1 e1 z oq => ?_
  have hne : ∀ i j : Nat, i ≠ j → mr_ad G a i ≠ mr_ad G a j := fun i j hij q => hij (hK.2.1.1 _ _ _ _ q).2
  refine kk p e s m args below meth c H1 _ lc hh (hC.set (k := a) (i := r + 1) hK.2.1 oq ⟨va_at.kept hc.1 (oq _ (hne _ _ (by omega))), fun j hj => ?_⟩) (hS.put z oq (hK.2.1.2 a (r + 1))) hl
  by_cases hjr : j = r
  · subst hjr
    show H1[mr_ad G a (j + 1)]? = some (arrV (G.2.1 0) k (fun q => .int (Int32.ofInt (mr_Fs F j i.toNat x j q))))
    rw [e1, arrV_store, g2]
    refine congrArg some (congrArg (arrV _ k) (funext fun q => ?_))
    by_cases hq : q = i.toNat <;> simp [updV, mr_Fs, mr_fs, hq]
  · have := va_at.kept (hc.2 j hj) (oq _ (hne _ _ (by omega)))
    simpa [mr_Fs, hjr] using this
theorem mr_aald {a n k : Nat} {F : Nat → Nat → Int} {i : Int} (d : decode cc pc = .ok (.aaload, 1)) (hw : w a = eM n k F) (h0 : 0 ≤ i) (h1 : i < n) (hn : n < 2147483648) (kk : mr_J l G own cc nL ret rf rl Po (pc + 1) ls (vR a (i.toNat + 1) :: st) w) : mr_J l G own cc nL ret rf rl Po pc ls (vI i :: vR a 0 :: st) w := by
  intro p e s m args below meth c H locs lc hh hC hS hl
  obtain ⟨hx, hb, hml, hr, hlk, hown, hts, hK⟩ := id hh
  have hc := hC a
  rw [hw] at hc
  obtain ⟨g1, g2⟩ := mr_idx h0 h1 hn
  have hc1 : H[mr_ad G a 0]? = some (arrV (G.2.1 4) n (fun j => va_rf (some (mr_ad G a (j + 1))))) := hc.1
  refine W.aald (v := .ref (mr_ad G a (i.toNat + 1))) hx hb hc1 ((hK.1.2 4 _ rfl).1 n (fun j => va_rf (some (mr_ad G a (j + 1))))) rfl (fun q => by cases q) (by rw [arrV_size]; exact g1) (by rw [g2, arrV_read _ _ (by omega)]; rfl) rfl rfl d (kk p e s m args below meth c H locs lc hh hC hS hl)
/-- arrays of booleans -/
theorem mr_zald {a n : Nat} {f : Nat → Int} {i : Int} (d : decode cc pc = .ok (.baload, 1)) (hw : w a = eA 1 n f) (h0 : 0 ≤ i) (h1 : i < n) (hn : n < 2147483648) (kk : mr_J l G own cc nL ret rf rl Po (pc + 1) ls (vI (f i.toNat) :: st) w) : mr_J l G own cc nL ret rf rl Po pc ls (vI i :: vR a 0 :: st) w := by
  intro p e s m args below meth c H locs lc hh hC hS hl
  obtain ⟨hx, hb, hml, hr, hlk, hown, hts, hK⟩ := id hh
  have hc := hC a
  rw [hw] at hc
  have hP : va_P G.1 vwCl [(mr_ad G a 0, .inl (G.2.1 1, n, .inl (fun j => Int32.ofInt (f j))))] H := fun k9 q h9 => by
    cases k9 with
    | zero => cases h9; exact hc
    | succ n => simp at h9
  obtain ⟨g1, g2⟩ := mr_idx h0 h1 hn
  refine va_zald hx hb hK.1 hP 0 1 rfl rfl (i := Int32.ofInt i) g1 d ?_
  rw [g2]
  exact kk p e s m args below meth c H locs lc hh hC hS hl
theorem mr_zast {a n : Nat} {f : Nat → Int} {i x : Int} (d : decode cc pc = .ok (.bastore, 1)) (hw : w a = eA 1 n f) (h0 : 0 ≤ i) (h1 : i < n) (hn : n < 2147483648) (hz : x = 0 ∨ x = 1) (kk : mr_J l G own cc nL ret rf rl Po (pc + 1) ls st (mr_up w a (eA 1 n (mr_fs f i.toNat x)))) : mr_J l G own cc nL ret rf rl Po pc ls (vI x :: vI i :: vR a 0 :: st) w := by
  intro p e s m args below meth c H locs lc hh hC hS hl
  obtain ⟨hx, hb, hml, hr, hlk, hown, hts, hK⟩ := id hh
  have hc := hC a
  rw [hw] at hc
  obtain ⟨g1, g2⟩ := mr_idx h0 h1 hn
  have hc : H[mr_ad G a 0]? = some (arrV (G.2.1 1) n (fun j => .int (Int32.ofInt (f j)))) := hc
  have hnar : narrow .boolean (.int (Int32.ofInt x)) = .int (Int32.ofInt x) := by rcases hz with rfl | rfl <;> rfl
  refine W.zast hx hb hc ((hK.1.2 1 _ rfl).1 n (fun j => .int (Int32.ofInt (f j)))) (fun q => by cases q) (by rw [arrV_size]; exact g1) rfl rfl d fun H1 e1 z oq => ?_
  rw [hnar] at e1
  refine kk p e s m args below meth c H1 _ lc hh (hC.set (k := a) (i := 0) hK.2.1 oq ?_) (hS.put z oq (hK.2.1.2 a 0)) hl
  show H1[mr_ad G a 0]? = some (arrV (G.2.1 1) n (fun j => .int (Int32.ofInt (mr_fs f i.toNat x j))))
  rw [e1, arrV_store, g2]
  refine congrArg some (congrArg (arrV _ n) (funext fun q => ?_))
  by_cases hq : q = i.toNat <;> simp [updV, mr_fs, hq]
/-- arrays of bytes -/
theorem mr_bald {a n : Nat} {f : Nat → Int} {i : Int} (d : decode cc pc = .ok (.baload, 1)) (hw : w a = eA 2 n f) (h0 : 0 ≤ i) (h1 : i < n) (hn : n < 2147483648) (kk : mr_J l G own cc nL ret rf rl Po (pc + 1) ls (vI (f i.toNat) :: st) w) : mr_J l G own cc nL ret rf rl Po pc ls (vI i :: vR a 0 :: st) w := by
  intro p e s m args below meth c H locs lc hh hC hS hl
  obtain ⟨hx, hb, hml, hr, hlk, hown, hts, hK⟩ := id hh
  have hc := hC a
  rw [hw] at hc
  have hP : va_P G.1 vwCl [(mr_ad G a 0, .inl (G.2.1 2, n, .inl (fun j => Int32.ofInt (f j))))] H := fun k9 q h9 => by
    cases k9 with
    | zero => cases h9; exact hc
    | succ n => simp at h9
  obtain ⟨g1, g2⟩ := mr_idx h0 h1 hn
  refine va_bald hx hb hK.1 hP 0 2 rfl rfl (i := Int32.ofInt i) g1 d ?_
  rw [g2]
  exact kk p e s m args below meth c H locs lc hh hC hS hl
theorem mr_bast {a n : Nat} {f : Nat → Int} {i x : Int} (d : decode cc pc = .ok (.bastore, 1)) (hw : w a = eA 2 n f) (h0 : 0 ≤ i) (h1 : i < n) (hn : n < 2147483648) (hz : -128 ≤ x ∧ x < 128) (kk : mr_J l G own cc nL ret rf rl Po (pc + 1) ls st (mr_up w a (eA 2 n (mr_fs f i.toNat x)))) : mr_J l G own cc nL ret rf rl Po pc ls (vI x :: vI i :: vR a 0 :: st) w := by
  intro p e s m args below meth c H locs lc hh hC hS hl
  obtain ⟨hx, hb, hml, hr, hlk, hown, hts, hK⟩ := id hh
  have hc := hC a
  rw [hw] at hc
  obtain ⟨g1, g2⟩ := mr_idx h0 h1 hn
  have hc : H[mr_ad G a 0]? = some (arrV (G.2.1 2) n (fun j => .int (Int32.ofInt (f j)))) := hc
  have hnar : narrow .byte (.int (Int32.ofInt x)) = .int (Int32.ofInt x) := by
    show Value.int (Int32.ofInt x).toInt8.toInt32 = _
    rw [Int32.toInt8_ofInt]
    refine congrArg Value.int (Int32.toInt_inj.mp ?_)
    rw [Int8.toInt_toInt32, Int8.toInt_ofInt_of_le (by omega) (by omega), mr_toInt ⟨by omega, by omega⟩]
  refine W.bast hx hb hc ((hK.1.2 2 _ rfl).1 n (fun j => .int (Int32.ofInt (f j)))) (fun q => by cases q) (by rw [arrV_size]; exact g1) rfl rfl d fun H1 e1 z oq => ?_
  rw [hnar] at e1
  refine kk p e s m args below meth c H1 _ lc hh (hC.set (k := a) (i := 0) hK.2.1 oq ?_) (hS.put z oq (hK.2.1.2 a 0)) hl
  show H1[mr_ad G a 0]? = some (arrV (G.2.1 2) n (fun j => .int (Int32.ofInt (mr_fs f i.toNat x j))))
  rw [e1, arrV_store, g2]
  refine congrArg some (congrArg (arrV _ n) (funext fun q => ?_))
  by_cases hq : q = i.toNat <;> simp [updV, mr_fs, hq]
/-- lengths -/
theorem mr_alen {a t n : Nat} {f : Nat → Int} (d : decode cc pc = .ok (.arraylength, 1)) (hw : w a = eA t n f) (ht : t < 3) (kk : mr_J l G own cc nL ret rf rl Po (pc + 1) ls (vI n :: st) w) : mr_J l G own cc nL ret rf rl Po pc ls (vR a 0 :: st) w := by
  intro p e s m args below meth c H locs lc hh hC hS hl
  obtain ⟨hx, hb, hml, hr, hlk, hown, hts, hK⟩ := id hh
  have hc := hC a
  rw [hw] at hc
  have hc : H[mr_ad G a 0]? = some (arrV (G.2.1 t) n (fun j => .int (Int32.ofInt (f j)))) := by
    rcases (show t = 0 ∨ t = 1 ∨ t = 2 by omega) with rfl | rfl | rfl <;> exact hc
  have hnn : (arrV (G.2.1 t) n (fun j => .int (Int32.ofInt (f j)))).slots.size.toInt32 = Int32.ofInt (n : Int) := by
    rw [arrV_size]
    exact (Int32.ofInt_eq_ofNat (n := n)).symm
  rcases (show t = 0 ∨ t = 1 ∨ t = 2 by omega) with rfl | rfl | rfl
  · exact W.alen hx hb hc ((hK.1.2 0 _ rfl).1 n _) hnn rfl rfl d (kk p e s m args below meth c H locs lc hh hC hS hl)
  · exact W.alen hx hb hc ((hK.1.2 1 _ rfl).1 n _) hnn rfl rfl d (kk p e s m args below meth c H locs lc hh hC hS hl)
  · exact W.alen hx hb hc ((hK.1.2 2 _ rfl).1 n _) hnn rfl rfl d (kk p e s m args below meth c H locs lc hh hC hS hl)
theorem mr_alenM {a r n k : Nat} {F : Nat → Nat → Int} (d : decode cc pc = .ok (.arraylength, 1)) (hw : w a = eM n k F) (hr0 : r < n) (kk : mr_J l G own cc nL ret rf rl Po (pc + 1) ls (vI k :: st) w) : mr_J l G own cc nL ret rf rl Po pc ls (vR a (r + 1) :: st) w := by
  intro p e s m args below meth c H locs lc hh hC hS hl
  obtain ⟨hx, hb, hml, hr, hlk, hown, hts, hK⟩ := id hh
  have hc := hC a
  rw [hw] at hc
  have hc1 : H[mr_ad G a (r + 1)]? = some (arrV (G.2.1 0) k (fun j => .int (Int32.ofInt (F r j)))) := hc.2 r hr0
  exact W.alen hx hb hc1 ((hK.1.2 0 _ rfl).1 k _) (by rw [arrV_size]; exact (Int32.ofInt_eq_ofNat (n := k)).symm) rfl rfl d (kk p e s m args below meth c H locs lc hh hC hS hl)
/-- ends -/
theorem mr_F {s : State} {H : Heap} {locs : List Loc} (hS : va_S (mr_A G) s.heap H locs) {t : State} (ht : t.heap = H) : va_F (mr_A G) s t := by
  refine ⟨by rw [ht]; exact hS.1, fun q h1 h2 => by rw [ht]; exact hS.2.1 q h1 h2⟩
theorem mr_iret {x : Int} (hr0 : ret = some .int) (d : decode cc pc = .ok (.ireturn, 1)) (k : Po (some (vI x)) w) : mr_J l G own cc nL ret rf rl Po pc ls [vI x] w := by
  intro p e s m args below meth c H locs lc hh hC hS hl
  obtain ⟨hx, hb, hml, hr, hlk, hown, hts, hK⟩ := id hh
  exact W.iret hx hb (hr.trans hr0) (fun t ht _ => ⟨⟨some (vI x), w, rfl, k, by rw [ht]; exact hC⟩, mr_F hS ht⟩) hS.2.2 d hlk
theorem mr_zret {x : Int} (hr0 : ret = some .boolean) (hz : x = 0 ∨ x = 1) (d : decode cc pc = .ok (.ireturn, 1)) (k : Po (some (vI x)) w) : mr_J l G own cc nL ret rf rl Po pc ls [vI x] w := by
  intro p e s m args below meth c H locs lc hh hC hS hl
  obtain ⟨hx, hb, hml, hr, hlk, hown, hts, hK⟩ := id hh
  exact W.zret hx hb (hr.trans hr0) (by rcases hz with rfl | rfl <;> rfl) (fun t ht _ => ⟨⟨some (vI x), w, rfl, k, by rw [ht]; exact hC⟩, mr_F hS ht⟩) hS.2.2 d hlk
theorem mr_vret (hr0 : ret = none) (d : decode cc pc = .ok (.return_, 1)) (k : Po none w) : mr_J l G own cc nL ret rf rl Po pc ls [] w := by
  intro p e s m args below meth c H locs lc hh hC hS hl
  obtain ⟨hx, hb, hml, hr, hlk, hown, hts, hK⟩ := id hh
  exact W.vret hx hb (hr.trans hr0) (fun t ht _ => ⟨⟨none, w, rfl, k, by rw [ht]; exact hC⟩, mr_F hS ht⟩) hS.2.2 d hlk
theorem mr_lret {x : Int} (hr0 : ret = some .long) (d : decode cc pc = .ok (.lreturn, 1)) (k : Po (some (vL x)) w) : mr_J l G own cc nL ret rf rl Po pc ls [vL x] w := by
  intro p e s m args below meth c H locs lc hh hC hS hl
  obtain ⟨hx, hb, hml, hr, hlk, hown, hts, hK⟩ := id hh
  exact W.lret hx hb (hr.trans hr0) (fun t ht _ => ⟨⟨some (vL x), w, rfl, k, by rw [ht]; exact hC⟩, mr_F hS ht⟩) hS.2.2 d hlk
end JF
