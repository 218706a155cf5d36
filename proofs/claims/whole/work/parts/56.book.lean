/-! THE BOOK's modules as lattices. -/
def mr_br (f : Nat → Int) (p : Int) : Nat → mr_V := fun c j => mr_fa f p c j
theorem mr_fa_pA {f : Nat → Int} {p : Int} {g : Int → Int → Int} (hp : 0 ≤ p ∧ p < 4) (h1 : 0 ≤ f 1 ∧ f 1 ≤ 3) (q c a : Int) : mr_fa (mr_pA f p g) q c a = if q = p ∧ 0 ≤ c ∧ c < f 1 ∧ 0 ≤ a ∧ a < f 1 then g c a else mr_fa f q c a := by
  by_cases e : 0 ≤ q ∧ q < 4 ∧ 0 ≤ c ∧ c < 3 ∧ 0 ≤ a ∧ a < 3
  · unfold mr_fa
    rw [if_pos e, if_pos e]
    show mr_pt f p g (f 1) 0 (3 + (q * 3 + c) * 3 + a).toNat = _
    unfold mr_pt
    by_cases e2 : q = p ∧ 0 ≤ c ∧ c < f 1 ∧ 0 ≤ a ∧ a < f 1
    · have k1 : (((3 + (q * 3 + c) * 3 + a).toNat : Int) - 3 - 9 * p) / 3 = c := by omega
      have k2 : (((3 + (q * 3 + c) * 3 + a).toNat : Int) - 3 - 9 * p) % 3 = a := by omega
      rw [if_pos e2, k1, k2, if_pos ⟨by omega, by omega, by omega, by omega, by omega⟩]
    · rw [if_neg e2, if_neg (fun z => e2 (by omega))]
  · have e3 : ¬ (q = p ∧ 0 ≤ c ∧ c < f 1 ∧ 0 ≤ a ∧ a < f 1) := fun z => e (by omega)
    unfold mr_fa
    rw [if_neg e, if_neg e, if_neg e3]
theorem mr_se_pA {f : Nat → Int} {p : Int} {g : Int → Int → Int} (hp : 0 ≤ p ∧ p < 4) (i h : Int) : mr_se (mr_pA f p g) i h = mr_se f i h := by
  unfold mr_se
  split
  · show mr_pt f p g (f 1) 0 (39 + i * 4 + h).toNat = _
    unfold mr_pt
    rw [if_neg (fun z => by omega)]
  · rfl
theorem mr_Fo_zero {M : Int} {w : Nat} {F : Nat → mr_V} {L : mr_V → Prop} (h : mr_Fo M w F L) {c j : Nat} (hc : c < 3) (hj : j < 3) (hw : w ≤ c ∨ w ≤ j) : F c j = 0 := by
  have hB := h.2.2.2.2 c hc
  have key : ∀ i, i < 3 → w ≤ i → F c i = 0 := fun i hi hwi => by
    have := h.2.2.1 _ (mr_Fo_in h hc) i hwi hi
    have b := hB.1 i hi
    exact mr_dvd_small this (by omega) (by omega)
  by_cases e : w ≤ j
  · exact key j hj e
  · exact hB.2.2 (key c hc (by omega)) j hj
theorem mr_Fo_put {f : Nat → Int} {M : Int} (hM : 1 ≤ M ∧ M ≤ 30) {w n a ct : Nat} {q A cl ctI : Int} {R F0 : Nat → mr_V} {L : mr_V → Prop} (hq : 0 ≤ q ∧ q < 4) (h1 : f 1 = w) (hw : w ≤ 3) (hA : A = a) (hcl : cl = n) (hct : ctI = ct) (hn : n = a + w) (hR : ∀ r, r < ct → ∀ j, j < n → 0 ≤ R r j ∧ R r j < M) (hL : mr_Fo M w (mr_br f q) L) : mr_Fo M w (mr_br (mr_pA f q (fun c x => mr_sh cl (mr_shp M cl ctI R F0) (A + c) (A + x))) q) (fun x => mr_Lc M n ct 0 R (mr_sft a x) ∧ ∀ j, w ≤ j → j < 3 → M ∣ x j) := by
  subst hA
  subst hcl
  subst hct
  refine mr_Fo_cut hM hn hw hR (F0 := F0) (fun c j hc hj => ?_)
  unfold mr_br
  rw [mr_fa_pA hq (by omega)]
  by_cases e : c < w ∧ j < w
  · rw [if_pos ⟨rfl, by omega, by omega, by omega, by omega⟩, if_pos e]
    unfold mr_sh
    rw [if_pos ⟨by omega, by omega, by omega, by omega⟩, show ((a : Int) + (c : Int)).toNat = a + c by omega, show ((a : Int) + (j : Int)).toNat = a + j by omega]
  · rw [if_neg (fun z => e (by omega)), if_neg e]
    exact mr_Fo_zero hL hc hj (by omega)
theorem mr_br_other {f : Nat → Int} {q p : Int} {g : Int → Int → Int} (hq : 0 ≤ q ∧ q < 4) (h1 : 0 ≤ f 1 ∧ f 1 ≤ 3) (hne : p ≠ q) : mr_br (mr_pA f q g) p = mr_br f p := by
  funext c j
  unfold mr_br
  rw [mr_fa_pA hq h1, if_neg (fun z => hne z.1)]
/-- a book in order: M, the width, the modules as lattices, small equations -/
def mr_WB (f : Nat → Int) (M : Int) (w : Nat) (L : Int → mr_V → Prop) : Prop := f 0 = M ∧ f 1 = w ∧ (2 ≤ M ∧ M ≤ 30) ∧ (1 ≤ w ∧ w ≤ 3) ∧ (0 ≤ f 2 ∧ f 2 ≤ 3) ∧ (∀ p : Int, 0 ≤ p → p < 4 → mr_Fo M w (mr_br f p) (L p)) ∧ ∀ i : Int, 0 ≤ i → i < f 2 → (∀ j : Nat, j < 3 → (0 ≤ mr_se f i j ∧ mr_se f i j < M) ∧ (w ≤ j → mr_se f i j = 0)) ∧ (0 ≤ mr_se f i 3 ∧ mr_se f i 3 < M)
noncomputable def mr_Lup (L : Int → mr_V → Prop) (q : Int) (N : mr_V → Prop) : Int → mr_V → Prop := fun p => if p = q then N else L p
theorem mr_WB_put {f : Nat → Int} {M : Int} {w : Nat} {L : Int → mr_V → Prop} (h : mr_WB f M w L) {q : Int} (hq : 0 ≤ q ∧ q < 4) {g : Int → Int → Int} {N : mr_V → Prop} (hN : mr_Fo M w (mr_br (mr_pA f q g) q) N) : mr_WB (mr_pA f q g) M w (mr_Lup L q N) := by
  obtain ⟨h0, h1, h2, h3, h4, h5, h6⟩ := h
  have lo : ∀ k : Nat, k < 3 → mr_pA f q g k = f k := fun k hk => mr_pt_lo f q g (f 1) 0 hq.1 hk
  refine ⟨(lo 0 (by decide)).trans h0, (lo 1 (by decide)).trans h1, h2, h3, by rw [lo 2 (by decide)]; exact h4, fun p hp1 hp2 => ?_, fun i hi1 hi2 => ?_⟩
  · unfold mr_Lup
    by_cases e : p = q
    · subst e; rw [if_pos rfl]; exact hN
    · rw [if_neg e, mr_br_other hq (by omega) e]; exact h5 p hp1 hp2
  · rw [lo 2 (by decide)] at hi2
    obtain ⟨k1, k2⟩ := h6 i hi1 hi2
    refine ⟨fun j hj => ?_, ?_⟩
    · rw [mr_se_pA hq]; exact k1 j hj
    · rw [mr_se_pA hq]; exact k2
/-- a row of a table, of a form -/
theorem mr_gA_e {M : Int} (hM : 1 ≤ M) {f : Nat → Int} {w c : Nat} {W cl t g C p : Int} (hW : W = w) (hC : C = c) (hz : ∀ j : Nat, j < c → mr_fa f p c j = 0) : (∀ j : Nat, j < w → M ∣ mr_gA M W cl t g f p C W j - t * mr_fa f p c j) ∧ (cl = W + W → ∀ j : Nat, j < w → M ∣ mr_gA M W cl t g f p C W (w + j) - g * mr_fa f p c j) ∧ ∀ j : Nat, 0 ≤ mr_gA M W cl t g f p C W j ∧ mr_gA M W cl t g f p C W j < M := by
  subst hW
  subst hC
  refine ⟨fun j hj => ?_, fun hcl j hj => ?_, fun j => ?_⟩
  · unfold mr_gA
    by_cases e : c ≤ j
    · rw [if_pos ⟨by omega, by omega⟩]; exact mr_dvd_self_emod _ _
    · rw [if_neg (by omega), if_neg (by omega), hz j (by omega)]; simp
  · unfold mr_gA
    rw [if_neg (by omega), show (((w + j : Nat) : Int) - (w : Int)) = (j : Int) by omega]
    by_cases e : c ≤ j
    · rw [if_pos ⟨by omega, by omega, by omega⟩]; exact mr_dvd_self_emod _ _
    · rw [if_neg (by omega), hz j (by omega)]; simp
  · unfold mr_gA
    split
    · exact ⟨Int.emod_nonneg _ (by omega), Int.emod_lt_of_pos _ (by omega)⟩
    · split
      · exact ⟨Int.emod_nonneg _ (by omega), Int.emod_lt_of_pos _ (by omega)⟩
      · omega
theorem mr_Fo_hz {M : Int} {w : Nat} {f : Nat → Int} {p : Int} {L : mr_V → Prop} (h : mr_Fo M w (mr_br f p) L) {c : Nat} (hc : c < 3) : ∀ j : Nat, j < c → mr_fa f p c j = 0 := (h.2.2.2.2 c hc).2.1
theorem mr_pw_at {cl M : Int} (g : mr_V) (c x : Int) (j : Nat) : mr_pw cl M g c x j = if 0 ≤ c ∧ c < cl ∧ (j : Int) = c then x % M else g j := by
  unfold mr_pw
  by_cases e : 0 ≤ c ∧ c < cl
  · rw [if_pos e]
    unfold mr_fs
    by_cases e2 : (j : Int) = c
    · rw [if_pos (by omega), if_pos ⟨e.1, e.2, e2⟩]
    · rw [if_neg (by omega), if_neg (fun z => e2 z.2.2)]
  · rw [if_neg e, if_neg (fun z => e ⟨z.1, z.2.1⟩)]
/-- ABSORB -/
theorem mr_WB_abs {f : Nat → Int} {M : Int} {w : Nat} {L : Int → mr_V → Prop} (h : mr_WB f M w L) {p : Int} (hp : 0 ≤ p ∧ p < 4) {r : mr_V} (hr : ∀ j, w ≤ j → j < 3 → M ∣ r j) : mr_WB (mr_abs f r p mr_Zz mr_Zz) M w (mr_Lup L p (mr_LA (L p) r)) := by
  have h' := h
  obtain ⟨h0, h1, h2, h3, h4, h5, h6⟩ := h
  have hF := h5 p hp.1 hp.2
  have e0 : ∀ i : Nat, i < w → mr_tbA f r p mr_Zz i = mr_gA M w w 1 0 f p (i : Int) w := fun i hi => by
    unfold mr_tbA
    rw [mr_Rw_ne _ _ (by omega), mr_aR_at _ (Int.le_refl 0), if_pos ⟨by omega, by omega⟩, h0, h1, Int.sub_zero]
  have e1 : ∀ j : Nat, j < w → mr_tbA f r p mr_Zz w j = r j % M := fun j hj => by
    unfold mr_tbA
    rw [show (f 1).toNat = w by omega, mr_Rw_same, mr_pw_at, mr_pw_at, mr_pw_at, h0, h1]
    rcases (show j = 0 ∨ j = 1 ∨ j = 2 by omega) with rfl | rfl | rfl
    · rw [if_neg (by omega), if_neg (by omega), if_pos (by omega)]
    · rw [if_neg (by omega), if_pos (by omega)]
    · rw [if_pos (by omega)]
  unfold mr_abs
  refine mr_WB_put h' hp ?_
  refine mr_Fo_congr (mr_cutA h3.2 hF hr (R := mr_tbA f r p mr_Zz) (fun c hc j hj => ?_) (fun j hj => ?_) (fun c h7 h8 j hj => mr_Fo_zero hF h8 hj (Or.inl h7))) ?_
  · rw [e0 c hc]
    have := (mr_gA_e (M := M) (by omega) (f := f) (w := w) (c := c) (W := w) (cl := w) (t := 1) (g := 0) (C := c) (p := p) rfl rfl (mr_Fo_hz hF (by omega))).1 j hj
    rw [Int.one_mul] at this
    exact this
  · rw [e1 j hj]; exact mr_dvd_self_emod _ _
  · have := mr_Fo_put (f := f) (M := M) ⟨by omega, h2.2⟩ hp h1 h3.2 (a := 0) (A := 0) (n := w) (cl := f 1) (ct := w + 1) (ctI := f 1 + 1) (R := mr_tbA f r p mr_Zz) (F0 := mr_Zz) rfl h1 (by omega) (by omega) (fun q hq j hj => ?_) hF
    · rw [← h0] at this ⊢; exact this
    · by_cases e : q = w
      · subst e; rw [e1 j hj]; exact ⟨Int.emod_nonneg _ (by omega), Int.emod_lt_of_pos _ (by omega)⟩
      · rw [e0 q (by omega)]
        exact (mr_gA_e (M := M) (by omega) (f := f) (w := w) (c := q) (W := w) (cl := w) (t := 1) (g := 0) (C := q) (p := p) rfl rfl (mr_Fo_hz hF (by omega))).2.2 j
/-- JOIN and MEET -/
theorem mr_tbJ_e {f : Nat → Int} {M : Int} {w : Nat} (h0 : f 0 = M) (h1 : f 1 = w) {cl g s t : Int} {R0 : Nat → mr_V} : (∀ i : Nat, i < w → mr_tbJ cl g f s t R0 i = mr_gA M w cl 1 g f s (i : Int) w) ∧ ∀ i : Nat, i < w → mr_tbJ cl g f s t R0 (w + i) = mr_gA M w cl 1 0 f t (i : Int) w := by
  refine ⟨fun i hi => ?_, fun i hi => ?_⟩
  · unfold mr_tbJ
    rw [mr_aR_at _ (by omega), if_neg (by omega), mr_aR_at _ (Int.le_refl 0), if_pos ⟨by omega, by omega⟩, h0, h1, Int.sub_zero]
  · unfold mr_tbJ
    rw [mr_aR_at _ (by omega), if_pos ⟨by omega, by omega⟩, h0, h1, show (((w + i : Nat) : Int) - (0 + (w : Int))) = (i : Int) by omega]
theorem mr_WB_join {f : Nat → Int} {M : Int} {w : Nat} {L : Int → mr_V → Prop} (h : mr_WB f M w L) {s t q : Int} (hs : 0 ≤ s ∧ s < 4) (ht : 0 ≤ t ∧ t < 4) (hq : 0 ≤ q ∧ q < 4) (R1 F1 : Nat → mr_V) : mr_WB (mr_pA f q (fun c a => mr_sh (f 1) (mr_shp (f 0) (f 1) (0 + f 1 + f 1) (mr_tbJ (f 1) 0 f s t R1) F1) (0 + c) (0 + a))) M w (mr_Lup L q (mr_LJ (L s) (L t))) := by
  have h' := h
  obtain ⟨h0, h1, h2, h3, h4, h5, h6⟩ := h
  have hF := h5 s hs.1 hs.2
  have hG := h5 t ht.1 ht.2
  obtain ⟨e0, e1⟩ := mr_tbJ_e h0 h1 (cl := f 1) (g := 0) (s := s) (t := t) (R0 := R1)
  have gs := fun (c : Nat) (hc : c < w) => mr_gA_e (M := M) (by omega) (f := f) (w := w) (c := c) (W := w) (cl := f 1) (t := 1) (g := 0) (C := c) (p := s) rfl rfl (mr_Fo_hz hF (by omega))
  have gt := fun (c : Nat) (hc : c < w) => mr_gA_e (M := M) (by omega) (f := f) (w := w) (c := c) (W := w) (cl := f 1) (t := 1) (g := 0) (C := c) (p := t) rfl rfl (mr_Fo_hz hG (by omega))
  refine mr_WB_put h' hq ?_
  refine mr_Fo_congr (mr_cutJ h3.2 hF hG (R := mr_tbJ (f 1) 0 f s t R1) (fun c hc j hj => ?_) (fun c hc j hj => ?_) (fun c h7 h8 j hj => mr_Fo_zero hF h8 hj (Or.inl h7)) (fun c h7 h8 j hj => mr_Fo_zero hG h8 hj (Or.inl h7))) ?_
  · rw [e0 c hc]
    have := (gs c hc).1 j hj
    rw [Int.one_mul] at this
    exact this
  · rw [e1 c hc]
    have := (gt c hc).1 j hj
    rw [Int.one_mul] at this
    exact this
  · have := mr_Fo_put (f := f) (M := M) ⟨by omega, h2.2⟩ hq h1 h3.2 (a := 0) (A := 0) (n := w) (cl := f 1) (ct := w + w) (ctI := 0 + f 1 + f 1) (R := mr_tbJ (f 1) 0 f s t R1) (F0 := F1) rfl h1 (by omega) (by omega) (fun r hr j hj => ?_) (h5 q hq.1 hq.2)
    · rw [← h0] at this ⊢; exact this
    · by_cases e : r < w
      · rw [e0 r e]; exact (gs r e).2.2 j
      · rw [show r = w + (r - w) by omega, e1 (r - w) (by omega)]; exact (gt (r - w) (by omega)).2.2 j
theorem mr_WB_meet {f : Nat → Int} {M : Int} {w : Nat} {L : Int → mr_V → Prop} (h : mr_WB f M w L) {s t q : Int} (hs : 0 ≤ s ∧ s < 4) (ht : 0 ≤ t ∧ t < 4) (hq : 0 ≤ q ∧ q < 4) (R1 F1 : Nat → mr_V) : mr_WB (mr_pA f q (fun c a => mr_sh (2 * f 1) (mr_shp (f 0) (2 * f 1) (0 + f 1 + f 1) (mr_tbJ (2 * f 1) 1 f s t R1) F1) (f 1 + c) (f 1 + a))) M w (mr_Lup L q (fun x => L s x ∧ L t x)) := by
  have h' := h
  obtain ⟨h0, h1, h2, h3, h4, h5, h6⟩ := h
  have hF := h5 s hs.1 hs.2
  have hG := h5 t ht.1 ht.2
  obtain ⟨e0, e1⟩ := mr_tbJ_e h0 h1 (cl := 2 * f 1) (g := 1) (s := s) (t := t) (R0 := R1)
  have gs := fun (c : Nat) (hc : c < w) => mr_gA_e (M := M) (by omega) (f := f) (w := w) (c := c) (W := w) (cl := 2 * f 1) (t := 1) (g := 1) (C := c) (p := s) rfl rfl (mr_Fo_hz hF (by omega))
  have gt := fun (c : Nat) (hc : c < w) => mr_gA_e (M := M) (by omega) (f := f) (w := w) (c := c) (W := w) (cl := 2 * f 1) (t := 1) (g := 0) (C := c) (p := t) rfl rfl (mr_Fo_hz hG (by omega))
  refine mr_WB_put h' hq ?_
  refine mr_Fo_congr (mr_cutM h3.2 hF hG (R := mr_tbJ (2 * f 1) 1 f s t R1) (fun c hc j hj => ?_) (fun c hc j hj => ?_) (fun c h7 h8 j hj => mr_Fo_zero hF h8 hj (Or.inl h7)) (fun c h7 h8 j hj => mr_Fo_zero hG h8 hj (Or.inl h7))) ?_
  · rw [e0 c hc]
    have k1 := (gs c hc).1 j hj
    have k2 := (gs c hc).2.1 (by omega) j hj
    rw [Int.one_mul] at k1 k2
    exact ⟨k1, k2⟩
  · rw [e1 c hc]
    have k1 := (gt c hc).1 j hj
    have k2 := (gt c hc).2.1 (by omega) j hj
    rw [Int.one_mul] at k1
    rw [Int.zero_mul, Int.sub_zero] at k2
    exact ⟨k1, k2⟩
  · have := mr_Fo_put (f := f) (M := M) ⟨by omega, h2.2⟩ hq h1 h3.2 (a := w) (A := f 1) (n := w + w) (cl := 2 * f 1) (ct := w + w) (ctI := 0 + f 1 + f 1) (R := mr_tbJ (2 * f 1) 1 f s t R1) (F0 := F1) h1 (by omega) (by omega) (by omega) (fun r hr j hj => ?_) (h5 q hq.1 hq.2)
    · rw [← h0] at this ⊢; exact this
    · by_cases e : r < w
      · rw [e0 r e]; exact (gs r e).2.2 j
      · rw [show r = w + (r - w) by omega, e1 (r - w) (by omega)]; exact (gt (r - w) (by omega)).2.2 j
/-- TIMES -/
theorem mr_tbT_e {f : Nat → Int} {M : Int} {w : Nat} (h0 : f 0 = M) (h1 : f 1 = w) {u s : Int} {R0 : Nat → mr_V} : ∀ i : Nat, i < w → mr_tbT u f s R0 i = mr_gA M w w u 0 f s (i : Int) w := fun i hi => by
  unfold mr_tbT
  rw [mr_aR_at _ (Int.le_refl 0), if_pos ⟨by omega, by omega⟩, h0, h1, Int.sub_zero]
theorem mr_WB_times {f : Nat → Int} {M : Int} {w : Nat} {L : Int → mr_V → Prop} (h : mr_WB f M w L) {s u q : Int} (hs : 0 ≤ s ∧ s < 4) (hq : 0 ≤ q ∧ q < 4) (R1 F1 : Nat → mr_V) : mr_WB (mr_pA f q (fun c a => mr_sh (f 1) (mr_shp (f 0) (f 1) (0 + f 1) (mr_tbT u f s R1) F1) (0 + c) (0 + a))) M w (mr_Lup L q (mr_LT M u (L s))) := by
  have h' := h
  obtain ⟨h0, h1, h2, h3, h4, h5, h6⟩ := h
  have hF := h5 s hs.1 hs.2
  have e0 := mr_tbT_e h0 h1 (u := u) (s := s) (R0 := R1)
  have gs := fun (c : Nat) (hc : c < w) => mr_gA_e (M := M) (by omega) (f := f) (w := w) (c := c) (W := w) (cl := w) (t := u) (g := 0) (C := c) (p := s) rfl rfl (mr_Fo_hz hF (by omega))
  refine mr_WB_put h' hq ?_
  refine mr_Fo_congr (mr_cutT (u := u) h3.2 hF (R := mr_tbT u f s R1) (fun c hc j hj => by rw [e0 c hc]; exact (gs c hc).1 j hj) (fun c h7 h8 j hj => mr_Fo_zero hF h8 hj (Or.inl h7))) ?_
  have := mr_Fo_put (f := f) (M := M) ⟨by omega, h2.2⟩ hq h1 h3.2 (a := 0) (A := 0) (n := w) (cl := f 1) (ct := w) (ctI := 0 + f 1) (R := mr_tbT u f s R1) (F0 := F1) rfl h1 (by omega) (by omega) (fun r hr j hj => by rw [e0 r hr]; exact (gs r hr).2.2 j) (h5 q hq.1 hq.2)
  rw [← h0] at this ⊢; exact this
/-- BY -/
theorem mr_bR_at {cl m u W : Int} (R : Nat → mr_V) : ∀ (k i : Nat), i < k → mr_bR cl m u W R k i = mr_pw cl m (mr_pw cl m (fun _ => 0) i u) (W + i) 1
  | 0, i, hi => by omega
  | k + 1, i, hi => by
    unfold mr_bR
    by_cases e : i = k
    · subst e
      rw [show (0 + (i : Int)).toNat = i by omega, mr_Rw_same]
    · rw [mr_Rw_ne _ _ (by omega)]
      exact mr_bR_at R k i (by omega)
theorem mr_e_at (c : Nat) (M : Int) (j : Nat) : mr_e c M j = if j = c then M else 0 := rfl
theorem mr_WB_by {f : Nat → Int} {M : Int} {w : Nat} {L : Int → mr_V → Prop} (h : mr_WB f M w L) {s u q : Int} (hs : 0 ≤ s ∧ s < 4) (hq : 0 ≤ q ∧ q < 4) (R1 F1 : Nat → mr_V) : mr_WB (mr_pA f q (fun c a => mr_sh (2 * f 1) (mr_shp (f 0) (2 * f 1) (0 + f 1 + f 1) (mr_tbB u f s R1) F1) (f 1 + c) (f 1 + a))) M w (mr_Lup L q (mr_LB2 M u w (L s))) := by
  have h' := h
  obtain ⟨h0, h1, h2, h3, h4, h5, h6⟩ := h
  have hF := h5 s hs.1 hs.2
  have e0 : ∀ i : Nat, i < w → mr_tbB u f s R1 i = mr_pw (2 * f 1) M (mr_pw (2 * f 1) M (fun _ => 0) i u) (w + i) 1 := fun i hi => by
    unfold mr_tbB
    rw [mr_aR_at _ (by omega), if_neg (by omega), mr_bR_at _ _ _ (by omega), h0, h1]
  have e1 : ∀ i : Nat, i < w → mr_tbB u f s R1 (w + i) = mr_gA M w (2 * f 1) 1 0 f s (i : Int) w := fun i hi => by
    unfold mr_tbB
    rw [mr_aR_at _ (by omega), if_pos ⟨by omega, by omega⟩, h0, show (((w + i : Nat) : Int) - (0 + f 1)) = (i : Int) by omega, h1]
  have gt := fun (c : Nat) (hc : c < w) => mr_gA_e (M := M) (by omega) (f := f) (w := w) (c := c) (W := w) (cl := 2 * f 1) (t := 1) (g := 0) (C := c) (p := s) rfl rfl (mr_Fo_hz hF (by omega))
  have v0 : ∀ c : Nat, c < w → ∀ j : Nat, mr_tbB u f s R1 c j = if j = w + c then 1 % M else if j = c then u % M else 0 := fun c hc j => by
    rw [e0 c hc, mr_pw_at, mr_pw_at]
    by_cases k1 : j = w + c
    · rw [if_pos k1, if_pos ⟨by omega, by omega, by omega⟩]
    · rw [if_neg k1, if_neg (fun z => k1 (by omega))]
      by_cases k2 : j = c
      · rw [if_pos k2, if_pos ⟨by omega, by omega, by omega⟩]
      · rw [if_neg k2, if_neg (fun z => k2 (by omega))]
  refine mr_WB_put h' hq ?_
  refine mr_Fo_congr (mr_cutB (u := u) h3.2 hF (R := mr_tbB u f s R1) (fun c hc j hj => ?_) (fun c hc j hj => ?_) (fun c h7 h8 j hj => mr_Fo_zero hF h8 hj (Or.inl h7))) ?_
  · rw [v0 c hc, v0 c hc, mr_e_at]
    by_cases k : j = c
    · rw [if_neg (by omega), if_pos k, if_pos k, if_pos (by omega), Int.mul_one]; exact ⟨mr_dvd_self_emod _ _, mr_dvd_self_emod _ _⟩
    · rw [if_neg (by omega), if_neg k, if_neg k, if_neg (by omega), if_neg (by omega), Int.mul_zero]; exact ⟨mr_dvd_same _ _, mr_dvd_same _ _⟩
  · rw [e1 c hc]
    have k1 := (gt c hc).1 j hj
    have k2 := (gt c hc).2.1 (by omega) j hj
    rw [Int.one_mul] at k1
    rw [Int.zero_mul, Int.sub_zero] at k2
    exact ⟨k1, k2⟩
  · have := mr_Fo_put (f := f) (M := M) ⟨by omega, h2.2⟩ hq h1 h3.2 (a := w) (A := f 1) (n := w + w) (cl := 2 * f 1) (ct := w + w) (ctI := 0 + f 1 + f 1) (R := mr_tbB u f s R1) (F0 := F1) h1 (by omega) (by omega) (by omega) (fun r hr j hj => ?_) (h5 q hq.1 hq.2)
    · rw [← h0] at this ⊢; exact this
    · have m1 : ∀ x : Int, 0 ≤ x % M ∧ x % M < M := fun x => ⟨Int.emod_nonneg _ (by omega), Int.emod_lt_of_pos _ (by omega)⟩
      by_cases e : r < w
      · rw [v0 r e]
        split
        · exact m1 _
        · split
          · exact m1 _
          · omega
      · rw [show r = w + (r - w) by omega, e1 (r - w) (by omega)]; exact (gt (r - w) (by omega)).2.2 j
/-- what stands upright on rows -/
theorem mr_gU_at {cl m : Int} (h : Int → Int) (n q : Int) (j : Nat) : mr_gU cl m h n q j = if 0 ≤ q ∧ q < cl ∧ (j : Int) = q then 1 % m else if (j : Int) < n then h j % m else 0 := by
  unfold mr_gU
  rw [mr_pw_at]
  rfl
theorem mr_WB_U {f : Nat → Int} {M : Int} {w : Nat} {L : Int → mr_V → Prop} (h : mr_WB f M w L) {n0 : Nat} {N cl q : Int} (hN : N = n0) (hcl : cl = N + f 1) (hq : 0 ≤ q ∧ q < 4) (hh : Int → Int → Int) (R1 F1 : Nat → mr_V) : mr_WB (mr_pA f q (fun c a => mr_sh cl (mr_shp (f 0) cl (0 + f 1) (mr_uR cl (f 0) hh N N 0 R1 (f 1).toNat) F1) (N + c) (N + a))) M w (mr_Lup L q (fun x => (∀ i, i < n0 → M ∣ mr_sm w (fun r => hh r i * x r)) ∧ ∀ j, w ≤ j → j < 3 → M ∣ x j)) := by
  have h' := h
  obtain ⟨h0, h1, h2, h3, h4, h5, h6⟩ := h
  have v0 : ∀ c : Nat, c < w → ∀ j : Nat, mr_uR cl (f 0) hh N N 0 R1 (f 1).toNat c j = if j = n0 + c then 1 % M else if j < n0 then hh c j % M else 0 := fun c hc j => by
    rw [mr_uR_at _ (Int.le_refl 0), if_pos ⟨by omega, by omega⟩, mr_gU_at, h0]
    by_cases k1 : j = n0 + c
    · rw [if_pos k1, if_pos ⟨by omega, by omega, by omega⟩]
    · rw [if_neg k1, if_neg (fun z => k1 (by omega)), Int.sub_zero]
      by_cases k2 : j < n0
      · rw [if_pos k2, if_pos (by omega)]
      · rw [if_neg k2, if_neg (by omega)]
  refine mr_WB_put h' hq ?_
  have key := mr_cutU (M := M) (n0 := n0) (ct := w) (R := mr_uR cl (f 0) hh N N 0 R1 (f 1).toNat) (h := fun r i => hh r i) (fun r hr i hi => by rw [v0 r hr, if_neg (by omega), if_pos hi]; exact mr_dvd_self_emod _ _) (fun r hr i hi => by
    rw [v0 r hr, mr_e_at]
    by_cases k : i = r
    · rw [if_pos (by omega), if_pos k]; exact mr_dvd_self_emod _ _
    · rw [if_neg (by omega), if_neg (by omega), if_neg k]; exact mr_dvd_same _ _)
  refine mr_Fo_congr (fun x => and_congr_left fun _ => key x) ?_
  have := mr_Fo_put (f := f) (M := M) ⟨by omega, h2.2⟩ hq h1 h3.2 (a := n0) (A := N) (n := n0 + w) (cl := cl) (ct := w) (ctI := 0 + f 1) (R := mr_uR cl (f 0) hh N N 0 R1 (f 1).toNat) (F0 := F1) hN (by omega) (by omega) rfl (fun r hr j hj => ?_) (h5 q hq.1 hq.2)
  · have e9 : f 0 = M := h0
    rw [e9] at this ⊢; exact this
  · have m1 : ∀ x : Int, 0 ≤ x % M ∧ x % M < M := fun x => ⟨Int.emod_nonneg _ (by omega), Int.emod_lt_of_pos _ (by omega)⟩
    rw [v0 r hr]
    split
    · exact m1 _
    · split
      · exact m1 _
      · omega
