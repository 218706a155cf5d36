section EQ5
variable {f N : Nat → Int} {M : Int} {w : Nat} {L : Int → mr_V → Prop}
/-- books that differ in their equations alone -/
theorem mr_eqs_ok {f' N' : Nat → Int} {r : Int → Nat → Int} {v : Int → Int} {n : Int} (h : mr_WB f M w L) (hc : mr_Cq f N) (h0 : f' 0 = f 0) (h1 : f' 1 = f 1) (h2 : f' 2 = n) (hn : 0 ≤ n ∧ n ≤ 3) (fa : ∀ t c j : Int, mr_fa f' t c j = mr_fa f t c j) (se : ∀ i : Int, 0 ≤ i → i < n → (∀ j : Nat, j < 3 → mr_se f' i j = r i j) ∧ mr_se f' i 3 = v i) (hr : ∀ i : Int, 0 ≤ i → i < n → (∀ j : Nat, j < 3 → (0 ≤ r i j ∧ r i j < M) ∧ (w ≤ j → r i j = 0)) ∧ (0 ≤ v i ∧ v i < M)) (hN : ∀ j : Nat, j < 14 → N' j = N j) (h14 : N' 14 = n) (he : ∀ i : Int, 0 ≤ i → i < 3 → N' (15 + i).toNat = (if i < n then mr_ec M (r i) else 0) ∧ N' (18 + i).toNat = if i < n then v i else 0) : mr_OK f' N' := by
  refine Or.inr ⟨M, w, L, mr_WB_eqs h h0 h1 fa (by rw [h2]; exact hn) (fun i g1 g2 => ?_), mr_Cq_eqs hc h0 h1 fa hN (by rw [h14, h2]) (fun i g1 g2 => ?_)⟩
  · rw [h2] at g2
    obtain ⟨s1, s2⟩ := se i g1 g2
    obtain ⟨k1, k2⟩ := hr i g1 g2
    exact ⟨fun j hj => by rw [s1 j hj]; exact k1 j hj, by rw [s2]; exact k2⟩
  · rw [h2, (he i g1 g2).1, (he i g1 g2).2, h.1]
    by_cases q : i < n
    · obtain ⟨s1, s2⟩ := se i g1 q
      rw [if_pos q, if_pos q, if_pos q, if_pos q]
      exact ⟨mr_ec_cg (fun j hj => by rw [s1 j hj]; exact mr_dvd_same _ _), s2.symm⟩
    · rw [if_neg q, if_neg q, if_neg q, if_neg q]
      exact ⟨rfl, rfl⟩
theorem mr_equate_ok {N' : Nat → Int} {r : Nat → Int} {i v : Int} (h : mr_WB f M w L) (hc : mr_Cq f N) (hi : 0 ≤ i ∧ i ≤ f 2 ∧ i < 3) (hb : mr_box M r) (hz : ∀ j, w ≤ j → j < 3 → r j = 0) (hv : 0 ≤ v ∧ v < M) (hN : ∀ j : Nat, j < 14 → N' j = N j) (h14 : N' 14 = if i = f 2 then i + 1 else f 2) (he : ∀ k : Int, 0 ≤ k → k < 3 → N' (15 + k).toNat = (if k = i then mr_ec M r else N (15 + k).toNat) ∧ N' (18 + k).toNat = if k = i then v else N (18 + k).toNat) : mr_OK (mr_seq (if i = f 2 then mr_fs f 2 (max 0 (min (i + 1) 3)) else f) i r v) N' := by
  obtain ⟨a0, a1, a2, a3, a4, a5, a6⟩ := id h
  have q0 : ∀ k : Nat, k < 2 → (if i = f 2 then mr_fs f 2 (max 0 (min (i + 1) 3)) else f) k = f k := fun k hk => by
    split
    · rw [mr_fs_ne _ _ (by omega)]
    · rfl
  have q2 : (if i = f 2 then mr_fs f 2 (max 0 (min (i + 1) 3)) else f) 2 = if i = f 2 then i + 1 else f 2 := by
    split
    · rw [mr_fs_same]; omega
    · rfl
  have qf : ∀ t c j : Int, mr_fa (if i = f 2 then mr_fs f 2 (max 0 (min (i + 1) 3)) else f) t c j = mr_fa f t c j := fun t c j => by
    split
    · exact mr_fs2_fa t c j
    · rfl
  have qs : ∀ k j : Int, mr_se (if i = f 2 then mr_fs f 2 (max 0 (min (i + 1) 3)) else f) k j = mr_se f k j := fun k j => by
    split
    · exact mr_fs2_se k j
    · rfl
  generalize (if i = f 2 then mr_fs f 2 (max 0 (min (i + 1) 3)) else f) = f0 at q0 q2 qf qs ⊢
  have hn : (0 ≤ (if i = f 2 then i + 1 else f 2) ∧ (if i = f 2 then i + 1 else f 2) ≤ 3) ∧ i < (if i = f 2 then i + 1 else f 2) ∧ f 2 ≤ (if i = f 2 then i + 1 else f 2) ∧ ∀ k : Int, k < (if i = f 2 then i + 1 else f 2) → k ≠ i → k < f 2 := by
    by_cases q : i = f 2
    · rw [if_pos q]; exact ⟨by omega, by omega, by omega, fun k _ _ => by omega⟩
    · rw [if_neg q]; exact ⟨by omega, by omega, by omega, fun k _ _ => by omega⟩
  generalize hnn : (if i = f 2 then i + 1 else f 2) = n at q2 hn h14
  refine mr_eqs_ok (r := fun k j => if k = i then r j else mr_se f k j) (v := fun k => if k = i then v else mr_se f k 3) (n := n) h hc (by rw [mr_seq_lo _ _ _ _ (by decide)]; exact q0 0 (by decide)) (by rw [mr_seq_lo _ _ _ _ (by decide)]; exact q0 1 (by decide)) (by rw [mr_seq_lo _ _ _ _ (by decide)]; exact q2) hn.1 (fun t c j => by rw [mr_seq_fa]; exact qf t c j) (fun k g1 g2 => ?_) (fun k g1 g2 => ?_) hN h14 (fun k g1 g2 => ?_)
  · have s := mr_seq_se (f := f0) (r := r) (v := v) (i := i) ⟨hi.1, hi.2.2⟩ k
    exact ⟨fun j hj => by rw [s.1 j hj, qs], by rw [s.2, qs]⟩
  · by_cases q : k = i
    · refine ⟨fun j hj => ?_, ?_⟩
      · show (0 ≤ (if k = i then r j else mr_se f k j) ∧ (if k = i then r j else mr_se f k j) < M) ∧ (w ≤ j → (if k = i then r j else mr_se f k j) = 0)
        rw [if_pos q]; exact ⟨hb j hj, fun g => hz j g hj⟩
      · show 0 ≤ (if k = i then v else mr_se f k 3) ∧ (if k = i then v else mr_se f k 3) < M
        rw [if_pos q]; exact hv
    · obtain ⟨k1, k2⟩ := a6 k g1 (hn.2.2.2 k g2 q)
      refine ⟨fun j hj => ?_, ?_⟩
      · show (0 ≤ (if k = i then r j else mr_se f k j) ∧ (if k = i then r j else mr_se f k j) < M) ∧ (w ≤ j → (if k = i then r j else mr_se f k j) = 0)
        rw [if_neg q]; exact k1 j hj
      · show 0 ≤ (if k = i then v else mr_se f k 3) ∧ (if k = i then v else mr_se f k 3) < M
        rw [if_neg q]; exact k2
  · rw [(he k g1 g2).1, (he k g1 g2).2]
    show _ = (if k < n then mr_ec M (fun j => if k = i then r j else mr_se f k j) else 0) ∧ _ = (if k < n then (if k = i then v else mr_se f k 3) else 0)
    by_cases q : k = i
    · subst q
      rw [if_pos rfl, if_pos rfl, if_pos hn.2.1, if_pos hn.2.1, if_pos rfl]
      exact ⟨mr_ec_cg (fun j hj => by show M ∣ r j - (if k = k then r j else mr_se f k j); rw [if_pos rfl]; exact mr_dvd_same _ _), rfl⟩
    · have c4 := hc.2.2.2.2 k g1 g2
      rw [if_neg q, if_neg q, c4.1, c4.2]
      by_cases q2 : k < f 2
      · rw [if_pos q2, if_pos q2, if_pos (show k < n by omega), if_pos (show k < n by omega), if_neg q, a0]
        exact ⟨mr_ec_cg (fun j hj => by show M ∣ mr_se f k j - (if k = i then r j else mr_se f k j); rw [if_neg q]; exact mr_dvd_same _ _), rfl⟩
      · have q3 : ¬ k < n := fun z => q2 (hn.2.2.2 k z q)
        rw [if_neg q2, if_neg q2, if_neg q3, if_neg q3]
        exact ⟨rfl, rfl⟩
theorem mr_rms_ok {f : Nat → Int} {i : Int} (hi : 0 ≤ i ∧ i < 3) : (∀ k : Nat, k < 39 → mr_rms f i k = f k) ∧ (∀ t c j : Int, mr_fa (mr_rms f i) t c j = mr_fa f t c j) ∧ ∀ (i' h : Int), 0 ≤ h → h < 4 → mr_se (mr_rms f i) i' h = if i' = i then mr_se f (i + 1) h else mr_se f i' h := by
  have e : mr_rms f i = mr_seq f i (fun j => mr_se f (i + 1) j) (mr_se f (i + 1) 3) := rfl
  rw [e]
  refine ⟨fun k hk => mr_seq_lo _ _ _ _ hk, fun t c j => mr_seq_fa t c j, fun i' h h1 h2 => ?_⟩
  have s := mr_seq_se (f := f) (r := fun j => mr_se f (i + 1) j) (v := mr_se f (i + 1) 3) hi i'
  rcases (show h = 3 ∨ h < 3 by omega) with q | q
  · subst q; exact s.2
  · have := s.1 h.toNat (by omega)
    rw [Int.toNat_of_nonneg h1] at this
    rw [this]
theorem mr_rml_ok : ∀ (n : Nat) (i : Int) (f : Nat → Int), 0 ≤ i → f 2 ≤ 3 → f 2 - 1 - i ≤ n → (∀ k : Nat, k < 39 → mr_rml n i f k = f k) ∧ (∀ t c j : Int, mr_fa (mr_rml n i f) t c j = mr_fa f t c j) ∧ ∀ (i' h : Int), 0 ≤ h → h < 4 → mr_se (mr_rml n i f) i' h = if i ≤ i' ∧ i' < f 2 - 1 then mr_se f (i' + 1) h else mr_se f i' h
  | 0, i, f, h0, h2, hn => ⟨fun k hk => rfl, fun t c j => rfl, fun i' h _ _ => by rw [if_neg (by omega)]; rfl⟩
  | n + 1, i, f, h0, h2, hn => by
    by_cases q : i < f 2 - 1
    · have u : mr_rml (n + 1) i f = mr_rml n (i + 1) (mr_rms f i) := if_pos q
      obtain ⟨r1, r2, r3⟩ := mr_rms_ok (f := f) (i := i) ⟨h0, by omega⟩
      have r2' : mr_rms f i 2 = f 2 := r1 2 (by decide)
      obtain ⟨s1, s2, s3⟩ := mr_rml_ok n (i + 1) (mr_rms f i) (by omega) (by omega) (by omega)
      rw [u]
      refine ⟨fun k hk => (s1 k hk).trans (r1 k hk), fun t c j => (s2 t c j).trans (r2 t c j), fun i' h g1 g2 => ?_⟩
      rw [s3 i' h g1 g2, r2', r3 _ h g1 g2, r3 _ h g1 g2]
      by_cases a : i' = i
      · subst a
        rw [if_neg (by omega), if_pos rfl, if_pos (show i' ≤ i' ∧ i' < f 2 - 1 from ⟨by omega, q⟩)]
      · by_cases b : i ≤ i' ∧ i' < f 2 - 1
        · rw [if_pos (show i + 1 ≤ i' ∧ i' < f 2 - 1 from ⟨by omega, b.2⟩), if_neg (show ¬ i' + 1 = i by omega), if_pos b]
        · rw [if_neg (show ¬ (i + 1 ≤ i' ∧ i' < f 2 - 1) by omega), if_neg a, if_neg b]
    · have u : mr_rml (n + 1) i f = f := if_neg q
      rw [u]
      exact ⟨fun k hk => rfl, fun t c j => rfl, fun i' h _ _ => by rw [if_neg (by omega)]⟩
theorem mr_drop_ok {N' : Nat → Int} {i : Int} (h : mr_WB f M w L) (hc : mr_Cq f N) (hi : 0 ≤ i ∧ i < f 2) (hd : mr_drp N i N') : mr_OK (mr_fs (mr_rml 3 i f) 2 (max 0 (min (f 2 - 1) 3))) N' := by
  obtain ⟨a0, a1, a2, a3, a4, a5, a6⟩ := id h
  obtain ⟨d1, d2, d3, d4⟩ := hd
  obtain ⟨s1, s2, s3⟩ := mr_rml_ok 3 i f hi.1 a4.2 (by omega)
  have hN14 := hc.2.2.1
  have src : ∀ k : Int, 0 ≤ k → k < f 2 - 1 → ∃ k' : Int, (0 ≤ k' ∧ k' < f 2) ∧ ∀ hh : Int, 0 ≤ hh → hh < 4 → mr_se (mr_rml 3 i f) k hh = mr_se f k' hh := fun k g1 g2 => by
    by_cases q : i ≤ k
    · exact ⟨k + 1, ⟨by omega, by omega⟩, fun hh b1 b2 => by rw [s3 k hh b1 b2, if_pos ⟨q, g2⟩]⟩
    · exact ⟨k, ⟨g1, by omega⟩, fun hh b1 b2 => by rw [s3 k hh b1 b2, if_neg (by omega)]⟩
  refine mr_eqs_ok (r := fun k j => mr_se (mr_rml 3 i f) k j) (v := fun k => mr_se (mr_rml 3 i f) k 3) (n := f 2 - 1) h hc (by rw [mr_fs_ne _ _ (by decide)]; exact s1 0 (by decide)) (by rw [mr_fs_ne _ _ (by decide)]; exact s1 1 (by decide)) (by rw [mr_fs_same]; omega) (by omega) (fun t c j => by rw [mr_fs2_fa]; exact s2 t c j) (fun k g1 g2 => ⟨fun j hj => mr_fs2_se _ _, mr_fs2_se _ _⟩) (fun k g1 g2 => ?_) d1 (by rw [d2, hN14]) (fun k g1 g2 => ?_)
  · obtain ⟨k', b1, b2⟩ := src k g1 g2
    obtain ⟨k1, k2⟩ := a6 k' b1.1 b1.2
    exact ⟨fun j hj => by rw [b2 j (by omega) (by omega)]; exact k1 j hj, by rw [b2 3 (by decide) (by decide)]; exact k2⟩
  · have e3 := d3 k.toNat (by omega)
    have e4 := d4 k.toNat (by omega)
    rw [show 15 + k.toNat = (15 + k).toNat by omega, Int.toNat_of_nonneg g1] at e3
    rw [show 18 + k.toNat = (18 + k).toNat by omega, Int.toNat_of_nonneg g1] at e4
    rw [e3, e4]
    show _ = (if k < f 2 - 1 then mr_ec M (fun j => mr_se (mr_rml 3 i f) k j) else 0) ∧ _ = (if k < f 2 - 1 then mr_se (mr_rml 3 i f) k 3 else 0)
    have c4 := hc.2.2.2.2 k g1 g2
    by_cases q : k < i
    · rw [if_pos q, if_pos q, c4.1, c4.2, if_pos (show k < f 2 by omega), if_pos (show k < f 2 by omega), if_pos (show k < f 2 - 1 by omega), if_pos (show k < f 2 - 1 by omega), a0]
      exact ⟨mr_ec_cg (fun j hj => by rw [s3 k j (by omega) (by omega), if_neg (by omega)]; exact mr_dvd_same _ _), by rw [s3 k 3 (by decide) (by decide), if_neg (by omega)]⟩
    · rw [if_neg q, if_neg q]
      by_cases q3 : k.toNat + 1 < 3
      · rw [if_pos q3, if_pos q3, show (15 + k).toNat + 1 = (15 + (k + 1)).toNat by omega, show (18 + k).toNat + 1 = (18 + (k + 1)).toNat by omega]
        have c5 := hc.2.2.2.2 (k + 1) (by omega) (by omega)
        rw [c5.1, c5.2]
        by_cases q4 : k + 1 < f 2
        · rw [if_pos q4, if_pos q4, if_pos (show k < f 2 - 1 by omega), if_pos (show k < f 2 - 1 by omega), a0]
          exact ⟨mr_ec_cg (fun j hj => by rw [s3 k j (by omega) (by omega), if_pos ⟨by omega, by omega⟩]; exact mr_dvd_same _ _), by rw [s3 k 3 (by decide) (by decide), if_pos ⟨by omega, by omega⟩]⟩
        · rw [if_neg q4, if_neg q4, if_neg (show ¬ k < f 2 - 1 by omega), if_neg (show ¬ k < f 2 - 1 by omega)]
          exact ⟨rfl, rfl⟩
      · rw [if_neg q3, if_neg q3, if_neg (show ¬ k < f 2 - 1 by omega), if_neg (show ¬ k < f 2 - 1 by omega)]
        exact ⟨rfl, rfl⟩
/-- the sides, on both sides -/
def mr_SR (f N : Nat → Int) (M : Int) (w : Nat) (fc B : Nat → Int) (e : Int) : Prop := (∀ k : Nat, k < 39 → fc k = f k) ∧ (∀ t c j : Int, mr_fa fc t c j = mr_fa f t c j) ∧ (∀ i : Int, 0 ≤ i → i < e → (∀ j : Nat, j < 3 → (0 ≤ mr_se fc i j ∧ mr_se fc i j < M) ∧ (w ≤ j → mr_se fc i j = 0)) ∧ mr_se fc i 3 = 0) ∧ (∀ j : Nat, j < 14 → B j = N j) ∧ B 14 = e ∧ ∀ i : Int, 0 ≤ i → i < 3 → B (15 + i).toNat = (if i < e then mr_ec M (fun j => mr_se fc i j) else 0) ∧ B (18 + i).toNat = 0
theorem mr_SR_s {fc B : Nat → Int} {e x : Int} {r : Nat → Int} (h : mr_SR f N M w fc B e) (he : 0 ≤ e ∧ e < 3) (hb : mr_box M r) (hz : ∀ j, w ≤ j → j < 3 → r j = 0) (hx : x = mr_ec M r) : mr_SR f N M w (mr_seq fc e r 0) (mr_fs (mr_fs B (15 + e).toNat x) 14 (e + 1)) (e + 1) := by
  obtain ⟨s1, s2, s3, s4, s5, s6⟩ := h
  have ss := fun i => mr_seq_se (f := fc) (r := r) (v := 0) (i := e) he i
  refine ⟨fun k hk => by rw [mr_seq_lo _ _ _ _ hk]; exact s1 k hk, fun t c j => by rw [mr_seq_fa]; exact s2 t c j, fun i g1 g2 => ?_, fun j hj => by rw [mr_fs_ne _ _ (by omega), mr_fs_ne _ _ (by omega)]; exact s4 j hj, mr_fs_same _ _ _, fun i g1 g2 => ?_⟩
  · by_cases q : i = e
    · refine ⟨fun j hj => by rw [(ss i).1 j hj, if_pos q]; exact ⟨hb j hj, fun g => hz j g hj⟩, by rw [(ss i).2, if_pos q]⟩
    · obtain ⟨k1, k2⟩ := s3 i g1 (by omega)
      exact ⟨fun j hj => by rw [(ss i).1 j hj, if_neg q]; exact k1 j hj, by rw [(ss i).2, if_neg q]; exact k2⟩
  · rw [mr_fs_ne _ _ (show (15 + i).toNat ≠ 14 by omega), mr_fs_ne _ _ (show (18 + i).toNat ≠ 14 by omega), mr_fs_ne _ _ (show (18 + i).toNat ≠ (15 + e).toNat by omega)]
    refine ⟨?_, (s6 i g1 g2).2⟩
    by_cases q : i = e
    · rw [q, mr_fs_same, if_pos (show e < e + 1 by omega), hx]
      exact mr_ec_cg (fun j hj => by rw [(ss e).1 j hj, if_pos rfl]; exact mr_dvd_same _ _)
    · rw [mr_fs_ne _ _ (show (15 + i).toNat ≠ (15 + e).toNat by omega), (s6 i g1 g2).1]
      by_cases q2 : i < e
      · rw [if_pos q2, if_pos (show i < e + 1 by omega)]
        exact mr_ec_cg (fun j hj => by rw [(ss i).1 j hj, if_neg q]; exact mr_dvd_same _ _)
      · rw [if_neg q2, if_neg (show ¬ i < e + 1 by omega)]
theorem mr_SR_l {t : Int} (h : mr_WB f M w L) (hc : mr_Cq f N) (ht : 0 ≤ t ∧ t < 4) (m : Nat) : ∀ (n c : Nat) (e : Int) (fc B : Nat → Int), c + n = w → 0 ≤ e → e ≤ c → mr_SR f N M w fc B e → 0 ≤ (mr_sdl t n c e fc).2 ∧ (mr_sdl t n c e fc).2 ≤ w ∧ ∃ B' : Nat → Int, mr_sdm N t (n + m) c e B = mr_sdm N t m w (mr_sdl t n c e fc).2 B' ∧ mr_SR f N M w (mr_sdl t n c e fc).1 B' (mr_sdl t n c e fc).2
  | 0, c, e, fc, B, hcn, h0, he, hs => by
    refine ⟨h0, by show e ≤ w; omega, B, ?_, hs⟩
    rw [Nat.zero_add, show c = w by omega]
    rfl
  | n + 1, c, e, fc, B, hcn, h0, he, hs => by
    have hw3 := h.2.2.2.1
    have hF := h.2.2.2.2.2.1 t ht.1 ht.2
    have hc3 : c < 3 := by omega
    have bx := mr_Fo_box hF hc3
    have hM : 0 < M := by have := h.2.2.1; omega
    have nf : mr_nf N t c = mr_ec M (mr_br f t c) := by rw [hc.2.2.2.1 t c ht.1 (by omega) (by omega) (by omega), h.1, Int.toNat_natCast]
    have fe : mr_fa fc t c c = mr_br f t c c := hs.2.1 t c c
    have nz : mr_nf N t c = 0 ↔ ¬ 0 < mr_fa fc t c c := by
      rw [fe, nf]
      refine ⟨fun z y => ?_, fun z => ?_⟩
      · have := mr_ec_inj hM (x := mr_br f t c) (y := fun _ => 0) (by rw [z, mr_ec_z]) c hc3
        have := mr_dvd_small this (by have := bx c hc3; omega) (by have := bx c hc3; omega)
        omega
      · have b0 : mr_br f t c c = 0 := by have := (bx c hc3).1; omega
        have al := (hF.2.2.2.2 c hc3).2.2 b0
        rw [mr_ec_cg (y := fun _ => 0) (fun j hj => by rw [al j hj]; exact mr_dvd_same _ _), mr_ec_z]
    by_cases q : 0 < mr_fa fc t c c
    · have u1 : mr_sdl t (n + 1) c e fc = mr_sdl t n ((c : Int) + 1) (e + 1) (mr_seq fc e (fun j => mr_fa fc t c j) 0) := if_pos q
      have u2 : mr_sdm N t (n + 1 + m) c e B = mr_sdm N t (n + m) ((c : Int) + 1) (e + 1) (mr_fs (mr_fs B (15 + e).toNat (mr_nf N t c)) 14 (e + 1)) := by
        rw [show n + 1 + m = (n + m) + 1 by omega]
        exact if_neg (fun z => nz.mp z q)
      have er : (fun j : Nat => mr_fa fc t c j) = mr_br f t c := by funext j; exact hs.2.1 t c j
      rw [u1, u2, er]
      have hs' := mr_SR_s (x := mr_nf N t c) (r := mr_br f t c) hs ⟨h0, by omega⟩ bx (fun j g1 g2 => mr_Fo_zero hF hc3 g2 (Or.inr g1)) nf
      have ih := mr_SR_l h hc ht m n (c + 1) (e + 1) _ _ (by omega) (by omega) (by omega) hs'
      rw [show ((c + 1 : Nat) : Int) = (c : Int) + 1 by omega] at ih
      exact ih
    · have u1 : mr_sdl t (n + 1) c e fc = mr_sdl t n ((c : Int) + 1) e fc := if_neg q
      have u2 : mr_sdm N t (n + 1 + m) c e B = mr_sdm N t (n + m) ((c : Int) + 1) e B := by
        rw [show n + 1 + m = (n + m) + 1 by omega]
        exact if_pos (nz.mpr q)
      rw [u1, u2]
      have ih := mr_SR_l h hc ht m n (c + 1) e fc B (by omega) (by omega) (by omega) hs
      rw [show ((c + 1 : Nat) : Int) = (c : Int) + 1 by omega] at ih
      exact ih
theorem mr_sdm_z {t : Int} (h : mr_WB f M w L) (hc : mr_Cq f N) (ht : 0 ≤ t ∧ t < 4) : ∀ (m : Nat) (j e : Int) (B : Nat → Int), (w : Int) ≤ j → j + m ≤ 3 → mr_sdm N t m j e B = B
  | 0, j, e, B, _, _ => rfl
  | m + 1, j, e, B, h1, h2 => by
    have hF := h.2.2.2.2.2.1 t ht.1 ht.2
    have nf : mr_nf N t j = 0 := by
      rw [hc.2.2.2.1 t j ht.1 (by omega) (by omega) (by omega), mr_ec_cg (y := fun _ => 0) (fun i hi => by rw [mr_Fo_zero hF (by omega) hi (Or.inl (by omega))]; exact mr_dvd_same _ _), mr_ec_z]
    have u : mr_sdm N t (m + 1) j e B = mr_sdm N t m (j + 1) e B := if_pos nf
    rw [u]
    exact mr_sdm_z h hc ht m (j + 1) e B (by omega) (by omega)
theorem mr_sides_ok {t : Int} (h : mr_WB f M w L) (hc : mr_Cq f N) (ht : 0 ≤ t ∧ t < 4) : mr_sdm N t 3 0 0 (mr_eq0 N) 14 = (mr_sdl t w 0 0 f).2 ∧ mr_OK (mr_fs (mr_sdl t w 0 0 f).1 2 (max 0 (min (mr_sdl t w 0 0 f).2 3))) (mr_sdm N t 3 0 0 (mr_eq0 N)) := by
  have hw3 := h.2.2.2.1
  have hM := h.2.2.1
  have z0 : ∀ k : Nat, k < 21 → mr_eq0 N k = if k < 14 then N k else 0 := fun k hk => by
    rcases (show k < 14 ∨ k = 14 ∨ k = 15 ∨ k = 16 ∨ k = 17 ∨ k = 18 ∨ k = 19 ∨ k = 20 by omega) with q | q | q | q | q | q | q | q
    · rw [if_pos q]
      unfold mr_eq0
      rw [mr_fs_ne _ _ (by omega), mr_fs_ne _ _ (by omega), mr_fs_ne _ _ (by omega), mr_fs_ne _ _ (by omega), mr_fs_ne _ _ (by omega), mr_fs_ne _ _ (by omega), mr_fs_ne _ _ (by omega)]
    all_goals (subst q; rfl)
  have start : mr_SR f N M w f (mr_eq0 N) 0 := ⟨fun _ _ => rfl, fun _ _ _ => rfl, fun i g1 g2 => by omega, fun j hj => by rw [z0 j (by omega), if_pos hj], by rw [z0 14 (by decide), if_neg (by decide)], fun i g1 g2 => by rw [z0 _ (by omega), z0 _ (by omega), if_neg (by omega), if_neg (by omega), if_neg (by omega)]; exact ⟨rfl, rfl⟩⟩
  obtain ⟨l1, l2, B', l3, l4⟩ := mr_SR_l h hc ht (3 - w) w 0 0 f (mr_eq0 N) (by omega) (Int.le_refl 0) (Int.le_refl 0) start
  have l3' : mr_sdm N t 3 0 0 (mr_eq0 N) = B' := by
    rw [show w + (3 - w) = 3 by omega] at l3
    exact l3.trans (mr_sdm_z h hc ht (3 - w) w _ B' (Int.le_refl _) (by omega))
  rw [l3']
  have l1' : 0 ≤ (mr_sdl t w 0 0 f).2 := l1
  have l2' : (mr_sdl t w 0 0 f).2 ≤ w := l2
  have l4' : mr_SR f N M w (mr_sdl t w 0 0 f).1 B' (mr_sdl t w 0 0 f).2 := l4
  generalize mr_sdl t w 0 0 f = D at l1' l2' l4'
  obtain ⟨s1, s2, s3, s4, s5, s6⟩ := l4'
  refine ⟨s5, mr_eqs_ok (r := fun k j => mr_se D.1 k j) (v := fun k => 0) (n := D.2) h hc (by rw [mr_fs_ne _ _ (by decide)]; exact s1 0 (by decide)) (by rw [mr_fs_ne _ _ (by decide)]; exact s1 1 (by decide)) (by rw [mr_fs_same]; omega) (by omega) (fun t c j => by rw [mr_fs2_fa]; exact s2 t c j) (fun k g1 g2 => ⟨fun j hj => mr_fs2_se _ _, (mr_fs2_se _ _).trans (s3 k g1 g2).2⟩) (fun k g1 g2 => ⟨(s3 k g1 g2).1, by show (0 : Int) ≤ 0 ∧ (0 : Int) < M; omega⟩) s4 s5 (fun k g1 g2 => ⟨(s6 k g1 g2).1, by rw [(s6 k g1 g2).2]; split <;> rfl⟩)⟩
end EQ5
theorem cs_equate {w : mr_Wd} (h : mr_IV w) {i : Int} (h_i : InR i) {x : Int} (h_x : InR x) {y : Int} (h_y : InR y) {z : Int} (h_z : InR z) {v : Int} (h_v : InR v) : T_X6_equate [vR 0 0, vI i, vI x, vI y, vI z, vI v] w (fun r w1 => T_X7_equate [vR 18 0, vI i, vI x, vI y, vI z, vI v] w1 (fun r2 w2 => mr_EQ r r2 w2)) := by
  obtain ⟨n0, nx, ct, fk, g, f, im, S, I, th, tp, sz, zo, fr, kd, nb, ft, pl, wd, sm, md, li, sd, T, N, R, K, Sn, ik, s1, s2, ls, hX, hM, hC, h28⟩ := h
  obtain ⟨c1, c2, c3, c4, ⟨c5, c6⟩, c7, c8, c9⟩ := id hC
  obtain ⟨W, L, hNG, e0, e1, e2, hWC, hz, hf0⟩ := mr_OK_NG c4
  have hn0 : 0 ≤ n0 ∧ n0 ≤ 540 := hX.2.2.2.2.2.2.2.2.2.2.2.2.2.2.2.2.1
  have hnx : 0 ≤ nx ∧ nx < 8 := hX.2.2.2.2.2.2.2.2.2.2.2.2.2.2.2.2.2.2.1
  have hct : 0 ≤ ct ∧ ct ≤ 8 := hX.2.2.2.2.2.2.2.2.2.2.2.2.2.2.2.2.2.2.2.1
  have hrow : 0 < f 0 → ∀ (t : Int) (c : Int), 0 ≤ t → t ≤ 3 → 0 ≤ c → c < 3 → mr_nf N t c = mr_ec (f 0) (mr_br f t c.toNat) ∧ mr_box (f 0) (mr_br f t c.toNat) ∧ (∀ j : Nat, (j : Int) < c → mr_br f t c.toNat j = 0) ∧ (mr_fa f t c c = 0 → ∀ j : Nat, j < 3 → mr_br f t c.toNat j = 0) := fun hp t c g1 g2 g3 g4 => by
    obtain ⟨hW, hCq⟩ := hWC hp
    have hF := hW.2.2.2.2.2.1 t g1 (by omega)
    have b := hF.2.2.2.2 c.toNat (by omega)
    refine ⟨hCq.2.2.2.1 t c g1 g2 g3 g4, mr_Fo_box hF (by omega), fun j hj => b.2.1 j (by omega), fun z j hj => b.2.2 (by show mr_fa f t (c.toNat : Int) (c.toNat : Int) = 0; rw [Int.toNat_of_nonneg g3]; exact z) j hj⟩
  have hf13 : 0 < f 0 → 1 ≤ f 1 ∧ f 1 ≤ 3 := fun hp => by have := (hWC hp).1.2.1; have := (hWC hp).1.2.2.2.1; omega
  refine ⟨n0, nx, ct, fk, g, f, im, S, I, i, x, y, z, v, rfl, hX, h_i, h_x, h_y, h_z, h_v, ?_⟩
  have hrw : ((0 ≤ i ∧ i ≤ f 2 ∧ i < 3) ∧ (0 ≤ v ∧ v < f 0) ∧ mr_ro f x y z) ↔ ((0 < N 0 ∧ 0 ≤ i ∧ i ≤ N 14 ∧ i ≠ 3) ∧ ((0 ≤ x ∧ x < N 0) ∧ (0 ≤ y ∧ y < N 0) ∧ (0 ≤ z ∧ z < N 0) ∧ (N 1 < 2 → y = 0) ∧ (N 1 < 3 → z = 0)) ∧ (0 ≤ v ∧ v < N 0)) := by
    by_cases q : 0 < f 0
    · have h2 := (hWC q).1.2.2.2.2.1
      rw [mr_ro_e e0 e1 q (hf13 q)]
      exact ⟨fun hh => ⟨⟨by omega, hh.1.1, by omega, by omega⟩, hh.2.2, by omega⟩, fun hh => ⟨⟨hh.1.2.1, by omega, by omega⟩, by omega, hh.2.1⟩⟩
    · exact ⟨fun hh => absurd hh.2.1 (by omega), fun hh => absurd hh.1.1 (by omega)⟩
  refine ⟨fun hp w1 hX1 hF1 => ?_, fun hno => ?_⟩
  · have hq := hrw.mp hp
    obtain ⟨hW, hCq⟩ := hWC (by omega)
    have hro := hq.2.1
    have hw := hW.2.1
    have hw3 := hW.2.2.2.1
    obtain ⟨bx, ex⟩ := mr_l3_box (M := f 0) (by omega) (by omega) (show 0 ≤ z ∧ z < f 0 by omega) (x := x) (y := y)
    have hz3 : ∀ j, W ≤ j → j < 3 → mr_l3 x y z j = 0 := fun j g1 g2 => by
      rcases (show j = 1 ∨ j = 2 by omega) with e | e <;> subst e
      · exact hro.2.2.2.1 (by omega)
      · exact hro.2.2.2.2 (by omega)
    have key : ∀ N' : Nat → Int, (∀ j : Nat, j < 14 → N' j = N j) → (N' 14 = if i = f 2 then i + 1 else f 2) → (∀ k : Int, 0 ≤ k → k < 3 → N' (15 + k).toNat = (if k = i then mr_ec (f 0) (mr_l3 x y z) else N (15 + k).toNat) ∧ N' (18 + k).toNat = if k = i then v else N (18 + k).toNat) → mr_OK (mr_seq (if i = f 2 then mr_fs f 2 (max 0 (min (i + 1) 3)) else f) i (mr_l3 x y z) v) N' := fun N' k1 k2 k3 => mr_equate_ok hW hCq hp.1 bx hz3 hp.2.1 k1 k2 k3
    have ek : ∀ k : Int, 0 ≤ k → k < 3 → mr_fs (mr_fs N (15 + i).toNat ((x * N 0 + y) * N 0 + z)) (18 + i).toNat v (15 + k).toNat = (if k = i then mr_ec (f 0) (mr_l3 x y z) else N (15 + k).toNat) ∧ mr_fs (mr_fs N (15 + i).toNat ((x * N 0 + y) * N 0 + z)) (18 + i).toNat v (18 + k).toNat = if k = i then v else N (18 + k).toNat := fun k g1 g2 => by
      rw [ex, e0, mr_fs_ne _ _ (show (15 + k).toNat ≠ (18 + i).toNat by omega)]
      by_cases q : k = i
      · rw [q, mr_fs_same, mr_fs_same, if_pos rfl, if_pos rfl]; exact ⟨rfl, rfl⟩
      · rw [mr_fs_ne _ _ (show (15 + k).toNat ≠ (15 + i).toNat by omega), mr_fs_ne _ _ (show (18 + k).toNat ≠ (18 + i).toNat by omega), mr_fs_ne _ _ (show (18 + k).toNat ≠ (15 + i).toNat by omega), if_neg q, if_neg q]; exact ⟨rfl, rfl⟩
    refine ⟨_, _, _, _, _, _, _, _, _, _, _, _, _, _, _, _, _, _, _, _, _, _, _, W, L, i, x, y, z, v, rfl, mr_MW_fr hF1 hM, hNG, h_i, h_x, h_y, h_z, h_v, (by omega), fun _ hi w2 Sn' sm' hsn hM2 hF2 => mr_EQ_of rfl rfl (by rw [if_pos (by omega)]; omega) (mr_iv (mr_o28 hF1 h28) hX1 hF2 hM2 (mr_CI_act hX hC hsn (key _ (fun j hj => by rw [mr_fs_ne _ _ (by omega), mr_fs_ne _ _ (by omega), mr_fs_ne _ _ (by omega)]) (by rw [mr_fs_same, if_pos (by omega)]; omega) (fun k g1 g2 => by rw [mr_fs_ne _ _ (show (15 + k).toNat ≠ 14 by omega), mr_fs_ne _ _ (show (18 + k).toNat ≠ 14 by omega)]; exact ek k g1 g2)))), fun _ hi w2 Sn' sm' hsn hM2 hF2 => mr_EQ_of rfl rfl (by rw [if_neg (by omega)]; omega) (mr_iv (mr_o28 hF1 h28) hX1 hF2 hM2 (mr_CI_act hX hC hsn (key _ (fun j hj => by rw [mr_fs_ne _ _ (by omega), mr_fs_ne _ _ (by omega)]) (by rw [mr_fs_ne _ _ (by omega), mr_fs_ne _ _ (by omega), if_neg (by omega)]; omega) ek))), fun hno => absurd hq hno⟩
  · exact ⟨_, _, _, _, _, _, _, _, _, _, _, _, _, _, _, _, _, _, _, _, _, _, _, W, L, i, x, y, z, v, rfl, hM, hNG, h_i, h_x, h_y, h_z, h_v, (by omega), fun hq => absurd (hrw.mpr hq) hno, fun hq => absurd (hrw.mpr hq) hno, fun _ w2 hM2 hF2 => mr_EQ_of rfl rfl rfl (mr_iv h28 hX hF2 hM2 hC)⟩
theorem cs_drop {w : mr_Wd} (h : mr_IV w) {i : Int} (h_i : InR i) : T_X6_drop [vR 0 0, vI i] w (fun r w1 => T_X7_drop [vR 18 0, vI i] w1 (fun r2 w2 => mr_EQ r r2 w2)) := by
  obtain ⟨n0, nx, ct, fk, g, f, im, S, I, th, tp, sz, zo, fr, kd, nb, ft, pl, wd, sm, md, li, sd, T, N, R, K, Sn, ik, s1, s2, ls, hX, hM, hC, h28⟩ := h
  obtain ⟨c1, c2, c3, c4, ⟨c5, c6⟩, c7, c8, c9⟩ := id hC
  obtain ⟨W, L, hNG, e0, e1, e2, hWC, hz, hf0⟩ := mr_OK_NG c4
  have hn0 : 0 ≤ n0 ∧ n0 ≤ 540 := hX.2.2.2.2.2.2.2.2.2.2.2.2.2.2.2.2.1
  have hnx : 0 ≤ nx ∧ nx < 8 := hX.2.2.2.2.2.2.2.2.2.2.2.2.2.2.2.2.2.2.1
  have hct : 0 ≤ ct ∧ ct ≤ 8 := hX.2.2.2.2.2.2.2.2.2.2.2.2.2.2.2.2.2.2.2.1
  refine ⟨n0, nx, ct, fk, g, f, im, S, I, i, rfl, hX, h_i, ?_⟩
  refine ⟨fun hp w1 hX1 hF1 => ?_, fun hno => ?_⟩
  · have hpos : 0 < f 0 := by rcases Int.lt_or_lt_of_ne (show f 0 ≠ 0 from fun z0 => by have := (hz z0).2; omega) with y | y <;> omega
    obtain ⟨hW, hCq⟩ := hWC hpos
    exact ⟨_, _, _, _, _, _, _, _, _, _, _, _, _, _, _, _, _, _, _, _, _, _, _, W, L, i, rfl, mr_MW_fr hF1 hM, hNG, h_i, (by omega), fun _ w2 Sn' N' sm' hsn hd hM2 hF2 => mr_EQ_of rfl rfl (by omega) (mr_iv (mr_o28 hF1 h28) hX1 hF2 hM2 (mr_CI_act hX hC hsn (mr_drop_ok hW hCq hp hd))), fun hno => absurd ⟨hp.1, by omega⟩ hno⟩
  · exact ⟨_, _, _, _, _, _, _, _, _, _, _, _, _, _, _, _, _, _, _, _, _, _, _, W, L, i, rfl, hM, hNG, h_i, (by omega), fun hq => absurd ⟨hq.1, by omega⟩ hno, fun _ w2 hM2 hF2 => mr_EQ_of rfl rfl rfl (mr_iv h28 hX hF2 hM2 hC)⟩
theorem cs_sides {w : mr_Wd} (h : mr_IV w) {p : Int} (h_p : InR p) : T_X6_sides [vR 0 0, vI p] w (fun r w1 => T_X7_sides [vR 18 0, vI p] w1 (fun r2 w2 => mr_EQ r r2 w2)) := by
  obtain ⟨n0, nx, ct, fk, g, f, im, S, I, th, tp, sz, zo, fr, kd, nb, ft, pl, wd, sm, md, li, sd, T, N, R, K, Sn, ik, s1, s2, ls, hX, hM, hC, h28⟩ := h
  obtain ⟨c1, c2, c3, c4, ⟨c5, c6⟩, c7, c8, c9⟩ := id hC
  obtain ⟨W, L, hNG, e0, e1, e2, hWC, hz, hf0⟩ := mr_OK_NG c4
  have hn0 : 0 ≤ n0 ∧ n0 ≤ 540 := hX.2.2.2.2.2.2.2.2.2.2.2.2.2.2.2.2.1
  have hnx : 0 ≤ nx ∧ nx < 8 := hX.2.2.2.2.2.2.2.2.2.2.2.2.2.2.2.2.2.2.1
  have hct : 0 ≤ ct ∧ ct ≤ 8 := hX.2.2.2.2.2.2.2.2.2.2.2.2.2.2.2.2.2.2.2.1
  refine ⟨n0, nx, ct, fk, g, f, im, S, I, p, rfl, hX, h_p, ?_⟩
  refine ⟨fun hp w1 hX1 hF1 => ?_, fun hno => ?_⟩
  · obtain ⟨hW, hCq⟩ := hWC hp.1
    have hok := mr_sides_ok hW hCq hp.2
    have ew : (f 1).toNat = W := by have := hW.2.1; omega
    rw [← ew] at hok
    exact ⟨_, _, _, _, _, _, _, _, _, _, _, _, _, _, _, _, _, _, _, _, _, _, _, W, L, p, rfl, mr_MW_fr hF1 hM, hNG, h_p, (by omega), fun _ w2 Sn' sm' hsn hM2 hF2 => mr_EQ_of rfl rfl hok.1 (mr_iv (mr_o28 hF1 h28) hX1 hF2 hM2 (mr_CI_act hX hC hsn hok.2)), fun hno => absurd ⟨by omega, by omega, by omega⟩ hno⟩
  · exact ⟨_, _, _, _, _, _, _, _, _, _, _, _, _, _, _, _, _, _, _, _, _, _, _, W, L, p, rfl, hM, hNG, h_p, (by omega), fun hq => absurd ⟨by omega, by omega, by omega⟩ hno, fun _ w2 hM2 hF2 => mr_EQ_of rfl rfl rfl (mr_iv h28 hX hF2 hM2 hC)⟩
