/-! BOTH SIDES: alike -/
def mr_OK (f N : Nat → Int) : Prop := (f 0 = 0 ∧ f 1 = 0 ∧ f 2 = 0 ∧ N 0 = 0 ∧ N 1 = 0 ∧ N 14 = 0) ∨ ∃ (M : Int) (W : Nat) (L : Int → mr_V → Prop), mr_WB f M W L ∧ mr_Cq f N
theorem mr_Cq_cg {f N N' : Nat → Int} (h : mr_Cq f N) (e : ∀ k : Nat, k < 21 → N' k = N k) : mr_Cq f N' := by
  obtain ⟨c0, c1, c2, c3, c4⟩ := h
  refine ⟨by rw [e 0 (by decide)]; exact c0, by rw [e 1 (by decide)]; exact c1, by rw [e 14 (by decide)]; exact c2, fun t c g1 g2 g3 g4 => ?_, fun i g1 g2 => ?_⟩
  · unfold mr_nf; rw [e _ (by omega)]; exact c3 t c g1 g2 g3 g4
  · rw [e _ (by omega), e _ (by omega)]; exact c4 i g1 g2
theorem mr_OK_cg {f N N' : Nat → Int} (h : mr_OK f N) (e : ∀ k : Nat, k < 21 → N' k = N k) : mr_OK f N' := by
  rcases h with ⟨h0, h1, h2, h3, h4, h5⟩ | ⟨M, W, L, h1, h2⟩
  · exact Or.inl ⟨h0, h1, h2, by rw [e 0 (by decide)]; exact h3, by rw [e 1 (by decide)]; exact h4, by rw [e 14 (by decide)]; exact h5⟩
  · exact Or.inr ⟨M, W, L, h1, mr_Cq_cg h2 e⟩
theorem mr_OK_NG {f N : Nat → Int} (h : mr_OK f N) : ∃ (W : Nat) (L : Int → mr_V → Prop), mr_NG N W L ∧ N 0 = f 0 ∧ N 1 = f 1 ∧ N 14 = f 2 ∧ (0 < f 0 → mr_WB f (f 0) W L ∧ mr_Cq f N) ∧ (f 0 = 0 → f 1 = 0 ∧ f 2 = 0) ∧ (0 ≤ f 0 ∧ f 0 ≤ 30) := by
  rcases h with ⟨h0, h1, h2, h3, h4, h5⟩ | ⟨M, W, L, h1, h2⟩
  · exact ⟨0, fun _ _ => True, ⟨by omega, by omega, by omega, fun z => by omega⟩, by omega, by omega, by omega, fun z => by omega, fun _ => ⟨h1, h2⟩, by omega⟩
  · have a := mr_Cq_NG h1 h2
    have b := h1.1
    have c := h1.2.2.1
    exact ⟨W, L, a, h2.1, h2.2.1, h2.2.2.1, fun _ => ⟨by rw [b]; exact h1, h2⟩, fun z => by omega, by omega⟩
def mr_CI (n0 nx ct fk : Int) (g f im : Nat → Int) (S I : Nat → Nat → Int) (tp ft nb wd sm : Int) (T N K Sn ik : Nat → Int) : Prop := tp = n0 ∧ (∀ j : Nat, (j : Int) < n0 → T j = mr_ba n0 g j) ∧ ft = fk ∧ mr_OK f N ∧ (sm = ct ∧ ∀ j : Nat, (j : Int) < ct → mr_OK (S ((nx - ct + j) % 8).toNat) (fun k => Sn (21 * j + k))) ∧ (∀ q : Nat, q < 2 → im q = ik q ∧ (ik q ≠ 0 → mr_OK (I q) (fun k => K (21 * q + k)))) ∧ (-1000000 ≤ nb ∧ nb ≤ 1000000) ∧ InL wd
def mr_IV (w : mr_Wd) : Prop := ∃ (n0 nx ct fk : Int) (g f im : Nat → Int) (S I : Nat → Nat → Int) (th tp sz zo fr kd nb ft pl wd sm md li sd : Int) (T N R K Sn ik s1 s2 ls : Nat → Int), mr_XS w (n0, g, f, nx, ct, S, I, im, fk) ∧ mr_MW w th tp sz zo fr kd nb ft pl wd sm md li sd T N R K Sn ik s1 s2 ls ∧ mr_CI n0 nx ct fk g f im S I tp ft nb wd sm T N K Sn ik ∧ ∃ fo : Nat → Int, w 28 = eA 3 1 fo
/-- the same answer, and alike again -/
def mr_EQ (r r2 : Option mr_AV) (w2 : mr_Wd) : Prop := ∃ v : Int, r = some (vI v) ∧ r2 = some (vI v) ∧ mr_IV w2
theorem mr_XS_cg {w w' : mr_Wd} {q : mr_SX} (h : ∀ k : Nat, k < 18 → w' k = w k) (hX : mr_XS w q) : mr_XS w' q := by
  obtain ⟨n0, g, f, nx, ct, S, I, im, fk⟩ := q
  obtain ⟨⟨sd, h0⟩, h1, h2, h3, h4, h5, h6, h7, ⟨m0, cl0, ct0, R0, F0, hS⟩, ⟨rv, rk, rs, rn, ro, rl_, rln, rmd, ra, rb, h11, hrv, hrs⟩, h12, ⟨f13, h13⟩, ⟨nm, h14, hnm⟩, h15, h16, ⟨r17, h17⟩, hn0, hB, hnx, hct, hSB, hIB, him, hfk⟩ := hX
  exact ⟨⟨sd, (h 0 (by decide)).trans h0⟩, (h 1 (by decide)).trans h1, (h 2 (by decide)).trans h2, (h 3 (by decide)).trans h3, (h 4 (by decide)).trans h4, (h 5 (by decide)).trans h5, (h 6 (by decide)).trans h6, (h 7 (by decide)).trans h7, ⟨m0, cl0, ct0, R0, F0, (h 8 (by decide)).trans hS.1, (h 9 (by decide)).trans hS.2.1, (h 10 (by decide)).trans hS.2.2⟩, ⟨rv, rk, rs, rn, ro, rl_, rln, rmd, ra, rb, (h 11 (by decide)).trans h11, hrv, hrs⟩, (h 12 (by decide)).trans h12, ⟨f13, (h 13 (by decide)).trans h13⟩, ⟨nm, (h 14 (by decide)).trans h14, hnm⟩, (h 15 (by decide)).trans h15, (h 16 (by decide)).trans h16, ⟨r17, (h 17 (by decide)).trans h17⟩, hn0, hB, hnx, hct, hSB, hIB, him, hfk⟩
section IV
variable {n0 nx ct fk : Int} {g f im : Nat → Int} {S I : Nat → Nat → Int} {th tp sz zo fr kd nb ft pl wd sm md li sd : Int} {T N R K Sn ik s1 s2 ls : Nat → Int} {w w1 w2 : mr_Wd}
theorem mr_MW_fr (hF : mr_Fr w w1) (hM : mr_MW w th tp sz zo fr kd nb ft pl wd sm md li sd T N R K Sn ik s1 s2 ls) : mr_MW w1 th tp sz zo fr kd nb ft pl wd sm md li sd T N R K Sn ik s1 s2 ls := by
  obtain ⟨h18, h19, h20, h21, h22, h23, h24, h25, h26, h27, hs1, hs2, hik⟩ := hM
  exact ⟨(hF 18 (by decide)).trans h18, (hF 19 (by decide)).trans h19, (hF 20 (by decide)).trans h20, (hF 21 (by decide)).trans h21, (hF 22 (by decide)).trans h22, (hF 23 (by decide)).trans h23, (hF 24 (by decide)).trans h24, (hF 25 (by decide)).trans h25, (hF 26 (by decide)).trans h26, (hF 27 (by decide)).trans h27, hs1, hs2, hik⟩
theorem mr_o28 (hF : mr_Fr w w1) (h : ∃ fo : Nat → Int, w 28 = eA 3 1 fo) : ∃ fo : Nat → Int, w1 28 = eA 3 1 fo := h.elim (fun fo h => ⟨fo, (hF 28 (by decide)).trans h⟩)
theorem mr_iv (h28 : ∃ fo : Nat → Int, w1 28 = eA 3 1 fo) (hX : mr_XS w1 (n0, g, f, nx, ct, S, I, im, fk)) (hF : mr_FM w1 w2) (hM : mr_MW w2 th tp sz zo fr kd nb ft pl wd sm md li sd T N R K Sn ik s1 s2 ls) (hC : mr_CI n0 nx ct fk g f im S I tp ft nb wd sm T N K Sn ik) : mr_IV w2 := ⟨n0, nx, ct, fk, g, f, im, S, I, th, tp, sz, zo, fr, kd, nb, ft, pl, wd, sm, md, li, sd, T, N, R, K, Sn, ik, s1, s2, ls, mr_XS_cg (fun k hk => hF k (Or.inl hk)) hX, hM, hC, h28.elim (fun fo h => ⟨fo, (hF 28 (Or.inr (by decide))).trans h⟩)⟩
theorem mr_EQ_of {r r2 : Option mr_AV} {v v2 : Int} (h1 : r = some (vI v)) (h2 : r2 = some (vI v2)) (e : v2 = v) (h : mr_IV w2) : mr_EQ r r2 w2 := ⟨v, h1, by rw [h2, e], h⟩
/-- an act: the ring goes on, the book is another one -/
theorem mr_CI_act {f' N' : Nat → Int} {Sn' : Nat → Int} {sm' : Int} (hX : mr_XS w (n0, g, f, nx, ct, S, I, im, fk)) (hC : mr_CI n0 nx ct fk g f im S I tp ft nb wd sm T N K Sn ik) (hs : mr_snr N Sn sm Sn' sm') (hO : mr_OK f' N') : mr_CI n0 ((nx + 1) % 8) (min (ct + 1) 8) fk g f' im (fun i => if i = nx.toNat then f else S i) I tp ft nb wd sm' T N' K Sn' ik := by
  obtain ⟨c1, c2, c3, c4, ⟨c5, c6⟩, c7, c8, c9⟩ := hC
  obtain ⟨s1, s2, s3⟩ := hs
  have hnx : 0 ≤ nx ∧ nx < 8 := hX.2.2.2.2.2.2.2.2.2.2.2.2.2.2.2.2.2.2.1
  have hct : 0 ≤ ct ∧ ct ≤ 8 := hX.2.2.2.2.2.2.2.2.2.2.2.2.2.2.2.2.2.2.2.1
  have es : sm' = min (ct + 1) 8 := by rw [s1, c5]
  refine ⟨c1, c2, c3, hO, ⟨es, fun j hj => ?_⟩, c7, c8, c9⟩
  by_cases e : (j : Int) = sm' - 1
  · have ei : (((nx + 1) % 8 - min (ct + 1) 8 + (j : Int)) % 8).toNat = nx.toNat := by omega
    show mr_OK (if (((nx + 1) % 8 - min (ct + 1) 8 + (j : Int)) % 8).toNat = nx.toNat then f else S _) _
    rw [if_pos ei]
    exact mr_OK_cg c4 (fun k hk => by show Sn' (21 * j + k) = N k; rw [show j = (sm' - 1).toNat by omega]; exact s2 k hk)
  · have ei : (((nx + 1) % 8 - min (ct + 1) 8 + (j : Int)) % 8).toNat ≠ nx.toNat := by omega
    show mr_OK (if (((nx + 1) % 8 - min (ct + 1) 8 + (j : Int)) % 8).toNat = nx.toNat then f else S _) _
    rw [if_neg ei]
    have h6 := c6 (j + (sm + 1 - sm').toNat) (by omega)
    rw [show ((nx - ct + ((j + (sm + 1 - sm').toNat : Nat) : Int)) % 8).toNat = (((nx + 1) % 8 - min (ct + 1) 8 + (j : Int)) % 8).toNat by omega] at h6
    exact mr_OK_cg h6 (fun k hk => s3 j k (by omega) hk)
end IV
theorem mr_tbk_box {M : Int} (hM : 0 < M) {x : mr_V} (h : mr_box M x) : mr_tbk M (mr_ec M x) = mr_tb x := by
  rw [mr_tbk_e]
  unfold mr_tb
  rw [mr_dec_ec_box hM h 0 (by decide), mr_dec_ec_box hM h 1 (by decide), mr_dec_ec_box hM h 2 (by decide)]
theorem mr_OK_kf {f N : Nat → Int} {M : Int} {W : Nat} {L : Int → mr_V → Prop} (h : mr_WB f M W L) (hc : mr_Cq f N) {q : Int} (hq : 0 ≤ q ∧ q < 4) {g : Int → Int → Int} {L' : Int → mr_V → Prop} (h' : mr_WB (mr_pA f q g) M W L') : mr_OK (mr_pA f q g) (mr_kf M N q (mr_br (mr_pA f q g) q)) := Or.inr ⟨M, W, L', h', mr_Cq_pA h hc hq⟩
