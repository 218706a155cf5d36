section NW4
variable {p : Program} {l : Launch} {e : Env} {R : Room} {s : State} {m : MethodId} {args : Array Value} {below : List Frame} {meth : Method} {c : Code} {G : mr_G} {own : String} {cc : ByteArray} {nL : Nat} {ret : Option FieldType} {nc ns h : Nat} {Q : State → Prop} {pc : Nat} {ls : List (Option mr_AV)} {st : List mr_AV} {w : mr_Wd}
theorem mrE_get {a idx ci k : Nat} {fs : List mr_AV} {v : mr_AV} (hh : mr_Hy p s m args meth c G own cc nL ret) (d : decode cc pc = .ok (.getfield idx, 3)) (hf : mr_FL own idx ci k) (hw : w a = eO ci fs) (hv : fs[k]? = some v) (kk : mr_E p l e R s m args below meth c G nL nc ns Q h (pc + 3) ls (v :: st) w) : mr_E p l e R s m args below meth c G nL nc ns Q h pc ls (vR a 0 :: st) w := by
  intro H locs lc hz hC hS hl
  obtain ⟨hx, hb, hml, hr, hlk, hown, hts, hK⟩ := id hh
  obtain ⟨C, T, N, h1, h2, h3, h4, h5⟩ := hf
  have hc := hC a
  rw [hw] at hc
  have hP : va_P G.1 vwCl [(mr_ad G a 0, .inr (ci, fs.map (mr_cv G)))] H := fun k9 q h9 => by
    cases k9 with
    | zero => cases h9; exact hc
    | succ n => simp at h9
  exact va_get (T := T) (N := N) (ci := ci) hx hb hts h3 hown hK.1 hP 0 rfl h1 k h2 (hts _ h5) (fun x hx => by rw [h4] at hx; exact hx) (v := mr_cv G v) (by rw [List.getElem?_map, hv]; rfl) d (kk H locs lc hz hC hS hl)
/-- what a constructor's contract asks and gives -/
def nw_Pc (G : mr_G) (a : List mr_AV) (w : mr_Wd) (h : Nat) : Array Value → State → Prop := fun v U => mr_Pc G a w v U ∧ U.heap.size = h
def nw_Q (G : mr_G) (Po : Option mr_AV → mr_Wd → Prop) (h2 : Nat) : Array Value → State → Outcome → State → Prop := fun a st o t => mr_Q G Po a st o t ∧ t.heap.size = h2
theorem nw_Pc.blind (G : mr_G) (a : List mr_AV) (w : mr_Wd) (h : Nat) : FrameBlind (nw_Pc G a w h) := fun v U g mk q => ⟨mr_Pc.blind G a w v U g mk q.1, q.2⟩
theorem mrE_callI {y : MethodName} {idx n b : Nat} {bytes : ByteArray} {maxL rf2 rl2 mc ms h2 : Nat} {Pp : Option mr_AV → mr_Wd → Prop} (as : List mr_AV) {st0 : List mr_AV} (hh : mr_Hy p s m args meth c G own cc nL ret)
    (d : decode cc pc = .ok (.invokespecial idx, 3)) (hM : Met l y (Cond.code y bytes maxL none :: mr_ws) { frames := rf2, cells := mc, slots := ms, locals := rl2 } (nw_Pc G (vR b 0 :: as) w h) (nw_Q G Pp h2) mc ms (mr_A G)) (hl0 : Cond.methodLink own idx y ∈ mr_ws) (hcl : mr_CL y bytes maxL none n) (hy : y.name = "<init>") (hin : Cond.instanceMethod y ∈ mr_ws) (hR : rf2 + 1 ≤ R.frames ∧ 8 + (maxL + 11) + rl2 ≤ R.locals) (hn : as.length = n) (hst : st0 = as.reverse ++ vR b 0 :: st) (hcat : (st.map mr_cat).sum ≤ 8) (hcs : nc + mc ≤ R.cells ∧ ns + ms ≤ R.slots)
    (k : ∀ (r : Option mr_AV) (w2 : mr_Wd), Pp r w2 → mr_E p l e R s m args below meth c G nL (nc + mc) (ns + ms) Q h2 (pc + 3) ls (r.toList ++ st) w2) : mr_E p l e R s m args below meth c G nL nc ns Q h pc ls st0 w := by
  intro H locs lc hz hC hS hl
  obtain ⟨hx, hb, hml, hr, hlk, hown, hts, hK⟩ := id hh
  have hstk : st0.map (mr_cv G) = (as.map (mr_cv G)).reverse ++ .ref (mr_ad G b 0) :: st.map (mr_cv G) := by
    rw [hst]; simp [mr_cv]
  have hr9 := va_runI (e := e) (below := below) (meth := meth) (cells := nc) (slots := ns) (H := H) (locs := locs) (g := F0 m pc lc (st0.map (mr_cv G))) (rest := st.map (mr_cv G)) (As := as.map (mr_cv G)) (b := mr_ad G b 0) (n := n) (index := idx) ⟨hx, hb, hml, hown, hts⟩ hM ⟨callB_of n hts (mr_goodIn hcl.1) rfl rfl rfl (hts _ hcl.2.1) (hts _ hl0) hcl.2.2 hR, hy, hts _ hin⟩
    ⟨nw_Pc.blind _ _ _ _, fun U hU hW => ⟨⟨rfl, by rw [hU]; exact hC, hK.to (locs := locs) hW (by rw [hU]; exact hS)⟩, by rw [hU]; exact hz⟩⟩ rfl (by rw [List.length_map]; exact hn) hl.1 hstk (lv_room (by rw [mr_cats]; exact hcat)) d hcs
  intro T hT X
  obtain ⟨v, st₀, t, T', L, h0, X', hL, e1, e2, ⟨⟨⟨r, w2, hv, hp, hC2⟩, hz9, hk9⟩, hsz⟩, go⟩ := hr9 T hT X
  cases hv
  rw [h0] at hz9 hk9
  have hS2 : va_S (mr_A G) s.heap T'.heap (locs ++ L) := ⟨Nat.le_trans hS.1 (by rw [e1]; exact hz9), fun q h1 h2 => by rw [e1, hk9 q (Nat.lt_of_lt_of_le h1 hS.1) h2]; exact hS.2.1 q h1 h2, fun q hq => by
      rcases List.mem_append.mp hq with h | h
      · exact hS.2.2 q h
      · exact hL q h⟩
  obtain ⟨t2, a1, b1⟩ := k r w2 hp T'.heap (locs ++ L) lc (by rw [e1]; exact hsz) (by rw [e1]; exact hC2) hS2 hl T' rfl X'
  refine ⟨t2, go t2 ?_, b1⟩
  have e3 : (r.map (mr_cv G)).toList ++ st.map (mr_cv G) = (r.toList ++ st).map (mr_cv G) := by cases r <;> simp
  show Steps _ _ _ (T'.setTop (F0 m (pc + 3) lc ((r.map (mr_cv G)).toList ++ st.map (mr_cv G)))) t2
  rw [e3]
  exact a1
end NW4
