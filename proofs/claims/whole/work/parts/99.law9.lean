section MX7
variable {p : Program} {l : Launch} {e : Env} {R : Room} {s : State} {m : MethodId} {args : Array Value} {below : List Frame} {meth : Method} {c : Code} {G : mr_G} {rt : Option FieldType} {Q : State → Prop} {L : Nat} {xs : Nat → Int32}
set_option maxHeartbeats 4000000 in
/-- THE LAW'S LOOP: at its head, both sides in step -/
theorem law_loop (hlt : l.stackTraces = false) (hKX : mx_K G s) (hL0 : mr_LH p s m args meth c G rt R 0 0 L xs) (hLs : L ≤ 3072) (hend : ∀ (a b : Nat) (w : mr_Wd) (ls : List (Option mr_AV)), a ≤ R.cells → b ≤ R.slots → mr_DJ p l e R s m args below meth c G 7 a b Q 1341 ls [vI 1] w) :
    ∀ (n : Nat) (i : Int) (nc ns : Nat) (w : mr_Wd), 0 ≤ i → (L : Int) < i + 6 * n → i ≤ 3078 → nc + n ≤ R.cells → ns + 6 * n ≤ R.slots → mr_IV w → mr_DJ p l e R s m args below meth c G 7 nc ns Q 23 (mr_LS i) [] w := by
  obtain ⟨hh, hX, hbl, hbA, hL, hRR, -, -⟩ := id hL0
  have hz0 : ∀ (nc ns : Nat) (i : Int) (w : mr_Wd), 0 ≤ i → i ≤ 3078 → nc ≤ R.cells → ns ≤ R.slots → (i + 6 ≤ L → mr_DJ p l e R s m args below meth c G 7 nc ns Q 33 (mr_LS i) [] w) → mr_DJ p l e R s m args below meth c G 7 nc ns Q 23 (mr_LS i) [] w := fun nc ns i w h0 h3 hc1 hc2 kk => by
    refine mrD_iload hh dL_law_23 (x := i) rfl ?_
    refine mrD_aload_nS hh dL_law_25 (j := 300) rfl ?_
    refine mrD_slen hh hX hbl hbA dL_law_26 ?_
    refine mrD_bipush hh dL_law_27 (by decide) ?_
    refine mrD_isub hh dL_law_29 ?_
    refine mrD_gt (tgt := 1340) hh dL_law_30 (by decide) ⟨by omega, by omega⟩ ⟨by omega, by omega⟩ (fun _ => ?_) (fun hle => kk (by omega))
    exact mrD_iconst hh dL_law_1340 (hend nc ns w _ hc1 hc2)
  intro n
  induction n with
  | zero =>
    intro i nc ns w h0 h1 h3 hc1 hc2 hI
    exact hz0 nc ns i w h0 h3 hc1 hc2 (fun z => absurd h1 (by omega))
  | succ n ih =>
    intro i nc ns w h0 h1 h3 hc1 hc2 hI
    refine hz0 nc ns i w h0 h3 (by omega) (by omega) (fun hi => ?_)
    have hA : mr_LH p s m args meth c G rt R nc ns L xs := ⟨hh, hX, hbl, hbA, hL, hRR, by omega, by omega⟩
    have hB : mr_LH p s m args meth c G rt R (nc + 1) (ns + 6) L xs := ⟨hh, hX, hbl, hbA, hL, hRR, by omega, by omega⟩
    have nxt : ∀ (a b : Nat) (w2 : mr_Wd), a + n ≤ R.cells → b + 6 * n ≤ R.slots → mr_IV w2 → mr_DJ p l e R s m args below meth c G 7 a b Q 1334 (mr_LS i) [] w2 := fun a b w2 g1 g2 hI2 => by
      refine mrD_iinc hh dL_law_1334 rfl (by decide) (x := i) rfl ?_
      refine mrD_goto (tgt := 23) hh dL_law_1337 (by decide) ?_
      exact ih (i + 6) a b w2 (by omega) (by omega) (by omega) g1 g2 hI2
    have kA : ∀ w2 : mr_Wd, mr_IV w2 → mr_DJ p l e R s m args below meth c G 7 nc ns Q 1334 (mr_LS i) [] w2 := fun w2 hI2 => nxt nc ns w2 (by omega) (by omega) hI2
    have kB : ∀ w2 : mr_Wd, mr_IV w2 → mr_DJ p l e R s m args below meth c G 7 (nc + 1) (ns + 6) Q 1334 (mr_LS i) [] w2 := fun w2 hI2 => nxt (nc + 1) (ns + 6) w2 (by omega) (by omega) hI2
    refine mrD_aload_nS hh dL_law_33 (j := 300) rfl ?_
    refine mrD_iload hh dL_law_34 (x := i) rfl ?_
    refine mrD_sld hh hX hbl hbA h0 (by omega) hL dL_law_36 ?_
    refine mrD_bipush hh dL_law_37 (by decide) ?_
    refine mrD_iand 5 (by decide) hh dL_law_39 (by decide) ?_
    have hy : 0 ≤ (xs i.toNat).toInt % 2 ^ 5 ∧ (xs i.toNat).toInt % 2 ^ 5 < 32 := by omega
    generalize (xs i.toNat).toInt % 2 ^ 5 = y at hy
    rcases (show y = 0 ∨ y = 1 ∨ y = 2 ∨ y = 3 ∨ y = 4 ∨ y = 5 ∨ y = 6 ∨ y = 7 ∨ y = 8 ∨ y = 9 ∨ y = 10 ∨ y = 11 ∨ y = 12 ∨ y = 13 ∨ y = 14 ∨ y = 15 ∨ y = 16 ∨ y = 17 ∨ y = 18 ∨ y = 19 ∨ y = 20 ∨ y = 21 ∨ y = 22 ∨ y = 23 ∨ y = 24 ∨ y = 25 ∨ y = 26 ∨ y = 27 ∨ y = 28 ∨ y = 29 ∨ y = 30 ∨ y = 31 by omega) with e | e | e | e | e | e | e | e | e | e | e | e | e | e | e | e | e | e | e | e | e | e | e | e | e | e | e | e | e | e | e | e <;> subst e
    · exact mrD_tableIn (tgt := 180) hh dL_law_40 ⟨by decide, by decide⟩ (by decide) (by decide) rfl (by decide) (lc_feed hA h0 hi hI kA)
    · exact mrD_tableIn (tgt := 253) hh dL_law_40 ⟨by decide, by decide⟩ (by decide) (by decide) rfl (by decide) (lc_end hA h0 hi hI kA)
    · exact mrD_tableIn (tgt := 278) hh dL_law_40 ⟨by decide, by decide⟩ (by decide) (by decide) rfl (by decide) (lc_text hA h0 hi hI kA)
    · exact mrD_tableIn (tgt := 291) hh dL_law_40 ⟨by decide, by decide⟩ (by decide) (by decide) rfl (by decide) (lc_fault hA h0 hi hI kA)
    · exact mrD_tableIn (tgt := 304) hh dL_law_40 ⟨by decide, by decide⟩ (by decide) (by decide) rfl (by decide) (lc_now hA h0 hi hI kA)
    · exact mrD_tableIn (tgt := 329) hh dL_law_40 ⟨by decide, by decide⟩ (by decide) (by decide) rfl (by decide) (lc_lead hA h0 hi hI kA)
    · exact mrD_tableIn (tgt := 366) hh dL_law_40 ⟨by decide, by decide⟩ (by decide) (by decide) rfl (by decide) (lc_form hA h0 hi hI kA)
    · exact mrD_tableIn (tgt := 403) hh dL_law_40 ⟨by decide, by decide⟩ (by decide) (by decide) rfl (by decide) (lc_many hA h0 hi hI kA)
    · exact mrD_tableIn (tgt := 428) hh dL_law_40 ⟨by decide, by decide⟩ (by decide) (by decide) rfl (by decide) (lc_row hlt hKX hB h0 hi hI kB)
    · exact mrD_tableIn (tgt := 496) hh dL_law_40 ⟨by decide, by decide⟩ (by decide) (by decide) rfl (by decide) (lc_rank hA h0 hi hI kA)
    · exact mrD_tableIn (tgt := 557) hh dL_law_40 ⟨by decide, by decide⟩ (by decide) (by decide) rfl (by decide) (lc_beside hA h0 hi hI kA)
    · exact mrD_tableIn (tgt := 618) hh dL_law_40 ⟨by decide, by decide⟩ (by decide) (by decide) rfl (by decide) (lc_few hA h0 hi hI kA)
    · exact mrD_tableIn (tgt := 643) hh dL_law_40 ⟨by decide, by decide⟩ (by decide) (by decide) rfl (by decide) (lc_nought hA h0 hi hI kA)
    · exact mrD_tableIn (tgt := 668) hh dL_law_40 ⟨by decide, by decide⟩ (by decide) (by decide) rfl (by decide) (lc_lies hA h0 hi hI kA)
    · exact mrD_tableIn (tgt := 705) hh dL_law_40 ⟨by decide, by decide⟩ (by decide) (by decide) rfl (by decide) (lc_come hA h0 hi hI kA)
    · exact mrD_tableIn (tgt := 766) hh dL_law_40 ⟨by decide, by decide⟩ (by decide) (by decide) rfl (by decide) (lc_clear hA h0 hi hI kA)
    · exact mrD_tableIn (tgt := 819) hh dL_law_40 ⟨by decide, by decide⟩ (by decide) (by decide) rfl (by decide) (lc_join hA h0 hi hI kA)
    · exact mrD_tableIn (tgt := 896) hh dL_law_40 ⟨by decide, by decide⟩ (by decide) (by decide) rfl (by decide) (lc_upright hA h0 hi hI kA)
    · exact mrD_tableIn (tgt := 933) hh dL_law_40 ⟨by decide, by decide⟩ (by decide) (by decide) rfl (by decide) (lc_times hA h0 hi hI kA)
    · exact mrD_tableIn (tgt := 1010) hh dL_law_40 ⟨by decide, by decide⟩ (by decide) (by decide) rfl (by decide) (lc_equate hA h0 hi hI kA)
    · exact mrD_tableIn (tgt := 1083) hh dL_law_40 ⟨by decide, by decide⟩ (by decide) (by decide) rfl (by decide) (lc_drop hA h0 hi hI kA)
    · exact mrD_tableIn (tgt := 1108) hh dL_law_40 ⟨by decide, by decide⟩ (by decide) (by decide) rfl (by decide) (lc_equation hA h0 hi hI kA)
    · exact mrD_tableIn (tgt := 1145) hh dL_law_40 ⟨by decide, by decide⟩ (by decide) (by decide) rfl (by decide) (lc_solutions hA h0 hi hI kA)
    · exact mrD_tableIn (tgt := 1158) hh dL_law_40 ⟨by decide, by decide⟩ (by decide) (by decide) rfl (by decide) (lc_solution hA h0 hi hI kA)
    · exact mrD_tableIn (tgt := 1171) hh dL_law_40 ⟨by decide, by decide⟩ (by decide) (by decide) rfl (by decide) (lc_witness hA h0 hi hI kA)
    · exact mrD_tableIn (tgt := 1184) hh dL_law_40 ⟨by decide, by decide⟩ (by decide) (by decide) rfl (by decide) (lc_kernel hA h0 hi hI kA)
    · exact mrD_tableIn (tgt := 1209) hh dL_law_40 ⟨by decide, by decide⟩ (by decide) (by decide) rfl (by decide) (lc_sides hA h0 hi hI kA)
    · exact mrD_tableIn (tgt := 1234) hh dL_law_40 ⟨by decide, by decide⟩ (by decide) (by decide) rfl (by decide) (lc_drawn hA h0 hi hI kA)
    · exact mrD_tableIn (tgt := 1271) hh dL_law_40 ⟨by decide, by decide⟩ (by decide) (by decide) rfl (by decide) (lc_undo hA h0 hi hI kA)
    · exact mrD_tableIn (tgt := 1284) hh dL_law_40 ⟨by decide, by decide⟩ (by decide) (by decide) rfl (by decide) (lc_image hA h0 hi hI kA)
    · exact mrD_tableIn (tgt := 1309) hh dL_law_40 ⟨by decide, by decide⟩ (by decide) (by decide) rfl (by decide) (lc_restore hA h0 hi hI kA)
    · exact mrD_tableOut (tgt := 1334) hh dL_law_40 ⟨by decide, by decide⟩ (Or.inr (by decide)) (by decide) (kA w hI)
end MX7
