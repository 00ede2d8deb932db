/-! F5: the law: its loop and its whole body -/
theorem lw_cmp {L i : Nat} (hL : L ≤ 3072) (hi : i ≤ 4000) : nI L - 6 < nI i ↔ ¬ (i + 6 ≤ L) := by
  have e : (nI L - 6).toInt = (L : Int) - 6 := by
    rw [Int32.toInt_sub, nI_toInt (by omega), show (6 : Int32).toInt = 6 from by decide]
    exact Int.bmod_eq_of_le (by omega) (by omega)
  rw [Int32.lt_iff_toInt_lt, e, nI_toInt (by omega)]
  omega
section LF5
variable {g : Gl} {c m lg SA ST WY : Nat} {po : Nat → Nat} {hB : Hp} {Q : Option Value → Hp → Prop}
theorem lw_loop (hL : scL g ≤ 3072) (hQ : ∀ h', LW g c m lg SA ST WY po hB h' → Q (some (.int 1)) h') :
    ∀ (t i : Nat) (h : Hp), scL g ≤ i + 6 * t → i ≤ 4000 → LW g c m lg SA ST WY po hB h → V g mL_law 100 18 [.ref (scB g), .ref c, .ref m, .int (nI i)] [] h Q := by
  intro t
  induction t with
  | zero =>
    intro i h h1 h2 hw
    refine v_ild3 (q := 19) dL_law_18 rfl ?_
    refine v_ald0 (q := 20) dL_law_19 rfl rfl ?_
    refine v_slen (q := 21) dL_law_20 rfl ?_
    refine v_bipush (q := 23) (v := 6) dL_law_21 rfl (by decide) ?_
    refine v_isub (q := 24) dL_law_23 rfl ?_
    refine v_icmp_gt (t := 722) (q := 27) dL_law_24 (by decide) rfl (fun _ => ?_) (fun hc => absurd ((lw_cmp hL h2).mpr (by omega)) hc)
    refine v_iconst (q := 723) (v := 1) dL_law_722 rfl (by decide) ?_
    refine v_zret dL_law_723 rfl rfl ?_
    exact hQ _ hw
  | succ t ih =>
    intro i h h1 h2 hw
    refine v_ild3 (q := 19) dL_law_18 rfl ?_
    refine v_ald0 (q := 20) dL_law_19 rfl rfl ?_
    refine v_slen (q := 21) dL_law_20 rfl ?_
    refine v_bipush (q := 23) (v := 6) dL_law_21 rfl (by decide) ?_
    refine v_isub (q := 24) dL_law_23 rfl ?_
    refine v_icmp_gt (t := 722) (q := 27) dL_law_24 (by decide) rfl (fun _ => ?_) (fun hc => ?_)
    · refine v_iconst (q := 723) (v := 1) dL_law_722 rfl (by decide) ?_
      refine v_zret dL_law_723 rfl rfl ?_
      exact hQ _ hw
    have hi : i + 6 ≤ scL g := by
      by_cases e : i + 6 ≤ scL g
      · exact e
      · exact absurd ((lw_cmp hL h2).mpr e) hc
    have next : ∀ h', LW g c m lg SA ST WY po hB h' → V g mL_law 100 716 [.ref (scB g), .ref c, .ref m, .int (nI i)] [] h' Q := fun h' hw' => by
      refine v_inc3 (q := 719) dL_law_716 rfl (by decide) rfl (nI_add i 6) ?_
      refine v_goto (q := 18) dL_law_719 (by decide) ?_
      exact ih (i + 6) h' (by omega) (by omega) hw'
    refine v_ald0 (q := 28) dL_law_27 rfl rfl ?_
    refine v_ild3 (q := 29) dL_law_28 rfl ?_
    refine v_sld (q := 30) i dL_law_29 rfl rfl (by omega) (by omega) ?_
    refine v_bipush (q := 32) (v := 31) dL_law_30 rfl (by decide) ?_
    refine v_iand (q := 33) dL_law_32 rfl ?_
    generalize scX g i &&& 31 = x
    by_cases hx : x.toInt < 0 ∨ 17 < x.toInt
    · refine v_tableOut (t := 716) dL_law_33 hx (by decide) ?_
      exact next _ hw
    have h17 : ∃ j : Nat, j ≤ 17 ∧ x.toInt = 0 + (j : Int) := ⟨x.toInt.toNat, by omega, by omega⟩
    obtain ⟨j, hj, ej⟩ := h17
    have hj' : j = 0 ∨ j = 1 ∨ j = 2 ∨ j = 3 ∨ j = 4 ∨ j = 5 ∨ j = 6 ∨ j = 7 ∨ j = 8 ∨ j = 9 ∨ j = 10 ∨ j = 11 ∨ j = 12 ∨ j = 13 ∨ j = 14 ∨ j = 15 ∨ j = 16 ∨ j = 17 := by omega
    rcases hj' with e | e | e | e | e | e | e | e | e | e | e | e | e | e | e | e | e | e <;> subst e
    · refine v_tableIn (t := 120) 0 dL_law_33 ej (by decide) rfl (by decide) ?_
      exact lc_0 hi hL hw next
    · refine v_tableIn (t := 163) 1 dL_law_33 ej (by decide) rfl (by decide) ?_
      exact lc_1 hi hL hw next
    · refine v_tableIn (t := 196) 2 dL_law_33 ej (by decide) rfl (by decide) ?_
      exact lc_2 hi hL hw next
    · refine v_tableIn (t := 249) 3 dL_law_33 ej (by decide) rfl (by decide) ?_
      exact lc_3 hi hL hw next
    · refine v_tableIn (t := 302) 4 dL_law_33 ej (by decide) rfl (by decide) ?_
      exact lc_4 hi hL hw next
    · refine v_tableIn (t := 365) 5 dL_law_33 ej (by decide) rfl (by decide) ?_
      exact lc_5 hi hL hw next
    · refine v_tableIn (t := 398) 6 dL_law_33 ej (by decide) rfl (by decide) ?_
      exact lc_6 hi hL hw next
    · refine v_tableIn (t := 431) 7 dL_law_33 ej (by decide) rfl (by decide) ?_
      exact lc_7 hi hL hw next
    · refine v_tableIn (t := 444) 8 dL_law_33 ej (by decide) rfl (by decide) ?_
      exact lc_8 hi hL hw next
    · refine v_tableIn (t := 477) 9 dL_law_33 ej (by decide) rfl (by decide) ?_
      exact lc_9 hi hL hw next
    · refine v_tableIn (t := 501) 10 dL_law_33 ej (by decide) rfl (by decide) ?_
      exact lc_10 hi hL hw next
    · refine v_tableIn (t := 524) 11 dL_law_33 ej (by decide) rfl (by decide) ?_
      exact lc_11 hi hL hw next
    · refine v_tableIn (t := 557) 12 dL_law_33 ej (by decide) rfl (by decide) ?_
      exact lc_12 hi hL hw next
    · refine v_tableIn (t := 590) 13 dL_law_33 ej (by decide) rfl (by decide) ?_
      exact lc_13 hi hL hw next
    · refine v_tableIn (t := 623) 14 dL_law_33 ej (by decide) rfl (by decide) ?_
      exact lc_14 hi hL hw next
    · refine v_tableIn (t := 647) 15 dL_law_33 ej (by decide) rfl (by decide) ?_
      exact lc_15 hi hL hw next
    · refine v_tableIn (t := 670) 16 dL_law_33 ej (by decide) rfl (by decide) ?_
      exact lc_16 hi hL hw next
    · refine v_tableIn (t := 693) 17 dL_law_33 ej (by decide) rfl (by decide) ?_
      exact lc_17 hi hL hw next
theorem lw_V {h0 : Hp} (hL : scL g ≤ 3072) (hK0 : ∀ a, hK h0 a = 0) (hE : g.2.2.2.2.1 < hz h0) :
    V g mL_law 100 0 [.ref (scB g), zz, zz, zz] [] h0 (fun v h' => v = some (.int 1) ∧ hz h' ≤ hz h0 + 236652 ∧ hs h' ≤ hs h0 + 4521890) := by
  have gd0 : Gd g h0 (fun _ => 0) := ⟨fun a ha => absurd (hK0 a) ha, hE, rfl, hK0 _⟩
  have sm0 : Smo (fun _ => False) h0 (nObj h0 9 6) := Smo_nObj
  have hk1 : hK (nObj h0 9 6) (hz h0) = 9 := by rw [hK_nObj, if_pos rfl]
  have wf1 : Wf (nObj h0 9 6) := Wf_nObj gd0.1
  have gd1 : Gd g (nObj h0 9 6) (fun _ => 0) := gd0.fr (Fr.of0 (S := fun _ => False) sm0 (fun _ _ hf => hf.elim)) (fun hf => hf) wf1
  refine v_new (q := 3) dL_law_0 rfl nw_L_7 ?_
  refine v_dup (q := 4) dL_law_3 rfl rfl ?_
  refine v_callI (q := 7) (d' := 96 + 3) (av := []) dL_law_4 rfl ok_X9_init rfl rfl ml_L_9 imL_X9_init (by omega) rfl rfl (Nat.le_of_ble_eq_true rfl) ?_
  refine k_millInit (d := 96) (c := hz h0) (ow := fun _ => 0) hk1 rfl (if_pos rfl) (if_pos rfl) gd1 hE (fun h1 hM1 z1 s1 _ => ?_)
  have z1' : hz h1 = hz h0 + 15 := z1
  have s1' : hs h1 = hs h0 + 6 + 451 := s1
  have wfh : Wf h1 := hM1.2.2.2.2.2.2.1
  have wf2 : Wf (nObj h1 10 41) := Wf_nObj wfh
  have hk2 : hK (nObj h1 10 41) (hz h1) = 10 := by rw [hK_nObj, if_pos rfl]
  refine v_ast1 (q := 8) dL_law_7 rfl (by decide) rfl rfl ?_
  refine v_new (q := 11) dL_law_8 rfl nw_L_10 ?_
  refine v_dup (q := 12) dL_law_11 rfl rfl ?_
  refine v_callI (q := 15) (d' := 98 + 1) (av := []) dL_law_12 rfl ok_X10_init rfl rfl ml_L_12 imL_X10_init (by omega) rfl rfl (Nat.le_of_ble_eq_true rfl) ?_
  refine q_init (d := 98) (m := hz h1) hk2 rfl (fun f => if_pos rfl) wf2 (fun H hm e z2 s2 wf3 sm => ?_)
  have z2' : hz H = hz h1 + 1 + 36 := z2
  have s2' : hs H = hs h1 + 41 + 1741744 := s2
  refine v_ast2 (q := 16) dL_law_15 rfl (by decide) rfl rfl ?_
  refine v_iconst (q := 17) (v := 0) dL_law_16 rfl (by decide) ?_
  refine v_ist3 (q := 18) dL_law_17 rfl (by decide) rfl ?_
  have f3 : Fr (owC (fun _ => 0) (hz h0)) (fun a => if a < hz h1 then owC (fun _ => 0) (hz h0) a else tW) (fun t => t = tW) h1 H := ⟨by omega, fun a ha => if_pos ha, fun a ha _ => (same_nObj ha).tr (sm a ha)⟩
  have hM3 := hM1.far f3 (fun _ e => e) wf3
  refine lw_loop (hB := H) (c := hz h0) (m := hz h1) hL (fun h' hw => ?_) 512 0 H (by omega) (by omega) ⟨_, _, _, _, mu0, X00, [], hM3, MI00, si0, hm, e, mr0, fun a h1 h2 => ⟨if_neg (by omega), by omega⟩, Lg.rf _ _ _ _⟩
  obtain ⟨ow, sp, us, uz, u, X, ws, hM, hI, _, _, _, _, _, l1, l2⟩ := hw
  obtain ⟨r1, r2, r3, r4, r5⟩ := mv_room hM hI
  have e1 : xM X00 = 0 := rfl
  have e2 : lgS (xR X00).length = 0 := rfl
  have e3 : lgZ (xR X00).length = 0 := rfl
  rw [e1, e2] at l1
  rw [e1, e3] at l2
  refine ⟨rfl, ?_, ?_⟩
  · omega
  · omega
end LF5
