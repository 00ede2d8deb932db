/-! 28: Window: insert, answer -/
/-- the values of a window: none yet, or a row -/
def Vv (h : Hp) (w : Nat) (to : Option Nat) (vs : List Int64) : Prop := hK h w = 7 ∧ fI h 41 w = nI vs.length ∧ fP h 40 w = to ∧ vs.length < 1000000 ∧ (to = none ∧ vs = [] ∨ ∃ t, to = some t ∧ Vrow h t vs)
section L28
variable {g : Gl} {d : Nat} {h : Hp} {Q : Option Value → Hp → Prop}
theorem k_insert {w : Nat} {to : Option Nat} {x : Int64} {again : Int32} {vs : List Int64} (hV : Vv h w to vs) (hl : vs.length + 1 < 1000000) (hs0 : vs.Pairwise (· ≤ ·)) (wf : Wf h)
    (hQ : ∀ h' t' vs', Vv h' w (some t') vs' → Smo (fun a => a = w ∨ to = some a) h h' → Wf h' → InsAt vs vs' x again → OnlyV w h h' → (to = some t' ∧ hz h' = hz h ∧ hs h' = hs h ∧ hN h' t' = hN h t' ∨ t' = hz h ∧ hz h' = hz h + 1 ∧ (to = none ∧ hs h' = hs h + 4 ∧ hN h' t' = 4 ∨ ∃ t, to = some t ∧ hN h t = vs.length ∧ hs h' = hs h + 2 * vs.length ∧ hN h' t' = 2 * vs.length)) → Q none h') :
    Call g mX7_insert (d + 2) [.ref w, .long x, .int again] h Q := by
  obtain ⟨hk, hsz, hp, hlen, hcase⟩ := hV
  have ww := wf w (by omega)
  refine Call.of [.ref w, .long x, zz, .int again, zz, zz, zz] (by decide) (Nat.le_of_ble_eq_true rfl) rfl ?_
  rcases hcase with ⟨h0, hvs⟩ | ⟨t, ht, hv⟩
  · subst h0
    subst hvs
    refine v_ald0 (q := 1) dX7_insert_0 rfl rfl ?_
    refine v_getP (q := 4) dX7_insert_1 rfl gf_X7_55_6 (by assumption) ?_
    rw [hp]
    refine v_ifnonnull (r := none) (t := 14) (q := 7) dX7_insert_4 (by decide) rfl (fun a ha => by cases ha) (fun _ => ?_)
    have k1 : hK (nArr h 22 4) w = 7 := by rw [hK_nArr, if_neg (Nat.ne_of_lt ww)]; exact hk
    refine v_ald0 (q := 8) dX7_insert_7 rfl rfl ?_
    refine v_iconst (q := 9) (v := 4) dX7_insert_8 rfl (by decide) ?_
    refine v_newarray (q := 11) (k := 22) dX7_insert_9 rfl ⟨rfl, by decide⟩ ac_long (N := 4) (by decide) (by decide) ?_
    refine v_putP (q := 14) (x := some (hz h)) dX7_insert_11 rfl pf_X7_55_6 k1 rfl rfl ?_
    generalize hh1 : sFP (nArr h 22 4) 40 w (some (hz h)) = h1
    have a1 : hK h1 w = 7 := by rw [← hh1, hK_sFP]; exact k1
    have a2 : hK h1 (hz h) = 22 := by rw [← hh1, hK_sFP, hK_nArr, if_pos rfl]
    have a3 : hN h1 (hz h) = 4 := by rw [← hh1, hN_sFP, hN_nArr, if_pos rfl]
    have a4 : fI h1 = fI h := by rw [← hh1, fI_sFP, fI_nArr]
    have a5 : fL h1 = fL h := by rw [← hh1, fL_sFP, fL_nArr]
    have a6 : fP h1 40 w = some (hz h) := by rw [← hh1, fP_sFP, if_pos ⟨rfl, rfl⟩]
    have a7 : ∀ f, f ≠ 40 → fP h1 f w = fP h f w := fun f hf => by rw [← hh1, fP_sFP, if_neg (fun e => hf e.1), fP_nArr]
    have a8 : hz h1 = hz h + 1 := by rw [← hh1, hz_sFP, hz_nArr]
    have a9 : hs h1 = hs h + 4 := by rw [← hh1, hs_sFP, hs_nArr]
    have a10 : Smo (fun a => a = w ∨ (none : Option Nat) = some a) h h1 := by rw [← hh1]; exact Smo_nArr.andFP (Or.inl (Or.inl rfl))
    have a11 : Wf h1 := by rw [← hh1]; exact Wf_same rfl rfl (Wf_nArr (k := 22) (n := 4) wf)
    clear hh1
    have hv : Vrow h1 (hz h) [] := ⟨a2, Nat.zero_le _, by omega, by omega, fun i hi => absurd hi (Nat.not_lt_zero _)⟩
    refine ins_14 (d := d) a1 a6 (by rw [a4]; exact hsz) hl hv hs0 a11 (fun h' t' vs' s1 s2 s3 s4 s5 s6 s7 s8 s9 => ?_)
    rcases s9 with ⟨e1, e2, e3, e4⟩ | ⟨e1, e2, e3, e4⟩
    · subst e1
      have q1 : Smo (fun a => a = w ∨ (none : Option Nat) = some a) h h' := a10.tr s5 (fun a ha h => h.elim Or.inl (fun e => absurd e (Nat.ne_of_lt ha)))
      have q2 : OnlyV w h h' := ⟨fun f hf => (s8.1 f hf).trans (by rw [a4]), fun f => (s8.2.1 f).trans (by rw [a5]), fun f hf => (s8.2.2 f hf).trans (a7 f hf)⟩
      have q3 : vs'.length < 1000000 := by
        obtain ⟨low, -, -, -, c⟩ := s7
        rcases c with ⟨-, -, c⟩ | ⟨-, c⟩
        · rw [c]; decide
        · rw [c]
          simp
      exact hQ h' (hz h) vs' ⟨s2, s3, s4, q3, Or.inr ⟨_, rfl, s1⟩⟩ q1 s6 s7 q2 (Or.inr ⟨rfl, by omega, Or.inl ⟨rfl, by omega, by omega⟩⟩)
    · have e5 : hN h1 (hz h) = 0 := e3
      omega
  · subst ht
    refine v_ald0 (q := 1) dX7_insert_0 rfl rfl ?_
    refine v_getP (q := 4) dX7_insert_1 rfl gf_X7_55_6 (by assumption) ?_
    rw [hp]
    refine v_ifnonnull (r := some t) (t := 14) (q := 7) dX7_insert_4 (by decide) rfl (fun _ _ => ?_) (fun hc => by cases hc)
    refine ins_14 (d := d) hk hp hsz hl hv hs0 wf (fun h' t' vs' s1 s2 s3 s4 s5 s6 s7 s8 s9 => ?_)
    have q1 : Smo (fun a => a = w ∨ some t = some a) h h' := s5.mono (fun a _ h => h.elim Or.inl (fun e => Or.inr (by rw [e])))
    have q3 : vs'.length < 1000000 := by
      obtain ⟨low, hlow, -, -, c⟩ := s7
      rcases c with ⟨-, -, c⟩ | ⟨-, c⟩
      · rw [c]; omega
      · rw [c, insL_len hlow]; omega
    refine hQ h' t' vs' ⟨s2, s3, s4, q3, Or.inr ⟨t', rfl, s1⟩⟩ q1 s6 s7 s8 ?_
    rcases s9 with ⟨e1, e2, e3, e4⟩ | ⟨e1, e2, e3, e4, e5⟩
    · subst e1
      exact Or.inl ⟨rfl, e2, e3, e4⟩
    · exact Or.inr ⟨e1, e2, Or.inr ⟨t, rfl, e3, e4, e5⟩⟩
/-- what a window answers -/
def ansW (h : Hp) (w : Nat) (vs : List Int64) (how : Nat) : Int64 := if how = 0 then (fI h 37 w).toInt64 else if how = 4 then lN vs.length else if how = 5 then (vs[(vs.length - 1) / 2]?).getD 0 else fL h 39 w
theorem k_answer {w how : Nat} {to : Option Nat} {vs : List Int64} (hV : Vv h w to vs) (hh : how ≤ 5) (hQ : Q (some (.long (ansW h w vs how))) h) : Call g mX7_answer d [.ref w, .int (nI how)] h Q := by
  obtain ⟨hk, hsz, hp, hlen, hcase⟩ := hV
  refine Call.of [.ref w, .int (nI how)] (by decide) (Nat.le_of_ble_eq_true rfl) rfl ?_
  refine v_ild1 (q := 1) dX7_answer_0 rfl ?_
  rcases (show how = 0 ∨ how = 4 ∨ how = 5 ∨ how = 1 ∨ how = 2 ∨ how = 3 by omega) with rfl | rfl | rfl | rfl | rfl | rfl
  · refine v_lookup (t := 36) dX7_answer_1 (by decide) (off := 35) (by decide) (by decide) ?_
    refine v_ald0 (q := 37) dX7_answer_36 rfl rfl ?_
    refine v_getI (q := 40) dX7_answer_37 rfl gf_X7_37_6 (by assumption) ?_
    refine v_i2l (q := 41) dX7_answer_40 rfl ?_
    refine v_lret dX7_answer_41 rfl ?_
    exact hQ
  · refine v_lookup (t := 42) dX7_answer_1 (by decide) (off := 41) (by decide) (by decide) ?_
    refine v_ald0 (q := 43) dX7_answer_42 rfl rfl ?_
    refine v_getI (q := 46) dX7_answer_43 rfl gf_X7_52_6 (by assumption) ?_
    rw [hsz]
    refine v_i2l (q := 47) dX7_answer_46 rfl ?_
    rw [nI_l (by omega)]
    refine v_lret dX7_answer_47 rfl ?_
    exact hQ
  · refine v_lookup (t := 48) dX7_answer_1 (by decide) (off := 47) (by decide) (by decide) ?_
    refine v_ald0 (q := 49) dX7_answer_48 rfl rfl ?_
    refine v_getI (q := 52) dX7_answer_49 rfl gf_X7_52_6 (by assumption) ?_
    rw [hsz]
    by_cases h0 : vs.length = 0
    · refine v_if_le (t := 78) (q := 55) dX7_answer_52 (by decide) rfl (fun _ => ?_) (fun hc => absurd (by rw [h0]; decide) hc)
      refine v_lconst (q := 79) (v := 0) dX7_answer_78 rfl (by decide) ?_
      refine v_lret dX7_answer_79 rfl ?_
      have : ansW h w vs 5 = 0 := by
        rw [List.length_eq_zero_iff.mp h0]
        rfl
      rw [this] at hQ
      exact hQ
    · refine v_if_le (t := 78) (q := 55) dX7_answer_52 (by decide) rfl (fun hc => absurd hc (nI_nle (by omega) (by omega))) (fun _ => ?_)
      rcases hcase with ⟨-, e⟩ | ⟨t, rfl, v1, v2, v3, v4, v5⟩
      · rw [e] at h0
        exact absurd rfl h0
      · refine v_ald0 (q := 56) dX7_answer_55 rfl rfl ?_
        refine v_getP (q := 59) dX7_answer_56 rfl gf_X7_55_6 (by assumption) ?_
        rw [hp]
        refine v_ifnull (r := some t) (t := 78) (q := 62) dX7_answer_59 (by decide) rfl (fun hc => by cases hc) (fun _ _ => ?_)
        refine v_ald0 (q := 63) dX7_answer_62 rfl rfl ?_
        refine v_getR (q := 66) dX7_answer_63 rfl gf_X7_55_6 (by assumption) (by assumption) ?_
        refine v_ald0 (q := 67) dX7_answer_66 rfl rfl ?_
        refine v_getI (q := 70) dX7_answer_67 rfl gf_X7_52_6 (by assumption) ?_
        rw [hsz]
        refine v_iconst (q := 71) (v := 1) dX7_answer_70 rfl (by decide) ?_
        refine v_isub (q := 72) dX7_answer_71 rfl ?_
        refine v_iconst (q := 73) (v := 2) dX7_answer_72 rfl (by decide) ?_
        refine v_idiv (q := 74) dX7_answer_73 rfl (by decide) ?_
        have hm := half_up (a := vs.length) (by omega) hlen
        refine v_lald (q := 75) _ dX7_answer_74 rfl v1 hm (by omega) (by omega) ?_
        refine v_goto (q := 79) dX7_answer_75 (by decide) ?_
        refine v_lret dX7_answer_79 rfl ?_
        have : ansW h w vs 5 = aL h t ((vs.length - 1) / 2) := by
          show (vs[(vs.length - 1) / 2]?).getD 0 = _
          rw [v5 _ (by omega)]
          rfl
        rw [this] at hQ
        exact hQ
  · refine v_lookup (t := 80) dX7_answer_1 (by decide) (off := 79) (by decide) (by decide) ?_
    refine v_ald0 (q := 81) dX7_answer_80 rfl rfl ?_
    refine v_getL (q := 84) dX7_answer_81 rfl gf_X7_44_6 (by assumption) ?_
    refine v_lret dX7_answer_84 rfl ?_
    exact hQ
  · refine v_lookup (t := 80) dX7_answer_1 (by decide) (off := 79) (by decide) (by decide) ?_
    refine v_ald0 (q := 81) dX7_answer_80 rfl rfl ?_
    refine v_getL (q := 84) dX7_answer_81 rfl gf_X7_44_6 (by assumption) ?_
    refine v_lret dX7_answer_84 rfl ?_
    exact hQ
  · refine v_lookup (t := 80) dX7_answer_1 (by decide) (off := 79) (by decide) (by decide) ?_
    refine v_ald0 (q := 81) dX7_answer_80 rfl rfl ?_
    refine v_getL (q := 84) dX7_answer_81 rfl gf_X7_44_6 (by assumption) ?_
    refine v_lret dX7_answer_84 rfl ?_
    exact hQ
end L28
