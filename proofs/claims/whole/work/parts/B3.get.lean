/-! B3: the model: gave, gaveValue, there, count, about -/
section LB3
variable {g : Gl} {d : Nat} {h : Hp} {m : Nat} {u : Mu} {Q : Option Value → Hp → Prop} {X : Sg} {ws : List (Option Mw)}
theorem q_isS {s : Int32} (hm : MK h m) (hR : MRs u X) (h16 : xM X ≤ 16) (h1 : ∀ j, s = nI j → j < xM X → Q (some (.int 1)) (mh h m u)) (h0 : ¬ (0 ≤ s ∧ s < nI (xM X)) → Q (some (.int 0)) (mh h m u)) : Call g mX10_is d [.ref m, .int s] (mh h m u) Q := by
  refine q_is hm hR ?_
  by_cases hi : 0 ≤ s ∧ s < nI (xM X)
  · rw [b01_t hi]
    obtain ⟨j, hj, rfl⟩ := nI_of (Int32.not_lt.mpr hi.1)
    exact h1 j rfl (Classical.byContradiction fun q => absurd hi.2 (nI_nlt (by omega) (by omega)))
  · rw [b01_f hi]
    exact h0 hi
theorem q_gave {i w : Int32} (hm : MK h m) (hR : MR u X ws) (hS : SI X) (h16 : xM X ≤ 16) (hQ : Q (some (.int (aGave X i w))) (mh h m u)) : Call g mX10_gave (d + 1) [.ref m, .int i, .int w] (mh h m u) Q := by
  refine Call.of [.ref m, .int i, .int w] (by decide) (Nat.le_of_ble_eq_true rfl) rfl ?_
  have no : aGave X i w = -1 → V g mX10_gave (d + 1) 26 [.ref m, .int i, .int w] [] (mh h m u) Q := fun e => by
    rw [e] at hQ
    refine v_iconst (q := 27) (v := -1) dX10_gave_26 rfl (by decide) ?_
    refine v_iret dX10_gave_27 rfl ?_
    exact hQ
  have i0 : (0 : Int32).toInt = 0 := by decide
  have i1 : (1 : Int32).toInt = 1 := by decide
  refine v_ald0 (q := 1) dX10_gave_0 rfl rfl ?_
  refine v_ild1 (q := 2) dX10_gave_1 rfl ?_
  refine v_callV (q := 5) (d' := d) (av := [.int i]) dX10_gave_2 rfl ok_X10_is CL9 ml_X10_134 im_X10_is se_X10_is hm.1 (by omega) rfl rfl (Nat.le_of_ble_eq_true rfl) ?_
  refine q_isS hm hR.1 h16 (fun j ej hj => ?_) (fun hn => ?_)
  · subst ej
    refine v_if_eq (t := 26) (q := 8) dX10_gave_5 (by decide) rfl (fun hc => absurd hc (by decide)) (fun _ => ?_)
    have eA : aGave X (nI j) w = if isW (xS X j) = true ∨ gI (xS X j) 8 = 0 then -1 else if w = 0 then gI (xS X j) 9 else if w = 1 then gI (xS X j) 10 else -1 := onS_in h16 hj
    have r := hR.1.2.2.1 j hj
    refine v_ild2 (q := 9) dX10_gave_8 rfl ?_
    by_cases w0 : w < 0
    · refine v_if_lt (t := 26) (q := 12) dX10_gave_9 (by decide) rfl (fun _ => no ?_) (fun hc => absurd w0 hc)
      rw [fa_lt, i0] at w0
      rw [eA, if_neg (show ¬ w = 0 by rw [fa_eq, i0]; omega), if_neg (show ¬ w = 1 by rw [fa_eq, i1]; omega)]
      split <;> rfl
    refine v_if_lt (t := 26) (q := 12) dX10_gave_9 (by decide) rfl (fun hc => absurd hc w0) (fun _ => ?_)
    refine v_ild2 (q := 13) dX10_gave_12 rfl ?_
    refine v_iconst (q := 14) (v := 1) dX10_gave_13 rfl (by decide) ?_
    by_cases w1 : 1 < w
    · refine v_icmp_gt (t := 26) (q := 17) dX10_gave_14 (by decide) rfl (fun _ => no ?_) (fun hc => absurd w1 hc)
      rw [fa_lt, i1] at w1
      rw [eA, if_neg (show ¬ w = 0 by rw [fa_eq, i0]; omega), if_neg (show ¬ w = 1 by rw [fa_eq, i1]; omega)]
      split <;> rfl
    refine v_icmp_gt (t := 26) (q := 17) dX10_gave_14 (by decide) rfl (fun hc => absurd hc w1) (fun _ => ?_)
    refine v_ald0 (q := 18) dX10_gave_17 rfl rfl ?_
    refine w_ga (q := 21) (j := 15) dX10_gave_18 rfl hm (by decide) gf_X10_53_9 ?_
    refine v_ild1 (q := 22) dX10_gave_21 rfl ?_
    refine w_zald (q := 23) (n := 16) dX10_gave_22 rfl hm (by decide) rfl rfl rfl (by omega) ?_
    rw [r.2.2.2.2.1]
    by_cases hz : gI (xS X j) 8 = 0
    · refine v_if_ne (t := 28) (q := 26) dX10_gave_23 (by decide) rfl (fun hc => absurd hz hc) (fun _ => no ?_)
      rw [eA, if_pos (Or.inr hz)]
    refine v_if_ne (t := 28) (q := 26) dX10_gave_23 (by decide) rfl (fun _ => ?_) (fun hc => absurd hc hz)
    have hw : ¬ isW (xS X j) = true := fun q => hz ((hS.1 j hj).1 q).2.2.1
    rw [eA, if_neg (fun q => q.elim hw hz)] at hQ
    refine v_ild2 (q := 29) dX10_gave_28 rfl ?_
    by_cases e0 : w = 0
    · rw [if_pos e0] at hQ
      refine v_if_ne (t := 41) (q := 32) dX10_gave_29 (by decide) rfl (fun hc => absurd e0 hc) (fun _ => ?_)
      refine v_ald0 (q := 33) dX10_gave_32 rfl rfl ?_
      refine w_ga (q := 36) (j := 16) dX10_gave_33 rfl hm (by decide) gf_X10_56_9 ?_
      refine v_ild1 (q := 37) dX10_gave_36 rfl ?_
      refine w_iald (q := 38) (n := 16) dX10_gave_37 rfl hm (by decide) rfl rfl rfl (by omega) ?_
      rw [r.2.2.2.2.2.1]
      refine v_goto (q := 47) dX10_gave_38 (by decide) ?_
      refine v_iret dX10_gave_47 rfl ?_
      exact hQ
    · have e1 : w = 1 := by
        rw [fa_eq] at *
        rw [fa_lt] at w0 w1
        omega
      rw [if_neg e0, if_pos e1] at hQ
      refine v_if_ne (t := 41) (q := 32) dX10_gave_29 (by decide) rfl (fun _ => ?_) (fun hc => absurd hc e0)
      refine v_ald0 (q := 42) dX10_gave_41 rfl rfl ?_
      refine w_ga (q := 45) (j := 17) dX10_gave_42 rfl hm (by decide) gf_X10_59_9 ?_
      refine v_ild1 (q := 46) dX10_gave_45 rfl ?_
      refine w_iald (q := 47) (n := 16) dX10_gave_46 rfl hm (by decide) rfl rfl rfl (by omega) ?_
      rw [r.2.2.2.2.2.2.1]
      refine v_iret dX10_gave_47 rfl ?_
      exact hQ
  · refine v_if_eq (t := 26) (q := 8) dX10_gave_5 (by decide) rfl (fun _ => no (onS_out hn)) (fun hc => absurd rfl hc)
theorem q_gaveValue {i : Int32} (hm : MK h m) (hR : MR u X ws) (hS : SI X) (h16 : xM X ≤ 16) (hQ : Q (some (.long (aGaveV X i))) (mh h m u)) : Call g mX10_gaveValue (d + 1) [.ref m, .int i] (mh h m u) Q := by
  refine Call.of [.ref m, .int i] (by decide) (Nat.le_of_ble_eq_true rfl) rfl ?_
  have no : aGaveV X i = 0 → V g mX10_gaveValue (d + 1) 26 [.ref m, .int i] [] (mh h m u) Q := fun e => by
    rw [e] at hQ
    refine v_lconst (q := 27) (v := 0) dX10_gaveValue_26 rfl (by decide) ?_
    refine v_lret dX10_gaveValue_27 rfl ?_
    exact hQ
  refine v_ald0 (q := 1) dX10_gaveValue_0 rfl rfl ?_
  refine v_ild1 (q := 2) dX10_gaveValue_1 rfl ?_
  refine v_callV (q := 5) (d' := d) (av := [.int i]) dX10_gaveValue_2 rfl ok_X10_is CL9 ml_X10_134 im_X10_is se_X10_is hm.1 (by omega) rfl rfl (Nat.le_of_ble_eq_true rfl) ?_
  refine q_isS hm hR.1 h16 (fun j ej hj => ?_) (fun hn => ?_)
  · subst ej
    refine v_if_eq (t := 26) (q := 8) dX10_gaveValue_5 (by decide) rfl (fun hc => absurd hc (by decide)) (fun _ => ?_)
    have eA : aGaveV X (nI j) = if isW (xS X j) = true ∨ gI (xS X j) 8 = 0 then 0 else gV (xS X j) := onS_in h16 hj
    have r := hR.1.2.2.1 j hj
    refine v_ald0 (q := 9) dX10_gaveValue_8 rfl rfl ?_
    refine w_ga (q := 12) (j := 15) dX10_gaveValue_9 rfl hm (by decide) gf_X10_53_9 ?_
    refine v_ild1 (q := 13) dX10_gaveValue_12 rfl ?_
    refine w_zald (q := 14) (n := 16) dX10_gaveValue_13 rfl hm (by decide) rfl rfl rfl (by omega) ?_
    rw [r.2.2.2.2.1]
    by_cases hz : gI (xS X j) 8 = 0
    · refine v_if_eq (t := 26) (q := 17) dX10_gaveValue_14 (by decide) rfl (fun _ => no ?_) (fun hc => absurd hz hc)
      rw [eA, if_pos (Or.inr hz)]
    refine v_if_eq (t := 26) (q := 17) dX10_gaveValue_14 (by decide) rfl (fun hc => absurd hc hz) (fun _ => ?_)
    have hw : ¬ isW (xS X j) = true := fun q => hz ((hS.1 j hj).1 q).2.2.1
    rw [eA, if_neg (fun q => q.elim hw hz)] at hQ
    refine v_ald0 (q := 18) dX10_gaveValue_17 rfl rfl ?_
    refine w_ga (q := 21) (j := 18) dX10_gaveValue_18 rfl hm (by decide) gf_X10_62_9 ?_
    refine v_ild1 (q := 22) dX10_gaveValue_21 rfl ?_
    refine w_lald (q := 23) (n := 16) dX10_gaveValue_22 rfl hm (by decide) rfl rfl rfl (by omega) ?_
    rw [r.2.2.2.2.2.2.2]
    refine v_goto (q := 27) dX10_gaveValue_23 (by decide) ?_
    refine v_lret dX10_gaveValue_27 rfl ?_
    exact hQ
  · refine v_if_eq (t := 26) (q := 8) dX10_gaveValue_5 (by decide) rfl (fun _ => no (onS_out hn)) (fun hc => absurd rfl hc)
theorem mw_len {k : Nat} {s ky : Nat} {w : Wd} {es : List Nat} (h : MWk u X k (some (s, ky, w, es))) : es.length = (wVs w).length := by
  have := h.2.2.2.2.2.2.2.2.length_eq
  rw [List.length_map] at this
  exact this
def gTh (X : Sg) (s : Nat) (ev : Bool) (w : Wd) : Nat := if thr (sSty (xS X s)) (gI (xS X s) 1) w then (if ev then (wVs w).length else 1) else 0
theorem th_loop {s : Nat} {ev : Bool} (hm : MK h m) (hR : MR u X ws) (h16 : xM X ≤ 16) (hs : s < 16) (hn : ws.length < 48100) :
    ∀ (t k acc : Nat), k + t = ws.length → Q (some (.int (nI (acc + ((ws.drop k).map (wt s (gTh X s ev))).sum)))) (mh h m u) → V g mX10_there d 5 [.ref m, .int (nI s), .int (if ev then 1 else 0), .int (nI acc), .int (nI k)] [] (mh h m u) Q := by
  intro t
  induction t with
  | zero =>
    intro k acc hk hQ
    have : k = ws.length := by omega
    subst this
    rw [List.drop_eq_nil_of_le (Nat.le_refl _)] at hQ
    refine v_ild4 (q := 7) dX10_there_5 rfl ?_
    refine v_ald0 (q := 8) dX10_there_7 rfl rfl ?_
    refine w_gi (q := 11) dX10_there_8 rfl hm gf_X10_170_9 ?_
    rw [hR.2.2.1]
    refine v_icmp_ge (t := 63) (q := 14) dX10_there_11 (by decide) rfl (fun _ => ?_) (fun hc => absurd (Int32.le_refl _) hc)
    refine v_ild3 (q := 64) dX10_there_63 rfl ?_
    refine v_iret dX10_there_64 rfl ?_
    exact hQ
  | succ t ih =>
    intro k acc hk hQ
    obtain ⟨o, ho, hd, hW⟩ := hR.2.2.at (show k < ws.length by omega)
    rw [hd, List.map_cons, List.sum_cons, ← Nat.add_assoc] at hQ
    refine v_ild4 (q := 7) dX10_there_5 rfl ?_
    refine v_ald0 (q := 8) dX10_there_7 rfl rfl ?_
    refine w_gi (q := 11) dX10_there_8 rfl hm gf_X10_170_9 ?_
    rw [hR.2.2.1]
    refine v_icmp_ge (t := 63) (q := 14) dX10_there_11 (by decide) rfl (fun hc => absurd hc (nI_ge (by omega) (by omega))) (fun _ => ?_)
    have rest : ∀ x, x = wt s (gTh X s ev) o → V g mX10_there d 55 [.ref m, .int (nI s), .int (if ev then 1 else 0), .int (nI acc), .int (nI k)] [.int (nI x), .int (nI acc)] (mh h m u) Q := fun x hx => by
      subst hx
      refine v_iadd (q := 56) dX10_there_55 rfl ?_
      rw [nI_add]
      refine v_ist3 (q := 57) dX10_there_56 rfl (by decide) rfl ?_
      refine v_inc4 (q := 60) dX10_there_57 rfl (by decide) rfl rfl ?_
      rw [inc1]
      refine v_goto (q := 5) dX10_there_60 (by decide) ?_
      exact ih (k + 1) _ (by omega) hQ
    have zero : wt s (gTh X s ev) o = 0 → V g mX10_there d 54 [.ref m, .int (nI s), .int (if ev then 1 else 0), .int (nI acc), .int (nI k)] [.int (nI acc)] (mh h m u) Q := fun e => by
      refine v_iconst (q := 55) (v := 0) dX10_there_54 rfl (by decide) ?_
      exact rest 0 e.symm
    refine v_ild3 (q := 15) dX10_there_14 rfl ?_
    refine v_ald0 (q := 16) dX10_there_15 rfl rfl ?_
    refine w_ga (q := 19) (j := 19) dX10_there_16 rfl hm (by decide) gf_X10_67_9 ?_
    refine v_ild4 (q := 21) dX10_there_19 rfl ?_
    refine w_iald (q := 22) (n := 48100) dX10_there_21 rfl hm (by decide) rfl rfl rfl (by omega) ?_
    match o, hW with
    | none, hW =>
      rw [show mI u 19 k = -1 from hW]
      refine v_ild1 (q := 23) dX10_there_22 rfl ?_
      refine v_icmp_ne (t := 54) (q := 26) dX10_there_23 (by decide) rfl (fun _ => zero rfl) (fun hc => absurd hc.symm (nI_m1 (by omega)))
    | some (s', ky, w, es), hW =>
      obtain ⟨w1, w2, w3, w4, w5, w6, w7, w8, w9⟩ := id hW
      have hs' := (hR.2.2.2.2.1 s' ky w es (List.mem_of_getElem? ho)).1
      rw [w1]
      refine v_ild1 (q := 23) dX10_there_22 rfl ?_
      by_cases e : s' = s
      · subst e
        refine v_icmp_ne (t := 54) (q := 26) dX10_there_23 (by decide) rfl (fun hc => absurd rfl hc) (fun _ => ?_)
        refine v_ald0 (q := 27) dX10_there_26 rfl rfl ?_
        refine w_ga (q := 30) (j := 23) dX10_there_27 rfl hm (by decide) gf_X10_79_9 ?_
        refine v_ild4 (q := 32) dX10_there_30 rfl ?_
        refine w_zald (q := 33) (n := 48100) dX10_there_32 rfl hm (by decide) rfl rfl rfl (by omega) ?_
        rw [w5]
        by_cases ht : thr (sSty (xS X s')) (gI (xS X s') 1) w = true
        · rw [if_pos ht]
          refine v_if_eq (t := 54) (q := 36) dX10_there_33 (by decide) rfl (fun hc => absurd hc (by decide)) (fun _ => ?_)
          have eW : wt s' (gTh X s' ev) (some (s', ky, w, es)) = if ev then (wVs w).length else 1 := by
            show (if s' = s' then gTh X s' ev w else 0) = _
            rw [if_pos rfl]
            unfold gTh
            rw [if_pos ht]
          refine v_ild2 (q := 37) dX10_there_36 rfl ?_
          cases ev with
          | true =>
            refine v_if_eq (t := 50) (q := 40) dX10_there_37 (by decide) rfl (fun hc => absurd hc (by decide)) (fun _ => ?_)
            refine v_ald0 (q := 41) dX10_there_40 rfl rfl ?_
            refine w_ga (q := 44) (j := 26) dX10_there_41 rfl hm (by decide) gf_X10_88_9 ?_
            refine v_ild4 (q := 46) dX10_there_44 rfl ?_
            refine w_iald (q := 47) (n := 48100) dX10_there_46 rfl hm (by decide) rfl rfl rfl (by omega) ?_
            rw [w7]
            refine v_goto (q := 55) dX10_there_47 (by decide) ?_
            exact rest _ ((mw_len hW).trans eW.symm)
          | false =>
            refine v_if_eq (t := 50) (q := 40) dX10_there_37 (by decide) rfl (fun _ => ?_) (fun hc => absurd rfl hc)
            refine v_iconst (q := 51) (v := 1) dX10_there_50 rfl (by decide) ?_
            refine v_goto (q := 55) dX10_there_51 (by decide) ?_
            exact rest 1 eW.symm
        · rw [if_neg ht]
          refine v_if_eq (t := 54) (q := 36) dX10_there_33 (by decide) rfl (fun _ => zero ?_) (fun hc => absurd rfl hc)
          show (if s' = s' then gTh X s' ev w else 0) = 0
          rw [if_pos rfl]
          exact if_neg ht
      · refine v_icmp_ne (t := 54) (q := 26) dX10_there_23 (by decide) rfl (fun _ => zero (if_neg e)) (fun hc => absurd ((nI_eq (by omega) (by omega)).mp hc) e)
theorem q_there {s : Nat} {ev : Bool} (hm : MK h m) (hR : MR u X ws) (h16 : xM X ≤ 16) (hs : s < xM X) (hn : ws.length < 48100) (hQ : Q (some (.int (nI (if ev then heS (xS X s) else opS (xS X s))))) (mh h m u)) : Call g mX10_there d [.ref m, .int (nI s), .int (if ev then 1 else 0)] (mh h m u) Q := by
  refine Call.of [.ref m, .int (nI s), .int (if ev then 1 else 0), zz, zz] (by decide) (Nat.le_of_ble_eq_true rfl) rfl ?_
  refine v_iconst (q := 1) (v := 0) dX10_there_0 rfl (by decide) ?_
  refine v_ist3 (q := 2) dX10_there_1 rfl (by decide) rfl ?_
  refine v_iconst (q := 3) (v := 0) dX10_there_2 rfl (by decide) ?_
  refine v_ist4 (q := 5) dX10_there_3 rfl (by decide) rfl ?_
  refine th_loop hm hR h16 (by omega) hn ws.length 0 0 (Nat.zero_add _) ?_
  rw [List.drop_zero, Nat.zero_add]
  have e : (ws.map (wt s (gTh X s ev))).sum = if ev then heS (xS X s) else opS (xS X s) := by
    by_cases hW : isW (xS X s) = true
    · cases ev with
      | true =>
        show _ = heS (xS X s)
        unfold heS
        rw [if_pos hW, sm_smG hR.2.2 hs hW (cH (sSty (xS X s)) (gI (xS X s) 1)) (gTh X s true) (fun L => cH_smG _ _ L)]
      | false =>
        show _ = opS (xS X s)
        unfold opS
        rw [if_pos hW, sm_smG hR.2.2 hs hW (cT (sSty (xS X s)) (gI (xS X s) 1)) (gTh X s false) (fun L => cT_smG _ _ L)]
    · have e1 : heS (xS X s) = 0 := if_neg hW
      have e2 : opS (xS X s) = 0 := if_neg hW
      rw [e1, e2, wt_none (fun s' ky w es hx e => hW (by rw [← e]; exact (hR.2.2.2.2.1 s' ky w es hx).2.1))]
      cases ev <;> rfl
  rw [e]
  exact hQ
def gAll (X : Sg) (s : Nat) (w : Wd) : Nat := if thr (sSty (xS X s)) (gI (xS X s) 1) w then 1 else 0
theorem ct_loop {w : Int32} (hm : MK h m) (hR : MR u X ws) (h16 : xM X ≤ 16) (hn : ws.length < 48100) :
    ∀ (t k acc : Nat), k + t = ws.length → Q (some (.int (nI (acc + ((ws.drop k).map (wtA (gAll X))).sum)))) (mh h m u) → V g mX10_count d 36 [.ref m, .int w, .int (nI acc), .int (nI k)] [] (mh h m u) Q := by
  intro t
  induction t with
  | zero =>
    intro k acc hk hQ
    have : k = ws.length := by omega
    subst this
    rw [List.drop_eq_nil_of_le (Nat.le_refl _)] at hQ
    refine v_ild3 (q := 37) dX10_count_36 rfl ?_
    refine v_ald0 (q := 38) dX10_count_37 rfl rfl ?_
    refine w_gi (q := 41) dX10_count_38 rfl hm gf_X10_170_9 ?_
    rw [hR.2.2.1]
    refine v_icmp_ge (t := 76) (q := 44) dX10_count_41 (by decide) rfl (fun _ => ?_) (fun hc => absurd (Int32.le_refl _) hc)
    refine v_ild2 (q := 77) dX10_count_76 rfl ?_
    refine v_iret dX10_count_77 rfl ?_
    exact hQ
  | succ t ih =>
    intro k acc hk hQ
    obtain ⟨o, ho, hd, hW⟩ := hR.2.2.at (show k < ws.length by omega)
    rw [hd, List.map_cons, List.sum_cons, ← Nat.add_assoc] at hQ
    refine v_ild3 (q := 37) dX10_count_36 rfl ?_
    refine v_ald0 (q := 38) dX10_count_37 rfl rfl ?_
    refine w_gi (q := 41) dX10_count_38 rfl hm gf_X10_170_9 ?_
    rw [hR.2.2.1]
    refine v_icmp_ge (t := 76) (q := 44) dX10_count_41 (by decide) rfl (fun hc => absurd hc (nI_ge (by omega) (by omega))) (fun _ => ?_)
    have rest : ∀ x, x = wtA (gAll X) o → V g mX10_count d 68 [.ref m, .int w, .int (nI acc), .int (nI k)] [.int (nI x), .int (nI acc)] (mh h m u) Q := fun x hx => by
      subst hx
      refine v_iadd (q := 69) dX10_count_68 rfl ?_
      rw [nI_add]
      refine v_ist2 (q := 70) dX10_count_69 rfl (by decide) rfl ?_
      refine v_inc3 (q := 73) dX10_count_70 rfl (by decide) rfl rfl ?_
      rw [inc1]
      refine v_goto (q := 36) dX10_count_73 (by decide) ?_
      exact ih (k + 1) _ (by omega) hQ
    have zero : wtA (gAll X) o = 0 → V g mX10_count d 67 [.ref m, .int w, .int (nI acc), .int (nI k)] [.int (nI acc)] (mh h m u) Q := fun e => by
      refine v_iconst (q := 68) (v := 0) dX10_count_67 rfl (by decide) ?_
      exact rest 0 e.symm
    refine v_ild2 (q := 45) dX10_count_44 rfl ?_
    refine v_ald0 (q := 46) dX10_count_45 rfl rfl ?_
    refine w_ga (q := 49) (j := 19) dX10_count_46 rfl hm (by decide) gf_X10_67_9 ?_
    refine v_ild3 (q := 50) dX10_count_49 rfl ?_
    refine w_iald (q := 51) (n := 48100) dX10_count_50 rfl hm (by decide) rfl rfl rfl (by omega) ?_
    match o, hW with
    | none, hW =>
      rw [show mI u 19 k = -1 from hW]
      refine v_if_lt (t := 67) (q := 54) dX10_count_51 (by decide) rfl (fun _ => zero rfl) (fun hc => absurd (by decide) hc)
    | some (s', ky, w', es), hW =>
      obtain ⟨w1, w2, w3, w4, w5, w6, w7, w8, w9⟩ := id hW
      have hs' := (hR.2.2.2.2.1 s' ky w' es (List.mem_of_getElem? ho)).1
      rw [w1]
      refine v_if_lt (t := 67) (q := 54) dX10_count_51 (by decide) rfl (fun hc => absurd hc (Int32.not_lt.mpr (nI_pos' (by omega)))) (fun _ => ?_)
      refine v_ald0 (q := 55) dX10_count_54 rfl rfl ?_
      refine w_ga (q := 58) (j := 23) dX10_count_55 rfl hm (by decide) gf_X10_79_9 ?_
      refine v_ild3 (q := 59) dX10_count_58 rfl ?_
      refine w_zald (q := 60) (n := 48100) dX10_count_59 rfl hm (by decide) rfl rfl rfl (by omega) ?_
      rw [w5]
      by_cases ht : thr (sSty (xS X s')) (gI (xS X s') 1) w' = true
      · rw [if_pos ht]
        refine v_if_eq (t := 67) (q := 63) dX10_count_60 (by decide) rfl (fun hc => absurd hc (by decide)) (fun _ => ?_)
        refine v_iconst (q := 64) (v := 1) dX10_count_63 rfl (by decide) ?_
        refine v_goto (q := 68) dX10_count_64 (by decide) ?_
        exact rest 1 (if_pos ht).symm
      · rw [if_neg ht]
        refine v_if_eq (t := 67) (q := 63) dX10_count_60 (by decide) rfl (fun _ => zero (if_neg ht)) (fun hc => absurd rfl hc)
theorem q_count {w : Int32} (hm : MK h m) (hR : MR u X ws) (h16 : xM X ≤ 16) (hn : ws.length < 48100) (hQ : Q (some (.int (aCount X w))) (mh h m u)) : Call g mX10_count d [.ref m, .int w] (mh h m u) Q := by
  refine Call.of [.ref m, .int w, zz, zz] (by decide) (Nat.le_of_ble_eq_true rfl) rfl ?_
  have i0 : (0 : Int32).toInt = 0 := by decide
  have i1 : (1 : Int32).toInt = 1 := by decide
  have i2 : (2 : Int32).toInt = 2 := by decide
  have no : aCount X w = -1 → V g mX10_count d 9 [.ref m, .int w, zz, zz] [] (mh h m u) Q := fun e => by
    rw [e] at hQ
    refine v_iconst (q := 10) (v := -1) dX10_count_9 rfl (by decide) ?_
    refine v_iret dX10_count_10 rfl ?_
    exact hQ
  refine v_ild1 (q := 1) dX10_count_0 rfl ?_
  by_cases w0 : w < 0
  · refine v_if_lt (t := 9) (q := 4) dX10_count_1 (by decide) rfl (fun _ => no ?_) (fun hc => absurd w0 hc)
    rw [fa_lt, i0] at w0
    unfold aCount
    rw [if_neg (by rw [fa_eq, i0]; omega), if_neg (by rw [fa_eq, i1]; omega), if_neg (by rw [fa_eq, i2]; omega)]
  refine v_if_lt (t := 9) (q := 4) dX10_count_1 (by decide) rfl (fun hc => absurd hc w0) (fun _ => ?_)
  refine v_ild1 (q := 5) dX10_count_4 rfl ?_
  refine v_iconst (q := 6) (v := 2) dX10_count_5 rfl (by decide) ?_
  by_cases w2 : ¬ w ≤ 2
  · refine v_icmp_le (t := 11) (q := 9) dX10_count_6 (by decide) rfl (fun hc => absurd hc w2) (fun _ => no ?_)
    rw [fa_le, i2] at w2
    unfold aCount
    rw [if_neg (by rw [fa_eq, i0]; omega), if_neg (by rw [fa_eq, i1]; omega), if_neg (by rw [fa_eq, i2]; omega)]
  have w2 := Classical.not_not.mp w2
  refine v_icmp_le (t := 11) (q := 9) dX10_count_6 (by decide) rfl (fun _ => ?_) (fun hc => absurd w2 hc)
  refine v_ild1 (q := 12) dX10_count_11 rfl ?_
  refine v_iconst (q := 13) (v := 2) dX10_count_12 rfl (by decide) ?_
  unfold aCount at hQ
  by_cases e2 : w = 2
  · subst e2
    refine v_icmp_ge (t := 32) (q := 16) dX10_count_13 (by decide) rfl (fun _ => ?_) (fun hc => absurd (by decide) hc)
    refine v_iconst (q := 33) (v := 0) dX10_count_32 rfl (by decide) ?_
    refine v_ist2 (q := 34) dX10_count_33 rfl (by decide) rfl ?_
    refine v_iconst (q := 35) (v := 0) dX10_count_34 rfl (by decide) ?_
    refine v_ist3 (q := 36) dX10_count_35 rfl (by decide) rfl ?_
    refine ct_loop hm hR h16 hn ws.length 0 0 (Nat.zero_add _) ?_
    rw [List.drop_zero, Nat.zero_add, ← stages_sum (GA := gAll X) (n := xM X) (fun s ky w es hx => (hR.2.2.2.2.1 s ky w es hx).1)]
    rw [if_neg (by decide), if_neg (by decide), if_pos rfl] at hQ
    have e : fb_sm (fun s => (ws.map (wt s (gAll X s))).sum) (xM X) = fb_sm (fun s => opS (xS X s)) (xM X) := fb_sm_cong (fun s hs => by
      by_cases hW : isW (xS X s) = true
      · unfold opS
        rw [if_pos hW, sm_smG hR.2.2 hs hW (cT (sSty (xS X s)) (gI (xS X s) 1)) (gAll X s) (fun L => cT_smG _ _ L)]
      · have e2 : opS (xS X s) = 0 := if_neg hW
        rw [e2, wt_none (fun s' ky w es hx e => hW (by rw [← e]; exact (hR.2.2.2.2.1 s' ky w es hx).2.1))])
    rw [e]
    exact hQ
  · have w1 : w.toInt < 2 := by
      rw [fa_eq, i2] at e2
      rw [fa_le, i2] at w2
      omega
    refine v_icmp_ge (t := 32) (q := 16) dX10_count_13 (by decide) rfl (fun hc => absurd hc (by rw [fa_le, i2]; omega)) (fun _ => ?_)
    refine v_ild1 (q := 17) dX10_count_16 rfl ?_
    by_cases e0 : w = 0
    · rw [if_pos e0] at hQ
      refine v_if_ne (t := 27) (q := 20) dX10_count_17 (by decide) rfl (fun hc => absurd e0 hc) (fun _ => ?_)
      refine v_ald0 (q := 21) dX10_count_20 rfl rfl ?_
      refine w_gi (q := 24) dX10_count_21 rfl hm gf_X10_122_9 ?_
      rw [hR.1.1.1]
      refine v_goto (q := 31) dX10_count_24 (by decide) ?_
      refine v_iret dX10_count_31 rfl ?_
      exact hQ
    · have e1 : w = 1 := by
        rw [fa_eq] at *
        rw [fa_lt] at w0
        omega
      rw [if_neg e0, if_pos e1] at hQ
      refine v_if_ne (t := 27) (q := 20) dX10_count_17 (by decide) rfl (fun _ => ?_) (fun hc => absurd hc e0)
      refine v_ald0 (q := 28) dX10_count_27 rfl rfl ?_
      refine w_gi (q := 31) dX10_count_28 rfl hm gf_X10_241_9 ?_
      rw [hR.1.1.2]
      refine v_iret dX10_count_31 rfl ?_
      exact hQ
end LB3
