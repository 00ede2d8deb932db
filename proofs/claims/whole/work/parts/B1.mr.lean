/-! B1: what the model's memory holds of a mill -/
/-- a window of the model: stage, key, window, entries -/
abbrev Mw : Type := Nat × Nat × Wd × List Nat
def LK (nx : Nat → Int32) : Int32 → List Nat → Prop
  | e, [] => e = -1
  | e, i :: is => e = nI i ∧ LK nx (nx i) is
def MWk (u : Mu) (X : Sg) (k : Nat) : Option Mw → Prop
  | none => mI u 19 k = -1
  | some (s, ky, w, es) => mI u 19 k = nI s ∧ mI u 20 k = nI ky ∧ mI u 21 k = wB w ∧ mI u 22 k = wE w ∧ mI u 23 k = (if thr (sSty (xS X s)) (gI (xS X s) 1) w then 1 else 0) ∧ mI u 24 k = rI (wR w) ∧ mI u 26 k = nI es.length ∧ LK (mI u 28) (mI u 25 k) es ∧ (es.map (mL u 27)).Perm (wVs w)
def inL (s ky : Nat) : Option Mw → Option Wd
  | some (s', k', w, _) => if s' = s ∧ k' = ky then some w else none
  | none => none
def lnO (ws : List (Option Mw)) (s ky : Nat) : List Wd := ws.filterMap (inL s ky)
def enO : Option Mw → List Nat
  | some (_, _, _, es) => es
  | none => []
def alE (ws : List (Option Mw)) : List Nat := ws.flatMap enO
def RSt (u : Mu) (s : Nat) (S : Stg) : Prop := (mI u 3 s = gI S 3 ∧ mI u 4 s = gI S 6 ∧ mI u 5 s = gI S 7 ∧ mI u 6 s = gI S 1 ∧ mI u 7 s = gI S 2) ∧ (∀ f, f < 24 → mI u 8 (24 * s + f) = if gF S f then 1 else 0) ∧ mI u 9 s = nI (cntB (gF S) 24) ∧ (mI u 10 s = gI S 4 ∧ mI u 11 s = gI S 23 ∧ mI u 12 s = gI S 20 ∧ mI u 13 s = gI S 21 ∧ mI u 14 s = gI S 22) ∧ mI u 15 s = gI S 8 ∧ mI u 16 s = gI S 9 ∧ mI u 17 s = gI S 10 ∧ mL u 18 s = gV S
def RS0 (u : Mu) (s : Nat) : Prop := mI u 6 s = 0 ∧ (∀ f, f < 24 → mI u 8 (24 * s + f) = 0) ∧ (∀ j, 9 ≤ j → j ≤ 17 → mI u j s = 0) ∧ mL u 18 s = 0
def MRs (u : Mu) (X : Sg) : Prop := (mF u 78 = nI (xM X) ∧ mF u 79 = nI (xT X)) ∧ (∀ p, p < 8 → mI u 1 p = xP X p ∧ mI u 2 p = xI X p) ∧ (∀ s, s < xM X → RSt u s (xS X s)) ∧ ∀ s, xM X ≤ s → s < 16 → RS0 u s
def RwO (u : Mu) (i : Nat) (r : Rw) : Prop := mI u 29 i = (if r.1 then 1 else 0) ∧ mI u 30 i = nI r.2.1 ∧ mI u 31 i = nI r.2.2.1 ∧ mI u 32 i = r.2.2.2.1 ∧ mI u 33 i = r.2.2.2.2.1 ∧ mL u 34 i = rSum r
def MRr (u : Mu) (rows : List Rw) : Prop := mF u 98 = nI rows.length ∧ ∀ i r, rows[i]? = some r → RwO u i r
def MRw (u : Mu) (X : Sg) (ws : List (Option Mw)) : Prop :=
  mF u 88 = nI ws.length ∧ (∀ k o, ws[k]? = some o → MWk u X k o) ∧ (∀ s ky w es, some (s, ky, w, es) ∈ ws → s < xM X ∧ isW (xS X s) = true ∧ ky < 1000) ∧ (∀ s, s < xM X → isW (xS X s) = true → ∀ ky, ky < 1000 → (lnO ws s ky).Perm (gL (xS X s) ky)) ∧
  (∃ ne, mF u 91 = nI ne ∧ ws.length ≤ ne ∧ ne ≤ tot entS X ∧ ∀ i ∈ alE ws, i < ne) ∧ (alE ws).Nodup
def MR (u : Mu) (X : Sg) (ws : List (Option Mw)) : Prop := MRs u X ∧ MRr u (xR X) ∧ MRw u X ws
/-- what holds of a mill between calls, besides MI -/
def SI (X : Sg) : Prop :=
  (∀ s, s < xM X → (isW (xS X s) = true → stOK s (xS X s) ∧ (∀ k, k < 1000 → LnI (sSes (xS X s)) s k (sSp (xS X s)) (gI (xS X s) 1) (xR X) (gL (xS X s) k)) ∧ gI (xS X s) 8 = 0 ∧ ∀ k, k < 1000 → ∀ w ∈ gL (xS X s) k, (wVs w).length ≤ camS (xS X s)) ∧ (isW (xS X s) = false → gI (xS X s) 23 = 0) ∧ 0 ≤ (gI (xS X s) 1).toInt ∧ (gI (xS X s) 1).toInt ≤ 200000) ∧ (∀ r ∈ xR X, RwB r) ∧ ∀ p, p < 8 → 0 ≤ (xP X p).toInt ∧ (xP X p).toInt ≤ 200000
section LB1
variable {g : Gl} {d : Nat} {h : Hp} {m : Nat} {u : Mu} {Q : Option Value → Hp → Prop} {X : Sg} {ws : List (Option Mw)}
theorem q_is {s : Int32} (hm : MK h m) (hR : MRs u X) (hQ : Q (some (.int (b01 (0 ≤ s ∧ s < nI (xM X))))) (mh h m u)) : Call g mX10_is d [.ref m, .int s] (mh h m u) Q := by
  refine Call.of [.ref m, .int s] (by decide) (Nat.le_of_ble_eq_true rfl) rfl ?_
  refine v_ild1 (q := 1) dX10_is_0 rfl ?_
  by_cases h0 : s < 0
  · refine v_if_lt (t := 16) (q := 4) dX10_is_1 (by decide) rfl (fun _ => ?_) (fun hc => absurd h0 hc)
    refine v_iconst (q := 17) (v := 0) dX10_is_16 rfl (by decide) ?_
    refine v_zret dX10_is_17 rfl rfl ?_
    rw [b01_f (fun z => absurd h0 (Int32.not_lt.mpr z.1))] at hQ
    exact hQ
  refine v_if_lt (t := 16) (q := 4) dX10_is_1 (by decide) rfl (fun hc => absurd hc h0) (fun _ => ?_)
  refine v_ild1 (q := 5) dX10_is_4 rfl ?_
  refine v_ald0 (q := 6) dX10_is_5 rfl rfl ?_
  refine w_gi (q := 9) dX10_is_6 rfl hm gf_X10_122_9 ?_
  rw [hR.1.1]
  by_cases h1 : s < nI (xM X)
  · refine v_icmp_ge (t := 16) (q := 12) dX10_is_9 (by decide) rfl (fun hc => absurd h1 (Int32.not_lt.mpr hc)) (fun _ => ?_)
    refine v_iconst (q := 13) (v := 1) dX10_is_12 rfl (by decide) ?_
    refine v_goto (q := 17) dX10_is_13 (by decide) ?_
    refine v_zret dX10_is_17 rfl rfl ?_
    rw [b01_t ⟨Int32.not_lt.mp h0, h1⟩] at hQ
    exact hQ
  · refine v_icmp_ge (t := 16) (q := 12) dX10_is_9 (by decide) rfl (fun _ => ?_) (fun hc => absurd (Int32.not_lt.mp h1) hc)
    refine v_iconst (q := 17) (v := 0) dX10_is_16 rfl (by decide) ?_
    refine v_zret dX10_is_17 rfl rfl ?_
    rw [b01_f (fun z => h1 z.2)] at hQ
    exact hQ
theorem q_isPort {H : Hp} {s : Int32} (hQ : Q (some (.int (b01 (0 ≤ s ∧ s ≤ 7)))) H) : Call g mX10_isPort d [.int s] H Q := by
  refine Call.of [.int s] (by decide) (Nat.le_of_ble_eq_true rfl) rfl ?_
  have e8 : s < 8 ↔ s ≤ 7 := by
    rw [fa_lt, fa_le, show (8 : Int32).toInt = 8 by decide, show (7 : Int32).toInt = 7 by decide]
    omega
  refine v_ild0 (q := 1) dX10_isPort_0 rfl ?_
  by_cases h0 : s < 0
  · refine v_if_lt (t := 14) (q := 4) dX10_isPort_1 (by decide) rfl (fun _ => ?_) (fun hc => absurd h0 hc)
    refine v_iconst (q := 15) (v := 0) dX10_isPort_14 rfl (by decide) ?_
    refine v_zret dX10_isPort_15 rfl rfl ?_
    rw [b01_f (fun z => absurd h0 (Int32.not_lt.mpr z.1))] at hQ
    exact hQ
  refine v_if_lt (t := 14) (q := 4) dX10_isPort_1 (by decide) rfl (fun hc => absurd hc h0) (fun _ => ?_)
  refine v_ild0 (q := 5) dX10_isPort_4 rfl ?_
  refine v_bipush (q := 7) (v := 8) dX10_isPort_5 rfl (by decide) ?_
  by_cases h1 : s < 8
  · refine v_icmp_ge (t := 14) (q := 10) dX10_isPort_7 (by decide) rfl (fun hc => absurd h1 (Int32.not_lt.mpr hc)) (fun _ => ?_)
    refine v_iconst (q := 11) (v := 1) dX10_isPort_10 rfl (by decide) ?_
    refine v_goto (q := 15) dX10_isPort_11 (by decide) ?_
    refine v_zret dX10_isPort_15 rfl rfl ?_
    rw [b01_t ⟨Int32.not_lt.mp h0, e8.mp h1⟩] at hQ
    exact hQ
  · refine v_icmp_ge (t := 14) (q := 10) dX10_isPort_7 (by decide) rfl (fun _ => ?_) (fun hc => absurd (Int32.not_lt.mp h1) hc)
    refine v_iconst (q := 15) (v := 0) dX10_isPort_14 rfl (by decide) ?_
    refine v_zret dX10_isPort_15 rfl rfl ?_
    rw [b01_f (fun z => h1 (e8.mpr z.2))] at hQ
    exact hQ
theorem q_isW {s : Nat} (hm : MK h m) (hR : MRs u X) (h16 : xM X ≤ 16) (hs : s < xM X) (hQ : Q (some (.int (if isW (xS X s) then 1 else 0))) (mh h m u)) : Call g mX10_isWindowed d [.ref m, .int (nI s)] (mh h m u) Q := by
  refine Call.of [.ref m, .int (nI s)] (by decide) (Nat.le_of_ble_eq_true rfl) rfl ?_
  refine v_ald0 (q := 1) dX10_isWindowed_0 rfl rfl ?_
  refine w_ga (q := 4) (j := 3) dX10_isWindowed_1 rfl hm (by decide) gf_X10_17_9 ?_
  refine v_ild1 (q := 5) dX10_isWindowed_4 rfl ?_
  refine w_iald (q := 6) (n := 16) dX10_isWindowed_5 rfl hm (by decide) rfl rfl rfl (by omega) ?_
  rw [(hR.2.2.1 s hs).1.1]
  refine v_iconst (q := 7) (v := 4) dX10_isWindowed_6 rfl (by decide) ?_
  by_cases h4 : 4 ≤ gI (xS X s) 3
  · refine v_icmp_lt (t := 14) (q := 10) dX10_isWindowed_7 (by decide) rfl (fun hc => absurd h4 (Int32.not_le.mpr hc)) (fun _ => ?_)
    refine v_iconst (q := 11) (v := 1) dX10_isWindowed_10 rfl (by decide) ?_
    refine v_goto (q := 15) dX10_isWindowed_11 (by decide) ?_
    refine v_zret dX10_isWindowed_15 rfl rfl ?_
    rw [if_pos (show isW (xS X s) = true from decide_eq_true h4)] at hQ
    exact hQ
  · refine v_icmp_lt (t := 14) (q := 10) dX10_isWindowed_7 (by decide) rfl (fun _ => ?_) (fun hc => absurd (Int32.not_le.mp h4) hc)
    refine v_iconst (q := 15) (v := 0) dX10_isWindowed_14 rfl (by decide) ?_
    refine v_zret dX10_isWindowed_15 rfl rfl ?_
    rw [if_neg (show ¬ isW (xS X s) = true from fun z => h4 (of_decide_eq_true z))] at hQ
    exact hQ
theorem q_rows (hm : MK h m) (hR : MR u X ws) (hQ : Q (some (.int (nI (xR X).length))) (mh h m u)) : Call g mX10_rows d [.ref m] (mh h m u) Q := by
  refine Call.of [.ref m] (by decide) (Nat.le_of_ble_eq_true rfl) rfl ?_
  refine v_ald0 (q := 1) dX10_rows_0 rfl rfl ?_
  refine w_gi (q := 4) dX10_rows_1 rfl hm gf_X10_155_9 ?_
  rw [hR.2.1.1]
  refine v_iret dX10_rows_4 rfl ?_
  exact hQ
theorem q_row {i w : Int32} (hm : MK h m) (hR : MR u X ws) (hl : (xR X).length < 200000) (hQ : Q (some (.int (aRow X i w))) (mh h m u)) : Call g mX10_row d [.ref m, .int i, .int w] (mh h m u) Q := by
  refine Call.of [.ref m, .int i, .int w] (by decide) (Nat.le_of_ble_eq_true rfl) rfl ?_
  have no : aRow X i w = -1 → V g mX10_row d 21 [.ref m, .int i, .int w] [] (mh h m u) Q := fun e => by
    rw [e] at hQ
    refine v_iconst (q := 22) (v := -1) dX10_row_21 rfl (by decide) ?_
    refine v_iret dX10_row_22 rfl ?_
    exact hQ
  refine v_ild1 (q := 1) dX10_row_0 rfl ?_
  by_cases h0 : i < 0
  · refine v_if_lt (t := 21) (q := 4) dX10_row_1 (by decide) rfl (fun _ => no (if_pos h0)) (fun hc => absurd h0 hc)
  refine v_if_lt (t := 21) (q := 4) dX10_row_1 (by decide) rfl (fun hc => absurd hc h0) (fun _ => ?_)
  obtain ⟨j, hj, rfl⟩ := nI_of h0
  have eA : aRow X (nI j) w = (((xR X)[j]?).map (fun r => rowA r w)).getD (-1) := by
    unfold aRow
    rw [if_neg h0, nI_clamp hj]
  refine v_ild1 (q := 5) dX10_row_4 rfl ?_
  refine v_ald0 (q := 6) dX10_row_5 rfl rfl ?_
  refine w_gi (q := 9) dX10_row_6 rfl hm gf_X10_155_9 ?_
  rw [hR.2.1.1]
  by_cases hjl : j < (xR X).length
  · refine v_icmp_ge (t := 21) (q := 12) dX10_row_9 (by decide) rfl (fun hc => absurd hc (nI_ge hjl (by omega))) (fun _ => ?_)
    have hr : (xR X)[j]? = some (xR X)[j] := List.getElem?_eq_getElem hjl
    generalize (xR X)[j] = r at hr
    obtain ⟨r1, r2, r3, r4, r5, r6⟩ := hR.2.1.2 j r hr
    rw [hr] at eA
    have eB : aRow X (nI j) w = rowA r w := eA
    rw [eB] at hQ no
    have i0 : (0 : Int32).toInt = 0 := by decide
    have i1 : (1 : Int32).toInt = 1 := by decide
    have i2 : (2 : Int32).toInt = 2 := by decide
    have i3 : (3 : Int32).toInt = 3 := by decide
    have i4 : (4 : Int32).toInt = 4 := by decide
    refine v_ild2 (q := 13) dX10_row_12 rfl ?_
    by_cases w0 : w < 0
    · refine v_if_lt (t := 21) (q := 16) dX10_row_13 (by decide) rfl (fun _ => no ?_) (fun hc => absurd w0 hc)
      rw [fa_lt, i0] at w0
      unfold rowA
      rw [if_neg (by rw [fa_eq, i0]; omega), if_neg (by rw [fa_eq, i1]; omega), if_neg (by rw [fa_eq, i2]; omega), if_neg (by rw [fa_eq, i3]; omega), if_neg (by rw [fa_eq, i4]; omega)]
    refine v_if_lt (t := 21) (q := 16) dX10_row_13 (by decide) rfl (fun hc => absurd hc w0) (fun _ => ?_)
    refine v_ild2 (q := 17) dX10_row_16 rfl ?_
    refine v_iconst (q := 18) (v := 4) dX10_row_17 rfl (by decide) ?_
    by_cases w4 : w ≤ 4
    · refine v_icmp_le (t := 23) (q := 21) dX10_row_18 (by decide) rfl (fun _ => ?_) (fun hc => absurd w4 hc)
      refine v_ild2 (q := 24) dX10_row_23 rfl ?_
      unfold rowA at hQ
      by_cases e0 : w = 0
      · subst e0
        refine v_tableIn 0 (t := 56) dX10_row_24 (by decide) (by decide) rfl (by decide) ?_
        refine v_ald0 (q := 57) dX10_row_56 rfl rfl ?_
        refine w_ga (q := 60) (j := 29) dX10_row_57 rfl hm (by decide) gf_X10_98_9 ?_
        refine v_ild1 (q := 61) dX10_row_60 rfl ?_
        refine w_iald (q := 62) (n := 200000) dX10_row_61 rfl hm (by decide) rfl rfl rfl (by omega) ?_
        rw [r1]
        refine v_iret dX10_row_62 rfl ?_
        exact hQ
      rw [if_neg e0] at hQ
      by_cases e1 : w = 1
      · subst e1
        refine v_tableIn 1 (t := 63) dX10_row_24 (by decide) (by decide) rfl (by decide) ?_
        refine v_ald0 (q := 64) dX10_row_63 rfl rfl ?_
        refine w_ga (q := 67) (j := 30) dX10_row_64 rfl hm (by decide) gf_X10_101_9 ?_
        refine v_ild1 (q := 68) dX10_row_67 rfl ?_
        refine w_iald (q := 69) (n := 200000) dX10_row_68 rfl hm (by decide) rfl rfl rfl (by omega) ?_
        rw [r2]
        refine v_iret dX10_row_69 rfl ?_
        exact hQ
      rw [if_neg e1] at hQ
      by_cases e2 : w = 2
      · subst e2
        refine v_tableIn 2 (t := 70) dX10_row_24 (by decide) (by decide) rfl (by decide) ?_
        refine v_ald0 (q := 71) dX10_row_70 rfl rfl ?_
        refine w_ga (q := 74) (j := 31) dX10_row_71 rfl hm (by decide) gf_X10_104_9 ?_
        refine v_ild1 (q := 75) dX10_row_74 rfl ?_
        refine w_iald (q := 76) (n := 200000) dX10_row_75 rfl hm (by decide) rfl rfl rfl (by omega) ?_
        rw [r3]
        refine v_iret dX10_row_76 rfl ?_
        exact hQ
      rw [if_neg e2] at hQ
      by_cases e3 : w = 3
      · subst e3
        refine v_tableIn 3 (t := 77) dX10_row_24 (by decide) (by decide) rfl (by decide) ?_
        refine v_ald0 (q := 78) dX10_row_77 rfl rfl ?_
        refine w_ga (q := 81) (j := 32) dX10_row_78 rfl hm (by decide) gf_X10_107_9 ?_
        refine v_ild1 (q := 82) dX10_row_81 rfl ?_
        refine w_iald (q := 83) (n := 200000) dX10_row_82 rfl hm (by decide) rfl rfl rfl (by omega) ?_
        rw [r4]
        refine v_iret dX10_row_83 rfl ?_
        exact hQ
      rw [if_neg e3] at hQ
      have e4 : w = 4 := by
        rw [fa_eq] at *
        rw [fa_lt] at w0
        rw [fa_le] at w4
        omega
      rw [if_pos e4] at hQ
      refine v_tableOut (t := 84) dX10_row_24 (Or.inr (by rw [e4, i4]; decide)) (by decide) ?_
      refine v_ald0 (q := 85) dX10_row_84 rfl rfl ?_
      refine w_ga (q := 88) (j := 33) dX10_row_85 rfl hm (by decide) gf_X10_110_9 ?_
      refine v_ild1 (q := 89) dX10_row_88 rfl ?_
      refine w_iald (q := 90) (n := 200000) dX10_row_89 rfl hm (by decide) rfl rfl rfl (by omega) ?_
      rw [r5]
      refine v_iret dX10_row_90 rfl ?_
      exact hQ
    · refine v_icmp_le (t := 23) (q := 21) dX10_row_18 (by decide) rfl (fun hc => absurd hc w4) (fun _ => no ?_)
      rw [fa_le, i4] at w4
      unfold rowA
      rw [if_neg (by rw [fa_eq, i0]; omega), if_neg (by rw [fa_eq, i1]; omega), if_neg (by rw [fa_eq, i2]; omega), if_neg (by rw [fa_eq, i3]; omega), if_neg (by rw [fa_eq, i4]; omega)]
  · refine v_icmp_ge (t := 21) (q := 12) dX10_row_9 (by decide) rfl (fun _ => no ?_) (fun hc => absurd (nI_le (by omega) hj) hc)
    rw [eA, List.getElem?_eq_none (by omega)]
    rfl
theorem q_sum {i : Int32} (hm : MK h m) (hR : MR u X ws) (hl : (xR X).length < 200000) (hQ : Q (some (.long (aSum X i))) (mh h m u)) : Call g mX10_sum d [.ref m, .int i] (mh h m u) Q := by
  refine Call.of [.ref m, .int i] (by decide) (Nat.le_of_ble_eq_true rfl) rfl ?_
  have no : aSum X i = 0 → V g mX10_sum d 12 [.ref m, .int i] [] (mh h m u) Q := fun e => by
    rw [e] at hQ
    refine v_lconst (q := 13) (v := 0) dX10_sum_12 rfl (by decide) ?_
    refine v_goto (q := 22) dX10_sum_13 (by decide) ?_
    refine v_lret dX10_sum_22 rfl ?_
    exact hQ
  refine v_ild1 (q := 1) dX10_sum_0 rfl ?_
  by_cases h0 : i < 0
  · refine v_if_lt (t := 12) (q := 4) dX10_sum_1 (by decide) rfl (fun _ => no (if_pos h0)) (fun hc => absurd h0 hc)
  refine v_if_lt (t := 12) (q := 4) dX10_sum_1 (by decide) rfl (fun hc => absurd hc h0) (fun _ => ?_)
  obtain ⟨j, hj, rfl⟩ := nI_of h0
  have eA : aSum X (nI j) = (((xR X)[j]?).map rSum).getD 0 := by
    unfold aSum
    rw [if_neg h0, nI_clamp hj]
  refine v_ild1 (q := 5) dX10_sum_4 rfl ?_
  refine v_ald0 (q := 6) dX10_sum_5 rfl rfl ?_
  refine w_gi (q := 9) dX10_sum_6 rfl hm gf_X10_155_9 ?_
  rw [hR.2.1.1]
  by_cases hjl : j < (xR X).length
  · refine v_icmp_lt (t := 16) (q := 12) dX10_sum_9 (by decide) rfl (fun _ => ?_) (fun hc => absurd (nI_lt hjl (by omega)) hc)
    have hr : (xR X)[j]? = some (xR X)[j] := List.getElem?_eq_getElem hjl
    generalize (xR X)[j] = r at hr
    obtain ⟨r1, r2, r3, r4, r5, r6⟩ := hR.2.1.2 j r hr
    rw [hr] at eA
    rw [eA] at hQ
    refine v_ald0 (q := 17) dX10_sum_16 rfl rfl ?_
    refine w_ga (q := 20) (j := 34) dX10_sum_17 rfl hm (by decide) gf_X10_113_9 ?_
    refine v_ild1 (q := 21) dX10_sum_20 rfl ?_
    refine w_lald (q := 22) (n := 200000) dX10_sum_21 rfl hm (by decide) rfl rfl rfl (by omega) ?_
    rw [r6]
    refine v_lret dX10_sum_22 rfl ?_
    exact hQ
  · refine v_icmp_lt (t := 16) (q := 12) dX10_sum_9 (by decide) rfl (fun hc => absurd hc (nI_nlt (by omega) hj)) (fun _ => no ?_)
    rw [eA, List.getElem?_eq_none (by omega)]
    rfl
theorem q_markOf {i : Int32} (hm : MK h m) (hR : MR u X ws) (hQ : Q (some (.int (aMarkOf X i))) (mh h m u)) : Call g mX10_markOf (d + 1) [.ref m, .int i] (mh h m u) Q := by
  refine Call.of [.ref m, .int i] (by decide) (Nat.le_of_ble_eq_true rfl) rfl ?_
  refine v_ild1 (q := 1) dX10_markOf_0 rfl ?_
  refine v_callS (q := 4) (d' := d) (av := [.int i]) dX10_markOf_1 rfl ok_X10_isPort ml_X10_235 st_X10_isPort (by omega) rfl rfl (Nat.le_of_ble_eq_true rfl) ?_
  refine q_isPort ?_
  unfold aMarkOf at hQ
  by_cases hi : 0 ≤ i ∧ i ≤ 7
  · rw [b01_t hi]
    rw [if_pos hi] at hQ
    refine v_if_eq (t := 16) (q := 7) dX10_markOf_4 (by decide) rfl (fun hc => absurd hc (by decide)) (fun _ => ?_)
    obtain ⟨j, hj, rfl⟩ := nI_of (Int32.not_lt.mpr hi.1)
    have hj8 : j < 8 := Classical.byContradiction fun q => absurd hi.2 (show ¬ nI j ≤ nI 7 from nI_ge (by omega) hj)
    rw [nI_clamp hj] at hQ
    refine v_ald0 (q := 8) dX10_markOf_7 rfl rfl ?_
    refine w_ga (q := 11) (j := 1) dX10_markOf_8 rfl hm (by decide) gf_X10_9_9 ?_
    refine v_ild1 (q := 12) dX10_markOf_11 rfl ?_
    refine w_iald (q := 13) (n := 8) dX10_markOf_12 rfl hm (by decide) rfl rfl rfl (by omega) ?_
    rw [(hR.1.2.1 j hj8).1]
    refine v_goto (q := 17) dX10_markOf_13 (by decide) ?_
    refine v_iret dX10_markOf_17 rfl ?_
    exact hQ
  · rw [b01_f hi]
    rw [if_neg hi] at hQ
    refine v_if_eq (t := 16) (q := 7) dX10_markOf_4 (by decide) rfl (fun _ => ?_) (fun hc => absurd rfl hc)
    refine v_iconst (q := 17) (v := -1) dX10_markOf_16 rfl (by decide) ?_
    refine v_iret dX10_markOf_17 rfl ?_
    exact hQ
end LB1
