/-! B4: the model: about, findLeft, left -/
/-- all but the rows for scratch is the same -/
def Scr (u u' : Mu) : Prop := (∀ j, j ≠ 36 → mI u' j = mI u j) ∧ (∀ j, j ≠ 35 → mL u' j = mL u j) ∧ mF u' = mF u
theorem Scr.rf (u : Mu) : Scr u u := ⟨fun _ _ => rfl, fun _ _ => rfl, rfl⟩
theorem Scr.tr {u v w : Mu} (a : Scr u v) (b : Scr v w) : Scr u w := ⟨fun j hj => (b.1 j hj).trans (a.1 j hj), fun j hj => (b.2.1 j hj).trans (a.2.1 j hj), b.2.2.trans a.2.2⟩
theorem Scr.fo {u u' : Mu} (a : Scr u u') (i : Nat) (x : Int32) : Scr u (sI u' 36 i x) := ⟨fun j hj => (mI_nr x hj).trans (a.1 j hj), a.2.1, a.2.2⟩
theorem Scr.so {u u' : Mu} (a : Scr u u') (i : Nat) (x : Int64) : Scr u (sL u' 35 i x) := ⟨a.1, fun j hj => by rw [mL_sL, if_neg hj]; exact a.2.1 j hj, a.2.2⟩
theorem MWk.same {u u' : Mu} {X : Sg} {k : Nat} {o : Option Mw} (h : MWk u X k o) (hI : ∀ j, 19 ≤ j → j ≤ 28 → mI u' j = mI u j) (hL : mL u' 27 = mL u 27) : MWk u' X k o := by
  match o, h with
  | none, h => exact (congrFun (hI 19 (by decide) (by decide)) k).trans h
  | some (s, ky, w, es), h =>
    unfold MWk at h ⊢
    rw [hI 19 (by decide) (by decide), hI 20 (by decide) (by decide), hI 21 (by decide) (by decide), hI 22 (by decide) (by decide), hI 23 (by decide) (by decide), hI 24 (by decide) (by decide), hI 25 (by decide) (by decide), hI 26 (by decide) (by decide), hI 28 (by decide) (by decide), hL]
    exact h
theorem RSt.same {u u' : Mu} {s : Nat} {S : Stg} (h : RSt u s S) (hI : ∀ j, 3 ≤ j → j ≤ 17 → mI u' j = mI u j) (hL : mL u' 18 = mL u 18) : RSt u' s S := by
  unfold RSt at h ⊢
  rw [hI 3 (by decide) (by decide), hI 4 (by decide) (by decide), hI 5 (by decide) (by decide), hI 6 (by decide) (by decide), hI 7 (by decide) (by decide), hI 8 (by decide) (by decide), hI 9 (by decide) (by decide), hI 10 (by decide) (by decide), hI 11 (by decide) (by decide), hI 12 (by decide) (by decide), hI 13 (by decide) (by decide), hI 14 (by decide) (by decide), hI 15 (by decide) (by decide), hI 16 (by decide) (by decide), hI 17 (by decide) (by decide), hL]
  exact h
theorem RS0.same {u u' : Mu} {s : Nat} (h : RS0 u s) (hI : ∀ j, 3 ≤ j → j ≤ 17 → mI u' j = mI u j) (hL : mL u' 18 = mL u 18) : RS0 u' s := by
  obtain ⟨a, b, c, e⟩ := h
  refine ⟨by rw [hI 6 (by decide) (by decide)]; exact a, fun f hf => by rw [hI 8 (by decide) (by decide)]; exact b f hf, fun j h1 h2 => by rw [hI j (by omega) (by omega)]; exact c j h1 h2, by rw [hL]; exact e⟩
theorem MRs.same {u u' : Mu} {X : Sg} (h : MRs u X) (hI : ∀ j, j ≤ 17 → mI u' j = mI u j) (hL : mL u' 18 = mL u 18) (h78 : mF u' 78 = mF u 78) (h79 : mF u' 79 = mF u 79) : MRs u' X :=
  ⟨⟨h78.trans h.1.1, h79.trans h.1.2⟩, fun p hp => by rw [hI 1 (by decide), hI 2 (by decide)]; exact h.2.1 p hp, fun s hs => (h.2.2.1 s hs).same (fun j _ h2 => hI j h2) hL, fun s h1 h2 => (h.2.2.2 s h1 h2).same (fun j _ h2 => hI j h2) hL⟩
theorem RwO.same {u u' : Mu} {i : Nat} {r : Rw} (h : RwO u i r) (hI : ∀ j, 29 ≤ j → j ≤ 33 → mI u' j = mI u j) (hL : mL u' 34 = mL u 34) : RwO u' i r := by
  unfold RwO at h ⊢
  rw [hI 29 (by decide) (by decide), hI 30 (by decide) (by decide), hI 31 (by decide) (by decide), hI 32 (by decide) (by decide), hI 33 (by decide) (by decide), hL]
  exact h
theorem MRr.same {u u' : Mu} {rows : List Rw} (h : MRr u rows) (hI : ∀ j, 29 ≤ j → j ≤ 33 → mI u' j = mI u j) (hL : mL u' 34 = mL u 34) (hF : mF u' 98 = mF u 98) : MRr u' rows :=
  ⟨hF.trans h.1, fun i r hi => (h.2 i r hi).same hI hL⟩
theorem MRw.same {u u' : Mu} {X : Sg} {ws : List (Option Mw)} (h : MRw u X ws) (hI : ∀ j, 19 ≤ j → j ≤ 28 → mI u' j = mI u j) (hL : mL u' 27 = mL u 27) (h88 : mF u' 88 = mF u 88) (h91 : mF u' 91 = mF u 91) : MRw u' X ws := by
  obtain ⟨a, b, c, e, ⟨ne, f1, f2, f3, f4⟩, n⟩ := h
  exact ⟨h88.trans a, fun k o hk => (b k o hk).same hI hL, c, e, ⟨ne, h91.trans f1, f2, f3, f4⟩, n⟩
theorem MR.scr {u u' : Mu} {X : Sg} {ws : List (Option Mw)} (h : MR u X ws) (a : Scr u u') : MR u' X ws :=
  ⟨h.1.same (fun j hj => a.1 j (by omega)) (a.2.1 18 (by decide)) (by rw [a.2.2]) (by rw [a.2.2]), h.2.1.same (fun j _ hj => a.1 j (by omega)) (a.2.1 34 (by decide)) (by rw [a.2.2]), h.2.2.same (fun j _ hj => a.1 j (by omega)) (a.2.1 27 (by decide)) (by rw [a.2.2]) (by rw [a.2.2])⟩
/-- the windows that are found -/
def FO (u : Mu) (l : List Nat) : Prop := ∀ i k, l[i]? = some k → mI u 36 i = nI k
theorem FO.add {u : Mu} {l : List Nat} {k : Nat} (h : FO u l) : FO (sI u 36 l.length (nI k)) (l ++ [k]) := fun i x hi => by
  by_cases e : i < l.length
  · rw [List.getElem?_append_left e] at hi
    rw [mI_ni _ (by omega)]
    exact h i x hi
  · have hl := (List.getElem?_eq_some_iff.mp hi).1
    rw [List.length_append, List.length_singleton] at hl
    have : i = l.length := by omega
    subst this
    rw [List.getElem?_append_right (Nat.le_refl _), Nat.sub_self] at hi
    have : k = x := Option.some.inj hi
    rw [mI_at, this]
/-- windows of stage s for which P holds -/
def isP (s : Nat) (P : Wd → Bool) : Option Mw → Bool
  | some (s', _, w, _) => decide (s' = s) && P w
  | none => false
def fnd (ws : List (Option Mw)) (s : Nat) (P : Wd → Bool) (n : Nat) : List Nat := (List.range n).filter (fun k => isP s P ((ws[k]?).getD none))
theorem fnd_succ (ws : List (Option Mw)) (s : Nat) (P : Wd → Bool) (n : Nat) : fnd ws s P (n + 1) = fnd ws s P n ++ if isP s P ((ws[n]?).getD none) then [n] else [] := by
  unfold fnd
  rw [List.range_succ, List.filter_append]
  congr 1
  by_cases h : isP s P ((ws[n]?).getD none) = true
  · rw [if_pos h]
    simp [h]
  · rw [if_neg h]
    simp [h]
theorem fnd_len (ws : List (Option Mw)) (s : Nat) (P : Wd → Bool) (n : Nat) : (fnd ws s P n).length ≤ n := by
  unfold fnd
  have := List.length_filter_le (fun k => isP s P ((ws[k]?).getD none)) (List.range n)
  rw [List.length_range] at this
  exact this
theorem fnd_sum (ws : List (Option Mw)) (s : Nat) (P : Wd → Bool) : (fnd ws s P ws.length).length = (ws.map (wt s (fun w => if P w then 1 else 0))).sum := by
  have key : ∀ (n : Nat), n ≤ ws.length → (fnd ws s P n).length = ((ws.take n).map (wt s (fun w => if P w then 1 else 0))).sum := by
    intro n
    induction n with
    | zero => exact fun _ => rfl
    | succ n ih =>
      intro hn
      have hn' : n < ws.length := hn
      rw [fnd_succ, List.length_append, ih (by omega), List.take_succ, List.map_append, List.sum_append, List.getElem?_eq_getElem hn']
      congr 1
      show _ = ([ws[n]].map _).sum
      show (if isP s P ws[n] = true then [n] else []).length = _
      match ws[n] with
      | none => rfl
      | some (s', ky, w, es) =>
        show (if (decide (s' = s) && P w) = true then [n] else []).length = (if s' = s then (if P w then 1 else 0) else 0) + 0
        by_cases e : s' = s
        · rw [if_pos e, decide_eq_true e, Bool.true_and]
          by_cases hp : P w = true
          · rw [if_pos hp, if_pos hp]; rfl
          · rw [if_neg hp, if_neg hp]; rfl
        · rw [if_neg e, decide_eq_false e, Bool.false_and]; rfl
  have := key ws.length (Nat.le_refl _)
  rw [List.take_length] at this
  exact this
section LB4
variable {g : Gl} {d : Nat} {h : Hp} {m : Nat} {u : Mu} {Q : Option Value → Hp → Prop} {X : Sg} {ws : List (Option Mw)}
/-- the window k of the model is one of the mill -/
theorem mw_lane {s ky : Nat} {w : Wd} {es : List Nat} (hw : MRw u X ws) (hx : some (s, ky, w, es) ∈ ws) : w ∈ gL (xS X s) ky := by
  obtain ⟨h1, h2, h3⟩ := hw.2.2.1 s ky w es hx
  refine (hw.2.2.2.1 s h1 h2 ky h3).mem_iff.mp ?_
  unfold lnO
  exact List.mem_filterMap.mpr ⟨_, hx, if_pos ⟨rfl, rfl⟩⟩
theorem mw_row {s ky : Nat} {w : Wd} {es : List Nat} (hw : MRw u X ws) (hS : SI X) (hx : some (s, ky, w, es) ∈ ws) : ∀ r, wR w = some r → r < (xR X).length := by
  obtain ⟨h1, h2, h3⟩ := hw.2.2.1 s ky w es hx
  have hl := ((((hS.1 s h1).1 h2).2.1 ky h3).1 w (mw_lane hw hx)).2.1
  intro r hr
  obtain ⟨y, hy⟩ := hl r hr
  exact (List.getElem?_eq_some_iff.mp hy).1
theorem rI_neg {o : Option Nat} (h : ∀ r, o = some r → r < 2147483648) : (rI o < 0 ↔ o.isSome = false) := by
  match o, h with
  | none, _ => exact ⟨fun _ => rfl, fun _ => by decide⟩
  | some r, h => exact ⟨fun z => absurd z (Int32.not_lt.mpr (nI_pos' (h r rfl))), fun z => by cases z⟩
theorem fl_loop {s : Nat} (hm : MK h m) (hR : MR u X ws) (hS : SI X) (h16 : xM X ≤ 16) (hs : s < 16) (hn : ws.length < 48100) (hr : (xR X).length < 200000) :
    ∀ (t k : Nat) (v : Mu), k + t = ws.length → Scr u v → FO v (fnd ws s (fun w => (wR w).isSome) k) →
      (∀ v', Scr u v' → FO v' (fnd ws s (fun w => (wR w).isSome) ws.length) → Q (some (.int (nI (fnd ws s (fun w => (wR w).isSome) ws.length).length))) (mh h m v')) →
      V g mX10_findLeft d 4 [.ref m, .int (nI s), .int (nI (fnd ws s (fun w => (wR w).isSome) k).length), .int (nI k)] [] (mh h m v) Q := by
  intro t
  induction t with
  | zero =>
    intro k v hk hc hF hQ
    have : k = ws.length := by omega
    subst this
    refine v_ild3 (q := 5) dX10_findLeft_4 rfl ?_
    refine v_ald0 (q := 6) dX10_findLeft_5 rfl rfl ?_
    refine w_gi (q := 9) dX10_findLeft_6 rfl hm gf_X10_170_9 ?_
    rw [hc.2.2, hR.2.2.1]
    refine v_icmp_ge (t := 47) (q := 12) dX10_findLeft_9 (by decide) rfl (fun _ => ?_) (fun hc => absurd (Int32.le_refl _) hc)
    refine v_ild2 (q := 48) dX10_findLeft_47 rfl ?_
    refine v_iret dX10_findLeft_48 rfl ?_
    exact hQ v hc hF
  | succ t ih =>
    intro k v hk hc hF hQ
    have hkl : k < ws.length := by omega
    obtain ⟨o, ho, hd, hW⟩ := hR.2.2.at hkl
    have eo : (ws[k]?).getD none = o := by rw [ho]; rfl
    have fs := fnd_succ ws s (fun w => (wR w).isSome) k
    rw [eo] at fs
    have hfl := fnd_len ws s (fun w => (wR w).isSome) k
    refine v_ild3 (q := 5) dX10_findLeft_4 rfl ?_
    refine v_ald0 (q := 6) dX10_findLeft_5 rfl rfl ?_
    refine w_gi (q := 9) dX10_findLeft_6 rfl hm gf_X10_170_9 ?_
    rw [hc.2.2, hR.2.2.1]
    refine v_icmp_ge (t := 47) (q := 12) dX10_findLeft_9 (by decide) rfl (fun hc => absurd hc (nI_ge (by omega) (by omega))) (fun _ => ?_)
    have skip : isP s (fun w => (wR w).isSome) o = false → V g mX10_findLeft d 41 [.ref m, .int (nI s), .int (nI (fnd ws s (fun w => (wR w).isSome) k).length), .int (nI k)] [] (mh h m v) Q := fun e => by
      rw [if_neg (by rw [e]; decide), List.append_nil] at fs
      refine v_inc3 (q := 44) dX10_findLeft_41 rfl (by decide) rfl rfl ?_
      rw [inc1, ← fs]
      refine v_goto (q := 4) dX10_findLeft_44 (by decide) ?_
      exact ih (k + 1) v (by omega) hc (by rw [fs]; exact hF) hQ
    refine v_ald0 (q := 13) dX10_findLeft_12 rfl rfl ?_
    refine w_ga (q := 16) (j := 19) dX10_findLeft_13 rfl hm (by decide) gf_X10_67_9 ?_
    refine v_ild3 (q := 17) dX10_findLeft_16 rfl ?_
    refine w_iald (q := 18) (n := 48100) dX10_findLeft_17 rfl hm (by decide) rfl rfl rfl (by omega) ?_
    rw [hc.1 19 (by decide)]
    match o, hW, fs, ho with
    | none, hW, fs, ho =>
      rw [show mI u 19 k = -1 from hW]
      refine v_ild1 (q := 19) dX10_findLeft_18 rfl ?_
      refine v_icmp_ne (t := 41) (q := 22) dX10_findLeft_19 (by decide) rfl (fun _ => skip rfl) (fun hc => absurd hc.symm (nI_m1 (by omega)))
    | some (s', ky, w, es), hW, fs, ho =>
      obtain ⟨w1, w2, w3, w4, w5, w6, w7, w8, w9⟩ := id hW
      have hx := List.mem_of_getElem? ho
      have hs' := (hR.2.2.2.2.1 s' ky w es hx).1
      have hrow := mw_row hR.2.2 hS hx
      rw [w1]
      refine v_ild1 (q := 19) dX10_findLeft_18 rfl ?_
      by_cases e : s' = s
      · subst e
        refine v_icmp_ne (t := 41) (q := 22) dX10_findLeft_19 (by decide) rfl (fun hc => absurd rfl hc) (fun _ => ?_)
        refine v_ald0 (q := 23) dX10_findLeft_22 rfl rfl ?_
        refine w_ga (q := 26) (j := 24) dX10_findLeft_23 rfl hm (by decide) gf_X10_82_9 ?_
        refine v_ild3 (q := 27) dX10_findLeft_26 rfl ?_
        refine w_iald (q := 28) (n := 48100) dX10_findLeft_27 rfl hm (by decide) rfl rfl rfl (by omega) ?_
        rw [hc.1 24 (by decide), w6]
        have hneg := rI_neg (o := wR w) (fun r hr' => by have := hrow r hr'; omega)
        by_cases hsm : (wR w).isSome = true
        · refine v_if_lt (t := 41) (q := 31) dX10_findLeft_28 (by decide) rfl (fun z => absurd (hneg.mp z) (by rw [hsm]; decide)) (fun _ => ?_)
          have ep : isP s' (fun w => (wR w).isSome) (some (s', ky, w, es)) = true := by
            show (decide (s' = s') && (wR w).isSome) = true
            rw [decide_eq_true rfl, hsm]
            rfl
          rw [if_pos ep] at fs
          refine v_ald0 (q := 32) dX10_findLeft_31 rfl rfl ?_
          refine w_ga (q := 35) (j := 36) dX10_findLeft_32 rfl hm (by decide) gf_X10_119_9 ?_
          refine v_ild2 (q := 36) dX10_findLeft_35 rfl ?_
          refine v_ild3 (q := 37) dX10_findLeft_36 rfl ?_
          refine w_iast (q := 38) (n := 48100) dX10_findLeft_37 rfl hm (by decide) rfl rfl rfl (by omega) ?_
          refine v_inc2 (q := 41) dX10_findLeft_38 rfl (by decide) rfl rfl ?_
          rw [inc1]
          have fl : (fnd ws s' (fun w => (wR w).isSome) k).length + 1 = (fnd ws s' (fun w => (wR w).isSome) (k + 1)).length := by rw [fs, List.length_append, List.length_singleton]
          rw [fl]
          refine v_inc3 (q := 44) dX10_findLeft_41 rfl (by decide) rfl rfl ?_
          rw [inc1]
          refine v_goto (q := 4) dX10_findLeft_44 (by decide) ?_
          refine ih (k + 1) _ (by omega) (hc.fo _ _) ?_ hQ
          rw [fs]
          exact hF.add
        · refine v_if_lt (t := 41) (q := 31) dX10_findLeft_28 (by decide) rfl (fun _ => skip ?_) (fun z => absurd (hneg.mpr (Bool.eq_false_iff.mpr hsm)) z)
          show (decide (s' = s') && (wR w).isSome) = false
          rw [Bool.eq_false_iff.mpr hsm, Bool.and_false]
      · refine v_icmp_ne (t := 41) (q := 22) dX10_findLeft_19 (by decide) rfl (fun _ => skip ?_) (fun hc => absurd ((nI_eq (by omega) (by omega)).mp hc) e)
        show (decide (s' = s) && (wR w).isSome) = false
        rw [decide_eq_false e, Bool.false_and]
theorem q_findLeft {s : Nat} (hm : MK h m) (hR : MR u X ws) (hS : SI X) (h16 : xM X ≤ 16) (hs : s < 16) (hn : ws.length < 48100) (hr : (xR X).length < 200000)
    (hQ : ∀ v', Scr u v' → FO v' (fnd ws s (fun w => (wR w).isSome) ws.length) → Q (some (.int (nI (fnd ws s (fun w => (wR w).isSome) ws.length).length))) (mh h m v')) : Call g mX10_findLeft d [.ref m, .int (nI s)] (mh h m u) Q := by
  refine Call.of [.ref m, .int (nI s), zz, zz] (by decide) (Nat.le_of_ble_eq_true rfl) rfl ?_
  refine v_iconst (q := 1) (v := 0) dX10_findLeft_0 rfl (by decide) ?_
  refine v_ist2 (q := 2) dX10_findLeft_1 rfl (by decide) rfl ?_
  refine v_iconst (q := 3) (v := 0) dX10_findLeft_2 rfl (by decide) ?_
  refine v_ist3 (q := 4) dX10_findLeft_3 rfl (by decide) rfl ?_
  exact fl_loop hm hR hS h16 hs hn hr ws.length 0 u (Nat.zero_add _) (Scr.rf u) (fun i k hi => by cases hi) hQ
theorem fl_cR {s : Nat} (hw : MRw u X ws) (hs : s < xM X) (hW : isW (xS X s) = true) : (fnd ws s (fun w => (wR w).isSome) ws.length).length = sm cR (gL (xS X s)) := by
  rw [fnd_sum, sm_smG hw hs hW cR _ (fun L => cR_smG L)]
theorem q_left {s : Int32} (hm : MK h m) (hR : MR u X ws) (hS : SI X) (h16 : xM X ≤ 16) (hn : ws.length < 48100) (hr : (xR X).length < 200000)
    (hQ : ∀ v', Scr u v' → Q (some (.int (aLeft X s))) (mh h m v')) : Call g mX10_left (d + 1) [.ref m, .int s] (mh h m u) Q := by
  refine Call.of [.ref m, .int s] (by decide) (Nat.le_of_ble_eq_true rfl) rfl ?_
  refine v_ald0 (q := 1) dX10_left_0 rfl rfl ?_
  refine v_ild1 (q := 2) dX10_left_1 rfl ?_
  refine v_callV (q := 5) (d' := d) (av := [.int s]) dX10_left_2 rfl ok_X10_is CL9 ml_X10_134 im_X10_is se_X10_is hm.1 (by omega) rfl rfl (Nat.le_of_ble_eq_true rfl) ?_
  refine q_isS hm hR.1 h16 (fun j ej hj => ?_) (fun hi => ?_)
  · subst ej
    have eA : aLeft X (nI j) = if isW (xS X j) then nI (sm cR (gL (xS X j))) else -2 := onS_in (f := fun S => if isW S then nI (sm cR (gL S)) else -2) (z := -1) h16 hj
    rw [eA] at hQ
    refine v_if_ne (t := 10) (q := 8) dX10_left_5 (by decide) rfl (fun _ => ?_) (fun hc => absurd hc (by decide))
    refine v_ald0 (q := 11) dX10_left_10 rfl rfl ?_
    refine v_ild1 (q := 12) dX10_left_11 rfl ?_
    refine v_callV (q := 15) (d' := d) (av := [.int (nI j)]) dX10_left_12 rfl ok_X10_isWindowed CL9 ml_X10_130 im_X10_isWindowed se_X10_isWindowed hm.1 (by omega) rfl rfl (Nat.le_of_ble_eq_true rfl) ?_
    refine q_isW hm hR.1 h16 hj ?_
    by_cases hW : isW (xS X j) = true
    · rw [if_pos hW] at hQ
      rw [if_pos hW]
      refine v_if_eq (t := 26) (q := 18) dX10_left_15 (by decide) rfl (fun hc => absurd hc (by decide)) (fun _ => ?_)
      refine v_ald0 (q := 19) dX10_left_18 rfl rfl ?_
      refine v_ild1 (q := 20) dX10_left_19 rfl ?_
      refine v_callV (q := 23) (d' := d) (av := [.int (nI j)]) dX10_left_20 rfl ok_X10_findLeft CL9 ml_X10_246 im_X10_findLeft se_X10_findLeft hm.1 (by omega) rfl rfl (Nat.le_of_ble_eq_true rfl) ?_
      refine q_findLeft hm hR hS h16 (by omega) hn hr (fun v hv hF => ?_)
      rw [fl_cR hR.2.2 hj hW]
      refine v_goto (q := 28) dX10_left_23 (by decide) ?_
      refine v_iret dX10_left_28 rfl ?_
      exact hQ v hv
    · rw [if_neg hW] at hQ
      rw [if_neg hW]
      refine v_if_eq (t := 26) (q := 18) dX10_left_15 (by decide) rfl (fun _ => ?_) (fun hc => absurd rfl hc)
      refine v_bipush (q := 28) (v := -2) dX10_left_26 rfl (by decide) ?_
      refine v_iret dX10_left_28 rfl ?_
      exact hQ u (Scr.rf u)
  · have eA : aLeft X s = -1 := if_neg hi
    rw [eA] at hQ
    refine v_if_ne (t := 10) (q := 8) dX10_left_5 (by decide) rfl (fun hc => absurd rfl hc) (fun _ => ?_)
    refine v_iconst (q := 9) (v := -1) dX10_left_8 rfl (by decide) ?_
    refine v_iret dX10_left_9 rfl ?_
    exact hQ u (Scr.rf u)
theorem q_about {s w : Int32} (hm : MK h m) (hR : MR u X ws) (hS : SI X) (h16 : xM X ≤ 16) (hn : ws.length < 48100) (hQ : Q (some (.int (aAbout X s w))) (mh h m u)) : Call g mX10_about (d + 1) [.ref m, .int s, .int w] (mh h m u) Q := by
  refine Call.of [.ref m, .int s, .int w] (by decide) (Nat.le_of_ble_eq_true rfl) rfl ?_
  have no : aAbout X s w = -1 → V g mX10_about (d + 1) 18 [.ref m, .int s, .int w] [] (mh h m u) Q := fun e => by
    rw [e] at hQ
    refine v_iconst (q := 19) (v := -1) dX10_about_18 rfl (by decide) ?_
    refine v_iret dX10_about_19 rfl ?_
    exact hQ
  have i0 : (0 : Int32).toInt = 0 := by decide
  have i1 : (1 : Int32).toInt = 1 := by decide
  have i2 : (2 : Int32).toInt = 2 := by decide
  have i3 : (3 : Int32).toInt = 3 := by decide
  have i4 : (4 : Int32).toInt = 4 := by decide
  have i5 : (5 : Int32).toInt = 5 := by decide
  have i6 : (6 : Int32).toInt = 6 := by decide
  have i7 : (7 : Int32).toInt = 7 := by decide
  refine v_ald0 (q := 1) dX10_about_0 rfl rfl ?_
  refine v_ild1 (q := 2) dX10_about_1 rfl ?_
  refine v_callV (q := 5) (d' := d) (av := [.int s]) dX10_about_2 rfl ok_X10_is CL9 ml_X10_134 im_X10_is se_X10_is hm.1 (by omega) rfl rfl (Nat.le_of_ble_eq_true rfl) ?_
  refine q_isS hm hR.1 h16 (fun j ej hj => ?_) (fun hi => ?_)
  · subst ej
    refine v_if_eq (t := 18) (q := 8) dX10_about_5 (by decide) rfl (fun hc => absurd hc (by decide)) (fun _ => ?_)
    have eA : aAbout X (nI j) w = abt (xS X j) w := onS_in h16 hj
    rw [eA] at hQ no
    have r := hR.1.2.2.1 j hj
    have out : (w.toInt < 0 ∨ 7 < w.toInt) → abt (xS X j) w = -1 := fun ho => by
      unfold abt
      rw [if_neg (by rw [fa_eq, i0]; omega), if_neg (by rw [fa_eq, i1]; omega), if_neg (by rw [fa_eq, i2]; omega), if_neg (by rw [fa_eq, i3]; omega), if_neg (by rw [fa_eq, i4]; omega), if_neg (by rw [fa_eq, i5]; omega), if_neg (by rw [fa_eq, i6]; omega), if_neg (by rw [fa_eq, i7]; omega)]
    refine v_ild2 (q := 9) dX10_about_8 rfl ?_
    by_cases w0 : w < 0
    · refine v_if_lt (t := 18) (q := 12) dX10_about_9 (by decide) rfl (fun _ => no (out (Or.inl ?_))) (fun hc => absurd w0 hc)
      rw [fa_lt, i0] at w0
      exact w0
    refine v_if_lt (t := 18) (q := 12) dX10_about_9 (by decide) rfl (fun hc => absurd hc w0) (fun _ => ?_)
    refine v_ild2 (q := 13) dX10_about_12 rfl ?_
    refine v_bipush (q := 15) (v := 7) dX10_about_13 rfl (by decide) ?_
    by_cases w7 : ¬ w ≤ 7
    · refine v_icmp_le (t := 20) (q := 18) dX10_about_15 (by decide) rfl (fun hc => absurd hc w7) (fun _ => no (out (Or.inr ?_)))
      rw [fa_le, i7] at w7
      omega
    have w7 := Classical.not_not.mp w7
    refine v_icmp_le (t := 20) (q := 18) dX10_about_15 (by decide) rfl (fun _ => ?_) (fun hc => absurd w7 hc)
    refine v_ild2 (q := 21) dX10_about_20 rfl ?_
    unfold abt at hQ
    by_cases e0 : w = 0
    · subst e0
      rw [if_pos rfl] at hQ
      refine v_tableIn 0 (t := 64) dX10_about_21 (by decide) (by decide) rfl (by decide) ?_
      refine v_ald0 (q := 65) dX10_about_64 rfl rfl ?_
      refine w_ga (q := 68) (j := 3) dX10_about_65 rfl hm (by decide) gf_X10_17_9 ?_
      refine v_ild1 (q := 69) dX10_about_68 rfl ?_
      refine w_iald (q := 70) (n := 16) dX10_about_69 rfl hm (by decide) rfl rfl rfl (by omega) ?_
      rw [r.1.1]
      refine v_iret dX10_about_70 rfl ?_
      exact hQ
    rw [if_neg e0] at hQ
    by_cases e1 : w = 1
    · subst e1
      rw [if_pos rfl] at hQ
      refine v_tableIn 1 (t := 71) dX10_about_21 (by decide) (by decide) rfl (by decide) ?_
      refine v_ald0 (q := 72) dX10_about_71 rfl rfl ?_
      refine w_ga (q := 75) (j := 6) dX10_about_72 rfl hm (by decide) gf_X10_26_9 ?_
      refine v_ild1 (q := 76) dX10_about_75 rfl ?_
      refine w_iald (q := 77) (n := 16) dX10_about_76 rfl hm (by decide) rfl rfl rfl (by omega) ?_
      rw [r.1.2.2.2.1]
      refine v_iret dX10_about_77 rfl ?_
      exact hQ
    rw [if_neg e1] at hQ
    by_cases e2 : w = 2
    · subst e2
      rw [if_pos rfl] at hQ
      refine v_tableIn 2 (t := 78) dX10_about_21 (by decide) (by decide) rfl (by decide) ?_
      refine v_ald0 (q := 79) dX10_about_78 rfl rfl ?_
      refine w_ga (q := 82) (j := 10) dX10_about_79 rfl hm (by decide) gf_X10_38_9 ?_
      refine v_ild1 (q := 83) dX10_about_82 rfl ?_
      refine w_iald (q := 84) (n := 16) dX10_about_83 rfl hm (by decide) rfl rfl rfl (by omega) ?_
      rw [r.2.2.2.1.1]
      refine v_iret dX10_about_84 rfl ?_
      exact hQ
    rw [if_neg e2] at hQ
    by_cases e3 : w = 3
    · subst e3
      rw [if_pos rfl] at hQ
      refine v_tableIn 3 (t := 85) dX10_about_21 (by decide) (by decide) rfl (by decide) ?_
      refine v_ald0 (q := 86) dX10_about_85 rfl rfl ?_
      refine w_ga (q := 89) (j := 11) dX10_about_86 rfl hm (by decide) gf_X10_41_9 ?_
      refine v_ild1 (q := 90) dX10_about_89 rfl ?_
      refine w_iald (q := 91) (n := 16) dX10_about_90 rfl hm (by decide) rfl rfl rfl (by omega) ?_
      rw [r.2.2.2.1.2.1]
      refine v_iret dX10_about_91 rfl ?_
      have : gI (xS X j) 23 = if isW (xS X j) then gI (xS X j) 23 else 0 := by
        by_cases hW : isW (xS X j) = true
        · rw [if_pos hW]
        · rw [if_neg hW, (hS.1 j hj).2.1 (Bool.eq_false_iff.mpr hW)]
      rw [this]
      exact hQ
    rw [if_neg e3] at hQ
    by_cases e4 : w = 4
    · subst e4
      rw [if_pos rfl] at hQ
      refine v_tableIn 4 (t := 92) dX10_about_21 (by decide) (by decide) rfl (by decide) ?_
      refine v_ald0 (q := 93) dX10_about_92 rfl rfl ?_
      refine v_ild1 (q := 94) dX10_about_93 rfl ?_
      refine v_iconst (q := 95) (v := 0) dX10_about_94 rfl (by decide) ?_
      refine v_callV (q := 98) (d' := d) (av := [.int (nI j), .int 0]) dX10_about_95 rfl ok_X10_there CL9 ml_X10_249 im_X10_there se_X10_there hm.1 (by omega) rfl rfl (Nat.le_of_ble_eq_true rfl) ?_
      refine q_there (ev := false) hm hR h16 hj hn ?_
      refine v_iret dX10_about_98 rfl ?_
      exact hQ
    rw [if_neg e4] at hQ
    by_cases e5 : w = 5
    · subst e5
      rw [if_pos rfl] at hQ
      refine v_tableIn 5 (t := 99) dX10_about_21 (by decide) (by decide) rfl (by decide) ?_
      refine v_ald0 (q := 100) dX10_about_99 rfl rfl ?_
      refine v_ild1 (q := 101) dX10_about_100 rfl ?_
      refine v_iconst (q := 102) (v := 1) dX10_about_101 rfl (by decide) ?_
      refine v_callV (q := 105) (d' := d) (av := [.int (nI j), .int 1]) dX10_about_102 rfl ok_X10_there CL9 ml_X10_249 im_X10_there se_X10_there hm.1 (by omega) rfl rfl (Nat.le_of_ble_eq_true rfl) ?_
      refine q_there (ev := true) hm hR h16 hj hn ?_
      refine v_iret dX10_about_105 rfl ?_
      exact hQ
    rw [if_neg e5] at hQ
    by_cases e6 : w = 6
    · subst e6
      rw [if_pos rfl] at hQ
      refine v_tableIn 6 (t := 106) dX10_about_21 (by decide) (by decide) rfl (by decide) ?_
      refine v_ald0 (q := 107) dX10_about_106 rfl rfl ?_
      refine w_ga (q := 110) (j := 9) dX10_about_107 rfl hm (by decide) gf_X10_35_9 ?_
      refine v_ild1 (q := 111) dX10_about_110 rfl ?_
      refine w_iald (q := 112) (n := 16) dX10_about_111 rfl hm (by decide) rfl rfl rfl (by omega) ?_
      rw [r.2.2.1]
      refine v_iret dX10_about_112 rfl ?_
      exact hQ
    rw [if_neg e6] at hQ
    have e7 : w = 7 := by
      rw [fa_eq] at *
      rw [fa_lt] at w0
      rw [fa_le] at w7
      omega
    rw [if_pos e7] at hQ
    refine v_tableOut (t := 113) dX10_about_21 (Or.inr (by rw [e7, i7]; decide)) (by decide) ?_
    refine v_ald0 (q := 114) dX10_about_113 rfl rfl ?_
    refine w_ga (q := 117) (j := 7) dX10_about_114 rfl hm (by decide) gf_X10_29_9 ?_
    refine v_ild1 (q := 118) dX10_about_117 rfl ?_
    refine w_zald (q := 119) (n := 16) dX10_about_118 rfl hm (by decide) rfl rfl rfl (by omega) ?_
    rw [r.1.2.2.2.2]
    by_cases hz : gI (xS X j) 2 = 0
    · rw [if_pos hz] at hQ
      refine v_if_eq (t := 126) (q := 122) dX10_about_119 (by decide) rfl (fun _ => ?_) (fun hc => absurd hz hc)
      refine v_iconst (q := 127) (v := 0) dX10_about_126 rfl (by decide) ?_
      refine v_iret dX10_about_127 rfl ?_
      exact hQ
    · rw [if_neg hz] at hQ
      refine v_if_eq (t := 126) (q := 122) dX10_about_119 (by decide) rfl (fun hc => absurd hc hz) (fun _ => ?_)
      refine v_iconst (q := 123) (v := 1) dX10_about_122 rfl (by decide) ?_
      refine v_goto (q := 127) dX10_about_123 (by decide) ?_
      refine v_iret dX10_about_127 rfl ?_
      exact hQ
  · refine v_if_eq (t := 18) (q := 8) dX10_about_5 (by decide) rfl (fun _ => no (onS_out hi)) (fun hc => absurd rfl hc)
end LB4
