/-! 65: the least of a heap; Windowed: windowAt -/
section L65
variable {g : Gl} {d : Nat} {h : Hp} {Q : Option Value → Hp → Prop} {ow : Nat → Nat} {s p lg A q1 q2 how c k la al e : Nat} {sl ce : Nat} {rows : List Rw}
theorem HpL.perm {T q b : Nat} {D D' : List Int64} (x : HpL h ow T q D sl ce b) (hp : D.Perm D') : HpL h ow T q D' sl ce b := by
  obtain ⟨t, x1, x2, x3, x4, x5, x6, x7, x8⟩ := x
  have hl := hp.length_eq
  refine ⟨t, by rw [← hl]; exact x1, fun y => ?_, x3, x4, x5, x6, by rw [← hl]; exact x7, x8⟩
  rw [← hl, x2, hp.count_eq]
theorem HpL.root {T q b : Nat} {D : List Int64} {x : Int64} (hP : HpL h ow T q (x :: D) sl ce b) (hx : ∀ y ∈ D, x ≤ y) : ∃ t, HPv h q t (x :: D).length ∧ aL h t 0 = x := by
  obtain ⟨t, x1, x2, _⟩ := hP
  refine ⟨t, x1, ?_⟩
  have hr := x1.2.root
  have h0 : aL h t 0 ∈ x :: D := by
    refine List.count_pos_iff.mp ?_
    rw [← x2]
    unfold ctL
    exact fb_ct_pos.mpr ⟨0, by simp, decide_eq_true rfl⟩
  have h1 : x ≤ aL h t 0 := by
    rcases List.mem_cons.mp h0 with e | e
    · rw [e]
      exact Int64.le_refl _
    · exact hx _ e
  have h2 : aL h t 0 ≤ x := by
    have : 0 < ctL (aL h t) (x :: D).length x := by
      rw [x2]
      exact List.count_pos_iff.mpr List.mem_cons_self
    unfold ctL at this
    obtain ⟨i, hi, he⟩ := fb_ct_pos.mp this
    have := hr i hi
    rw [of_decide_eq_true he] at this
    exact this
  exact Int64.le_antisymm h2 h1
theorem k_hpLeast {T q b : Nat} {D : List Int64} {x : Int64} (hP : HpL h ow T q (x :: D) sl ce b) (hx : ∀ y ∈ D, x ≤ y) (hQ : Q (some (.long x)) h) : Call g mX2_least d [.ref q] h Q := by
  obtain ⟨t, h1, h2⟩ := hP.root hx
  refine k_lfLeast h1.1 ?_
  rw [h2]
  exact hQ
theorem k_hpTake {T q b : Nat} {D : List Int64} {x : Int64} (hP : HpL h ow T q (x :: D) sl ce b) (wf : Wf h) (hx : ∀ y ∈ D, x ≤ y)
    (hQ : ∀ h', HpL h' ow T q D sl ce b → Fr ow ow (fun t => t = T) h h' → Wf h' → hz h' = hz h → hs h' = hs h → Q (some (.long x)) h') : Call g mX2_takeLeast (d + 1) [.ref q] h Q := by
  obtain ⟨t, h1, h2⟩ := hP.root hx
  obtain ⟨t', x1, x2, x3, x4, x5, x6, x7, x8⟩ := hP
  have et : t' = t := by
    have a := x1.1.2.1
    have c := h1.1.2.1
    rw [a] at c
    exact Option.some.inj c
  subst et
  refine k_lfTake (n := D.length) x1 (fun h' y1 y2 y3 y4 y5 y6 y7 => ?_)
  rw [h2] at y2 ⊢
  refine hQ h' ⟨t', y1, fun y => ?_, x3, x4, by rw [y7]; exact x5, by rw [y7]; exact x6, by rw [List.length_cons] at x7; omega, by rw [y7]; exact x8⟩ (Fr.of0 y3 (fun a _ ha => ha.elim (fun e => e ▸ x3) (fun e => e ▸ x4))) (Wf_same y4 y6 wf) y4 y5
  have h3 := y2 y
  rw [show ctL (aL h t') (D.length + 1) y = (x :: D).count y from x2 y, List.count_cons] at h3
  by_cases e : x = y
  · simp [e] at h3
    omega
  · simp [e] at h3
    omega
theorem k_windowAt {T : Nat} {Z : Zw} {x : Int64} {b e0 : Int32} (k1 : hK h p = 8) (k2 : fP h 17 p = some A) (k3 : hK h A = 24) (k4 : hN h A = 1000) (hla : aP h A k = some la) (hL : LaneS g h ow T how k la al e Z) (hE : (Z.map (·.2)).Pairwise (fun x y => (wE x).toInt < (wE y).toInt)) (hx : x = cSlot (nI k) b e0) (hv : VB b e0) (hk : k < 1000) (hlen : Z.length < 1000000)
    (hQ : ∀ r : Option Nat, (∀ z ∈ Z, wB z.2 = b → wE z.2 = e0 → r = some z.1) → ((∀ z ∈ Z, ¬ (wB z.2 = b ∧ wE z.2 = e0)) → r = none) → Q (some (va_rf r)) h) : Call g mX8_windowAt (d + 6) [.ref p, .long x] h Q := by
  obtain ⟨dk, db, de⟩ := slot_dec hv hk
  rw [← hx] at dk db de
  have hsort := hL.sort (hE.imp (fun h => by rw [fa_le]; omega))
  have kl : hK h la = 2 := hL.1.1
  refine Call.of [.ref p, .long x, zz, zz, zz, zz] (by decide) (Nat.le_of_ble_eq_true rfl) rfl ?_
  refine v_ald0 (q := 1) dX8_windowAt_0 rfl rfl ?_
  refine v_lld1 (q := 2) dX8_windowAt_1 rfl ?_
  refine v_callS (q := 5) (d' := d + 5) (av := [.long x]) dX8_windowAt_2 rfl ok_X0_keyOf ml_X8_220 st_X0_keyOf (by omega) rfl rfl (Nat.le_of_ble_eq_true rfl) ?_
  refine k_keyOf ?_
  rw [dk]
  refine v_callV (q := 8) (d' := d + 5) (av := [.int (nI k)]) dX8_windowAt_5 rfl ok_X8_laneOf CL7 ml_X8_149 im_X8_laneOf se_X8_laneOf (by assumption) (by omega) rfl rfl (Nat.le_of_ble_eq_true rfl) ?_
  refine k_laneOfE (d := d) (A := A) (la := la) k1 k2 k3 k4 hk hla ?_
  refine v_ast3 (q := 9) dX8_windowAt_8 rfl (by decide) rfl rfl ?_
  refine v_ald3 (q := 10) dX8_windowAt_9 rfl rfl ?_
  refine v_ald3 (q := 11) dX8_windowAt_10 rfl rfl ?_
  refine v_lld1 (q := 12) dX8_windowAt_11 rfl ?_
  refine v_callS (q := 15) (d' := d + 5) (av := [.long x]) dX8_windowAt_12 rfl ok_X0_endOf ml_X8_73 st_X0_endOf (by omega) rfl rfl (Nat.le_of_ble_eq_true rfl) ?_
  refine k_endOf ?_
  rw [de]
  refine v_callV (q := 18) (d' := d + 5) (av := [.int e0]) dX8_windowAt_15 rfl ok_X1_firstEnding CL1 ml_X8_153 im_X1_firstEnding se_X1_firstEnding (by assumption) (by omega) rfl rfl (Nat.le_of_ble_eq_true rfl) ?_
  refine k_firstEnding (d := d + 2) hL.1 hsort (fun j hj h1 h2 => ?_)
  rw [List.length_map] at hj
  refine v_callV (q := 21) (d' := d + 5) (av := [.int (nI j)]) dX8_windowAt_18 rfl ok_X1_at CL1 ml_X8_124 im_X1_at se_X1_at (by assumption) (by omega) rfl rfl (Nat.le_of_ble_eq_true rfl) ?_
  refine k_at (d := d + 2) hL.1 (by omega) ?_
  have nul : ∀ r4, (∀ z ∈ Z, ¬ (wB z.2 = b ∧ wE z.2 = e0)) → V g mX8_windowAt (d + 6) 56 [.ref p, .long x, zz, .ref la, va_rf r4, zz] [] h Q := fun r4 hn => by
    refine v_iconst (q := 57) (v := 0) dX8_windowAt_56 rfl (by decide) ?_
    refine v_ist5 (q := 59) dX8_windowAt_57 rfl (by decide) (cat_rf _) ?_
    refine v_ild5 (q := 61) dX8_windowAt_59 rfl ?_
    refine v_if_eq (t := 69) (q := 64) dX8_windowAt_61 (by decide) rfl (fun _ => ?_) (fun hc => absurd rfl hc)
    refine v_null (q := 70) dX8_windowAt_69 rfl ?_
    refine v_aret dX8_windowAt_70 rfl (Or.inl ⟨_, rfl⟩) rfl ?_
    exact hQ none (fun z hz a b => absurd ⟨a, b⟩ (hn z hz)) (fun _ => rfl)
  match hat : (Z.map (·.1))[j]? with
  | none =>
    rw [hat]
    have hjl : Z.length ≤ j := by
      rw [List.getElem?_eq_none_iff, List.length_map] at hat
      exact hat
    refine v_ast4 (q := 23) dX8_windowAt_21 rfl (by decide) rfl rfl ?_
    refine v_ald4 (q := 25) dX8_windowAt_23 rfl rfl ?_
    refine v_ifnull (r := none) (t := 56) (q := 28) dX8_windowAt_25 (by decide) rfl (fun _ => nul none (fun z hz hh => ?_)) (fun a ha => by cases ha)
    obtain ⟨i, hi⟩ := List.mem_iff_getElem?.mp hz
    have hil := (List.getElem?_eq_some_iff.mp hi).1
    have h3 := h1 i z.1 (by omega) (by rw [List.getElem?_map, hi]; rfl)
    rw [(hL.2.2.2.2.1 z hz).2.2.2.2.1, hh.2] at h3
    exact absurd h3 (Int32.lt_irrefl)
  | some w =>
    rw [hat]
    obtain ⟨y, hy⟩ := map_at hat
    have hym := List.mem_of_getElem? hy
    have hw := hL.2.2.2.2.1 (w, y) hym
    have kw : hK h w = 7 := hw.1
    have uniq : ∀ z ∈ Z, wB z.2 = b → wE z.2 = e0 → z = (w, y) := fun z hz _ a2 => by
      obtain ⟨i, hi⟩ := List.mem_iff_getElem?.mp hz
      have hil := (List.getElem?_eq_some_iff.mp hi).1
      have hjl := (List.getElem?_eq_some_iff.mp hy).1
      have wz := hL.2.2.2.2.1 z hz
      have hij : ¬ i < j := fun hlt => by
        have h3 := h1 i z.1 hlt (by rw [List.getElem?_map, hi]; rfl)
        rw [wz.2.2.2.2.1, a2] at h3
        exact absurd h3 (Int32.lt_irrefl)
      rcases Nat.lt_or_ge j i with hlt | hge
      · have h4 := h2 j w (Nat.le_refl _) hat
        rw [hw.2.2.2.2.1, fa_le] at h4
        have g1 : (Z.map (·.2))[j]? = some y := by rw [List.getElem?_map, hy]; rfl
        have g2 : (Z.map (·.2))[i]? = some z.2 := by rw [List.getElem?_map, hi]; rfl
        obtain ⟨l1, e1⟩ := List.getElem?_eq_some_iff.mp g1
        obtain ⟨l2, e2⟩ := List.getElem?_eq_some_iff.mp g2
        have h5 := List.pairwise_iff_getElem.mp hE j i l1 l2 hlt
        rw [e1, e2, a2] at h5
        have h4' : e0.toInt ≤ (wE y).toInt := h4
        omega
      · have : i = j := by omega
        subst this
        rw [hi] at hy
        exact Option.some.inj hy
    refine v_ast4 (q := 23) dX8_windowAt_21 rfl (by decide) rfl rfl ?_
    refine v_ald4 (q := 25) dX8_windowAt_23 rfl rfl ?_
    refine v_ifnull (r := some w) (t := 56) (q := 28) dX8_windowAt_25 (by decide) rfl (fun ha => by cases ha) (fun _ _ => ?_)
    refine v_ald4 (q := 30) dX8_windowAt_28 rfl rfl ?_
    refine v_getI (q := 33) dX8_windowAt_30 rfl gf_X8_156_6 (by assumption) ?_
    refine v_lld1 (q := 34) dX8_windowAt_33 rfl ?_
    refine v_callS (q := 37) (d' := d + 5) (av := [.long x]) dX8_windowAt_34 rfl ok_X0_beginOf ml_X8_223 st_X0_beginOf (by omega) rfl rfl (Nat.le_of_ble_eq_true rfl) ?_
    refine k_beginOf ?_
    rw [db, hw.2.2.2.1]
    by_cases hb : wB y = b
    · refine v_icmp_ne (t := 56) (q := 40) dX8_windowAt_37 (by decide) rfl (fun hc => absurd hb hc) (fun _ => ?_)
      refine v_ald4 (q := 42) dX8_windowAt_40 rfl rfl ?_
      refine v_getI (q := 45) dX8_windowAt_42 rfl gf_X8_128_6 (by assumption) ?_
      refine v_lld1 (q := 46) dX8_windowAt_45 rfl ?_
      refine v_callS (q := 49) (d' := d + 5) (av := [.long x]) dX8_windowAt_46 rfl ok_X0_endOf ml_X8_73 st_X0_endOf (by omega) rfl rfl (Nat.le_of_ble_eq_true rfl) ?_
      refine k_endOf ?_
      rw [de, hw.2.2.2.2.1]
      by_cases he : wE y = e0
      · refine v_icmp_ne (t := 56) (q := 52) dX8_windowAt_49 (by decide) rfl (fun hc => absurd he hc) (fun _ => ?_)
        refine v_iconst (q := 53) (v := 1) dX8_windowAt_52 rfl (by decide) ?_
        refine v_goto (q := 57) dX8_windowAt_53 (by decide) ?_
        refine v_ist5 (q := 59) dX8_windowAt_57 rfl (by decide) rfl ?_
        refine v_ild5 (q := 61) dX8_windowAt_59 rfl ?_
        refine v_if_eq (t := 69) (q := 64) dX8_windowAt_61 (by decide) rfl (fun hc => absurd hc (by decide)) (fun _ => ?_)
        refine v_ald4 (q := 66) dX8_windowAt_64 rfl rfl ?_
        refine v_goto (q := 70) dX8_windowAt_66 (by decide) ?_
        refine v_aret dX8_windowAt_70 rfl (Or.inl ⟨_, rfl⟩) rfl ?_
        exact hQ (some w) (fun z hz a1 a2 => by rw [uniq z hz a1 a2]) (fun hn => absurd ⟨hb, he⟩ (hn (w, y) hym))
      · refine v_icmp_ne (t := 56) (q := 52) dX8_windowAt_49 (by decide) rfl (fun _ => nul (some w) (fun z hz hh => ?_)) (fun hc => absurd hc he)
        rw [uniq z hz hh.1 hh.2] at hh
        exact he hh.2
    · refine v_icmp_ne (t := 56) (q := 40) dX8_windowAt_37 (by decide) rfl (fun _ => nul (some w) (fun z hz hh => ?_)) (fun hc => absurd hc hb)
      rw [uniq z hz hh.1 hh.2] at hh
      exact hb hh.1
end L65
