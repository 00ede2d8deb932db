/-! 19: Lane: insert, removeAt, firstEnding, rowLeft -/
theorem inc1 (k : Nat) : nI k + Int32.ofInt 1 = nI (k + 1) := nI_1 k
theorem dec1 (k : Nat) : nI (k + 1) + Int32.ofInt (-1) = nI k := pk_m1 k
section L19
variable {g : Gl} {d : Nat} {h : Hp} {Q : Option Value → Hp → Prop}
theorem k_laneInsert {la al e i w : Nat} {l : List Nat} (hL : LNv g h la al e l) (wf : Wf h) (hi : i ≤ l.length) (hw : hK h w = 7) (hl : l.length + 1 < 1000000) (hla : la ≠ al ∧ la ≠ e)
    (hQ : ∀ h' e', LNv g h' la al e' (l.take i ++ w :: l.drop i) → Smo (fun a => a = al ∨ a = e ∧ hK h e = 27) h h' → Wf h' → (e' = e ∧ hz h' = hz h ∧ hs h' = hs h ∧ hN h' e' = hN h e ∨ e' = hz h ∧ hz h' = hz h + 1 ∧ (l = [] ∧ e = g.2.2.2.2.1 ∧ hs h' = hs h + 10 ∧ hN h' e' = 10 ∨ hN h e = l.length ∧ hs h' = hs h + (l.length + l.length / 2) ∧ hN h' e' = l.length + l.length / 2)) → (∀ a, hz h ≤ a → hK h' a ≠ 0 → a = e') → Q none h') :
    Call g mX1_insert (d + 6) [.ref la, .int (nI i), .ref w] h Q := by
  obtain ⟨h1, h2, hA, hel, hke⟩ := hL
  have a1 := hA.1
  have a2 := hA.2.1
  have a4 := hA.2.2.2.1
  refine Call.of [.ref la, .int (nI i), .ref w] (by decide) (Nat.le_of_ble_eq_true rfl) rfl ?_
  refine v_ild1 (q := 1) dX1_insert_0 rfl ?_
  refine v_if_lt (t := 24) (q := 4) dX1_insert_1 (by decide) rfl (fun hc => absurd hc (nI_pos (by omega))) (fun _ => ?_)
  refine v_ild1 (q := 5) dX1_insert_4 rfl ?_
  refine v_ald0 (q := 6) dX1_insert_5 rfl rfl ?_
  refine v_getR (q := 9) dX1_insert_6 rfl gf_X1_12_1 (by assumption) (by assumption) ?_
  refine v_callV (q := 12) (d' := d + 5) (av := []) dX1_insert_9 rfl ok_Jx4a65c_size_8abf5 CL0 ml_X1_18 im_Jx4a65c_size_8abf5 se_Jx4a65c_size_8abf5 (by assumption) (by omega) rfl rfl (Nat.le_of_ble_eq_true rfl) ?_
  refine k_alSize a1 ?_
  rw [a2]
  refine v_icmp_gt (t := 24) (q := 15) dX1_insert_12 (by decide) rfl (fun hc => absurd hc (nI_nlt hi (by omega))) (fun _ => ?_)
  refine v_ald0 (q := 16) dX1_insert_15 rfl rfl ?_
  refine v_getR (q := 19) dX1_insert_16 rfl gf_X1_12_1 (by assumption) (by assumption) ?_
  refine v_ild1 (q := 20) dX1_insert_19 rfl ?_
  refine v_ald2 (q := 21) dX1_insert_20 rfl rfl ?_
  refine v_callV (q := 24) (d' := d + 5) (av := [.int (nI i), .ref w]) dX1_insert_21 rfl ok_Jx4a65c_add_7a177 CL0 ml_X1_28 im_Jx4a65c_add_7a177 se_Jx4a65c_add_7a177 (by assumption) (by omega) rfl rfl (Nat.le_of_ble_eq_true rfl) ?_
  have hlaz : la < hz h := wf la (by omega)
  refine k_alAdd (d := d) hA wf hi hw hel hl (fun h' e' s1 s2 s3 s4 s5 => ?_)
  refine v_vret dX1_insert_24 rfl ?_
  have sl := s2.2 la hlaz (fun x => x.elim hla.1 (fun y => hla.2 y.1))
  refine hQ h' e' ⟨sl.1.trans h1, (sl.2.2.2.2.1 27).trans h2, s1, fun y hy => ?_, Or.inl ?_⟩ s2 s3 s4 s5
  · have hy7 : hK h y = 7 := (ins_mem hy).elim (fun x => by rw [x]; exact hw) (hel y)
    have hyz := wf y (by omega)
    refine (s2.2 y hyz (fun x => ?_)).1.trans hy7
    rcases x with x | x
    · rw [x, a1] at hy7
      cases hy7
    · rw [x.1] at hy7
      omega
  · rcases s1.2.2.2.2 with ⟨x, -⟩ | ⟨c1, -⟩
    · have := congrArg List.length x
      rw [ins_len hi] at this
      cases this
    · exact c1
theorem k_laneRemove {la al e i : Nat} {l : List Nat} (hL : LNv g h la al e l) (wf : Wf h) (hi : i < l.length) (hla : la ≠ al ∧ la ≠ e)
    (hQ : ∀ h', LNv g h' la al e (l.take i ++ l.drop (i + 1)) → Smo (fun a => a = al ∨ a = e) h h' → hz h' = hz h → hs h' = hs h → hK h' = hK h → hN h' = hN h → Q none h') : Call g mX1_removeAt (d + 3) [.ref la, .int (nI i)] h Q := by
  obtain ⟨h1, h2, hA, hel, hke⟩ := hL
  have a1 := hA.1
  have a2 := hA.2.1
  have a4 := hA.2.2.2.1
  refine Call.of [.ref la, .int (nI i)] (by decide) (Nat.le_of_ble_eq_true rfl) rfl ?_
  refine v_ild1 (q := 1) dX1_removeAt_0 rfl ?_
  refine v_if_lt (t := 24) (q := 4) dX1_removeAt_1 (by decide) rfl (fun hc => absurd hc (nI_pos (by omega))) (fun _ => ?_)
  refine v_ild1 (q := 5) dX1_removeAt_4 rfl ?_
  refine v_ald0 (q := 6) dX1_removeAt_5 rfl rfl ?_
  refine v_getR (q := 9) dX1_removeAt_6 rfl gf_X1_12_1 (by assumption) (by assumption) ?_
  refine v_callV (q := 12) (d' := d + 2) (av := []) dX1_removeAt_9 rfl ok_Jx4a65c_size_8abf5 CL0 ml_X1_18 im_Jx4a65c_size_8abf5 se_Jx4a65c_size_8abf5 (by assumption) (by omega) rfl rfl (Nat.le_of_ble_eq_true rfl) ?_
  refine k_alSize a1 ?_
  rw [a2]
  refine v_icmp_ge (t := 24) (q := 15) dX1_removeAt_12 (by decide) rfl (fun hc => absurd hc (nI_ge hi (by omega))) (fun _ => ?_)
  refine v_ald0 (q := 16) dX1_removeAt_15 rfl rfl ?_
  refine v_getR (q := 19) dX1_removeAt_16 rfl gf_X1_12_1 (by assumption) (by assumption) ?_
  refine v_ild1 (q := 20) dX1_removeAt_19 rfl ?_
  refine v_callV (q := 23) (d' := d + 2) (av := [.int (nI i)]) dX1_removeAt_20 rfl ok_Jx4a65c_remove_915e3 CL0 ml_X1_32 im_Jx4a65c_remove_915e3 se_Jx4a65c_remove_915e3 (by assumption) (by omega) rfl rfl (Nat.le_of_ble_eq_true rfl) ?_
  refine k_alRemove (d := d) hA hi hel (fun h' v s1 s2 s3 s4 s5 s6 s7 => ?_)
  refine v_pop (q := 24) dX1_removeAt_23 rfl (isRf_cat s7) ?_
  refine v_vret dX1_removeAt_24 rfl ?_
  have sl := s2.2 la (wf la (by omega)) (fun x => x.elim hla.1 hla.2)
  refine hQ h' ⟨sl.1.trans h1, (sl.2.2.2.2.1 27).trans h2, s1, fun y hy => ?_, by rw [s5]; exact hke⟩ s2 s3 s4 s5 s6
  rw [s5]
  rcases List.mem_append.mp hy with q | q
  · exact hel y (List.mem_of_mem_take q)
  · exact hel y (List.mem_of_mem_drop q)
theorem fe_loop {la al e : Nat} {l : List Nat} {least : Int32} (hL : LNv g h la al e l) (hsort : ∀ (i j wi wj : Nat), i ≤ j → l[i]? = some wi → l[j]? = some wj → fI h 36 wi ≤ fI h 36 wj)
    (hQ : ∀ j, j ≤ l.length → (∀ (i w : Nat), i < j → l[i]? = some w → fI h 36 w < least) → (∀ (i w : Nat), j ≤ i → l[i]? = some w → least ≤ fI h 36 w) → Q (some (.int (nI j))) h) :
    ∀ (m low high : Nat) (u : Value), high - low ≤ m → low ≤ high → high ≤ l.length → (∀ (i w : Nat), i < low → l[i]? = some w → fI h 36 w < least) → (∀ (i w : Nat), high ≤ i → l[i]? = some w → least ≤ fI h 36 w) → V g mX1_firstEnding (d + 3) 10 [.ref la, .int least, .int (nI low), .int (nI high), u] [] h Q := by
  obtain ⟨h1, h2, hA, hel, hke⟩ := hL
  have a1 := hA.1
  have a4 := hA.2.2.2.1
  intro m
  induction m with
  | zero =>
    intro low high u hm hlh hhl i1 i2
    have : low = high := by omega
    subst this
    refine v_ild2 (q := 11) dX1_firstEnding_10 rfl ?_
    refine v_ild3 (q := 12) dX1_firstEnding_11 rfl ?_
    refine v_icmp_ge (t := 55) (q := 15) dX1_firstEnding_12 (by decide) rfl (fun _ => ?_) (fun hc => absurd (Int32.le_refl _) hc)
    refine v_ild2 (q := 56) dX1_firstEnding_55 rfl ?_
    refine v_iret dX1_firstEnding_56 rfl ?_
    exact hQ low hhl i1 i2
  | succ m ih =>
    intro low high u hm hlh hhl i1 i2
    by_cases hend : low = high
    · subst hend
      refine v_ild2 (q := 11) dX1_firstEnding_10 rfl ?_
      refine v_ild3 (q := 12) dX1_firstEnding_11 rfl ?_
      refine v_icmp_ge (t := 55) (q := 15) dX1_firstEnding_12 (by decide) rfl (fun _ => ?_) (fun hc => absurd (Int32.le_refl _) hc)
      refine v_ild2 (q := 56) dX1_firstEnding_55 rfl ?_
      refine v_iret dX1_firstEnding_56 rfl ?_
      exact hQ low hhl i1 i2
    · refine v_ild2 (q := 11) dX1_firstEnding_10 rfl ?_
      refine v_ild3 (q := 12) dX1_firstEnding_11 rfl ?_
      refine v_icmp_ge (t := 55) (q := 15) dX1_firstEnding_12 (by decide) rfl (fun hc => absurd hc (nI_ge (by omega) (by omega))) (fun _ => ?_)
      refine v_ild2 (q := 16) dX1_firstEnding_15 rfl ?_
      refine v_ild3 (q := 17) dX1_firstEnding_16 rfl ?_
      refine v_iadd (q := 18) dX1_firstEnding_17 rfl ?_
      refine v_iconst (q := 19) (v := 2) dX1_firstEnding_18 rfl (by decide) ?_
      refine v_idiv (q := 20) dX1_firstEnding_19 rfl (by decide) ?_
      have em : (nI low + nI high) / 2 = nI ((low + high) / 2) := by
        rw [nI_add]
        exact pk_div (a := low + high) (d := 2) (by omega) (by decide) (by decide)
      rw [em]
      have hmid : (low + high) / 2 < l.length := by omega
      refine v_ist4 (q := 22) dX1_firstEnding_20 rfl (by decide) rfl ?_
      refine v_ald0 (q := 23) dX1_firstEnding_22 rfl rfl ?_
      refine v_getR (q := 26) dX1_firstEnding_23 rfl gf_X1_12_1 (by assumption) (by assumption) ?_
      refine v_ild4 (q := 28) dX1_firstEnding_26 rfl ?_
      refine v_callV (q := 31) (d' := d + 2) (av := [.int (nI ((low + high) / 2))]) dX1_firstEnding_28 rfl ok_Jx4a65c_get_915e3 CL0 ml_X1_22 im_Jx4a65c_get_915e3 se_Jx4a65c_get_915e3 (by assumption) (by omega) rfl rfl (Nat.le_of_ble_eq_true rfl) ?_
      refine k_alGet (d := d) hA hmid ?_
      obtain ⟨w, hw⟩ : ∃ w, l[(low + high) / 2]? = some w := ⟨_, List.getElem?_eq_getElem hmid⟩
      rw [hw]
      have hk7 : hK h w = 6 + 1 := hel w (List.mem_of_getElem? hw)
      refine v_cast (a := w) (q := 34) dX1_firstEnding_31 rfl CL6 cl_X1_26 hk7 ?_
      refine v_getI (q := 37) dX1_firstEnding_34 rfl gf_X1_35_6 (by assumption) ?_
      refine v_ild1 (q := 38) dX1_firstEnding_37 rfl ?_
      refine v_icmp_ge (t := 49) (q := 41) dX1_firstEnding_38 (by decide) rfl ?_ ?_
      · intro hc
        refine v_ild4 (q := 51) dX1_firstEnding_49 rfl ?_
        refine v_ist3 (q := 52) dX1_firstEnding_51 rfl (by decide) rfl ?_
        refine v_goto (q := 10) dX1_firstEnding_52 (by decide) ?_
        refine ih low ((low + high) / 2) _ (by omega) (by omega) (by omega) i1 (fun i wi hi hwi => ?_)
        exact Int32.le_trans hc (hsort _ _ _ _ hi hw hwi)
      · intro hc
        refine v_ild4 (q := 43) dX1_firstEnding_41 rfl ?_
        refine v_iconst (q := 44) (v := 1) dX1_firstEnding_43 rfl (by decide) ?_
        refine v_iadd (q := 45) dX1_firstEnding_44 rfl ?_
        rw [nI_1]
        refine v_ist2 (q := 46) dX1_firstEnding_45 rfl (by decide) rfl ?_
        refine v_goto (q := 52) dX1_firstEnding_46 (by decide) ?_
        refine v_goto (q := 10) dX1_firstEnding_52 (by decide) ?_
        refine ih ((low + high) / 2 + 1) high _ (by omega) (by omega) hhl (fun i wi hi hwi => ?_) i2
        exact Int32.lt_of_le_of_lt (hsort _ _ _ _ (by omega) hwi hw) (Int32.not_le.mp hc)
theorem k_firstEnding {la al e : Nat} {l : List Nat} {least : Int32} (hL : LNv g h la al e l) (hsort : ∀ (i j wi wj : Nat), i ≤ j → l[i]? = some wi → l[j]? = some wj → fI h 36 wi ≤ fI h 36 wj)
    (hQ : ∀ j, j ≤ l.length → (∀ (i w : Nat), i < j → l[i]? = some w → fI h 36 w < least) → (∀ (i w : Nat), j ≤ i → l[i]? = some w → least ≤ fI h 36 w) → Q (some (.int (nI j))) h) : Call g mX1_firstEnding (d + 3) [.ref la, .int least] h Q := by
  have h2 := hL.2.1
  have h1 := hL.1
  have a1 := hL.2.2.1.1
  have a2 := hL.2.2.1.2.1
  refine Call.of [.ref la, .int least, zz, zz, zz] (by decide) (Nat.le_of_ble_eq_true rfl) rfl ?_
  refine v_iconst (q := 1) (v := 0) dX1_firstEnding_0 rfl (by decide) ?_
  refine v_ist2 (q := 2) dX1_firstEnding_1 rfl (by decide) rfl ?_
  refine v_ald0 (q := 3) dX1_firstEnding_2 rfl rfl ?_
  refine v_getR (q := 6) dX1_firstEnding_3 rfl gf_X1_12_1 (by assumption) (by assumption) ?_
  refine v_callV (q := 9) (d' := d + 2) (av := []) dX1_firstEnding_6 rfl ok_Jx4a65c_size_8abf5 CL0 ml_X1_18 im_Jx4a65c_size_8abf5 se_Jx4a65c_size_8abf5 (by assumption) (by omega) rfl rfl (Nat.le_of_ble_eq_true rfl) ?_
  refine k_alSize a1 ?_
  rw [a2]
  refine v_ist3 (q := 10) dX1_firstEnding_9 rfl (by decide) rfl ?_
  exact fe_loop hL hsort hQ l.length 0 l.length zz (by omega) (by omega) (by omega) (fun i w hi => absurd hi (Nat.not_lt_zero _)) (fun i w hi hw => absurd (List.getElem?_eq_some_iff.mp hw).1 (by omega))
/-- the rows that are left in a lane -/
def rwl (h : Hp) (l : List Nat) : List Int32 := (l.map (fI h 38)).filter (fun r => r ≠ -1)
theorem rl_loop {la al e : Nat} {l : List Nat} (hL : LNv g h la al e l) : ∀ (m k a : Nat) (u : Value), l.length - k ≤ m → k ≤ l.length → a < 2147483648 → Q (some (.int ((rwl h (l.drop k))[a]?.getD (-1)))) h → ∀ i0 : Int32, V g mX1_rowLeft (d + 3) 4 [.ref la, .int i0, .int (nI a), .int (nI k), u] [] h Q := by
  obtain ⟨h1, h2, hA, hel, hke⟩ := hL
  have a1 := hA.1
  have a2 := hA.2.1
  have a4 := hA.2.2.2.1
  intro m
  induction m with
  | zero =>
    intro k a u hm hk ha hQ i0
    refine v_ild3 (q := 5) dX1_rowLeft_4 rfl ?_
    refine v_ald0 (q := 6) dX1_rowLeft_5 rfl rfl ?_
    refine v_getR (q := 9) dX1_rowLeft_6 rfl gf_X1_12_1 (by assumption) (by assumption) ?_
    refine v_callV (q := 12) (d' := d + 2) (av := []) dX1_rowLeft_9 rfl ok_Jx4a65c_size_8abf5 CL0 ml_X1_18 im_Jx4a65c_size_8abf5 se_Jx4a65c_size_8abf5 (by assumption) (by omega) rfl rfl (Nat.le_of_ble_eq_true rfl) ?_
    refine k_alSize a1 ?_
    rw [a2]
    refine v_icmp_ge (t := 53) (q := 15) dX1_rowLeft_12 (by decide) rfl (fun _ => ?_) (fun hc => absurd (nI_le (by omega) (by omega)) hc)
    refine v_iconst (q := 54) (v := -1) dX1_rowLeft_53 rfl (by decide) ?_
    refine v_iret dX1_rowLeft_54 rfl ?_
    rw [List.drop_eq_nil_of_le (by omega)] at hQ
    exact hQ
  | succ m ih =>
    intro k a u hm hk ha hQ i0
    refine v_ild3 (q := 5) dX1_rowLeft_4 rfl ?_
    refine v_ald0 (q := 6) dX1_rowLeft_5 rfl rfl ?_
    refine v_getR (q := 9) dX1_rowLeft_6 rfl gf_X1_12_1 (by assumption) (by assumption) ?_
    refine v_callV (q := 12) (d' := d + 2) (av := []) dX1_rowLeft_9 rfl ok_Jx4a65c_size_8abf5 CL0 ml_X1_18 im_Jx4a65c_size_8abf5 se_Jx4a65c_size_8abf5 (by assumption) (by omega) rfl rfl (Nat.le_of_ble_eq_true rfl) ?_
    refine k_alSize a1 ?_
    rw [a2]
    by_cases hlt : k < l.length
    · refine v_icmp_ge (t := 53) (q := 15) dX1_rowLeft_12 (by decide) rfl (fun hc => absurd hc (nI_ge hlt (by omega))) (fun _ => ?_)
      refine v_ald0 (q := 16) dX1_rowLeft_15 rfl rfl ?_
      refine v_getR (q := 19) dX1_rowLeft_16 rfl gf_X1_12_1 (by assumption) (by assumption) ?_
      refine v_ild3 (q := 20) dX1_rowLeft_19 rfl ?_
      refine v_callV (q := 23) (d' := d + 2) (av := [.int (nI k)]) dX1_rowLeft_20 rfl ok_Jx4a65c_get_915e3 CL0 ml_X1_22 im_Jx4a65c_get_915e3 se_Jx4a65c_get_915e3 (by assumption) (by omega) rfl rfl (Nat.le_of_ble_eq_true rfl) ?_
      refine k_alGet (d := d) hA hlt ?_
      obtain ⟨w, hw⟩ : ∃ w, l[k]? = some w := ⟨_, List.getElem?_eq_getElem hlt⟩
      have hdr : l.drop k = w :: l.drop (k + 1) := by
        have := List.drop_eq_getElem_cons hlt
        rw [List.getElem?_eq_getElem hlt] at hw
        cases hw
        exact this
      rw [hw]
      have hk7 : hK h w = 6 + 1 := hel w (List.mem_of_getElem? hw)
      refine v_cast (a := w) (q := 26) dX1_rowLeft_23 rfl CL6 cl_X1_26 hk7 ?_
      refine v_getI (q := 29) dX1_rowLeft_26 rfl gf_X1_39_6 (by assumption) ?_
      refine v_ist4 (q := 31) dX1_rowLeft_29 rfl (by decide) rfl ?_
      refine v_ild4 (q := 33) dX1_rowLeft_31 rfl ?_
      refine v_iconst (q := 34) (v := -1) dX1_rowLeft_33 rfl (by decide) ?_
      rw [hdr] at hQ
      refine v_icmp_eq (t := 47) (q := 37) dX1_rowLeft_34 (by decide) rfl ?_ ?_
      · intro hc
        have e1 : rwl h (w :: l.drop (k + 1)) = rwl h (l.drop (k + 1)) := by
          simp [rwl, hc]
        rw [e1] at hQ
        refine v_inc3 (q := 50) dX1_rowLeft_47 rfl (by decide) rfl (inc1 k) ?_
        refine v_goto (q := 4) dX1_rowLeft_50 (by decide) ?_
        exact ih (k + 1) a _ (by omega) (by omega) ha hQ i0
      · intro hc
        have e1 : rwl h (w :: l.drop (k + 1)) = fI h 38 w :: rwl h (l.drop (k + 1)) := by
          simp [rwl, hc]
        rw [e1] at hQ
        refine v_ild2 (q := 38) dX1_rowLeft_37 rfl ?_
        by_cases ha0 : a = 0
        · subst ha0
          refine v_inc2 (q := 41) dX1_rowLeft_38 rfl (by decide) rfl rfl ?_
          refine v_if_ne (t := 47) (q := 44) dX1_rowLeft_41 (by decide) rfl (fun hc2 => absurd rfl hc2) (fun _ => ?_)
          refine v_ild4 (q := 46) dX1_rowLeft_44 rfl ?_
          refine v_iret dX1_rowLeft_46 rfl ?_
          exact hQ
        · obtain ⟨b, rfl⟩ : ∃ b, a = b + 1 := ⟨a - 1, by omega⟩
          refine v_inc2 (q := 41) dX1_rowLeft_38 rfl (by decide) rfl (dec1 b) ?_
          refine v_if_ne (t := 47) (q := 44) dX1_rowLeft_41 (by decide) rfl (fun _ => ?_) (fun hc2 => absurd hc2 (nI_ne0 (by omega) ha))
          refine v_inc3 (q := 50) dX1_rowLeft_47 rfl (by decide) rfl (inc1 k) ?_
          refine v_goto (q := 4) dX1_rowLeft_50 (by decide) ?_
          exact ih (k + 1) b _ (by omega) (by omega) (by omega) hQ i0
    · refine v_icmp_ge (t := 53) (q := 15) dX1_rowLeft_12 (by decide) rfl (fun _ => ?_) (fun hc => absurd (nI_le (by omega) (by omega)) hc)
      refine v_iconst (q := 54) (v := -1) dX1_rowLeft_53 rfl (by decide) ?_
      refine v_iret dX1_rowLeft_54 rfl ?_
      rw [List.drop_eq_nil_of_le (by omega)] at hQ
      exact hQ
theorem k_laneRowLeft {la al e a : Nat} {l : List Nat} (hL : LNv g h la al e l) (ha : a < 2147483648) (hQ : Q (some (.int ((rwl h l)[a]?.getD (-1)))) h) : Call g mX1_rowLeft (d + 3) [.ref la, .int (nI a)] h Q := by
  refine Call.of [.ref la, .int (nI a), zz, zz, zz] (by decide) (Nat.le_of_ble_eq_true rfl) rfl ?_
  refine v_ild1 (q := 1) dX1_rowLeft_0 rfl ?_
  refine v_ist2 (q := 2) dX1_rowLeft_1 rfl (by decide) rfl ?_
  refine v_iconst (q := 3) (v := 0) dX1_rowLeft_2 rfl (by decide) ?_
  refine v_ist3 (q := 4) dX1_rowLeft_3 rfl (by decide) rfl ?_
  exact rl_loop hL l.length 0 a zz (by omega) (by omega) ha hQ _
end L19
