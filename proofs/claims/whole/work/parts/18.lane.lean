/-! 18: removing at a place; Lane -/
section L18
variable {g : Gl} {d : Nat} {h : Hp} {Q : Option Value → Hp → Prop}
theorem rem_tail {al e i : Nat} {l : List Nat} (hk : hK h al = 1) (he : hK h e = 27) (hi : i < l.length) (hn : l.length ≤ hN h e) (hN2 : hN h e < 4000000) (hr : ∀ j, j < l.length → aP h e j = (l.take i ++ l.drop (i + 1))[j]? ∨ l.length ≤ j + 1) (hale : al ≠ e)
    (hQ : ∀ h', Smo (fun a => a = al ∨ a = e) h h' → hz h' = hz h → hs h' = hs h → hK h' = hK h → hN h' = hN h → fP h' = fP h → fI h' 50 al = nI (l.length - 1) → (∀ j, j < l.length - 1 → aP h' e j = (l.take i ++ l.drop (i + 1))[j]?) → Q none h') :
    V g mJx4a65c_fastRemove_b59b0 (d + 1) 34 [.ref al, .ref e, .int (nI i), .int (nI (l.length - 1))] [] h Q := by
  refine v_ald1 (q := 35) dJx4a65c_fastRemove_b59b0_34 rfl rfl ?_
  refine v_ald0 (q := 36) dJx4a65c_fastRemove_b59b0_35 rfl rfl ?_
  refine v_ild3 (q := 37) dJx4a65c_fastRemove_b59b0_36 rfl ?_
  refine v_dup_x1 (q := 38) dJx4a65c_fastRemove_b59b0_37 rfl rfl rfl ?_
  refine v_putI (q := 41) dJx4a65c_fastRemove_b59b0_38 rfl pf_Jx4a65c_48_0 (by assumption) rfl rfl ?_
  have he2 : hK (sFI h 50 al (nI (l.length - 1))) e = 27 := he
  refine v_null (q := 42) dJx4a65c_fastRemove_b59b0_41 rfl ?_
  refine v_aastN (q := 43) _ dJx4a65c_fastRemove_b59b0_42 rfl ⟨he2, by decide, by decide⟩ rfl (show l.length - 1 < hN h e by omega) (show hN h e < 2147483648 by omega) ?_
  refine v_vret dJx4a65c_fastRemove_b59b0_43 rfl ?_
  refine hQ _ ((Smo_sFI (Or.inl rfl)).andAP (Or.inl (Or.inr rfl))) rfl rfl rfl rfl rfl ?_ ?_
  · rw [fI_sAP, fI_sFI, if_pos ⟨rfl, rfl⟩]
  · intro j hj
    rw [aP_sAP, if_pos rfl, va_up_ne _ _ (by omega)]
    exact (hr j (by omega)).resolve_right (by omega)
theorem k_fastRemove {al e i : Nat} {l : List Nat} (hA : ALv g h al e l) (hi : i < l.length) (hel : ∀ y ∈ l, hK h y = 7)
    (hQ : ∀ h', ALv g h' al e (l.take i ++ l.drop (i + 1)) → Smo (fun a => a = al ∨ a = e) h h' → hz h' = hz h → hs h' = hs h → hK h' = hK h → hN h' = hN h → Q none h') : Call g mJx4a65c_fastRemove_b59b0 (d + 1) [.ref al, .ref e, .int (nI i)] h Q := by
  obtain ⟨a1, a2, a3, a4, a5⟩ := hA
  rcases a5 with ⟨rfl, -⟩ | ⟨c1, c2, c3, c4, c5⟩
  · exact absurd hi (Nat.not_lt_zero _)
  have hale : al ≠ e := fun x => by rw [x, c1] at a1; cases a1
  refine Call.of [.ref al, .ref e, .int (nI i), zz] (by decide) (Nat.le_of_ble_eq_true rfl) rfl ?_
  refine v_ald0 (q := 1) dJx4a65c_fastRemove_b59b0_0 rfl rfl ?_
  refine v_dup (q := 2) dJx4a65c_fastRemove_b59b0_1 rfl rfl ?_
  refine v_getI (q := 5) dJx4a65c_fastRemove_b59b0_2 rfl gf_Jx4a65c_63_0 (by assumption) ?_
  refine v_iconst (q := 6) (v := 1) dJx4a65c_fastRemove_b59b0_5 rfl (by decide) ?_
  refine v_iadd (q := 7) dJx4a65c_fastRemove_b59b0_6 rfl ?_
  refine v_putI (q := 10) dJx4a65c_fastRemove_b59b0_7 rfl pf_Jx4a65c_63_0 (by assumption) rfl rfl ?_
  generalize hv : fI h 48 al + 1 = v
  have b1 : hK (sFI h 48 al v) al = 1 := a1
  have b2 : fI (sFI h 48 al v) 50 al = nI l.length := by rw [fI_sFI, if_neg (by omega)]; exact a2
  have k27 : hK (sFI h 48 al v) e = 27 := c1
  refine v_ald0 (q := 11) dJx4a65c_fastRemove_b59b0_10 rfl rfl ?_
  refine v_getI (q := 14) dJx4a65c_fastRemove_b59b0_11 rfl gf_Jx4a65c_48_0 (by assumption) ?_
  rw [b2]
  refine v_iconst (q := 15) (v := 1) dJx4a65c_fastRemove_b59b0_14 rfl (by decide) ?_
  refine v_isub (q := 16) dJx4a65c_fastRemove_b59b0_15 rfl ?_
  have e1 : nI l.length - 1 = nI (l.length - 1) := by
    obtain ⟨m, hm⟩ : ∃ m, l.length = m + 1 := ⟨l.length - 1, by omega⟩
    rw [hm, nI_pred]
    rfl
  rw [e1]
  refine v_dup (q := 17) dJx4a65c_fastRemove_b59b0_16 rfl rfl ?_
  refine v_ist3 (q := 18) dJx4a65c_fastRemove_b59b0_17 rfl (by decide) rfl ?_
  refine v_ild2 (q := 19) dJx4a65c_fastRemove_b59b0_18 rfl ?_
  have fin : ∀ h', Smo (fun a => a = al ∨ a = e) (sFI h 48 al v) h' → hz h' = hz h → hs h' = hs h → hK h' = hK h → hN h' = hN h → fP h' = fP h → fI h' 50 al = nI (l.length - 1) → (∀ j, j < l.length - 1 → aP h' e j = (l.take i ++ l.drop (i + 1))[j]?) → Q none h' := by
    intro h' s1 s2 s3 s4 s5 s6 s7 s8
    refine hQ h' ⟨by rw [s4]; exact a1, by rw [s7, del_len hi], by rw [s6]; exact a3, by rw [del_len hi]; omega, Or.inr ⟨by rw [s4]; exact c1, by rw [s5, del_len hi]; omega, by rw [s5]; exact c3, by rw [s5]; exact c4, fun j hj => s8 j (by rw [del_len hi] at hj; exact hj)⟩⟩ ((Smo_sFI (Or.inl rfl)).tr s1 (fun _ _ h => h)) s2 s3 s4 s5
  by_cases hc : l.length - 1 ≤ i
  · refine v_icmp_le (t := 34) (q := 22) dJx4a65c_fastRemove_b59b0_19 (by decide) rfl (fun _ => ?_) (fun hc2 => absurd (nI_le hc (by omega)) hc2)
    refine rem_tail b1 k27 hi (show l.length ≤ hN h e from c2) (show hN h e < 4000000 by omega) (fun j hj => ?_) hale fin
    by_cases hj2 : l.length ≤ j + 1
    · exact Or.inr hj2
    · refine Or.inl ?_
      rw [del_get hi, if_pos (by omega)]
      exact c5 j hj
  · refine v_icmp_le (t := 34) (q := 22) dJx4a65c_fastRemove_b59b0_19 (by decide) rfl (fun hc2 => absurd hc2 (nI_ge (by omega) (by omega))) (fun _ => ?_)
    refine v_ald1 (q := 23) dJx4a65c_fastRemove_b59b0_22 rfl rfl ?_
    refine v_ild2 (q := 24) dJx4a65c_fastRemove_b59b0_23 rfl ?_
    refine v_iconst (q := 25) (v := 1) dJx4a65c_fastRemove_b59b0_24 rfl (by decide) ?_
    refine v_iadd (q := 26) dJx4a65c_fastRemove_b59b0_25 rfl ?_
    refine v_ald1 (q := 27) dJx4a65c_fastRemove_b59b0_26 rfl rfl ?_
    refine v_ild2 (q := 28) dJx4a65c_fastRemove_b59b0_27 rfl ?_
    refine v_ild3 (q := 29) dJx4a65c_fastRemove_b59b0_28 rfl ?_
    refine v_ild2 (q := 30) dJx4a65c_fastRemove_b59b0_29 rfl ?_
    refine v_isub (q := 31) dJx4a65c_fastRemove_b59b0_30 rfl ?_
    have e2 : nI (l.length - 1) - nI i = nI (l.length - 1 - i) := pk_sub (by omega)
    have hel2 : ∀ x, x < l.length - 1 - i → ∀ y, aP (sFI h 48 al v) e (i + 1 + x) = some y → hK (sFI h 48 al v) y = 6 + 1 := fun x hx y hy => by
      have hy' : aP h e (i + 1 + x) = some y := hy
      rw [c5 _ (by omega)] at hy'
      exact hel y (List.mem_of_getElem? hy')
    refine v_copyP (q := 34) (i + 1) i (l.length - 1 - i) dJx4a65c_fastRemove_b59b0_31 rfl (cpW_of ml_Jx4a65c_112) (by omega) k27 k27 (nI_1 i) rfl e2 (show _ ≤ hN h e by omega) (show _ ≤ hN h e by omega) (show hN h e < _ by omega) (show hN h e < _ by omega) CL6 ca_X7_Object hel2 (Nat.le_of_ble_eq_true rfl) ?_
    generalize hcp : va_cpy (aP (sFI h 48 al v) e) (aP (sFI h 48 al v) e) (i + 1) i (l.length - 1 - i) = cp
    refine rem_tail (h := sAP (sFI h 48 al v) e cp) b1 k27 hi (show l.length ≤ hN h e from c2) (show hN h e < 4000000 by omega) (fun j hj => ?_) hale (fun h' s1 => fin h' ((Smo_sAP (Or.inr rfl)).tr s1 (fun _ _ h => h)))
    by_cases hj2 : l.length ≤ j + 1
    · exact Or.inr hj2
    · refine Or.inl ?_
      rw [del_get hi, aP_sAP, if_pos rfl, ← hcp]
      by_cases x : j < i
      · rw [if_pos x, pk_cpy_out (by omega)]
        exact c5 j hj
      · rw [if_neg x, pk_cpy_in (by omega) (by omega), show i + 1 + (j - i) = j + 1 by omega]
        exact c5 (j + 1) (by omega)
theorem k_alRemove {al e i : Nat} {l : List Nat} (hA : ALv g h al e l) (hi : i < l.length) (hel : ∀ y ∈ l, hK h y = 7)
    (hQ : ∀ h' v, ALv g h' al e (l.take i ++ l.drop (i + 1)) → Smo (fun a => a = al ∨ a = e) h h' → hz h' = hz h → hs h' = hs h → hK h' = hK h → hN h' = hN h → isRf v = true → Q (some v) h') : Call g mJx4a65c_remove_915e3 (d + 2) [.ref al, .int (nI i)] h Q := by
  have a1 := hA.1
  have a2 := hA.2.1
  have a3 := hA.2.2.1
  have a4 := hA.2.2.2.1
  have a5 := hA.2.2.2.2
  rcases a5 with ⟨rfl, -⟩ | ⟨c1, c2, c3, c4, c5⟩
  · exact absurd hi (Nat.not_lt_zero _)
  refine Call.of [.ref al, .int (nI i), zz, zz] (by decide) (Nat.le_of_ble_eq_true rfl) rfl ?_
  refine v_ild1 (q := 1) dJx4a65c_remove_915e3_0 rfl ?_
  refine v_ald0 (q := 2) dJx4a65c_remove_915e3_1 rfl rfl ?_
  refine v_getI (q := 5) dJx4a65c_remove_915e3_2 rfl gf_Jx4a65c_48_0 (by assumption) ?_
  refine v_callS (q := 8) (d' := d + 1) (av := [.int (nI i), .int (fI h 50 al)]) dJx4a65c_remove_915e3_5 rfl ok_J15_checkIndex_7cf53 ml_Jx4a65c_118 st_J15_checkIndex_7cf53 (by omega) rfl rfl (Nat.le_of_ble_eq_true rfl) ?_
  refine k_chk (nI_pos' (by omega)) (by rw [a2]; exact nI_lt hi (by omega)) ?_
  refine v_pop (q := 9) dJx4a65c_remove_915e3_8 rfl rfl ?_
  refine v_ald0 (q := 10) dJx4a65c_remove_915e3_9 rfl rfl ?_
  refine v_getR (q := 13) dJx4a65c_remove_915e3_10 rfl gf_Jx4a65c_9_0 (by assumption) (by assumption) ?_
  refine v_ast2 (q := 14) dJx4a65c_remove_915e3_13 rfl (by decide) rfl rfl ?_
  refine v_ald2 (q := 15) dJx4a65c_remove_915e3_14 rfl rfl ?_
  refine v_ild1 (q := 16) dJx4a65c_remove_915e3_15 rfl ?_
  refine v_aald (q := 17) _ dJx4a65c_remove_915e3_16 rfl ⟨c1, by decide, by decide⟩ rfl (by omega) (by omega) ?_
  refine v_ast3 (q := 18) dJx4a65c_remove_915e3_17 rfl (by decide) rfl (isRf_rf _) ?_
  refine v_ald0 (q := 19) dJx4a65c_remove_915e3_18 rfl rfl ?_
  refine v_ald2 (q := 20) dJx4a65c_remove_915e3_19 rfl rfl ?_
  refine v_ild1 (q := 21) dJx4a65c_remove_915e3_20 rfl ?_
  refine v_callV (q := 24) (d' := d + 1) (av := [.ref e, .int (nI i)]) dJx4a65c_remove_915e3_21 rfl ok_Jx4a65c_fastRemove_b59b0 CL0 ml_Jx4a65c_144 im_Jx4a65c_fastRemove_b59b0 se_Jx4a65c_fastRemove_b59b0 (by assumption) (by omega) rfl rfl (Nat.le_of_ble_eq_true rfl) ?_
  refine k_fastRemove hA hi hel (fun h' s1 s2 s3 s4 s5 s6 => ?_)
  refine v_ald3 (q := 25) dJx4a65c_remove_915e3_24 rfl (isRf_rf _) ?_
  refine v_aret dJx4a65c_remove_915e3_25 rfl (Or.inl ⟨_, rfl⟩) (isRf_rf _) ?_
  exact hQ h' _ s1 s2 s3 s4 s5 s6 (isRf_rf _)
/-- the lane at la has the windows l (addresses), in the list al with the row e -/
def LNv (g : Gl) (h : Hp) (la al e : Nat) (l : List Nat) : Prop := hK h la = 2 ∧ fP h 27 la = some al ∧ ALv g h al e l ∧ (∀ w ∈ l, hK h w = 7) ∧ (hK h e = 27 ∨ hK h e = 0)
theorem k_laneInit {la : Nat} (wf : Wf h) (hk : hK h la = 2) (hQ : Q none (sFP (sFP (sFI (nObj h 1 3) 48 (hz h) 0) 49 (hz h) (some g.2.2.2.2.1)) 27 la (some (hz h)))) : Call g mX1_init (d + 4) [.ref la] h Q := by
  have hla : la < hz h := wf la (by omega)
  refine Call.of [.ref la] (by decide) (Nat.le_of_ble_eq_true rfl) rfl ?_
  refine v_ald0 (q := 1) dX1_init_0 rfl rfl ?_
  refine v_objInit (q := 4) dX1_init_1 rfl (by omega) ml_X1_3 w_oi w_oc (Nat.le_of_ble_eq_true rfl) ?_
  refine v_ald0 (q := 5) dX1_init_4 rfl rfl ?_
  refine v_new (q := 8) dX1_init_5 rfl nw_X1_9 ?_
  refine v_dup (q := 9) dX1_init_8 rfl rfl ?_
  refine v_callI (q := 12) (d' := d + 3) (av := []) dX1_init_9 rfl ok_Jx4a65c_init_da8c8 rfl rfl ml_X1_11 im_Jx4a65c_init_da8c8 (by omega) rfl rfl (Nat.le_of_ble_eq_true rfl) ?_
  have k1 : hK (nObj h 1 3) (hz h) = 1 := by rw [hK_nObj, if_pos rfl]
  refine k_alInit k1 ?_
  have k2 : hK (sFP (sFI (nObj h (0 + 1) 3) 48 (hz h) 0) 49 (hz h) (some g.2.2.2.2.1)) la = 2 := by
    show hK (nObj h 1 3) la = 2
    rw [hK_nObj, if_neg (Nat.ne_of_lt hla)]
    exact hk
  refine v_putFP (q := 15) (x := some (hz h)) dX1_init_12 rfl qf_X1_12_1 rfl k2 rfl rfl ?_
  refine v_vret dX1_init_15 rfl ?_
  exact hQ
theorem k_laneAt {la al e : Nat} {l : List Nat} {i : Int32} (hL : LNv g h la al e l) (hQ : Q (some (va_rf (if i < 0 then none else l[i.toNatClampNeg]?))) h) : Call g mX1_at (d + 3) [.ref la, .int i] h Q := by
  obtain ⟨h1, h2, hA, hel, -⟩ := hL
  have a1 := hA.1
  have a2 := hA.2.1
  have a4 := hA.2.2.2.1
  refine Call.of [.ref la, .int i] (by decide) (Nat.le_of_ble_eq_true rfl) rfl ?_
  refine v_ild1 (q := 1) dX1_at_0 rfl ?_
  refine v_if_lt (t := 29) (q := 4) dX1_at_1 (by decide) rfl ?_ ?_
  · intro hc
    rw [if_pos hc] at hQ
    refine v_null (q := 30) dX1_at_29 rfl ?_
    refine v_aret dX1_at_30 rfl (Or.inl ⟨_, rfl⟩) rfl ?_
    exact hQ
  · intro hc
    rw [if_neg hc] at hQ
    obtain ⟨j, hj, rfl⟩ := nI_of hc
    rw [nI_clamp hj] at hQ
    refine v_ild1 (q := 5) dX1_at_4 rfl ?_
    refine v_ald0 (q := 6) dX1_at_5 rfl rfl ?_
    refine v_getR (q := 9) dX1_at_6 rfl gf_X1_12_1 (by assumption) (by assumption) ?_
    refine v_callV (q := 12) (d' := d + 2) (av := []) dX1_at_9 rfl ok_Jx4a65c_size_8abf5 CL0 ml_X1_18 im_Jx4a65c_size_8abf5 se_Jx4a65c_size_8abf5 (by assumption) (by omega) rfl rfl (Nat.le_of_ble_eq_true rfl) ?_
    refine k_alSize a1 ?_
    rw [a2]
    by_cases hlt : j < l.length
    · refine v_icmp_ge (t := 29) (q := 15) dX1_at_12 (by decide) rfl (fun hc2 => absurd hc2 (nI_ge hlt (by omega))) (fun _ => ?_)
      refine v_ald0 (q := 16) dX1_at_15 rfl rfl ?_
      refine v_getR (q := 19) dX1_at_16 rfl gf_X1_12_1 (by assumption) (by assumption) ?_
      refine v_ild1 (q := 20) dX1_at_19 rfl ?_
      refine v_callV (q := 23) (d' := d + 2) (av := [.int (nI j)]) dX1_at_20 rfl ok_Jx4a65c_get_915e3 CL0 ml_X1_22 im_Jx4a65c_get_915e3 se_Jx4a65c_get_915e3 (by assumption) (by omega) rfl rfl (Nat.le_of_ble_eq_true rfl) ?_
      refine k_alGet (d := d) hA hlt ?_
      obtain ⟨w, hw⟩ : ∃ w, l[j]? = some w := ⟨_, List.getElem?_eq_getElem hlt⟩
      rw [hw] at hQ ⊢
      have hk7 : hK h w = 6 + 1 := hel w (List.mem_of_getElem? hw)
      refine v_cast (a := w) (q := 26) dX1_at_23 rfl CL6 cl_X1_26 hk7 ?_
      refine v_goto (q := 30) dX1_at_26 (by decide) ?_
      refine v_aret dX1_at_30 rfl (Or.inl ⟨_, rfl⟩) rfl ?_
      exact hQ
    · refine v_icmp_ge (t := 29) (q := 15) dX1_at_12 (by decide) rfl (fun _ => ?_) (fun hc2 => absurd (nI_le (by omega) hj) hc2)
      rw [List.getElem?_eq_none (by omega)] at hQ
      refine v_null (q := 30) dX1_at_29 rfl ?_
      refine v_aret dX1_at_30 rfl (Or.inl ⟨_, rfl⟩) rfl ?_
      exact hQ
end L18
