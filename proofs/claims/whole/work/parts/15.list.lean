/-! 15: the library's list and copies -/
section L15
variable {g : Gl} {d : Nat} {h : Hp} {Q : Option Value → Hp → Prop}
theorem k_chk3 {i n : Int32} {o : Option Nat} (h0 : 0 ≤ i) (h1 : i < n) (hQ : Q (some (.int i)) h) : Call g mJ3_checkIndex_8e157 d [.int i, .int n, va_rf o] h Q := by
  refine Call.of [.int i, .int n, va_rf o] (by decide) (by cases o <;> exact Nat.le_of_ble_eq_true rfl) (by cases o <;> rfl) ?_
  refine v_ild0 (q := 1) dJ3_checkIndex_8e157_0 rfl ?_
  refine v_if_lt (t := 9) (q := 4) dJ3_checkIndex_8e157_1 (by decide) rfl ?_ ?_
  · intro hc
    exact absurd h0 (Int32.not_le.mpr hc)
  · intro hc
    refine v_ild0 (q := 5) dJ3_checkIndex_8e157_4 rfl ?_
    refine v_ild1 (q := 6) dJ3_checkIndex_8e157_5 rfl ?_
    refine v_icmp_lt (t := 16) (q := 9) dJ3_checkIndex_8e157_6 (by decide) rfl ?_ ?_
    · intro hc2
      refine v_ild0 (q := 17) dJ3_checkIndex_8e157_16 rfl ?_
      refine v_iret dJ3_checkIndex_8e157_17 rfl ?_
      exact hQ
    · intro hc2
      exact absurd h1 hc2
theorem k_chk {i n : Int32} (h0 : 0 ≤ i) (h1 : i < n) (hQ : Q (some (.int i)) h) : Call g mJ15_checkIndex_7cf53 (d + 1) [.int i, .int n] h Q := by
  refine Call.of [.int i, .int n] (by decide) (Nat.le_of_ble_eq_true rfl) rfl ?_
  refine v_ild0 (q := 1) dJ15_checkIndex_7cf53_0 rfl ?_
  refine v_ild1 (q := 2) dJ15_checkIndex_7cf53_1 rfl ?_
  refine v_null (q := 3) dJ15_checkIndex_7cf53_2 rfl ?_
  refine v_callS (q := 6) (d' := d) (av := [.int i, .int n, va_rf none]) dJ15_checkIndex_7cf53_3 rfl ok_J3_checkIndex_8e157 ml_J15_105 st_J3_checkIndex_8e157 (by omega) rfl rfl (Nat.le_of_ble_eq_true rfl) ?_
  refine k_chk3 h0 h1 ?_
  refine v_iret dJ15_checkIndex_7cf53_6 rfl ?_
  exact hQ
/-- the list at al holds l; its row is e -/
def ALv (g : Gl) (h : Hp) (al e : Nat) (l : List Nat) : Prop := hK h al = 1 ∧ fI h 50 al = nI l.length ∧ fP h 49 al = some e ∧ l.length < 1000000 ∧ (l = [] ∧ e = g.2.2.2.2.1 ∨ hK h e = 27 ∧ l.length ≤ hN h e ∧ 10 ≤ hN h e ∧ hN h e < 2000000 ∧ ∀ i, i < l.length → aP h e i = l[i]?)
theorem k_alSize {al : Nat} (hk : hK h al = 1) (hQ : Q (some (.int (fI h 50 al))) h) : Call g mJx4a65c_size_8abf5 d [.ref al] h Q := by
  refine Call.of [.ref al] (by decide) (Nat.le_of_ble_eq_true rfl) rfl ?_
  refine v_ald0 (q := 1) dJx4a65c_size_8abf5_0 rfl rfl ?_
  refine v_getI (q := 4) dJx4a65c_size_8abf5_1 rfl gf_Jx4a65c_48_0 (by assumption) ?_
  refine v_iret dJx4a65c_size_8abf5_4 rfl ?_
  exact hQ
theorem k_alElem {al e i : Nat} {l : List Nat} (hA : ALv g h al e l) (hi : i < l.length) (hQ : Q (some (va_rf l[i]?)) h) : Call g mJx4a65c_elementData_915e3 d [.ref al, .int (nI i)] h Q := by
  obtain ⟨a1, a2, a3, a4, a5⟩ := hA
  rcases a5 with ⟨rfl, -⟩ | ⟨b1, b2, b3, b4, b5⟩
  · exact absurd hi (Nat.not_lt_zero _)
  refine Call.of [.ref al, .int (nI i)] (by decide) (Nat.le_of_ble_eq_true rfl) rfl ?_
  refine v_ald0 (q := 1) dJx4a65c_elementData_915e3_0 rfl rfl ?_
  refine v_getR (q := 4) dJx4a65c_elementData_915e3_1 rfl gf_Jx4a65c_9_0 (by assumption) (by assumption) ?_
  refine v_ild1 (q := 5) dJx4a65c_elementData_915e3_4 rfl ?_
  refine v_aald (q := 6) _ dJx4a65c_elementData_915e3_5 rfl ⟨b1, by decide, by decide⟩ rfl (Nat.lt_of_lt_of_le hi b2) (by omega) ?_
  refine v_aret dJx4a65c_elementData_915e3_6 rfl (Or.inl ⟨_, rfl⟩) (isRf_rf _) ?_
  rw [b5 i hi]
  exact hQ
theorem k_alGet {al e i : Nat} {l : List Nat} (hA : ALv g h al e l) (hi : i < l.length) (hQ : Q (some (va_rf l[i]?)) h) : Call g mJx4a65c_get_915e3 (d + 2) [.ref al, .int (nI i)] h Q := by
  have a1 := hA.1
  have a2 := hA.2.1
  have a4 := hA.2.2.2.1
  refine Call.of [.ref al, .int (nI i)] (by decide) (Nat.le_of_ble_eq_true rfl) rfl ?_
  refine v_ild1 (q := 1) dJx4a65c_get_915e3_0 rfl ?_
  refine v_ald0 (q := 2) dJx4a65c_get_915e3_1 rfl rfl ?_
  refine v_getI (q := 5) dJx4a65c_get_915e3_2 rfl gf_Jx4a65c_48_0 (by assumption) ?_
  refine v_callS (q := 8) (d' := d + 1) (av := [.int (nI i), .int (fI h 50 al)]) dJx4a65c_get_915e3_5 rfl ok_J15_checkIndex_7cf53 ml_Jx4a65c_118 st_J15_checkIndex_7cf53 (by omega) rfl rfl (Nat.le_of_ble_eq_true rfl) ?_
  refine k_chk (nI_pos' (by omega)) (by rw [a2]; exact nI_lt hi (by omega)) ?_
  refine v_pop (q := 9) dJx4a65c_get_915e3_8 rfl rfl ?_
  refine v_ald0 (q := 10) dJx4a65c_get_915e3_9 rfl rfl ?_
  refine v_ild1 (q := 11) dJx4a65c_get_915e3_10 rfl ?_
  refine v_callV (q := 14) (d' := d + 1) (av := [.int (nI i)]) dJx4a65c_get_915e3_11 rfl ok_Jx4a65c_elementData_915e3 CL0 ml_Jx4a65c_123 im_Jx4a65c_elementData_915e3 se_Jx4a65c_elementData_915e3 (by assumption) (by omega) rfl rfl (Nat.le_of_ble_eq_true rfl) ?_
  refine k_alElem hA hi ?_
  refine v_aret dJx4a65c_get_915e3_14 rfl (Or.inl ⟨_, rfl⟩) (isRf_rf _) ?_
  exact hQ
theorem k_acInit {al : Nat} (hQ : Q none h) : Call g mJxa1e45_init_da8c8 (d + 1) [.ref al] h Q := by
  refine Call.of [.ref al] (by decide) (Nat.le_of_ble_eq_true rfl) rfl ?_
  refine v_ald0 (q := 1) dJxa1e45_init_da8c8_0 rfl rfl ?_
  refine v_objInit (q := 4) dJxa1e45_init_da8c8_1 rfl (by omega) ml_Jxa1e45_1 w_oi w_oc (Nat.le_of_ble_eq_true rfl) ?_
  refine v_vret dJxa1e45_init_da8c8_4 rfl ?_
  exact hQ
theorem k_abInit {al : Nat} (hk : hK h al = 1) (hQ : Q none (sFI h 48 al 0)) : Call g mJxc12de_init_da8c8 (d + 2) [.ref al] h Q := by
  refine Call.of [.ref al] (by decide) (Nat.le_of_ble_eq_true rfl) rfl ?_
  refine v_ald0 (q := 1) dJxc12de_init_da8c8_0 rfl rfl ?_
  refine v_callI (q := 4) (d' := d + 1) (av := []) dJxc12de_init_da8c8_1 rfl ok_Jxa1e45_init_da8c8 rfl rfl ml_Jxc12de_1 im_Jxa1e45_init_da8c8 (by omega) rfl rfl (Nat.le_of_ble_eq_true rfl) ?_
  refine k_acInit ?_
  refine v_ald0 (q := 5) dJxc12de_init_da8c8_4 rfl rfl ?_
  refine v_iconst (q := 6) (v := 0) dJxc12de_init_da8c8_5 rfl (by decide) ?_
  refine v_putI (q := 9) dJxc12de_init_da8c8_6 rfl pf_Jxc12de_7_0 (by assumption) rfl rfl ?_
  refine v_vret dJxc12de_init_da8c8_9 rfl ?_
  exact hQ
theorem k_alInit {al : Nat} (hk : hK h al = 1) (hQ : Q none (sFP (sFI h 48 al 0) 49 al (some g.2.2.2.2.1))) : Call g mJx4a65c_init_da8c8 (d + 3) [.ref al] h Q := by
  refine Call.of [.ref al] (by decide) (Nat.le_of_ble_eq_true rfl) rfl ?_
  refine v_ald0 (q := 1) dJx4a65c_init_da8c8_0 rfl rfl ?_
  refine v_callI (q := 4) (d' := d + 2) (av := []) dJx4a65c_init_da8c8_1 rfl ok_Jxc12de_init_da8c8 rfl rfl ml_Jx4a65c_1 im_Jxc12de_init_da8c8 (by omega) rfl rfl (Nat.le_of_ble_eq_true rfl) ?_
  refine k_abInit hk ?_
  have hk2 : hK (sFI h 48 al 0) al = 1 := hk
  refine v_ald0 (q := 5) dJx4a65c_init_da8c8_4 rfl rfl ?_
  refine v_gets (q := 8) dJx4a65c_init_da8c8_5 rfl ml_gs ?_
  refine v_putP (q := 11) (x := some g.2.2.2.2.1) dJx4a65c_init_da8c8_8 rfl pf_Jx4a65c_9_0 hk2 rfl rfl ?_
  refine v_vret dJx4a65c_init_da8c8_11 rfl ?_
  exact hQ
/-- Arrays.copyOf of a row of longs to a longer row -/
theorem k_copyOfL {a N : Nat} (hk : hK h a = 22) (hn : hN h a < N) (hN2 : N ≤ 60000000) (hQ : ∀ h', h' = sAL (nArr h 22 N) (hz h) (va_cpy (aL h a) (fun _ => 0) 0 0 (hN h a)) → a ≠ hz h → Q (some (.ref (hz h))) h') (hlt : a < hz h) : Call g mJ7_copyOf_c38d5 (d + 1) [.ref a, .int (nI N)] h Q := by
  refine Call.of [.ref a, .int (nI N), zz] (by decide) (Nat.le_of_ble_eq_true rfl) rfl ?_
  refine v_ild1 (q := 1) dJ7_copyOf_c38d5_0 rfl ?_
  refine v_ald0 (q := 2) dJ7_copyOf_c38d5_1 rfl rfl ?_
  refine v_alen (q := 3) dJ7_copyOf_c38d5_2 rfl ⟨(by assumption), by decide, by decide⟩ ?_
  refine v_icmp_ne (t := 14) (q := 6) dJ7_copyOf_c38d5_3 (by decide) rfl ?_ ?_
  · intro hc
    refine v_ild1 (q := 15) dJ7_copyOf_c38d5_14 rfl ?_
    refine v_newarray (q := 17) (k := 22) dJ7_copyOf_c38d5_15 rfl ⟨rfl, by decide⟩ ac_long rfl hN2 ?_
    have hne : a ≠ hz h := Nat.ne_of_lt hlt
    have k1 : hK (nArr h 22 N) a = 22 := by rw [hK_nArr, if_neg hne]; exact hk
    have k2 : hK (nArr h 22 N) (hz h) = 22 := by rw [hK_nArr, if_pos rfl]
    have n1 : hN (nArr h 22 N) a = hN h a := by rw [hN_nArr, if_neg hne]
    have n2 : hN (nArr h 22 N) (hz h) = N := by rw [hN_nArr, if_pos rfl]
    have l1 : aL (nArr h 22 N) a = aL h a := by rw [aL_nArr, if_neg hne]
    have l2 : aL (nArr h 22 N) (hz h) = fun _ => 0 := by rw [aL_nArr, if_pos rfl]
    refine v_ast2 (q := 18) dJ7_copyOf_c38d5_17 rfl (by decide) rfl rfl ?_
    refine v_ald0 (q := 19) dJ7_copyOf_c38d5_18 rfl rfl ?_
    refine v_iconst (q := 20) (v := 0) dJ7_copyOf_c38d5_19 rfl (by decide) ?_
    refine v_ald2 (q := 21) dJ7_copyOf_c38d5_20 rfl rfl ?_
    refine v_iconst (q := 22) (v := 0) dJ7_copyOf_c38d5_21 rfl (by decide) ?_
    refine v_ald0 (q := 23) dJ7_copyOf_c38d5_22 rfl rfl ?_
    refine v_alen (q := 24) dJ7_copyOf_c38d5_23 rfl ⟨(by assumption), by decide, by decide⟩ ?_
    refine v_ild1 (q := 25) dJ7_copyOf_c38d5_24 rfl ?_
    refine v_callS (q := 28) (d' := d) (av := [.int (nI (hN (nArr h 22 N) a)), .int (nI N)]) dJ7_copyOf_c38d5_25 rfl ok_J9_min_7cf53 ml_J7_304 st_J9_min_7cf53 (by omega) rfl rfl (Nat.le_of_ble_eq_true rfl) ?_
    refine k_minI ?_
    rw [if_neg (by rw [n1]; exact nI_nlt (Nat.le_of_lt hn) (by omega))]
    refine v_copyL (q := 31) 0 0 (hN h a) dJ7_copyOf_c38d5_28 rfl (cpW_of ml_J7_150) (by omega) k1 k2 rfl rfl (by rw [n1]) (by rw [n1]; omega) (by rw [n2]; omega) (by rw [n1]; omega) (by rw [n2]; omega) (Nat.le_of_ble_eq_true rfl) ?_
    refine v_ald2 (q := 32) dJ7_copyOf_c38d5_31 rfl rfl ?_
    refine v_aret dJ7_copyOf_c38d5_32 rfl (Or.inr ⟨_, rfl⟩) rfl ?_
    refine hQ _ ?_ hne
    rw [l1, l2]
  · intro hc
    exact absurd ((nI_eq (by omega) (by omega)).mp hc) (by omega)
end L15
