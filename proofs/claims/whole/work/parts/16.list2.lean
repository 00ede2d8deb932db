/-! 16: the library's list: growing, adding, removing -/
section L16
variable {g : Gl} {d : Nat} {h : Hp} {Q : Option Value → Hp → Prop}
theorem k_newLength {n m p : Nat} (h1 : 0 < n) (h2 : n + max m p < 1000000000) (hQ : Q (some (.int (nI (n + max m p)))) h) : Call g mJ8_newLength_cabcc (d + 1) [.int (nI n), .int (nI m), .int (nI p)] h Q := by
  refine Call.of [.int (nI n), .int (nI m), .int (nI p), zz] (by decide) (Nat.le_of_ble_eq_true rfl) rfl ?_
  refine v_ild0 (q := 1) dJ8_newLength_cabcc_0 rfl ?_
  refine v_ild1 (q := 2) dJ8_newLength_cabcc_1 rfl ?_
  refine v_ild2 (q := 3) dJ8_newLength_cabcc_2 rfl ?_
  refine v_callS (q := 6) (d' := d) (av := [.int (nI m), .int (nI p)]) dJ8_newLength_cabcc_3 rfl ok_J9_max_7cf53 ml_J8_194 st_J9_max_7cf53 (by omega) rfl rfl (Nat.le_of_ble_eq_true rfl) ?_
  refine k_maxI ?_
  have e : (if nI m < nI p then nI p else nI m) = nI (max m p) := by
    by_cases c : m < p
    · rw [if_pos (nI_lt c (by omega)), Nat.max_eq_right (Nat.le_of_lt c)]
    · rw [if_neg (nI_nlt (by omega) (by omega)), Nat.max_eq_left (by omega)]
  rw [e]
  refine v_iadd (q := 7) dJ8_newLength_cabcc_6 rfl ?_
  rw [nI_add]
  refine v_ist3 (q := 8) dJ8_newLength_cabcc_7 rfl (by decide) rfl ?_
  refine v_iconst (q := 9) (v := 0) dJ8_newLength_cabcc_8 rfl (by decide) ?_
  refine v_ild3 (q := 10) dJ8_newLength_cabcc_9 rfl ?_
  refine v_icmp_ge (t := 21) (q := 13) dJ8_newLength_cabcc_10 (by decide) rfl ?_ ?_
  · intro hc
    exact absurd hc (nI_nle (by omega) (by omega))
  · intro hc
    refine v_ild3 (q := 14) dJ8_newLength_cabcc_13 rfl ?_
    refine v_ldc (q := 16) dJ8_newLength_cabcc_14 rfl kc_J8_200 ?_
    refine v_icmp_gt (t := 21) (q := 19) dJ8_newLength_cabcc_16 (by decide) rfl ?_ ?_
    · intro hc2
      exact absurd hc2 (show ¬ (2147483639 : Int32) < nI (n + max m p) from nI_nlt (a := 2147483639) (b := n + max m p) (by omega) (by decide))
    · intro hc2
      refine v_ild3 (q := 20) dJ8_newLength_cabcc_19 rfl ?_
      refine v_iret dJ8_newLength_cabcc_20 rfl ?_
      exact hQ
/-- Arrays.copyOf of a row of Object, of windows, to a longer row -/
theorem k_copyOfC {a N : Nat} (hk : hK h a = 27) (hn : hN h a < N) (hN2 : N ≤ 60000000) (hlt : a < hz h) (hel : ∀ x, x < hN h a → ∀ y, aP h a x = some y → hK h y = 7) (hlw : ∀ y, hK h y = 7 → y < hz h)
    (hQ : Q (some (.ref (hz h))) (sAP (nArr h 27 N) (hz h) (va_cpy (aP h a) (fun _ => none) 0 0 (hN h a)))) : Call g mJ7_copyOf_6403c (d + 1) [.ref a, .int (nI N), .ref g.2.2.2.2.2.1] h Q := by
  refine Call.of [.ref a, .int (nI N), .ref g.2.2.2.2.2.1, zz] (by decide) (Nat.le_of_ble_eq_true rfl) rfl ?_
  refine v_ald2 (q := 1) dJ7_copyOf_6403c_0 rfl rfl ?_
  refine v_ldcM (q := 3) dJ7_copyOf_6403c_1 rfl cl_J7_110 ?_
  refine v_acmp_ne (rx := some g.2.2.2.2.2.1) (ry := some g.2.2.2.2.2.1) (t := 13) (q := 6) dJ7_copyOf_6403c_3 (by decide) rfl (fun hc => absurd rfl hc) (fun _ => ?_)
  refine v_ild1 (q := 7) dJ7_copyOf_6403c_6 rfl ?_
  refine v_anew (q := 10) (k := 27) dJ7_copyOf_6403c_7 rfl ⟨rfl, by decide, by decide⟩ cl_J7_2 lOverObject rfl hN2 ?_
  refine v_goto (q := 24) dJ7_copyOf_6403c_10 (by decide) ?_
  have hne : a ≠ hz h := Nat.ne_of_lt hlt
  have k1 : hK (nArr h 27 N) a = 27 := by rw [hK_nArr, if_neg hne]; exact hk
  have k2 : hK (nArr h 27 N) (hz h) = 27 := by rw [hK_nArr, if_pos rfl]
  have n1 : hN (nArr h 27 N) a = hN h a := by rw [hN_nArr, if_neg hne]
  have n2 : hN (nArr h 27 N) (hz h) = N := by rw [hN_nArr, if_pos rfl]
  have l1 : aP (nArr h 27 N) a = aP h a := by rw [aP_nArr, if_neg hne]
  have l2 : aP (nArr h 27 N) (hz h) = fun _ => none := by rw [aP_nArr, if_pos rfl]
  refine v_ast3 (q := 25) dJ7_copyOf_6403c_24 rfl (by decide) rfl rfl ?_
  refine v_ald0 (q := 26) dJ7_copyOf_6403c_25 rfl rfl ?_
  refine v_iconst (q := 27) (v := 0) dJ7_copyOf_6403c_26 rfl (by decide) ?_
  refine v_ald3 (q := 28) dJ7_copyOf_6403c_27 rfl rfl ?_
  refine v_iconst (q := 29) (v := 0) dJ7_copyOf_6403c_28 rfl (by decide) ?_
  refine v_ald0 (q := 30) dJ7_copyOf_6403c_29 rfl rfl ?_
  refine v_alen (q := 31) dJ7_copyOf_6403c_30 rfl ⟨(by assumption), by decide, by decide⟩ ?_
  refine v_ild1 (q := 32) dJ7_copyOf_6403c_31 rfl ?_
  refine v_callS (q := 35) (d' := d) (av := [.int (nI (hN (nArr h 27 N) a)), .int (nI N)]) dJ7_copyOf_6403c_32 rfl ok_J9_min_7cf53 ml_J7_304 st_J9_min_7cf53 (by omega) rfl rfl (Nat.le_of_ble_eq_true rfl) ?_
  refine k_minI ?_
  rw [if_neg (by rw [n1]; exact nI_nlt (Nat.le_of_lt hn) (by omega))]
  have he : ∀ x, x < hN h a → ∀ y, aP (nArr h 27 N) a (0 + x) = some y → hK (nArr h 27 N) y = 6 + 1 := fun x hx y hy => by
    rw [l1, Nat.zero_add] at hy
    have := hel x hx y hy
    rw [hK_nArr, if_neg (Nat.ne_of_lt (hlw y this))]
    exact this
  refine v_copyP (q := 38) 0 0 (hN h a) dJ7_copyOf_6403c_35 rfl (cpW_of ml_J7_150) (by omega) k1 k2 rfl rfl (by rw [n1]) (by rw [n1]; omega) (by rw [n2]; omega) (by rw [n1]; omega) (by rw [n2]; omega) CL6 ca_X7_Object he (Nat.le_of_ble_eq_true rfl) ?_
  refine v_ald3 (q := 39) dJ7_copyOf_6403c_38 rfl rfl ?_
  refine v_aret dJ7_copyOf_6403c_39 rfl (Or.inr ⟨_, rfl⟩) rfl ?_
  rw [l1, l2]
  exact hQ
theorem k_copyOfP {a N : Nat} (hk : hK h a = 27) (hn : hN h a < N) (hN2 : N ≤ 60000000) (hlt : a < hz h) (hel : ∀ x, x < hN h a → ∀ y, aP h a x = some y → hK h y = 7) (hlw : ∀ y, hK h y = 7 → y < hz h)
    (hQ : Q (some (.ref (hz h))) (sAP (nArr h 27 N) (hz h) (va_cpy (aP h a) (fun _ => none) 0 0 (hN h a)))) : Call g mJ7_copyOf_1904c (d + 2) [.ref a, .int (nI N)] h Q := by
  refine Call.of [.ref a, .int (nI N)] (by decide) (Nat.le_of_ble_eq_true rfl) rfl ?_
  refine v_ald0 (q := 1) dJ7_copyOf_1904c_0 rfl rfl ?_
  refine v_ild1 (q := 2) dJ7_copyOf_1904c_1 rfl ?_
  refine v_ald0 (q := 3) dJ7_copyOf_1904c_2 rfl rfl ?_
  refine v_getC (q := 6) dJ7_copyOf_1904c_3 rfl (by omega) ml_J7_86 w_dc w_sc w_ic w_nc hk (Nat.le_of_ble_eq_true rfl) ?_
  refine v_callS (q := 9) (d' := d + 1) (av := [.ref a, .int (nI N), .ref g.2.2.2.2.2.1]) dJ7_copyOf_1904c_6 rfl ok_J7_copyOf_6403c ml_J7_300 st_J7_copyOf_6403c (by omega) rfl rfl (Nat.le_of_ble_eq_true rfl) ?_
  refine k_copyOfC hk hn hN2 hlt hel hlw ?_
  refine v_aret dJ7_copyOf_1904c_9 rfl (Or.inr ⟨_, rfl⟩) rfl ?_
  exact hQ
/-- the list's row is full (or empty): a longer one -/
theorem k_grow1 {al e n : Nat} (hk : hK h al = 1) (he : fP h 49 al = some e) (hke : hK h e = 27) (hn : hN h e = n) (h1 : 10 ≤ n) (h2 : n < 2000000) (hlt : e < hz h) (hel : ∀ x, x < hN h e → ∀ y, aP h e x = some y → hK h y = 7) (hlw : ∀ y, hK h y = 7 → y < hz h) (hla : al < hz h)
    (hQ : Q (some (.ref (hz h))) (sFP (sAP (nArr h 27 (n + n / 2)) (hz h) (va_cpy (aP h e) (fun _ => none) 0 0 n)) 49 al (some (hz h)))) : Call g mJx4a65c_grow_92f84 (d + 3) [.ref al, .int (nI (n + 1))] h Q := by
  refine Call.of [.ref al, .int (nI (n + 1)), zz, zz] (by decide) (Nat.le_of_ble_eq_true rfl) rfl ?_
  refine v_ald0 (q := 1) dJx4a65c_grow_92f84_0 rfl rfl ?_
  refine v_getR (q := 4) dJx4a65c_grow_92f84_1 rfl gf_Jx4a65c_9_0 (by assumption) (by assumption) ?_
  refine v_alen (q := 5) dJx4a65c_grow_92f84_4 rfl ⟨(by assumption), by decide, by decide⟩ ?_
  refine v_ist2 (q := 6) dJx4a65c_grow_92f84_5 rfl (by decide) rfl ?_
  refine v_ild2 (q := 7) dJx4a65c_grow_92f84_6 rfl ?_
  rw [hn]
  refine v_if_gt (t := 20) (q := 10) dJx4a65c_grow_92f84_7 (by decide) rfl (fun _ => ?_) (fun hc => absurd (nI_lt (show 0 < n by omega) (by omega)) hc)
  refine v_ild2 (q := 21) dJx4a65c_grow_92f84_20 rfl ?_
  refine v_ild1 (q := 22) dJx4a65c_grow_92f84_21 rfl ?_
  refine v_ild2 (q := 23) dJx4a65c_grow_92f84_22 rfl ?_
  refine v_isub (q := 24) dJx4a65c_grow_92f84_23 rfl ?_
  refine v_ild2 (q := 25) dJx4a65c_grow_92f84_24 rfl ?_
  refine v_iconst (q := 26) (v := 1) dJx4a65c_grow_92f84_25 rfl (by decide) ?_
  refine v_ishr (q := 27) dJx4a65c_grow_92f84_26 rfl ?_
  have e1 : nI (n + 1) - nI n = nI 1 := by
    rw [pk_sub (by omega)]
    congr 1
    omega
  have e2 : nI n >>> ((1 : Int32) &&& 31) = nI (n / 2) := by
    have k := pk_shrN (n := n) (by omega) ((1 : Int32) &&& 31) 1 (by decide)
    rw [Nat.pow_one] at k
    exact k
  rw [e1, e2]
  refine v_callS (q := 30) (d' := d + 2) (av := [.int (nI n), .int (nI 1), .int (nI (n / 2))]) dJx4a65c_grow_92f84_27 rfl ok_J8_newLength_cabcc ml_Jx4a65c_73 st_J8_newLength_cabcc (by omega) rfl rfl (Nat.le_of_ble_eq_true rfl) ?_
  refine k_newLength (d := d + 1) (by omega) (by omega) ?_
  rw [show max 1 (n / 2) = n / 2 by omega]
  refine v_ist3 (q := 31) dJx4a65c_grow_92f84_30 rfl (by decide) rfl ?_
  refine v_ald0 (q := 32) dJx4a65c_grow_92f84_31 rfl rfl ?_
  refine v_ald0 (q := 33) dJx4a65c_grow_92f84_32 rfl rfl ?_
  refine v_getR (q := 36) dJx4a65c_grow_92f84_33 rfl gf_Jx4a65c_9_0 (by assumption) (by assumption) ?_
  refine v_ild3 (q := 37) dJx4a65c_grow_92f84_36 rfl ?_
  refine v_callS (q := 40) (d' := d + 2) (av := [.ref e, .int (nI (n + n / 2))]) dJx4a65c_grow_92f84_37 rfl ok_J7_copyOf_1904c ml_Jx4a65c_66 st_J7_copyOf_1904c (by omega) rfl rfl (Nat.le_of_ble_eq_true rfl) ?_
  refine k_copyOfP hke (by omega) (by omega) hlt hel hlw ?_
  have hk2 : hK (sAP (nArr h 27 (n + n / 2)) (hz h) (va_cpy (aP h e) (fun _ => none) 0 0 (hN h e))) al = 1 := by
    rw [hK_sAP, hK_nArr, if_neg (Nat.ne_of_lt hla)]
    exact hk
  refine v_dup_x1 (q := 41) dJx4a65c_grow_92f84_40 rfl rfl rfl ?_
  refine v_putP (q := 44) (x := some (hz h)) dJx4a65c_grow_92f84_41 rfl pf_Jx4a65c_9_0 hk2 rfl rfl ?_
  refine v_aret dJx4a65c_grow_92f84_44 rfl (Or.inr ⟨_, rfl⟩) rfl ?_
  rw [hn]
  exact hQ
theorem k_grow0 {al : Nat} (hk : hK h al = 1) (he : fP h 49 al = some g.2.2.2.2.1) (hla : al < hz h)
    (hQ : Q (some (.ref (hz h))) (sFP (nArr h 27 10) 49 al (some (hz h)))) : Call g mJx4a65c_grow_92f84 (d + 1) [.ref al, .int (nI 1)] h Q := by
  refine Call.of [.ref al, .int (nI 1), zz, zz] (by decide) (Nat.le_of_ble_eq_true rfl) rfl ?_
  refine v_ald0 (q := 1) dJx4a65c_grow_92f84_0 rfl rfl ?_
  refine v_getR (q := 4) dJx4a65c_grow_92f84_1 rfl gf_Jx4a65c_9_0 (by assumption) (by assumption) ?_
  refine v_alenE (q := 5) dJx4a65c_grow_92f84_4 rfl ?_
  refine v_ist2 (q := 6) dJx4a65c_grow_92f84_5 rfl (by decide) rfl ?_
  refine v_ild2 (q := 7) dJx4a65c_grow_92f84_6 rfl ?_
  refine v_if_gt (t := 20) (q := 10) dJx4a65c_grow_92f84_7 (by decide) rfl (fun hc => absurd hc (by decide)) (fun _ => ?_)
  refine v_ald0 (q := 11) dJx4a65c_grow_92f84_10 rfl rfl ?_
  refine v_getR (q := 14) dJx4a65c_grow_92f84_11 rfl gf_Jx4a65c_9_0 (by assumption) (by assumption) ?_
  refine v_gets (q := 17) dJx4a65c_grow_92f84_14 rfl ml_gs ?_
  refine v_acmp_eq (rx := some g.2.2.2.2.1) (ry := some g.2.2.2.2.1) (t := 45) (q := 20) dJx4a65c_grow_92f84_17 (by decide) rfl (fun _ => ?_) (fun hc => absurd rfl hc)
  refine v_ald0 (q := 46) dJx4a65c_grow_92f84_45 rfl rfl ?_
  refine v_bipush (q := 48) (v := 10) dJx4a65c_grow_92f84_46 rfl (by decide) ?_
  refine v_ild1 (q := 49) dJx4a65c_grow_92f84_48 rfl ?_
  refine v_callS (q := 52) (d' := d) (av := [.int 10, .int (nI 1)]) dJx4a65c_grow_92f84_49 rfl ok_J9_max_7cf53 ml_Jx4a65c_79 st_J9_max_7cf53 (by omega) rfl rfl (Nat.le_of_ble_eq_true rfl) ?_
  refine k_maxI ?_
  rw [if_neg (show ¬ (10 : Int32) < nI 1 by decide)]
  have hk2 : hK (nArr h 27 10) al = 1 := by
    rw [hK_nArr, if_neg (Nat.ne_of_lt hla)]
    exact hk
  refine v_anew (q := 55) (k := 27) (N := 10) dJx4a65c_grow_92f84_52 rfl ⟨rfl, by decide, by decide⟩ cl_Jx4a65c_7 lOverObject (by decide) (by decide) ?_
  refine v_dup_x1 (q := 56) dJx4a65c_grow_92f84_55 rfl rfl rfl ?_
  refine v_putP (q := 59) (x := some (hz h)) dJx4a65c_grow_92f84_56 rfl pf_Jx4a65c_9_0 hk2 rfl rfl ?_
  refine v_aret dJx4a65c_grow_92f84_59 rfl (Or.inr ⟨_, rfl⟩) rfl ?_
  exact hQ
end L16
