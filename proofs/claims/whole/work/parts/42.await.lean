/-! 42: Windowed: await, a new lane -/
section L42
variable {g : Gl} {d : Nat} {h : Hp} {Q : Option Value → Hp → Prop} {ow : Nat → Nat} {s p lg A q1 q2 how c k la al e : Nat} {sl ce : Nat} {rows : List Rw}
theorem k_await {w s1 c1 b1 s2 c2 b2 : Nat} {b e2 mk : Int32} {D1 D2 : List Int64} (hC : WgC h ow s p lg A q1 q2) (wf : Wf h) (kw : hK h w = 7) (f34 : fI h 34 w = nI k) (f35 : fI h 35 w = b) (f36 : fI h 36 w = e2) (fm : fI h 1 p = mk) (hD1 : HpL h ow (tD s) q1 D1 s1 c1 b1) (hD2 : HpL h ow (tQ s) q2 D2 s2 c2 b2) (hb1 : b1 < 400000) (hb2 : b2 < 400000)
    (hQ1 : mk < e2 → ∀ h' s1' c1', HpL h' (owX ow h (tD s)) (tD s) q1 (cSlot (nI k) b e2 :: D1) s1' c1' (b1 + 1) → Fr ow (owX ow h (tD s)) (fun t => t = tD s) h h' → Wf h' → hs h' + s1 ≤ hs h + s1' → hz h' + c1 ≤ hz h + c1' → Q none h')
    (hQ2 : ¬ mk < e2 → ∀ h' s2' c2', HpL h' (owX ow h (tQ s)) (tQ s) q2 (cSlot (nI k) b e2 :: D2) s2' c2' (b2 + 1) → Fr ow (owX ow h (tQ s)) (fun t => t = tQ s) h h' → Wf h' → hs h' + s2 ≤ hs h + s2' → hz h' + c2 ≤ hz h + c2' → Q none h') :
    Call g mX8_await (d + 3) [.ref p, .ref w] h Q := by
  obtain ⟨x1, x2, x3, x4, x5, x6, x7, x8, x9, x10⟩ := hC
  refine Call.of [.ref p, .ref w, zz, zz] (by decide) (Nat.le_of_ble_eq_true rfl) rfl ?_
  refine v_ald1 (q := 1) dX8_await_0 rfl rfl ?_
  refine v_getI (q := 4) dX8_await_1 rfl gf_X8_194_6 (by assumption) ?_
  refine v_ald1 (q := 5) dX8_await_4 rfl rfl ?_
  refine v_getI (q := 8) dX8_await_5 rfl gf_X8_156_6 (by assumption) ?_
  refine v_ald1 (q := 9) dX8_await_8 rfl rfl ?_
  refine v_getI (q := 12) dX8_await_9 rfl gf_X8_128_6 (by assumption) ?_
  rw [f34, f35, f36]
  refine v_callS (q := 15) (d' := d + 2) (av := [.int (nI k), .int b, .int e2]) dX8_await_12 rfl ok_X0_slot ml_X8_197 st_X0_slot (by omega) rfl rfl (Nat.le_of_ble_eq_true rfl) ?_
  refine k_slot ?_
  refine v_lst2 (q := 16) dX8_await_15 rfl (by decide) rfl ?_
  refine v_ald1 (q := 17) dX8_await_16 rfl rfl ?_
  refine v_getI (q := 20) dX8_await_17 rfl gf_X8_128_6 (by assumption) ?_
  refine v_ald0 (q := 21) dX8_await_20 rfl rfl ?_
  refine v_getI (q := 24) dX8_await_21 rfl gf_X8_63_7 (by assumption) ?_
  rw [f36, fm]
  have kq1 : hK h q1 = 3 := by
    obtain ⟨t, ht, _⟩ := hD1
    exact ht.1.1
  have kq2 : hK h q2 = 3 := by
    obtain ⟨t, ht, _⟩ := hD2
    exact ht.1.1
  by_cases hc : mk < e2
  · refine v_icmp_le (t := 38) (q := 27) dX8_await_24 (by decide) rfl (fun hle => absurd hc (Int32.not_lt.mpr hle)) (fun _ => ?_)
    refine v_ald0 (q := 28) dX8_await_27 rfl rfl ?_
    refine v_getR (q := 31) dX8_await_28 rfl gf_X8_22_7 (by assumption) (by assumption) ?_
    refine v_lld2 (q := 32) dX8_await_31 rfl ?_
    refine v_callV (q := 35) (d' := d + 2) (av := [.long (cSlot (nI k) b e2)]) dX8_await_32 rfl ok_X2_add CL2 ml_X8_90 im_X2_add se_X2_add (by assumption) (by omega) rfl rfl (Nat.le_of_ble_eq_true rfl) ?_
    refine k_hpAdd (d := d) hD1 wf hb1 (fun h' s' c' y1 y2 y3 y4 y5 => ?_)
    refine v_goto (q := 46) dX8_await_35 (by decide) ?_
    refine v_vret dX8_await_46 rfl ?_
    exact hQ1 hc h' s' c' y1 y2 y3 y4 y5
  · refine v_icmp_le (t := 38) (q := 27) dX8_await_24 (by decide) rfl (fun _ => ?_) (fun hle => absurd (Int32.not_lt.mp hc) hle)
    refine v_ald0 (q := 39) dX8_await_38 rfl rfl ?_
    refine v_getR (q := 42) dX8_await_39 rfl gf_X8_26_7 (by assumption) (by assumption) ?_
    refine v_lld2 (q := 43) dX8_await_42 rfl ?_
    refine v_callV (q := 46) (d' := d + 2) (av := [.long (cSlot (nI k) b e2)]) dX8_await_43 rfl ok_X2_add CL2 ml_X8_90 im_X2_add se_X2_add (by assumption) (by omega) rfl rfl (Nat.le_of_ble_eq_true rfl) ?_
    refine k_hpAdd (d := d) hD2 wf hb2 (fun h' s' c' y1 y2 y3 y4 y5 => ?_)
    refine v_vret dX8_await_46 rfl ?_
    exact hQ2 hc h' s' c' y1 y2 y3 y4 y5
end L42
