/-! 54: Windowed: enter, from the lane on -/
section L54
variable {g : Gl} {d : Nat} {h : Hp} {Q : Option Value → Hp → Prop} {ow : Nat → Nat} {s p lg A q1 q2 how c k la al e : Nat} {sl ce : Nat} {rows : List Rw}
theorem en102 {Z1 Z2 : Zw} {ea : Nat} {ses : Bool} {b e0 mk : Int32} {v : Int64} {u8 : Value} {D1 D2 : List Int64} {s1 c1 b1 s2 c2 b2 : Nat}
    (hQ : EnQ g Q h ow s p lg A q1 q2 how c k la al Z1 Z2 ses ea mk b e0 v [] rows sl ce D1 D2 s1 c1 b1 s2 c2 b2)
    (hF : LnF g h ow s p lg A q1 q2 how c k la al e (Z1 ++ Z2) sl ce rows) (hs6 : s < 16) (hk : k < 1000) (hh : how ≤ 5) (hne : ∀ z ∈ Z1 ++ Z2, wVs z.2 ≠ []) (hlen : (Z1 ++ Z2).length + 1 < 1000000) (hn : rows.length + 1 < 192512) (fm : fI h 1 p = mk) (fe : fI h 22 p = nI ea) (hea : ea < 2147483648) (hD1 : HpL h ow (tD s) q1 D1 s1 c1 b1) (hD2 : HpL h ow (tQ s) q2 D2 s2 c2 b2) (hb1 : b1 < 400000) (hb2 : b2 < 400000) :
    V g mX8_enter (d + 9) 102 [.ref p, .int (nI k), .int b, .long v, zz, .int e0, .ref la, .int (nI Z1.length), u8, .int 0] [] h Q := by
  have wf := hF.2.2.2.2.2.2.2.1
  refine v_new (q := 105) dX8_enter_102 rfl nw_X8_104 ?_
  refine v_dup (q := 106) dX8_enter_105 rfl rfl ?_
  refine v_ild1 (q := 107) dX8_enter_106 rfl ?_
  refine v_ild2 (q := 108) dX8_enter_107 rfl ?_
  refine v_ild5 (q := 110) dX8_enter_108 rfl ?_
  refine v_callI (q := 113) (d' := d + 8) (av := [.int (nI k), .int b, .int e0]) dX8_enter_110 rfl ok_X7_init rfl rfl ml_X8_159 im_X7_init (by omega) rfl rfl (Nat.le_of_ble_eq_true rfl) ?_
  refine k_winInit (d := d + 7) (if_pos rfl) ?_
  obtain ⟨w1, w2, w3, w4, w5⟩ := winH_kd (h := h) (key := nI k) (b := b) (e0 := e0)
  have wfX : Wf (winH h (nI k) b e0) := Wf_same (h := nObj h 7 8) rfl rfl (Wf_nObj wf)
  have hwd : WdV (winH h (nI k) b e0) (owX ow h (tg s k)) (tg s k) how k (hz h) (b, e0, none, []) := wd_new hh w1 (if_neg (Nat.lt_irrefl _)) (by rw [winH_fi]; rfl) (by rw [winH_fi]; rfl) (by rw [winH_fi]; rfl) (by rw [winH_fi]; rfl) (by rw [winH_fi]; rfl) (by rw [winH_fi]; rfl) w3
  exact en113 (d := d) (X := winH h (nI k) b e0) hQ hF hs6 hk hh hne hlen hn fm fe hea hD1 hD2 hb1 hb2 (fun a ha => winH_same ha) w4 w5 wfX hwd w3
theorem add_suc (a : Int32) (n : Nat) : a + 1 - nI (n + 1) = a - nI n := by
  rw [← nI_1 n]
  apply Int32.toBitVec_inj.mp
  simp only [Int32.toBitVec_sub, Int32.toBitVec_add]
  generalize (nI n).toBitVec = y
  generalize a.toBitVec = x
  have e : (1 : Int32).toBitVec = 1#32 := rfl
  rw [e]
  bv_omega
/-- enter, a session that is there: join -/
theorem en150 {Z1 Zb R : Zw} {w ea : Nat} {x : Wd} {b e0 mk : Int32} {v : Int64} {D1 D2 : List Int64} {s1 c1 b1 s2 c2 b2 : Nat}
    (hQ : EnQ g Q h ow s p lg A q1 q2 how c k la al Z1 Zb true ea mk b e0 v (x :: R.map (·.2)) rows sl ce D1 D2 s1 c1 b1 s2 c2 b2)
    (hF : LnF g h ow s p lg A q1 q2 how c k la al e (Z1 ++ (w, x) :: (R ++ Zb)) sl ce rows) (hs6 : s < 16) (hk : k < 1000) (hc : c = 1) (hh : how ≤ 5) (hb : ∀ z, Zb.head? = some z → ¬ wB z.2 < e0) (hx : wVs x ≠ [] ∧ RowOK s k rows x) (hR : ∀ z ∈ R, wVs z.2 ≠ [] ∧ RowOK s k rows z.2 ∧ wB z.2 < e0) (hN : (wVs x).length + zN R + 1 < 1000000) (hlen : (Z1 ++ (w, x) :: (R ++ Zb)).length + 1 < 1000000) (hn : rows.length + R.length + 2 < 192512) (fm : fI h 1 p = mk) (fe : fI h 22 p = nI ea) (hea : ea < 2147483648) (hD1 : HpL h ow (tD s) q1 D1 s1 c1 b1) (hD2 : HpL h ow (tQ s) q2 D2 s2 c2 b2) (hb1 : b1 < 400000) (hb2 : b2 < 400000) :
    V g mX8_enter (d + 9) 150 [.ref p, .int (nI k), .int b, .long v, zz, .int e0, .ref la, .int (nI Z1.length), .ref w, .int 0] [] h Q := by
  have k1 : hK h p = 8 := hF.1.1
  refine v_ald0 (q := 151) dX8_enter_150 rfl rfl ?_
  refine v_ald6 (q := 153) dX8_enter_151 rfl rfl ?_
  refine v_ild7 (q := 155) dX8_enter_153 rfl ?_
  refine v_ild2 (q := 156) dX8_enter_155 rfl ?_
  refine v_ild5 (q := 158) dX8_enter_156 rfl ?_
  refine v_callV (q := 161) (d' := d + 8) (av := [.ref la, .int (nI Z1.length), .int b, .int e0]) dX8_enter_158 rfl ok_X8_join CL7 ml_X8_169 im_X8_join se_X8_join (by assumption) (by omega) rfl rfl (Nat.le_of_ble_eq_true rfl) ?_
  refine k_join (d := d) hF hs6 hk hc hh (by omega) hb hx.2 hx.1 hR (by omega) (by omega) fm hD1 hD2 hb1 hb2 (fun h1 ow1 sl1 ce1 s1' c1' s2' c2' bb ee ebb eee F1 G1 G2 f1 p1 o1 l1 y1 y2 => ?_)
  have eb : bks s k rows ((w, x) :: R) = bksL s k rows (x :: R.map (·.2)) := bks_map s k rows ((w, x) :: R)
  rw [jnR_map] at ebb eee F1
  rw [eb] at F1 l1 y1 y2
  have hlb : (bksL s k rows (x :: R.map (·.2))).length ≤ R.length + 1 := by
    have h1 : ∀ T : List Wd, (bksL s k rows T).length ≤ T.length := fun T => by
      induction T with
      | nil => exact Nat.le_refl _
      | cons y T ih =>
        unfold bksL at ih ⊢
        rw [List.flatMap_cons, List.length_append, List.length_cons]
        have : (backOf s k rows y).length ≤ 1 := by
          unfold backOf
          split
          · exact Nat.zero_le _
          · split
            · exact Nat.zero_le _
            · exact Nat.le_refl _
        omega
    have := h1 (x :: R.map (·.2))
    simpa using this
  have ex : adV (bb, ee, none, wVs (jnL (noR x) (R.map (·.2)))) v = entX true b e0 v (x :: R.map (·.2)) := by
    rw [ebb, eee]
    rfl
  have e1 : wB (entX true b e0 v (x :: R.map (·.2))) = bb := by rw [← ex]; rfl
  have e2 : wE (entX true b e0 v (x :: R.map (·.2))) = ee := by rw [← ex]; rfl
  have hch : (¬ (bb = wB x ∧ ee = wE x)) ↔ entC true b e0 v (x :: R.map (·.2)) = true := by
    unfold entC
    rw [e1, e2]
    show _ ↔ (true && !decide (bb = wB x ∧ ee = wE x)) = true
    rw [Bool.true_and, Bool.not_eq_true', decide_eq_false_iff_not]
  have et : (tkB 0 (bksL s k rows (x :: R.map (·.2))) = 1) ↔ true = true ∧ (bksL s k rows (x :: R.map (·.2))).length ≠ 0 := by
    unfold tkB
    by_cases h0 : bksL s k rows (x :: R.map (·.2)) = []
    · rw [h0]
      exact ⟨fun e => absurd e (by decide), fun e => absurd rfl e.2⟩
    · rw [if_pos (Or.inr h0)]
      exact ⟨fun _ => ⟨rfl, fun e => h0 (List.eq_nil_of_length_eq_zero e)⟩, fun _ => rfl⟩
  rw [eb]
  refine v_ist9 (q := 163) dX8_enter_161 rfl (by decide) rfl ?_
  refine en163q (d := d) hQ F1 rfl ex (s1' := s1') (c1' := c1') (s2' := s2') (c2' := c2') ?_ ?_ f1 p1 ?_ l1 (tkB01 _ _) et hs6 hk hh (fun r hr => by cases hr) ?_ ?_ fm fe hea (by omega) (by omega)
  · rw [e1, e2, ← dueA_iff hch]
    exact G1
  · rw [e1, e2, ← pasA_iff hch]
    exact G2
  · rw [o1, List.length_cons, List.length_map, add_suc]
  · show (wVs (jnL (noR x) (R.map (·.2)))).length + 1 < 1000000
    rw [← jnR_map, jnR_len]
    exact hN
  · rw [List.length_append]
    omega
end L54
