/-! 56: Windowed: enter, whole -/
section L56
variable {g : Gl} {d : Nat} {h : Hp} {Q : Option Value → Hp → Prop} {ow : Nat → Nat} {s p lg A q1 q2 how c k la al e : Nat} {sl ce : Nat} {rows : List Rw}
theorem zN_app (X Y : Zw) : zN (X ++ Y) = zN X + zN Y := by
  unfold zN
  rw [List.map_append, List.sum_append]
theorem zN_cons (z : Nat × Wd) (Y : Zw) : zN (z :: Y) = (wVs z.2).length + zN Y := by
  unfold zN
  rw [List.map_cons, List.sum_cons]
theorem tw_map (Z : Zw) (e0 : Int32) : (Z.map (·.2)).takeWhile (fun w => decide (wB w < e0)) = (Z.takeWhile (fun z => decide (wB z.2 < e0))).map (·.2) := by
  induction Z with
  | nil => rfl
  | cons z Z ih =>
    rw [List.map_cons, List.takeWhile_cons, List.takeWhile_cons]
    by_cases h : wB z.2 < e0
    · rw [if_pos (decide_eq_true h), if_pos (decide_eq_true h), List.map_cons, ih]
    · rw [if_neg (fun q => h (of_decide_eq_true q)), if_neg (fun q => h (of_decide_eq_true q))]
      rfl
theorem tw_all {Z : Zw} {e0 : Int32} : ∀ z ∈ Z.takeWhile (fun z => decide (wB z.2 < e0)), z ∈ Z ∧ wB z.2 < e0 := by
  induction Z with
  | nil => exact fun z hz => by cases hz
  | cons y Z ih =>
    intro z hz
    rw [List.takeWhile_cons] at hz
    by_cases h : wB y.2 < e0
    · rw [if_pos (decide_eq_true h)] at hz
      rcases List.mem_cons.mp hz with e | hz
      · subst e
        exact ⟨List.mem_cons_self, h⟩
      · exact ⟨List.mem_cons_of_mem _ (ih z hz).1, (ih z hz).2⟩
    · rw [if_neg (fun q => h (of_decide_eq_true q))] at hz
      cases hz
theorem dw_head {Z : Zw} {e0 : Int32} : ∀ z, (Z.dropWhile (fun z => decide (wB z.2 < e0))).head? = some z → ¬ wB z.2 < e0 := by
  induction Z with
  | nil => exact fun z hz => by cases hz
  | cons y Z ih =>
    intro z hz
    rw [List.dropWhile_cons] at hz
    by_cases h : wB y.2 < e0
    · rw [if_pos (decide_eq_true h)] at hz
      exact ih z hz
    · rw [if_neg (fun q => h (of_decide_eq_true q)), List.head?_cons] at hz
      cases hz
      exact h
theorem en79S {Z : Zw} {ea j : Nat} {b e0 mk : Int32} {v : Int64} {D1 D2 : List Int64} {s1 c1 b1 s2 c2 b2 : Nat}
    (hQ : ∀ Z1 Zb, Z1.map (·.2) = entA true b e0 (Z.map (·.2)) → Zb.map (·.2) = entB true b e0 (Z.map (·.2)) → EnQ g Q h ow s p lg A q1 q2 how c k la al Z1 Zb true ea mk b e0 v (entT true b e0 (Z.map (·.2))) rows sl ce D1 D2 s1 c1 b1 s2 c2 b2)
    (hF : LnF g h ow s p lg A q1 q2 how c k la al e Z sl ce rows) (hs6 : s < 16) (hk : k < 1000) (hc : c = 1) (hh : how ≤ 5) (hO : LnOK s k rows (Z.map (·.2))) (hN : zN Z + 1 < 1000000) (hn : rows.length + Z.length + 2 < 192512) (fm : fI h 1 p = mk) (fe : fI h 22 p = nI ea) (hea : ea < 2147483648) (hD1 : HpL h ow (tD s) q1 D1 s1 c1 b1) (hD2 : HpL h ow (tQ s) q2 D2 s2 c2 b2) (hb1 : b1 < 400000) (hb2 : b2 < 400000) (f15 : fI h 15 p = 1) (hj : j ≤ Z.length) (eA : (Z.take j).map (·.2) = entA true b e0 (Z.map (·.2))) (eR : (Z.drop j).map (·.2) = entR true b e0 (Z.map (·.2))) :
    V g mX8_enter (d + 9) 74 [.ref p, .int (nI k), .int b, .long v, zz, .int e0, .ref la, .int (nI j), va_rf (Z.map (·.1))[j]?, .int 0] [] h Q := by
  have k1 : hK h p = 8 := hF.1.1
  have hne : ∀ z ∈ Z, wVs z.2 ≠ [] := fun z hz => (hO.1 z.2 (List.mem_map_of_mem hz)).1
  have hlz := zN_len hne
  have tk : (Z.take j).length = j := by rw [List.length_take]; omega
  have new : ∀ u8, entT true b e0 (Z.map (·.2)) = [] → V g mX8_enter (d + 9) 102 [.ref p, .int (nI k), .int b, .long v, zz, .int e0, .ref la, .int (nI j), u8, .int 0] [] h Q := fun u8 eT => by
    have hq := hQ (Z.take j) (Z.drop j) eA (by unfold entB; rw [eT]; exact eR)
    rw [eT] at hq
    have key := en102 (d := d) (u8 := u8) hq (by rw [List.take_append_drop]; exact hF) hs6 hk hh (by rw [List.take_append_drop]; exact hne) (by rw [List.take_append_drop]; omega) (by omega) fm fe hea hD1 hD2 hb1 hb2
    rw [tk] at key
    exact key
  match hat : (Z.map (·.1))[j]? with
  | none =>
    have eT : entT true b e0 (Z.map (·.2)) = [] := by
      have hd : Z.drop j = [] := by
        rw [List.getElem?_eq_none_iff, List.length_map] at hat
        exact List.drop_eq_nil_iff.mpr hat
      unfold entT
      rw [if_pos rfl, ← eR, hd]
      rfl
    rw [hat]
    refine v_ald8 (q := 76) dX8_enter_74 rfl rfl ?_
    refine v_ifnull (r := none) (t := 102) (q := 79) dX8_enter_76 (by decide) rfl (fun _ => new _ eT) (fun a ha => by cases ha)
  | some w =>
    obtain ⟨x, hx⟩ := map_at hat
    obtain ⟨sp, sl⟩ := split_at hx
    have hxm := List.mem_of_getElem? hx
    have hw := hF.2.2.2.1.2.2.2.2.1 (w, x) hxm
    have kw : hK h w = 7 := hw.1
    have hd : Z.drop j = (w, x) :: Z.drop (j + 1) := by
      obtain ⟨hlt, he⟩ := List.getElem?_eq_some_iff.mp hx
      rw [← he, ← List.drop_eq_getElem_cons hlt]
    rw [hat]
    refine v_ald8 (q := 76) dX8_enter_74 rfl rfl ?_
    refine v_ifnull (r := some w) (t := 102) (q := 79) dX8_enter_76 (by decide) rfl (fun ha => by cases ha) (fun _ _ => ?_)
    refine v_ald8 (q := 81) dX8_enter_79 rfl rfl ?_
    refine v_getI (q := 84) dX8_enter_81 rfl gf_X8_156_6 (by assumption) ?_
    refine v_ald0 (q := 85) dX8_enter_84 rfl rfl ?_
    refine v_getI (q := 88) dX8_enter_85 rfl gf_X8_33_7 (by assumption) ?_
    rw [f15, hw.2.2.2.1]
    refine v_if_eq (t := 96) (q := 91) dX8_enter_88 (by decide) rfl (fun hc => absurd hc (by decide)) (fun _ => ?_)
    refine v_ild5 (q := 93) dX8_enter_91 rfl ?_
    refine v_goto (q := 99) dX8_enter_93 (by decide) ?_
    by_cases hb : wB x < e0
    · refine v_icmp_lt (t := 143) (q := 102) dX8_enter_99 (by decide) rfl (fun _ => ?_) (fun hc => absurd hb hc)
      have rs : (Z.drop (j + 1)).takeWhile (fun z => decide (wB z.2 < e0)) ++ (Z.drop (j + 1)).dropWhile (fun z => decide (wB z.2 < e0)) = Z.drop (j + 1) := List.takeWhile_append_dropWhile
      have ra := tw_all (Z := Z.drop (j + 1)) (e0 := e0)
      have rh := dw_head (Z := Z.drop (j + 1)) (e0 := e0)
      have eT : entT true b e0 (Z.map (·.2)) = x :: ((Z.drop (j + 1)).takeWhile (fun z => decide (wB z.2 < e0))).map (·.2) := by
        unfold entT
        rw [if_pos rfl, ← eR, hd, List.map_cons, List.takeWhile_cons, if_pos (decide_eq_true hb), tw_map]
      generalize (Z.drop (j + 1)).takeWhile (fun z => decide (wB z.2 < e0)) = R at *
      generalize (Z.drop (j + 1)).dropWhile (fun z => decide (wB z.2 < e0)) = Zb at *
      have eB : Zb.map (·.2) = entB true b e0 (Z.map (·.2)) := by
        unfold entB
        rw [eT, ← eR, hd, ← rs, List.map_cons, List.map_append, List.length_cons, List.drop_succ_cons, List.length_map]
        have : R.length = (R.map (·.2)).length := by rw [List.length_map]
        rw [this, List.drop_left]
      have hq := hQ (Z.take j) Zb eA eB
      rw [eT] at hq
      rw [← rs] at sp
      have hF' := hF
      rw [sp] at hF'
      have hxo := hO.1 x (List.mem_map_of_mem (f := (·.2)) hxm)
      have hzl : zN Z = zN (Z.take j) + ((wVs x).length + (zN R + zN Zb)) := by
        rw [← zN_app, ← zN_cons (w, x), ← zN_app, ← sp]
      have hll : Z.length = (Z.take j ++ (w, x) :: (R ++ Zb)).length := by rw [← sp]
      have hl2 := hll
      simp only [List.length_append, List.length_cons] at hl2
      refine v_ald0 (q := 144) dX8_enter_143 rfl rfl ?_
      refine v_getI (q := 147) dX8_enter_144 rfl gf_X8_33_7 (by assumption) ?_
      rw [f15]
      refine v_if_eq (t := 163) (q := 150) dX8_enter_147 (by decide) rfl (fun hc => absurd hc (by decide)) (fun _ => ?_)
      have key := en150 (d := d) hq hF' hs6 hk hc hh rh hxo (fun z hz => by
        have hzm : z ∈ Z := List.mem_of_mem_drop (ra z hz).1
        have hzo := hO.1 z.2 (List.mem_map_of_mem (f := (·.2)) hzm)
        exact ⟨hzo.1, hzo.2, (ra z hz).2⟩) (by omega) (by omega) (by omega) fm fe hea hD1 hD2 hb1 hb2
      rw [tk] at key
      exact key
    · refine v_icmp_lt (t := 143) (q := 102) dX8_enter_99 (by decide) rfl (fun hc => absurd hc hb) (fun _ => ?_)
      refine new _ ?_
      unfold entT
      rw [if_pos rfl, ← eR, hd, List.map_cons, List.takeWhile_cons, if_neg (fun hh => hb (of_decide_eq_true hh))]
theorem en38 {Z : Zw} {ea : Nat} {ses : Bool} {b e0 mk : Int32} {v : Int64} {D1 D2 : List Int64} {s1 c1 b1 s2 c2 b2 : Nat}
    (hQ : ∀ Z1 Zb, Z1.map (·.2) = entA ses b e0 (Z.map (·.2)) → Zb.map (·.2) = entB ses b e0 (Z.map (·.2)) → EnQ g Q h ow s p lg A q1 q2 how c k la al Z1 Zb ses ea mk b e0 v (entT ses b e0 (Z.map (·.2))) rows sl ce D1 D2 s1 c1 b1 s2 c2 b2)
    (hF : LnF g h ow s p lg A q1 q2 how c k la al e Z sl ce rows) (hs6 : s < 16) (hk : k < 1000) (hc : ses = true → c = 1) (hh : how ≤ 5) (hO : LnOK s k rows (Z.map (·.2))) (hN : zN Z + 1 < 1000000) (hn : rows.length + Z.length + 2 < 192512) (fm : fI h 1 p = mk) (fe : fI h 22 p = nI ea) (hea : ea < 2147483648) (hD1 : HpL h ow (tD s) q1 D1 s1 c1 b1) (hD2 : HpL h ow (tQ s) q2 D2 s2 c2 b2) (hb1 : b1 < 400000) (hb2 : b2 < 400000) (f15 : fI h 15 p = if ses then 1 else 0) :
    V g mX8_enter (d + 9) 38 [.ref p, .int (nI k), .int b, .long v, zz, .int e0, zz, zz, zz, zz] [.ref la] h Q := by
  have k1 : hK h p = 8 := hF.1.1
  have kl : hK h la = 2 := hF.2.2.2.1.1.1
  have hL := hF.2.2.2.1
  have hsort := hL.sort hO.2
  have hlz := zN_len (Z := Z) (fun z hz => (hO.1 z.2 (List.mem_map_of_mem hz)).1)
  have rest : V g mX8_enter (d + 9) 57 [.ref p, .int (nI k), .int b, .long v, zz, .int e0, .ref la, zz, zz, zz] [.int (if ses then b + 1 else e0), .ref la] h Q := by
    refine v_callV (q := 60) (d' := d + 8) (av := [.int (if ses then b + 1 else e0)]) dX8_enter_57 rfl ok_X1_firstEnding CL1 ml_X8_153 im_X1_firstEnding se_X1_firstEnding (by assumption) (by omega) rfl rfl (Nat.le_of_ble_eq_true rfl) ?_
    refine k_firstEnding (d := d + 5) hL.1 hsort (fun j hj h1 h2 => ?_)
    obtain ⟨eA, eR⟩ := hL.fe hj h1 h2
    rw [List.length_map] at hj
    refine v_ist7 (q := 62) dX8_enter_60 rfl (by decide) rfl ?_
    refine v_ald6 (q := 64) dX8_enter_62 rfl rfl ?_
    refine v_ild7 (q := 66) dX8_enter_64 rfl ?_
    refine v_callV (q := 69) (d' := d + 8) (av := [.int (nI j)]) dX8_enter_66 rfl ok_X1_at CL1 ml_X8_124 im_X1_at se_X1_at (by assumption) (by omega) rfl rfl (Nat.le_of_ble_eq_true rfl) ?_
    refine k_at (d := d + 5) hL.1 (by omega) ?_
    refine v_ast8 (q := 71) dX8_enter_69 rfl (by decide) rfl (isRf_rf _) ?_
    refine v_iconst (q := 72) (v := 0) dX8_enter_71 rfl (by decide) ?_
    refine v_ist9 (q := 74) dX8_enter_72 rfl (by decide) (cat_rf _) ?_
    cases ses with
    | true => exact en79S (d := d) hQ hF hs6 hk (hc rfl) hh hO hN hn fm fe hea hD1 hD2 hb1 hb2 f15 hj eA eR
    | false => exact en79F (d := d) hQ hF hs6 hk hh hO hN hn fm fe hea hD1 hD2 hb1 hb2 f15 hj eA eR
  refine v_ast6 (q := 40) dX8_enter_38 rfl (by decide) rfl rfl ?_
  refine v_ald6 (q := 42) dX8_enter_40 rfl rfl ?_
  refine v_ald0 (q := 43) dX8_enter_42 rfl rfl ?_
  refine v_getI (q := 46) dX8_enter_43 rfl gf_X8_33_7 (by assumption) ?_
  rw [f15]
  cases ses with
  | true =>
    refine v_if_eq (t := 55) (q := 49) dX8_enter_46 (by decide) rfl (fun hc => absurd hc (by decide)) (fun _ => ?_)
    refine v_ild2 (q := 50) dX8_enter_49 rfl ?_
    refine v_iconst (q := 51) (v := 1) dX8_enter_50 rfl (by decide) ?_
    refine v_iadd (q := 52) dX8_enter_51 rfl ?_
    refine v_goto (q := 57) dX8_enter_52 (by decide) ?_
    exact rest
  | false =>
    refine v_if_eq (t := 55) (q := 49) dX8_enter_46 (by decide) rfl (fun _ => ?_) (fun hc => absurd rfl hc)
    refine v_ild5 (q := 57) dX8_enter_55 rfl ?_
    exact rest
end L56
