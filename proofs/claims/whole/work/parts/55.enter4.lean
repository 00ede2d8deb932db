/-! 55: Windowed: enter, its beginning -/
/-- what enter asks of the list of a lane -/
def LnOK (s k : Nat) (rows : List Rw) (L : List Wd) : Prop := (∀ x ∈ L, wVs x ≠ [] ∧ RowOK s k rows x) ∧ L.Pairwise (fun x y => wE x ≤ wE y)
section L55
variable {g : Gl} {d : Nat} {h : Hp} {Q : Option Value → Hp → Prop} {ow : Nat → Nat} {s p lg A q1 q2 how c k la al e : Nat} {sl ce : Nat} {rows : List Rw}
theorem map_at {Z : Zw} {i w : Nat} (hi : (Z.map (·.1))[i]? = some w) : ∃ x, Z[i]? = some (w, x) := by
  rw [List.getElem?_map] at hi
  match hz : Z[i]?, hi with
  | some z, hi =>
    refine ⟨z.2, ?_⟩
    have : z.1 = w := Option.some.inj hi
    rw [← this]
theorem split_at {Z : Zw} {j w : Nat} {x : Wd} (h : Z[j]? = some (w, x)) : Z = Z.take j ++ (w, x) :: Z.drop (j + 1) ∧ (Z.take j).length = j := by
  obtain ⟨hlt, he⟩ := List.getElem?_eq_some_iff.mp h
  refine ⟨?_, by rw [List.length_take]; omega⟩
  rw [← he, ← List.drop_eq_getElem_cons hlt, List.take_append_drop]
theorem LaneS.sort {T : Nat} {Z : Zw} (x : LaneS g h ow T how k la al e Z) (hE : (Z.map (·.2)).Pairwise (fun x y => wE x ≤ wE y)) : ∀ (i j wi wj : Nat), i ≤ j → (Z.map (·.1))[i]? = some wi → (Z.map (·.1))[j]? = some wj → fI h 36 wi ≤ fI h 36 wj := fun i j wi wj hij hi hj => by
  obtain ⟨x1, h1⟩ := map_at hi
  obtain ⟨x2, h2⟩ := map_at hj
  have w1 := x.2.2.2.2.1 (wi, x1) (List.mem_of_getElem? h1)
  have w2 := x.2.2.2.2.1 (wj, x2) (List.mem_of_getElem? h2)
  rcases Nat.lt_or_ge i j with hlt | hge
  · have g1 : (Z.map (·.2))[i]? = some x1 := by rw [List.getElem?_map, h1]; rfl
    have g2 : (Z.map (·.2))[j]? = some x2 := by rw [List.getElem?_map, h2]; rfl
    obtain ⟨l1, e1⟩ := List.getElem?_eq_some_iff.mp g1
    obtain ⟨l2, e2⟩ := List.getElem?_eq_some_iff.mp g2
    have := List.pairwise_iff_getElem.mp hE i j l1 l2 hlt
    rw [e1, e2] at this
    rw [w1.2.2.2.2.1, w2.2.2.2.2.1]
    exact this
  · have : i = j := by omega
    subst this
    rw [hi] at hj
    cases hj
    exact Int32.le_refl _
theorem LaneS.fe {T j : Nat} {Z : Zw} {ses : Bool} {b e0 : Int32} (x : LaneS g h ow T how k la al e Z) (hj : j ≤ (Z.map (·.1)).length) (h1 : ∀ (i w : Nat), i < j → (Z.map (·.1))[i]? = some w → fI h 36 w < (if ses then b + 1 else e0)) (h2 : ∀ (i w : Nat), j ≤ i → (Z.map (·.1))[i]? = some w → (if ses then b + 1 else e0) ≤ fI h 36 w) : (Z.take j).map (·.2) = entA ses b e0 (Z.map (·.2)) ∧ (Z.drop j).map (·.2) = entR ses b e0 (Z.map (·.2)) := by
  have g1 : ∀ (i : Nat) (y : Wd), (Z.map (·.2))[i]? = some y → ∃ w, (Z.map (·.1))[i]? = some w ∧ fI h 36 w = wE y := fun i y hy => by
    rw [List.getElem?_map] at hy
    match hz : Z[i]?, hy with
    | some z, hy =>
      have e : z.2 = y := Option.some.inj hy
      refine ⟨z.1, by rw [List.getElem?_map, hz]; rfl, ?_⟩
      rw [← e]
      exact (x.2.2.2.2.1 z (List.mem_of_getElem? hz)).2.2.2.2.1
  have t := tw_eq (p := fun w => decide (wE w < if ses then b + 1 else e0)) (Z.map (·.2)) j (fun i y hi hy => by
    obtain ⟨w, hw, e⟩ := g1 i y hy
    rw [decide_eq_true_iff, ← e]
    exact h1 i w hi hw) (fun i y hi hy => by
    obtain ⟨w, hw, e⟩ := g1 i y hy
    rw [decide_eq_false_iff_not, ← e]
    exact Int32.not_lt.mpr (h2 i w hi hw)) (by rw [List.length_map] at hj ⊢; exact hj)
  unfold entA entR
  rw [t.1, t.2, List.map_take, List.map_drop]
  exact ⟨rfl, rfl⟩
theorem en79F {Z : Zw} {ea j : Nat} {b e0 mk : Int32} {v : Int64} {D1 D2 : List Int64} {s1 c1 b1 s2 c2 b2 : Nat}
    (hQ : ∀ Z1 Zb, Z1.map (·.2) = entA false b e0 (Z.map (·.2)) → Zb.map (·.2) = entB false b e0 (Z.map (·.2)) → EnQ g Q h ow s p lg A q1 q2 how c k la al Z1 Zb false ea mk b e0 v (entT false b e0 (Z.map (·.2))) rows sl ce D1 D2 s1 c1 b1 s2 c2 b2)
    (hF : LnF g h ow s p lg A q1 q2 how c k la al e Z sl ce rows) (hs6 : s < 16) (hk : k < 1000) (hh : how ≤ 5) (hO : LnOK s k rows (Z.map (·.2))) (hN : zN Z + 1 < 1000000) (hn : rows.length + Z.length + 2 < 192512) (fm : fI h 1 p = mk) (fe : fI h 22 p = nI ea) (hea : ea < 2147483648) (hD1 : HpL h ow (tD s) q1 D1 s1 c1 b1) (hD2 : HpL h ow (tQ s) q2 D2 s2 c2 b2) (hb1 : b1 < 400000) (hb2 : b2 < 400000) (f15 : fI h 15 p = 0) (hj : j ≤ Z.length) (eA : (Z.take j).map (·.2) = entA false b e0 (Z.map (·.2))) (eR : (Z.drop j).map (·.2) = entR false b e0 (Z.map (·.2))) :
    V g mX8_enter (d + 9) 74 [.ref p, .int (nI k), .int b, .long v, zz, .int e0, .ref la, .int (nI j), va_rf (Z.map (·.1))[j]?, .int 0] [] h Q := by
  have k1 : hK h p = 8 := hF.1.1
  have hne : ∀ z ∈ Z, wVs z.2 ≠ [] := fun z hz => (hO.1 z.2 (List.mem_map_of_mem hz)).1
  have hlz := zN_len hne
  have tk : (Z.take j).length = j := by rw [List.length_take]; omega
  have new : ∀ u8, entT false b e0 (Z.map (·.2)) = [] → V g mX8_enter (d + 9) 102 [.ref p, .int (nI k), .int b, .long v, zz, .int e0, .ref la, .int (nI j), u8, .int 0] [] h Q := fun u8 eT => by
    have hq := hQ (Z.take j) (Z.drop j) eA (by unfold entB; rw [eT]; exact eR)
    rw [eT] at hq
    have key := en102 (d := d) (u8 := u8) hq (by rw [List.take_append_drop]; exact hF) hs6 hk hh (by rw [List.take_append_drop]; exact hne) (by rw [List.take_append_drop]; omega) (by omega) fm fe hea hD1 hD2 hb1 hb2
    rw [tk] at key
    exact key
  match hat : (Z.map (·.1))[j]? with
  | none =>
    have eT : entT false b e0 (Z.map (·.2)) = [] := by
      have hd : Z.drop j = [] := by
        rw [List.getElem?_eq_none_iff, List.length_map] at hat
        exact List.drop_eq_nil_iff.mpr hat
      unfold entT
      rw [if_neg (by decide), ← eR, hd]
      rfl
    rw [hat]
    refine v_ald8 (q := 76) dX8_enter_74 rfl rfl ?_
    refine v_ifnull (r := none) (t := 102) (q := 79) dX8_enter_76 (by decide) rfl (fun _ => new _ eT) (fun a ha => by cases ha)
  | some w =>
    obtain ⟨x, hx⟩ := map_at hat
    obtain ⟨sp, sl⟩ := split_at hx
    have hxm := List.mem_of_getElem? hx
    have hw := hF.2.2.2.1.2.2.2.2.1 (w, x) hxm
    have kw : hK h w = 7 := hw.1
    have hd : Z.drop j = (w, x) :: Z.drop (j + 1) := by
      obtain ⟨hlt, he⟩ := List.getElem?_eq_some_iff.mp hx
      rw [← he, ← List.drop_eq_getElem_cons hlt]
    rw [hat]
    refine v_ald8 (q := 76) dX8_enter_74 rfl rfl ?_
    refine v_ifnull (r := some w) (t := 102) (q := 79) dX8_enter_76 (by decide) rfl (fun ha => by cases ha) (fun _ _ => ?_)
    refine v_ald8 (q := 81) dX8_enter_79 rfl rfl ?_
    refine v_getI (q := 84) dX8_enter_81 rfl gf_X8_156_6 (by assumption) ?_
    refine v_ald0 (q := 85) dX8_enter_84 rfl rfl ?_
    refine v_getI (q := 88) dX8_enter_85 rfl gf_X8_33_7 (by assumption) ?_
    rw [f15, hw.2.2.2.1]
    refine v_if_eq (t := 96) (q := 91) dX8_enter_88 (by decide) rfl (fun _ => ?_) (fun hc => absurd rfl hc)
    refine v_ild2 (q := 97) dX8_enter_96 rfl ?_
    refine v_iconst (q := 98) (v := 1) dX8_enter_97 rfl (by decide) ?_
    refine v_iadd (q := 99) dX8_enter_98 rfl ?_
    by_cases hb : wB x < b + 1
    · refine v_icmp_lt (t := 143) (q := 102) dX8_enter_99 (by decide) rfl (fun _ => ?_) (fun hc => absurd hb hc)
      have eT : entT false b e0 (Z.map (·.2)) = [x] := by
        unfold entT
        rw [if_neg (by decide), ← eR, hd, List.map_cons, List.takeWhile_cons, if_pos (decide_eq_true hb)]
        rfl
      have eB : (Z.drop (j + 1)).map (·.2) = entB false b e0 (Z.map (·.2)) := by
        unfold entB
        rw [eT, ← eR, hd]
        rfl
      have hq := hQ (Z.take j) (Z.drop (j + 1)) eA eB
      rw [eT] at hq
      refine v_ald0 (q := 144) dX8_enter_143 rfl rfl ?_
      refine v_getI (q := 147) dX8_enter_144 rfl gf_X8_33_7 (by assumption) ?_
      rw [f15]
      refine v_if_eq (t := 163) (q := 150) dX8_enter_147 (by decide) rfl (fun _ => ?_) (fun hc => absurd rfl hc)
      have hF' := hF
      rw [sp] at hF'
      have hxo := hO.1 x (List.mem_map_of_mem (f := (·.2)) hxm)
      have hxl : (wVs x).length ≤ zN Z := by
        rw [sp]
        unfold zN
        simp only [List.map_append, List.map_cons, List.sum_append, List.sum_cons]
        omega
      have hch : entC false b e0 v [x] = false := rfl
      refine en163q (d := d) hq hF' rfl rfl (s1' := s1) (c1' := c1) (s2' := s2) (c2' := c2) ?_ ?_ (Fr.rf h) (PFl.rf _ _ _) ?_ rfl (Or.inl rfl) ?_ hs6 hk hh hxo.2 (by omega) (by omega) fm fe hea (by omega) (by omega)
      · unfold dueA
        rw [hch, if_neg (fun hh => absurd hh.1 (by decide))]
        exact hD1.mono (Nat.le_succ _)
      · unfold pasA
        rw [hch, if_neg (fun hh => absurd hh.1 (by decide))]
        exact hD2.mono (Nat.le_succ _)
      · have := add_suc (fI h 24 p) 0
        rw [show nI 0 = (0 : Int32) from rfl, Int32.sub_zero] at this
        exact this.symm
      · exact ⟨fun e => absurd e (by decide), fun e => absurd e.1 (by decide)⟩
    · refine v_icmp_lt (t := 143) (q := 102) dX8_enter_99 (by decide) rfl (fun hc => absurd hc hb) (fun _ => ?_)
      refine new _ ?_
      unfold entT
      rw [if_neg (by decide), ← eR, hd, List.map_cons, List.takeWhile_cons, if_neg (fun hh => hb (of_decide_eq_true hh))]
      rfl
end L55
