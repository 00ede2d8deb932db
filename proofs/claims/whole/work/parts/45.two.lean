/-! 45: two windows of a lane become one -/
section L45
variable {g : Gl} {d : Nat} {h : Hp} {Q : Option Value → Hp → Prop} {ow : Nat → Nat} {s p lg A q1 q2 how c k la al e : Nat} {sl ce : Nat} {rows : List Rw}
theorem LNv.row27 {l : List Nat} (x : LNv g h la al e l) (hl : l ≠ []) : hK h e = 27 := by
  rcases x.2.2.1.2.2.2.2 with ⟨y, _⟩ | ⟨y, _⟩
  · exact absurd y hl
  · exact y
theorem two_fr {Z1 Z2 : Zw} {w q : Nat} {x y : Wd} {T : Nat} {h2 h3 : Hp} (hS : LaneS g h ow T how k la al e (Z1 ++ (w, x) :: (q, y) :: Z2)) (a2 : Smo (fun a => a = w ∨ fP h 40 w = some a ∨ fP h 40 q = some a) h h2) (b2 : Smo (fun a => a = al ∨ a = e) h2 h3) : Fr ow (owX ow h T) (fun t => t = T) h h3 := by
  obtain ⟨y1, y2, y3, y4, y5, y6⟩ := hS
  have hw := y5 (w, x) (by simp)
  have hq := y5 (q, y) (by simp)
  have ke := y1.row27 (by simp)
  have oe := y4 (by rw [ke]; decide)
  have st : Smo (fun a => (a = w ∨ fP h 40 w = some a ∨ fP h 40 q = some a) ∨ a = al ∨ a = e) h h3 := (a2.mono (fun a _ ha => Or.inl ha)).tr b2 (fun a _ ha => Or.inr ha)
  refine Fr.of st (fun a _ ha => ?_)
  rcases ha with (ha | ha | ha) | ha | ha
  · exact ha ▸ hw.2.1
  · exact (hw.row ha).2
  · exact (hq.row ha).2
  · exact ha ▸ y3
  · exact ha ▸ oe
theorem cost_two {Z1 Z2 : Zw} {w q : Nat} {x y x' : Wd} {h3 : Hp} {n1 n2 ds dc : Nat} (hc : c = 1) (hC : LCost h e c (Z1 ++ (w, x) :: (q, y) :: Z2) sl ce) (ee : capE h3 e = capE h e) (ez : ∀ z, z ∈ Z1 ∨ z ∈ Z2 → capO h3 (fP h3 40 z.1) = capO h (fP h 40 z.1)) (e1 : (wVs x).length = n1) (e2 : (wVs y).length = n2) (e3 : (wVs x').length = n1 + n2) (p1 : 0 < n1) (p2 : 0 < n2)
    (c1 : ds + 2 * capO h (fP h 40 w) + 2 * capO h (fP h 40 q) ≤ 2 * capO h3 (fP h3 40 w) + 8 * min n1 n2) (c2 : dc ≤ min n1 n2) : LCost h3 e c (Z1 ++ (w, x') :: Z2) (sl + ds) (ce + dc) := by
  obtain ⟨d1, d2, d3⟩ := hC
  have eA : ∀ Z : Zw, (∀ z ∈ Z, z ∈ Z1 ∨ z ∈ Z2) → zC h3 c Z = zC h c Z := fun Z hZ => by
    unfold zC
    congr 1
    refine List.map_congr_left (fun z hz => ?_)
    rw [ez z (hZ z hz)]
  have z1 := eA Z1 (fun z hz => Or.inl hz)
  have z2 := eA Z2 (fun z hz => Or.inr hz)
  have l := lam_add p1 p2
  have a1 : zC h c (Z1 ++ (w, x) :: (q, y) :: Z2) = zC h c Z1 + ((8 * n1 + c * (8 * lam n1) + 2 * capO h (fP h 40 w)) + ((8 * n2 + c * (8 * lam n2) + 2 * capO h (fP h 40 q)) + zC h c Z2)) := by
    unfold zC
    simp only [List.map_append, List.map_cons, List.sum_append, List.sum_cons, e1, e2]
  have a2 : zC h3 c (Z1 ++ (w, x') :: Z2) = zC h3 c Z1 + ((8 * (n1 + n2) + c * (8 * lam (n1 + n2)) + 2 * capO h3 (fP h3 40 w)) + zC h3 c Z2) := by
    unfold zC
    simp only [List.map_append, List.map_cons, List.sum_append, List.sum_cons, e3]
  have a3 : zD c (Z1 ++ (w, x) :: (q, y) :: Z2) = zD c Z1 + ((3 * n1 + c * lam n1) + ((3 * n2 + c * lam n2) + zD c Z2)) := by
    unfold zD
    simp only [List.map_append, List.map_cons, List.sum_append, List.sum_cons, e1, e2]
  have a4 : zD c (Z1 ++ (w, x') :: Z2) = zD c Z1 + ((3 * (n1 + n2) + c * lam (n1 + n2)) + zD c Z2) := by
    unfold zD
    simp only [List.map_append, List.map_cons, List.sum_append, List.sum_cons, e3]
  have a5 : zN (Z1 ++ (w, x) :: (q, y) :: Z2) = zN (Z1 ++ (w, x') :: Z2) := by
    unfold zN
    simp only [List.map_append, List.map_cons, List.sum_append, List.sum_cons, e1, e2, e3]
    omega
  subst hc
  unfold LCost
  rw [ee, a2, a4, z1, z2, ← a5]
  rw [a1] at d1
  rw [a3] at d2
  refine ⟨?_, ?_, d3⟩ <;> omega
theorem cap_two {Z1 Z2 : Zw} {w q : Nat} {x y : Wd} {T : Nat} {h2 h3 : Hp} {z : Nat × Wd} (x4 : WsV h ow T how k (Z1 ++ (w, x) :: (q, y) :: Z2)) (wf : Wf h) (a2 : Smo (fun a => a = w ∨ fP h 40 w = some a ∨ fP h 40 q = some a) h h2) (s23 : ∀ a, a < hz h2 → (hK h2 a = 7 ∨ hK h2 a = 22) → sameAt h2 h3 a) (hz0 : z ∈ Z1 ∨ z ∈ Z2) (hzm : z ∈ Z1 ++ (w, x) :: (q, y) :: Z2) (b6 : hN h3 = hN h2) : capO h3 (fP h3 40 z.1) = capO h (fP h 40 z.1) := by
  obtain ⟨x5, x6⟩ := x4
  have hw := x5 (w, x) (by simp)
  have hq := x5 (q, y) (by simp)
  have hx := x5 z hzm
  have hpw := List.pairwise_append.mp x6
  have hB := List.pairwise_cons.mp hpw.2.1
  have hC := List.pairwise_cons.mp hB.2
  have dz : z.1 ≠ w ∧ ∀ t, fP h 40 z.1 = some t → fP h 40 w ≠ some t ∧ fP h 40 q ≠ some t := by
    rcases hz0 with hz | hz
    · exact ⟨(hpw.2.2 z hz (w, x) List.mem_cons_self).1, fun t h1 => ⟨(hpw.2.2 z hz (w, x) List.mem_cons_self).2 t h1, (hpw.2.2 z hz (q, y) (List.mem_cons_of_mem _ List.mem_cons_self)).2 t h1⟩⟩
    · exact ⟨fun e => (hB.1 z (List.mem_cons_of_mem _ hz)).1 e.symm, fun t h1 => ⟨fun h2 => (hB.1 z (List.mem_cons_of_mem _ hz)).2 t h2 h1, fun h2 => (hC.1 z hz).2 t h2 h1⟩⟩
  have s12 : sameAt h h2 z.1 := a2.2 _ (hx.lt wf) (fun hh => by
    rcases hh with hh | hh | hh
    · exact dz.1 hh
    · have := (hw.row hh).1
      rw [hx.1] at this
      omega
    · have := (hq.row hh).1
      rw [hx.1] at this
      omega)
  have s2 := s23 z.1 (Nat.lt_of_lt_of_le (hx.lt wf) a2.1) (Or.inl (s12.1.trans hx.1))
  rw [s2.2.2.2.2.1 40, s12.2.2.2.2.1 40]
  match ht : fP h 40 z.1 with
  | none => rfl
  | some t =>
    have hr := hx.row ht
    have st : sameAt h h2 t := a2.2 t (wf t (by rw [hr.1]; decide)) (fun hh => by
      rcases hh with hh | hh | hh
      · have := hw.1
        rw [← hh, hr.1] at this
        omega
      · exact (dz.2 t ht).1 hh
      · exact (dz.2 t ht).2 hh)
    show hN h3 t = hN h t
    rw [b6, st.2.1]
theorem LnF.two {Z1 Z2 : Zw} {w q : Nat} {x y x' : Wd} {h2 h3 : Hp} (hF : LnF g h ow s p lg A q1 q2 how c k la al e (Z1 ++ (w, x) :: (q, y) :: Z2) sl ce rows) (hs6 : s < 16) (hk : k < 1000) (hc : c = 1) (n1 : wVs x ≠ []) (n2 : wVs y ≠ []) (r1 : wR x = none) (r2 : wR y = none) (r3 : wR x' = none) (e3 : (wVs x').length = (wVs x).length + (wVs y).length)
    (a1 : WdV h2 (owX ow h (tg s k)) (tg s k) how k w x') (a2 : Smo (fun a => a = w ∨ fP h 40 w = some a ∨ fP h 40 q = some a) h h2) (a4 : ∀ t, fP h2 40 w = some t → fP h 40 w = some t ∨ fP h 40 q = some t ∨ hz h ≤ t) (wf2 : Wf h2)
    (a5 : hs h2 + 2 * capO h (fP h 40 w) + 2 * capO h (fP h 40 q) ≤ hs h + 2 * capO h2 (fP h2 40 w) + 8 * min (wVs x).length (wVs y).length) (a6 : hz h2 ≤ hz h + min (wVs x).length (wVs y).length) (hs2 : hs h ≤ hs h2)
    (b1 : LNv g h3 la al e ((Z1 ++ (w, x') :: Z2).map (·.1))) (b2 : Smo (fun a => a = al ∨ a = e) h2 h3) (b3 : hz h3 = hz h2) (b4 : hs h3 = hs h2) (b5 : hK h3 = hK h2) (b6 : hN h3 = hN h2) :
    LnF g h3 (owX ow h (tg s k)) s p lg A q1 q2 how c k la al e (Z1 ++ (w, x') :: Z2) (sl + (hs h3 - hs h)) (ce + (hz h3 - hz h)) rows ∧ Fr ow (owX ow h (tg s k)) (fun t => t = tg s k) h h3 ∧ sameAt h h3 p := by
  obtain ⟨x1, x2, x3, x4, x5, x6, x7, x8⟩ := hF
  have nT : ¬ tL = tg s k := by unfold tg tL; omega
  have nP : ¬ tP s = tg s k := by unfold tP tg; omega
  have nA : ¬ tA s = tg s k := by unfold tA tg; omega
  have n0 : ¬ (0 : Nat) = tg s k := by unfold tg; omega
  have lt := x1.lt x8.1
  have f := two_fr x4 a2 b2
  have wf3 : Wf h3 := Wf_same b3 b5 wf2
  have sp : sameAt h h3 p := f.2.2 p lt.1 (by rw [x1.2.1]; exact nP)
  have sA : sameAt h h3 A := f.2.2 A lt.2 (by rw [x1.2.2.2.2.2.2.2.2.2]; exact nA)
  have gd3 := x8.fr f n0 wf3
  have ke := x4.1.row27 (by simp)
  have ze : e < hz h := x8.1 e (by rw [ke]; decide)
  have zla : la < hz h := x8.1 la (by rw [x4.1.1]; decide)
  have zal : al < hz h := x8.1 al (by rw [x4.1.2.2.1.1]; decide)
  have hw := x4.2.2.2.2.1 (w, x) (by simp)
  have hq := x4.2.2.2.2.1 (q, y) (by simp)
  have k2 : ∀ a, a < hz h → hK h a ≠ 7 → hK h a ≠ 22 → sameAt h h2 a := fun a ha m1 m2 => a2.2 a ha (fun hh => by
    rcases hh with hh | hh | hh
    · exact m1 (hh ▸ hw.1)
    · exact m2 (hw.row hh).1
    · exact m2 (hq.row hh).1)
  have se := k2 e ze (by rw [ke]; decide) (by rw [ke]; decide)
  have sl2 := k2 la zla (by rw [x4.1.1]; decide) (by rw [x4.1.1]; decide)
  have kal : hK h2 al = 1 := (k2 al zal (by rw [x4.1.2.2.1.1]; decide) (by rw [x4.1.2.2.1.1]; decide)).1.trans x4.1.2.2.1.1
  have ke2 : hK h2 e = 27 := se.1.trans ke
  have s23 : ∀ a, a < hz h2 → (hK h2 a = 7 ∨ hK h2 a = 22) → sameAt h2 h3 a := fun a ha hka => b2.2 a ha (fun hh => by
    rcases hh with hh | hh
    · rw [hh, kal] at hka
      omega
    · rw [hh, ke2] at hka
      omega)
  have w2 : WsV h2 (owX ow h (tg s k)) (tg s k) how k (Z1 ++ (w, x') :: Z2) := x4.ws.two x8.1 a2 (fun a ha => if_pos ha) a1 a4
  have w3 : WsV h3 (owX ow h (tg s k)) (tg s k) how k (Z1 ++ (w, x') :: Z2) := w2.sameK wf2 (fun _ _ => rfl) s23
  have sl3 : sameAt h2 h3 la := b2.2 la (Nat.lt_of_lt_of_le zla a2.1) (fun hh => by
    have k2l : hK h2 la = 2 := sl2.1.trans x4.1.1
    rcases hh with hh | hh
    · rw [hh, kal] at k2l
      omega
    · rw [hh, ke2] at k2l
      omega)
  have pf : PFl [] p h h3 := PFl.of sp
  have sz : ∀ z, z ∈ Z1 ∨ z ∈ Z2 → capO h3 (fP h3 40 z.1) = capO h (fP h 40 z.1) := fun z hz => by
    have hzm : z ∈ Z1 ++ (w, x) :: (q, y) :: Z2 := by
      rcases hz with hz | hz
      · exact List.mem_append_left _ hz
      · exact List.mem_append_right _ (List.mem_cons_of_mem _ (List.mem_cons_of_mem _ hz))
    exact cap_two x4.ws x8.1 a2 s23 hz hzm b6
  refine ⟨⟨x1.on pf (by decide) ((f.2.1 p lt.1)) ((f.2.1 A lt.2)) sA.1 sA.2.1, (pf.2.1 20 (by decide)).trans x2, by rw [sA.2.2.2.2.2.2.2]; exact x3, ⟨b1, (f.2.1 la zla).trans x4.2.1, (f.2.1 al zal).trans x4.2.2.1, fun _ => (f.2.1 e ze).trans (x4.2.2.2.1 (by rw [ke]; decide)), w3⟩, ?_, ?_, x7.fr x8.1 f nT, gd3⟩, f, sp⟩
  · rw [sl3.2.2.1 28, sl2.2.2.1 28, x5]
    congr 1
    unfold cntR
    simp only [List.countP_append, List.countP_cons, r1, r2, r3, Option.isSome_none, Bool.false_eq_true, ↓reduceIte, Nat.add_zero]
  · refine cost_two hc x6 ?_ sz rfl rfl e3 (List.length_pos_iff.mpr n1) (List.length_pos_iff.mpr n2) ?_ ?_
    · unfold capE
      rw [b5, b6, se.1, se.2.1]
    · have ec : capO h3 (fP h3 40 w) = capO h2 (fP h2 40 w) := by
        have sw := s23 w (a1.lt wf2) (Or.inl a1.1)
        rw [sw.2.2.2.2.1 40]
        match fP h2 40 w with
        | none => rfl
        | some t => exact congrFun b6 t
      rw [ec, b4]
      omega
    · rw [b3]
      have := a2.1
      omega
end L45
