/-! 51: a window more in a lane -/
def winH (h : Hp) (key b e : Int32) : Hp := sFI (sFI (sFI (sFI (nObj h 7 8) 38 (hz h) (-1)) 34 (hz h) key) 35 (hz h) b) 36 (hz h) e
section L51
variable {g : Gl} {d : Nat} {h : Hp} {Q : Option Value → Hp → Prop} {ow : Nat → Nat} {s p lg A q1 q2 how c k la al e : Nat} {sl ce : Nat} {rows : List Rw}
theorem winH_same {key b e0 : Int32} {a : Nat} (ha : a < hz h) : sameAt h (winH h key b e0) a := by
  have n1 : a ≠ hz h := by omega
  exact ((((same_nObj ha).tr (same_sFI n1)).tr (same_sFI n1)).tr (same_sFI n1)).tr (same_sFI n1)
theorem fi_chain (X : Hp) (w : Nat) (a1 a2 a3 a4 : Int32) (f : Nat) : fI (sFI (sFI (sFI (sFI X 38 w a1) 34 w a2) 35 w a3) 36 w a4) f w = if f = 36 then a4 else if f = 35 then a3 else if f = 34 then a2 else if f = 38 then a1 else fI X f w := by
  simp only [fI_sFI, and_true]
theorem winH_fi {key b e0 : Int32} (f : Nat) : fI (winH h key b e0) f (hz h) = if f = 36 then e0 else if f = 35 then b else if f = 34 then key else if f = 38 then -1 else 0 := by
  unfold winH
  rw [fi_chain, fI_nObj, if_pos rfl]
theorem winH_kd {key b e0 : Int32} : hK (winH h key b e0) (hz h) = 7 ∧ fL (winH h key b e0) 39 (hz h) = 0 ∧ fP (winH h key b e0) 40 (hz h) = none ∧ hz (winH h key b e0) = hz h + 1 ∧ hs (winH h key b e0) = hs h + 8 := by
  refine ⟨?_, ?_, ?_, rfl, rfl⟩
  · show (if hz h = hz h then 7 else _) = 7
    rw [if_pos rfl]
  · show (if hz h = hz h then (0 : Int64) else _) = 0
    rw [if_pos rfl]
  · show (if hz h = hz h then (none : Option Nat) else _) = none
    rw [if_pos rfl]
theorem wd_new {X : Hp} {T w : Nat} {b e0 : Int32} (hh : how ≤ 5) (k1 : hK X w = 7) (o1 : ow w = T) (f34 : fI X 34 w = nI k) (f35 : fI X 35 w = b) (f36 : fI X 36 w = e0) (f37 : fI X 37 w = 0) (f38 : fI X 38 w = -1) (f41 : fI X 41 w = 0) (f40 : fP X 40 w = none) : WdV X ow T how k w (b, e0, none, []) := by
  refine ⟨k1, o1, f34, f35, f36, f37, f38, Or.inl rfl, [], ⟨k1, f41, rfl, by show (0 : Nat) < 1000000; decide, Or.inl ⟨f40, rfl⟩⟩, ⟨fun _ => ⟨List.Pairwise.nil, fun x => Iff.rfl⟩, fun _ => ⟨List.Pairwise.nil, List.Perm.refl _⟩, fun _ => rfl⟩, Nat.le_refl _, fun t ht => ?_, fun _ => f40, fun _ hn => absurd rfl hn⟩
  rw [f40] at ht
  cases ht
theorem zN_len {Z : Zw} (h : ∀ z ∈ Z, wVs z.2 ≠ []) : Z.length ≤ zN Z := by
  induction Z with
  | nil => exact Nat.le_refl _
  | cons z Z ih =>
    have h1 := ih (fun y hy => h y (List.mem_cons_of_mem _ hy))
    have h2 : 0 < (wVs z.2).length := List.length_pos_iff.mpr (h z List.mem_cons_self)
    unfold zN at h1 ⊢
    simp only [List.map_cons, List.sum_cons, List.length_cons]
    omega
theorem cost_ins {Z1 Z2 : Zw} {w e' : Nat} {x : Wd} {h' : Hp} {ds : Nat} (hC : LCost h e c (Z1 ++ Z2) sl ce) (ez : ∀ z, z ∈ Z1 ∨ z ∈ Z2 → capO h' (fP h' 40 z.1) = capO h (fP h 40 z.1)) (e1 : wVs x = []) (en : fP h' 40 w = none) (c1 : ds + 4 * capE h e ≤ 4 * capE h' e') (c2 : 2 * capE h' e' ≤ max (2 * capE h e) (20 + 3 * (Z1 ++ Z2).length)) (hne : ∀ z ∈ Z1 ++ Z2, wVs z.2 ≠ []) : LCost h' e' c (Z1 ++ (w, x) :: Z2) (sl + ds) ce := by
  obtain ⟨d1, d2, d3⟩ := hC
  have hl := zN_len hne
  have eA : ∀ Z : Zw, (∀ z ∈ Z, z ∈ Z1 ∨ z ∈ Z2) → zC h' c Z = zC h c Z := fun Z hZ => by
    unfold zC
    congr 1
    refine List.map_congr_left (fun z hz => ?_)
    rw [ez z (hZ z hz)]
  have z1 := eA Z1 (fun z hz => Or.inl hz)
  have z2 := eA Z2 (fun z hz => Or.inr hz)
  have a1 : zC h c (Z1 ++ Z2) = zC h c Z1 + zC h c Z2 := by
    unfold zC
    simp only [List.map_append, List.sum_append]
  have a2 : zC h' c (Z1 ++ (w, x) :: Z2) = zC h' c Z1 + zC h' c Z2 := by
    unfold zC
    simp only [List.map_append, List.map_cons, List.sum_append, List.sum_cons, e1, en, List.length_nil, show lam 0 = 0 from Nat.zero_mul _, show capO h' none = 0 from rfl, Nat.mul_zero, Nat.zero_add]
  have a3 : zD c (Z1 ++ (w, x) :: Z2) = zD c (Z1 ++ Z2) := by
    unfold zD
    simp only [List.map_append, List.map_cons, List.sum_append, List.sum_cons, e1, List.length_nil, show lam 0 = 0 from Nat.zero_mul _, Nat.mul_zero, Nat.zero_add]
  have a4 : zN (Z1 ++ (w, x) :: Z2) = zN (Z1 ++ Z2) := by
    unfold zN
    simp only [List.map_append, List.map_cons, List.sum_append, List.sum_cons, e1, List.length_nil, Nat.zero_add]
  unfold LCost
  rw [a2, a3, a4, z1, z2]
  rw [a1] at d1
  refine ⟨?_, ?_, ?_⟩ <;> omega
theorem LnF.ins {Z1 Z2 : Zw} {X h' : Hp} {e' : Nat} {b e0 : Int32} (hF : LnF g h ow s p lg A q1 q2 how c k la al e (Z1 ++ Z2) sl ce rows) (hs6 : s < 16) (hk : k < 1000) (hne : ∀ z ∈ Z1 ++ Z2, wVs z.2 ≠ [])
    (sX : ∀ a, a < hz h → sameAt h X a) (zX : hz X = hz h + 1) (wX : Wf X) (hwd : WdV X (owX ow h (tg s k)) (tg s k) how k (hz h) (b, e0, none, [])) (hn : fP X 40 (hz h) = none)
    (i1 : LNv g h' la al e' ((Z1 ++ (hz h, (b, e0, none, [])) :: Z2).map (·.1))) (i2 : Smo (fun a => a = al ∨ a = e ∧ hK X e = 27) X h') (wf' : Wf h')
    (i4 : e' = e ∧ hz h' = hz X ∧ hs h' = hs X ∧ hN h' e' = hN X e ∨ e' = hz X ∧ hz h' = hz X + 1 ∧ ((Z1 ++ Z2).map (·.1) = [] ∧ e = g.2.2.2.2.1 ∧ hs h' = hs X + 10 ∧ hN h' e' = 10 ∨ hN X e = ((Z1 ++ Z2).map (·.1)).length ∧ hs h' = hs X + (((Z1 ++ Z2).map (·.1)).length + ((Z1 ++ Z2).map (·.1)).length / 2) ∧ hN h' e' = ((Z1 ++ Z2).map (·.1)).length + ((Z1 ++ Z2).map (·.1)).length / 2)) :
    LnF g h' (owX ow h (tg s k)) s p lg A q1 q2 how c k la al e' (Z1 ++ (hz h, (b, e0, none, [])) :: Z2) (sl + (hs h' - hs X)) ce rows ∧ Fr ow (owX ow h (tg s k)) (fun t => t = tg s k) h h' ∧ sameAt h h' p ∧ hz h' ≤ hz h + 2 ∧ hs X ≤ hs h' := by
  obtain ⟨x1, x2, x3, x4, x5, x6, x7, x8⟩ := hF
  have nT : ¬ tL = tg s k := by unfold tg tL; omega
  have nP : ¬ tP s = tg s k := by unfold tP tg; omega
  have nA : ¬ tA s = tg s k := by unfold tA tg; omega
  have n0 : ¬ (0 : Nat) = tg s k := by unfold tg; omega
  have kal := x4.1.2.2.1.1
  have zal : al < hz h := x8.1 al (by rw [kal]; decide)
  have zla : la < hz h := x8.1 la (by rw [x4.1.1]; decide)
  have ze : e < hz h := by
    by_cases he : hK h e = 0
    · rw [x4.1.e0 he]
      exact x8.2.1
    · exact x8.1 e he
  have kXe : hK X e = hK h e := (sX e ze).1
  have fr : Fr ow (owX ow h (tg s k)) (fun t => t = tg s k) h h' := ⟨Nat.le_trans (by omega) i2.1, fun a ha => if_pos ha, fun a ha hna => (sX a ha).tr (i2.2 a (by omega) (fun hh => by
    rcases hh with hh | hh
    · exact hna (hh ▸ x4.2.2.1)
    · rw [kXe] at hh
      exact hna (hh.1 ▸ x4.2.2.2.1 (by rw [hh.2]; decide))))⟩
  have lt := x1.lt x8.1
  have sp : sameAt h h' p := fr.2.2 p lt.1 (by rw [x1.2.1]; exact nP)
  have sA : sameAt h h' A := fr.2.2 A lt.2 (by rw [x1.2.2.2.2.2.2.2.2.2]; exact nA)
  have kXal : hK X al = 1 := (sX al zal).1.trans kal
  have s2 : ∀ a, a < hz X → (hK X a = 7 ∨ hK X a = 22) → sameAt X h' a := fun a ha hka => i2.2 a ha (fun hh => by
    rcases hh with hh | hh
    · rw [hh, kXal] at hka
      omega
    · rw [hh.1, hh.2] at hka
      omega)
  have zla2 : sameAt h h' la := (sX la zla).tr (i2.2 la (by omega) (fun hh => by
    have k2l : hK X la = 2 := (sX la zla).1.trans x4.1.1
    rcases hh with hh | hh
    · rw [hh, kXal] at k2l
      omega
    · rw [hh.1, hh.2] at k2l
      omega))
  have w1 : WsV X (owX ow h (tg s k)) (tg s k) how k (Z1 ++ Z2) := x4.ws.sameK x8.1 (fun a ha => if_pos ha) (fun a ha _ => sX a ha)
  have w2 : WsV X (owX ow h (tg s k)) (tg s k) how k (Z1 ++ (hz h, (b, e0, none, [])) :: Z2) := w1.more hwd (fun z hz => fun e => by
    have := (x4.2.2.2.2.1 z hz).lt x8.1
    omega) hn
  have w3 : WsV h' (owX ow h (tg s k)) (tg s k) how k (Z1 ++ (hz h, (b, e0, none, [])) :: Z2) := w2.sameK wX (fun _ _ => rfl) s2
  have ke' : hK h' e' = 27 := i1.row27 (by simp)
  have cE' : capE h' e' = hN h' e' := if_pos ke'
  have hsX : hs X ≤ hs h' := by
    rcases i4 with i4 | ⟨_, _, i4 | i4⟩ <;> omega
  refine ⟨⟨x1.on (PFl.of sp) (by decide) (fr.2.1 p lt.1) (fr.2.1 A lt.2) sA.1 sA.2.1, (sp.2.2.1 20).trans x2, by rw [sA.2.2.2.2.2.2.2]; exact x3, ⟨i1, (fr.2.1 la zla).trans x4.2.1, (fr.2.1 al zal).trans x4.2.2.1, fun _ => ?_, w3⟩, ?_, ?_, x7.fr x8.1 fr nT, x8.fr fr n0 wf'⟩, fr, sp, ?_, hsX⟩
  · rcases i4 with ⟨i4, i5, i6, i7⟩ | ⟨i4, _⟩
    · rw [i4] at ke' ⊢
      have : hK X e = 27 ∨ hK X e ≠ 27 := Classical.em _
      have hke : hK h e ≠ 0 := by
        rcases x4.1.2.2.2.2 with q | q
        · rw [q]
          decide
        · rw [x4.1.e0 q] at ke'
          have sE : sameAt h h' g.2.2.2.2.1 := fr.2.2 _ x8.2.1 (by rw [x8.2.2.1]; exact n0)
          rw [sE.1, x8.2.2.2] at ke'
          omega
      exact (if_pos ze).trans (x4.2.2.2.1 hke)
    · rw [i4]
      exact if_neg (by omega)
  · rw [zla2.2.2.1 28, x5]
    congr 1
    unfold cntR
    simp only [List.countP_append, List.countP_cons, show wR (b, e0, none, ([] : List Int64)) = none from rfl, Option.isSome_none, Bool.false_eq_true, ↓reduceIte, Nat.add_zero]
  · have en' : fP h' 40 (hz h) = none := ((s2 (hz h) (by omega) (Or.inl hwd.1)).2.2.2.2.1 40).trans hn
    have sz : ∀ z, z ∈ Z1 ∨ z ∈ Z2 → capO h' (fP h' 40 z.1) = capO h (fP h 40 z.1) := fun z hzz => by
      have hx := x4.2.2.2.2.1 z (List.mem_append.mpr hzz)
      have zz := hx.lt x8.1
      have sz1 : sameAt h h' z.1 := (sX _ zz).tr (s2 _ (by omega) (Or.inl ((sX _ zz).1.trans hx.1)))
      rw [sz1.2.2.2.2.1 40]
      match ht : fP h 40 z.1 with
      | none => rfl
      | some t =>
        have hr := hx.row ht
        have zt : t < hz h := x8.1 t (by rw [hr.1]; decide)
        exact ((sX t zt).tr (s2 t (by omega) (Or.inr ((sX t zt).1.trans hr.1)))).2.1
    have hal := x4.1.2.2.1.2.2.2.2
    have ll : ((Z1 ++ Z2).map (·.1)).length = (Z1 ++ Z2).length := by simp
    rcases i4 with ⟨i4, i5, i6, i7⟩ | ⟨i4, i5, i6⟩
    · have ce0 : capE h e = capE h' e' := by
        rw [cE', i7, (sX e ze).2.1]
        unfold capE
        rcases x4.1.2.2.2.2 with q | q
        · rw [if_pos q]
        · rw [i4, x4.1.e0 q] at ke'
          have sE : sameAt h h' g.2.2.2.2.1 := fr.2.2 _ x8.2.1 (by rw [x8.2.2.1]; exact n0)
          rw [sE.1, x8.2.2.2] at ke'
          omega
      exact cost_ins x6 sz rfl en' (by omega) (by omega) hne
    · have hcE : capE h e = 0 ∨ 10 ≤ hN h e ∧ capE h e = hN h e := by
        unfold capE
        rcases hal with ⟨_, q⟩ | ⟨q, _, q2, _⟩
        · rw [q, x8.2.2.2]
          exact Or.inl rfl
        · rw [if_pos q]
          exact Or.inr ⟨q2, rfl⟩
      have eNe := (sX e ze).2.1
      rw [ll] at i6
      refine cost_ins x6 sz rfl en' ?_ ?_ hne
      · rw [cE']
        rcases i6 with ⟨j1, j2, j3, j4⟩ | ⟨j2, j3, j4⟩
        · rw [j2] at hcE ⊢
          have : capE h g.2.2.2.2.1 = 0 := by
            unfold capE
            rw [x8.2.2.2]
            rfl
          omega
        · omega
      · rw [cE']
        rcases i6 with ⟨j1, j2, j3, j4⟩ | ⟨j2, j3, j4⟩ <;> omega
  · rcases i4 with ⟨_, i5, _⟩ | ⟨_, i5, _⟩ <;> omega
end L51
