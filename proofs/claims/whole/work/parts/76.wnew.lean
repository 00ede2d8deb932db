/-! 76: a new Windowed is a stage with windows -/
section L76
variable {g : Gl} {h : Hp} {ow : Nat → Nat} {s p lg f : Nat} {s0 kd a b : Int32} {rows : List Rw}
theorem lnH_f (hp : p < hz h) : (∀ c, c < hz h → c ≠ p → sameAt h (lnH h p kd) c) ∧ hK (lnH h p kd) p = hK h p ∧ (∀ f, fI (lnH h p kd) f p = if f = 2 then 1 else if f = 3 then kd else fI h f p) ∧ (∀ f, fP (lnH h p kd) f p = if f = 17 then some (hz h) else fP h f p) ∧ hK (lnH h p kd) (hz h) = 24 ∧ hN (lnH h p kd) (hz h) = 1000 ∧ aP (lnH h p kd) (hz h) = (fun _ => none) ∧ hz (lnH h p kd) = hz h + 1 ∧ hs (lnH h p kd) = hs h + 1000 := by
  refine ⟨fun c hc hne => ?_, ?_, fun f => ?_, fun f => ?_, ?_, ?_, ?_, rfl, rfl⟩
  · exact (((same_sFI hne).tr (same_sFI hne)).tr (same_nArr (show c < hz h from hc))).tr (same_sFP hne)
  · show (if p = hz h then 24 else hK h p) = hK h p
    rw [if_neg (by omega)]
  · unfold lnH
    rw [fI_sFP, fI_nArr, fI_sFI, fI_sFI]
    simp only [and_true]
  · unfold lnH
    rw [fP_sFP, fP_nArr, fP_sFI, fP_sFI]
    simp only [and_true]
  · show (if hz h = hz h then 24 else _) = 24
    rw [if_pos rfl]
  · show (if hz h = hz h then 1000 else _) = 1000
    rw [if_pos rfl]
  · show (if hz h = hz h then (fun _ => none) else _) = _
    rw [if_pos rfl]
theorem lfH_f (hp : p < hz h) (h29 : f ≠ 29) : (∀ c, c < hz h → c ≠ p → sameAt h (lfH h p f) c) ∧ hK (lfH h p f) p = hK h p ∧ (∀ f', fI (lfH h p f) f' p = fI h f' p) ∧ (∀ f', fP (lfH h p f) f' p = if f' = f then some (hz h) else fP h f' p) ∧ hK (lfH h p f) (hz h) = 3 ∧ fP (lfH h p f) 29 (hz h) = some (hz h + 1) ∧ fI (lfH h p f) 30 (hz h) = 0 ∧ hK (lfH h p f) (hz h + 1) = 22 ∧ hN (lfH h p f) (hz h + 1) = 16 ∧ hz (lfH h p f) = hz h + 2 ∧ hs (lfH h p f) = hs h + 18 := by
  have np : p ≠ hz h := by omega
  refine ⟨fun c hc hne => ?_, ?_, fun f' => ?_, fun f' => ?_, ?_, ?_, ?_, ?_, ?_, rfl, rfl⟩
  · exact (((same_nObj hc).tr (same_nArr (show c < hz h + 1 by omega))).tr (same_sFP (show c ≠ hz h by omega))).tr (same_sFP hne)
  · show (if p = hz h + 1 then 22 else if p = hz h then 3 else hK h p) = hK h p
    rw [if_neg (by omega), if_neg (by omega)]
  · unfold lfH
    rw [fI_sFP, fI_sFP, fI_nArr, fI_nObj, if_neg np]
  · unfold lfH
    rw [fP_sFP, fP_sFP, fP_nArr, fP_nObj, if_neg np]
    simp only [and_true, np, and_false, ↓reduceIte]
  · show (if hz h = hz h + 1 then 22 else if hz h = hz h then 3 else _) = 3
    rw [if_neg (by omega), if_pos rfl]
  · unfold lfH
    rw [fp_ne _ _ _ _ (Ne.symm h29)]
    exact fp_eq _ _ _ _
  · unfold lfH
    rw [fI_sFP, fI_sFP, fI_nArr, fI_nObj, if_pos rfl]
  · show (if hz h + 1 = hz h + 1 then 22 else _) = 22
    rw [if_pos rfl]
  · show (if hz h + 1 = hz h + 1 then 16 else _) = 16
    rw [if_pos rfl]
theorem wiH_f : (∀ c, c ≠ p → sameAt h (wiH h p s0 kd a b lg) c) ∧ hK (wiH h p s0 kd a b lg) p = hK h p ∧ (∀ f, fI (wiH h p s0 kd a b lg) f p = if f = 14 then stW kd a b else if f = 13 then spW kd a else if f = 15 then (if kd = 6 then 1 else 0) else if f = 12 then s0 else fI h f p) ∧ (∀ f, fP (wiH h p s0 kd a b lg) f p = if f = 16 then some lg else fP h f p) ∧ hz (wiH h p s0 kd a b lg) = hz h ∧ hs (wiH h p s0 kd a b lg) = hs h := by
  refine ⟨fun c hne => ((((same_sFI hne).tr (same_sFI hne)).tr (same_sFI hne)).tr (same_sFI hne)).tr (same_sFP hne), rfl, fun f => ?_, fun f => ?_, rfl, rfl⟩
  · unfold wiH
    rw [fI_sFP, fI_sFI, fI_sFI, fI_sFI, fI_sFI]
    simp only [and_true]
  · unfold wiH
    rw [fP_sFP, fP_sFI, fP_sFI, fP_sFI, fP_sFI]
    simp only [and_true]
def wgN (h : Hp) (s0 kd a b : Int32) (lg : Nat) : Hp := wiH (lfH (lfH (lnH (nObj h 8 20) (hz h) kd) (hz h) 18) (hz h) 19) (hz h) s0 kd a b lg
/-- the cells of a new Windowed -/
theorem wgN_f : (∀ c, c < hz h → sameAt h (wgN h s0 kd a b lg) c) ∧ hz (wgN h s0 kd a b lg) = hz h + 6 ∧ hs (wgN h s0 kd a b lg) = hs h + 1056 ∧ hK (wgN h s0 kd a b lg) (hz h) = 8 ∧
    (∀ f, fI (wgN h s0 kd a b lg) f (hz h) = if f = 14 then stW kd a b else if f = 13 then spW kd a else if f = 15 then (if kd = 6 then 1 else 0) else if f = 12 then s0 else if f = 2 then 1 else if f = 3 then kd else 0) ∧
    (fP (wgN h s0 kd a b lg) 16 (hz h) = some lg ∧ fP (wgN h s0 kd a b lg) 17 (hz h) = some (hz h + 1) ∧ fP (wgN h s0 kd a b lg) 18 (hz h) = some (hz h + 2) ∧ fP (wgN h s0 kd a b lg) 19 (hz h) = some (hz h + 4)) ∧
    (hK (wgN h s0 kd a b lg) (hz h + 1) = 24 ∧ hN (wgN h s0 kd a b lg) (hz h + 1) = 1000 ∧ aP (wgN h s0 kd a b lg) (hz h + 1) = (fun _ => none)) ∧
    (∀ q, q = hz h + 2 ∨ q = hz h + 4 → HPs (wgN h s0 kd a b lg) q (q + 1) 0 ∧ hN (wgN h s0 kd a b lg) (q + 1) = 16) ∧ (∀ c, hz h + 6 ≤ c → hK (wgN h s0 kd a b lg) c = hK h c) := by
  unfold wgN
  have p0 : hz h < hz (nObj h 8 20) := Nat.lt_succ_self _
  obtain ⟨a1, a2, a3, a4, a5, a6, a7, a8, a9⟩ := lnH_f (h := nObj h 8 20) (p := hz h) (kd := kd) p0
  have o1 : ∀ c, c < hz h → sameAt h (nObj h 8 20) c := fun c hc => same_nObj hc
  have o2 : hK (nObj h 8 20) (hz h) = 8 := if_pos rfl
  have o3 : ∀ f, fI (nObj h 8 20) f (hz h) = 0 := fun f => if_pos rfl
  have o4 : hz (nObj h 8 20) = hz h + 1 := rfl
  have o5 : hs (nObj h 8 20) = hs h + 20 := rfl
  have kk1 : ∀ c, hz h + 6 ≤ c → hK (lnH (nObj h 8 20) (hz h) kd) c = hK h c := fun c hc => by
    show (if c = hz h + 1 then 24 else if c = hz h then 8 else hK h c) = hK h c
    rw [if_neg (by omega), if_neg (by omega)]
  generalize nObj h 8 20 = h0 at *
  generalize lnH h0 (hz h) kd = h1 at *
  obtain ⟨b1, b2, b3, b4, b5, b6, b7, b8, b9, b10, b11⟩ := lfH_f (h := h1) (p := hz h) (f := 18) (by omega) (by decide)
  have kk2 : ∀ c, hz h + 6 ≤ c → hK (lfH h1 (hz h) 18) c = hK h c := fun c hc => by
    rw [← kk1 c hc]
    show (if c = hz h1 + 1 then 22 else if c = hz h1 then 3 else hK h1 c) = hK h1 c
    rw [if_neg (by omega), if_neg (by omega)]
  generalize lfH h1 (hz h) 18 = h2 at *
  obtain ⟨c1, c2, c3, c4, c5, c6, c7, c8, c9, c10, c11⟩ := lfH_f (h := h2) (p := hz h) (f := 19) (by omega) (by decide)
  have kk3 : ∀ c, hz h + 6 ≤ c → hK (lfH h2 (hz h) 19) c = hK h c := fun c hc => by
    rw [← kk2 c hc]
    show (if c = hz h2 + 1 then 22 else if c = hz h2 then 3 else hK h2 c) = hK h2 c
    rw [if_neg (by omega), if_neg (by omega)]
  generalize lfH h2 (hz h) 19 = h3 at *
  obtain ⟨d1, d2, d3, d4, d5, d6⟩ := wiH_f (h := h3) (p := hz h) (s0 := s0) (kd := kd) (a := a) (b := b) (lg := lg)
  generalize wiH h3 (hz h) s0 kd a b lg = h4 at *
  have e1 : hz h0 = hz h + 1 := o4
  have e2 : hz h1 = hz h + 2 := by omega
  have e3 : hz h2 = hz h + 4 := by omega
  rw [e1] at a5 a6 a7
  rw [e2] at b5 b6 b7 b8 b9
  rw [e3] at c5 c6 c7 c8 c9
  have sA : sameAt h1 h4 (hz h + 1) := ((b1 _ (by omega) (by omega)).tr (c1 _ (by omega) (by omega))).tr (d1 _ (by omega))
  have sq1 : sameAt h2 h4 (hz h + 2) := (c1 _ (by omega) (by omega)).tr (d1 _ (by omega))
  have st1 : sameAt h2 h4 (hz h + 3) := (c1 _ (by omega) (by omega)).tr (d1 _ (by omega))
  have sq2 : sameAt h3 h4 (hz h + 4) := d1 _ (by omega)
  have st2 : sameAt h3 h4 (hz h + 5) := d1 _ (by omega)
  refine ⟨fun c hc => ((((o1 c hc).tr (a1 c (by omega) (by omega))).tr (b1 c (by omega) (by omega))).tr (c1 c (by omega) (by omega))).tr (d1 c (by omega)), by omega, by omega, by rw [d2, c2, b2, a2]; exact o2, fun f => ?_, ⟨?_, ?_, ?_, ?_⟩, ⟨by rw [sA.1]; exact a5, by rw [sA.2.1]; exact a6, by rw [sA.2.2.2.2.2.2.2]; exact a7⟩, fun q hq => ?_, fun c hc => ?_⟩
  · rw [d3, c3, b3, a3, o3]
  · rw [d4, if_pos rfl]
  · rw [d4, if_neg (by decide), c4, if_neg (by decide), b4, if_neg (by decide), a4, if_pos rfl, e1]
  · rw [d4, if_neg (by decide), c4, if_neg (by decide), b4, if_pos rfl, e2]
  · rw [d4, if_neg (by decide), c4, if_pos rfl, e3]
  · rcases hq with e | e
    · subst e
      refine ⟨⟨by rw [sq1.1]; exact b5, by rw [sq1.2.2.2.2.1]; exact b6, by rw [st1.1]; exact b8, by rw [sq1.2.2.1]; exact b7, Nat.zero_le _, by rw [st1.2.1, b9]; decide, by rw [st1.2.1, b9]; decide⟩, by rw [st1.2.1]; exact b9⟩
    · subst e
      refine ⟨⟨by rw [sq2.1]; exact c5, by rw [sq2.2.2.2.2.1]; exact c6, by rw [st2.1]; exact c8, by rw [sq2.2.2.1]; exact c7, Nat.zero_le _, by rw [st2.2.1, c9]; decide, by rw [st2.2.1, c9]; decide⟩, by rw [st2.2.1]; exact c9⟩
  · rw [← kk3 c hc]
    exact (d1 c (by omega)).1
end L76
