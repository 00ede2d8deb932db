/-! 83: the mill, as the heap has it -/
def tM : Nat := 100001
def tO (f : Nat) : Nat := 100010 + f
/-- the mill at c: log lg, rows SA (sources), ST (stages), WY (ways); ports po, stages sp; us, uz: what stages have cost -/
def MV (g : Gl) (h : Hp) (ow : Nat → Nat) (c lg SA ST WY : Nat) (po sp : Nat → Nat) (X : Sg) (us uz : Nat → Nat) : Prop :=
  (hK h c = 9 ∧ ow c = tM ∧ fP h 42 c = some SA ∧ fP h 43 c = some ST ∧ fP h 44 c = some WY ∧ fP h 45 c = some lg ∧ fI h 46 c = nI (xM X) ∧ fI h 47 c = nI (xT X)) ∧
  (hK h SA = 25 ∧ hN h SA = 24 ∧ ow SA = tM ∧ hK h ST = 26 ∧ hN h ST = 16 ∧ ow ST = tM ∧ hK h WY = 21 ∧ hN h WY = 16 ∧ ow WY = tM) ∧
  (∀ f, f < 8 → aP h SA f = some (po f) ∧ hK h (po f) = 6 ∧ ow (po f) = tO f ∧ fI h 1 (po f) = xP X f ∧ fI h 2 (po f) = xI X f) ∧
  (∀ s, s < 16 → (s < xM X → aP h ST s = some (sp s) ∧ aP h SA (8 + s) = some (sp s) ∧ StV g h ow s (sp s) lg (xS X s) (xR X) (us s) (uz s)) ∧ (xM X ≤ s → aP h ST s = none ∧ aP h SA (8 + s) = none)) ∧
  xM X ≤ 16 ∧ LogV h ow lg (xR X) ∧ Gd g h ow
section L83
variable {g : Gl} {h h' : Hp} {ow ow' : Nat → Nat} {c lg SA ST WY s US' UZ' : Nat} {po sp us uz : Nat → Nat} {X : Sg} {S' : Stg} {rows' : List Rw}
/-- cells of the mill itself stay when a stage works -/
theorem MV.own (hM : MV g h ow c lg SA ST WY po sp X us uz) (f : Fr ow ow' (SS s) h h') (hs : s < 16) : sameAt h h' c ∧ sameAt h h' SA ∧ sameAt h h' ST ∧ sameAt h h' WY ∧ (∀ f, f < 8 → sameAt h h' (po f)) ∧ c < hz h ∧ SA < hz h ∧ ST < hz h ∧ WY < hz h ∧ (∀ f, f < 8 → po f < hz h) := by
  obtain ⟨⟨a1, a2, _⟩, ⟨b1, b2, b3, b4, b5, b6, b7, b8, b9⟩, hP, _, _, _, gd⟩ := hM
  have lt : ∀ a, hK h a ≠ 0 → a < hz h := gd.1
  have nM : ¬ SS s tM := by unfold SS tM tL; omega
  have nO : ∀ f, f < 8 → ¬ SS s (tO f) := fun f hf => by unfold SS tO tL; omega
  have zc := lt c (by rw [a1]; decide)
  have zSA := lt SA (by rw [b1]; decide)
  have zST := lt ST (by rw [b4]; decide)
  have zWY := lt WY (by rw [b7]; decide)
  have zp : ∀ f, f < 8 → po f < hz h := fun f hf => lt _ (by rw [(hP f hf).2.1]; decide)
  exact ⟨f.2.2 c zc (by rw [a2]; exact nM), f.2.2 SA zSA (by rw [b3]; exact nM), f.2.2 ST zST (by rw [b6]; exact nM), f.2.2 WY zWY (by rw [b9]; exact nM), fun i hi => f.2.2 _ (zp i hi) (by rw [(hP i hi).2.2.1]; exact nO i hi), zc, zSA, zST, zWY, zp⟩
theorem MV.stage (hM : MV g h ow c lg SA ST WY po sp X us uz) (hs : s < xM X) (f : Fr ow ow' (SS s) h h') (wf' : Wf h') (hV : StV g h' ow' s (sp s) lg S' rows' US' UZ') (hLog : LogV h' ow' lg rows') (hr : ∃ more, rows' = xR X ++ more) : MV g h' ow' c lg SA ST WY po sp (xSet X s S' rows') (upR us s US') (upR uz s UZ') := by
  have hM16 : xM X ≤ 16 := hM.2.2.2.2.1
  obtain ⟨sc, sSA, sST, sWY, sp1, zc, zSA, zST, zWY, zp⟩ := hM.own f (by omega)
  obtain ⟨⟨a1, a2, a3, a4, a5, a6, a7, a8⟩, ⟨b1, b2, b3, b4, b5, b6, b7, b8, b9⟩, hP, hS, h16, hL, gd⟩ := hM
  have n0 : ¬ SS s 0 := by unfold SS tL; omega
  refine ⟨⟨sc.1.trans a1, (f.2.1 c zc).trans a2, (sc.2.2.2.2.1 42).trans a3, (sc.2.2.2.2.1 43).trans a4, (sc.2.2.2.2.1 44).trans a5, (sc.2.2.2.2.1 45).trans a6, (sc.2.2.1 46).trans a7, (sc.2.2.1 47).trans a8⟩, ⟨sSA.1.trans b1, sSA.2.1.trans b2, (f.2.1 SA zSA).trans b3, sST.1.trans b4, sST.2.1.trans b5, (f.2.1 ST zST).trans b6, sWY.1.trans b7, sWY.2.1.trans b8, (f.2.1 WY zWY).trans b9⟩, fun i hi => ?_, fun j hj => ⟨fun hjm => ?_, fun hjm => ?_⟩, h16, hLog, gd.fr f n0 wf'⟩
  · obtain ⟨p1, p2, p3, p4, p5⟩ := hP i hi
    rw [sSA.2.2.2.2.2.2.2]
    exact ⟨p1, (sp1 i hi).1.trans p2, (f.2.1 _ (zp i hi)).trans p3, ((sp1 i hi).2.2.1 1).trans p4, ((sp1 i hi).2.2.1 2).trans p5⟩
  · obtain ⟨q1, q2, q3⟩ := (hS j hj).1 hjm
    rw [sSA.2.2.2.2.2.2.2, sST.2.2.2.2.2.2.2]
    refine ⟨q1, q2, ?_⟩
    by_cases e : j = s
    · subst e
      show StV g h' ow' j (sp j) lg (upR (xS X) j S' j) rows' (upR us j US' j) (upR uz j UZ' j)
      rw [show upR (xS X) j S' j = S' from if_pos rfl, show upR us j US' j = US' from if_pos rfl, show upR uz j UZ' j = UZ' from if_pos rfl]
      exact hV
    · show StV g h' ow' j (sp j) lg (upR (xS X) s S' j) rows' (upR us s US' j) (upR uz s UZ' j)
      rw [show upR (xS X) s S' j = xS X j from if_neg e, show upR us s US' j = us j from if_neg e, show upR uz s UZ' j = uz j from if_neg e]
      refine q3.other gd.1 f (fun t ht hh => ?_) n0 wf' hLog hr
      unfold tgS at ht
      unfold SS tL at hh
      rcases Nat.lt_or_ge j s with hl | hg
      · have : j * 1010 + 1010 ≤ s * 1010 := by
          have := Nat.mul_le_mul_right 1010 (show j + 1 ≤ s from hl)
          omega
        omega
      · have : s * 1010 + 1010 ≤ j * 1010 := by
          have := Nat.mul_le_mul_right 1010 (show s + 1 ≤ j by omega)
          omega
        omega
  · rw [sSA.2.2.2.2.2.2.2, sST.2.2.2.2.2.2.2]
    exact (hS j hj).2 hjm
end L83
