/-! 82: a stage of the mill, as the heap has it; what others leave of it -/
section L82
variable {g : Gl} {h h' : Hp} {ow ow' : Nat → Nat} {S : Nat → Prop} {s p lg A q1 q2 how ea dr US UZ : Nat} {ses : Bool} {sp st lt mk : Int32} {rows rows' : List Rw} {ln : Nat → List Wd}
/-- tags of stage s -/
def tgS (s t : Nat) : Prop := 1 + s * 1010 ≤ t ∧ t < 1 + s * 1010 + 1010
theorem WS.other (hW : WS g h ow s p lg A q1 q2 ses how ea sp st lt mk dr ln rows US UZ) (f : Fr ow ow' S h h') (hS : ∀ t, tgS s t → ¬ S t) (h0 : ¬ S 0) (wf' : Wf h') (hLog : LogV h' ow' lg rows') (hr : ∃ more, rows' = rows ++ more) :
    WS g h' ow' s p lg A q1 q2 ses how ea sp st lt mk dr ln rows' US UZ ∧ sameAt h h' p := by
  obtain ⟨ac, D1, D2, s1, c1, b1, s2, c2, b2, ⟨hC, h20, hL, hLog0, hD1, hD2, gd⟩, ⟨f1, f13, f14, f15, f21, f22, f23⟩, ⟨f24, f25, f26⟩, hI, hD, hb1, hb2, eS, eZ⟩ := hW
  obtain ⟨more, em⟩ := hr
  have tg0 : ∀ j, j < 1000 → ¬ S (tg s j) := fun j hj => hS _ (by unfold tgS tg; omega)
  have tP0 : ¬ S (tP s) := hS _ (by unfold tgS tP; omega)
  have tA0 : ¬ S (tA s) := hS _ (by unfold tgS tA; omega)
  have tD0 : ¬ S (tD s) := hS _ (by unfold tgS tD; omega)
  have tQ0 : ¬ S (tQ s) := hS _ (by unfold tgS tQ; omega)
  have lt0 := hC.lt gd.1
  have sp1 : sameAt h h' p := f.2.2 p lt0.1 (by rw [hC.2.1]; exact tP0)
  have sA1 : sameAt h h' A := f.2.2 A lt0.2 (by rw [hC.2.2.2.2.2.2.2.2.2]; exact tA0)
  refine ⟨⟨ac, D1, D2, s1, c1, b1, s2, c2, b2, ⟨hC.on (PFl.of sp1) (by decide) (f.2.1 p lt0.1) (f.2.1 A lt0.2) sA1.1 sA1.2.1, (sp1.2.2.1 20).trans h20, hL.fr gd f tg0 h0 sA1.2.2.2.2.2.2.2, hLog, hD1.fr gd.1 f tD0, hD2.fr gd.1 f tQ0, gd.fr f h0 wf'⟩, ⟨(sp1.2.2.1 1).trans f1, (sp1.2.2.1 13).trans f13, (sp1.2.2.1 14).trans f14, (sp1.2.2.1 15).trans f15, (sp1.2.2.1 21).trans f21, (sp1.2.2.1 22).trans f22, (sp1.2.2.1 23).trans f23⟩, ⟨(sp1.2.2.1 24).trans f24, (sp1.2.2.1 25).trans f25, (sp1.2.2.1 26).trans f26⟩, fun k hk => ?_, hD, hb1, hb2, eS, eZ⟩, sp1⟩
  rw [em]
  exact (hI k hk).app
theorem WS.log (hW : WS g h ow s p lg A q1 q2 ses how ea sp st lt mk dr ln rows US UZ) : LogV h ow lg rows ∧ Gd g h ow := by
  obtain ⟨ac, D1, D2, s1, c1, b1, s2, c2, b2, ⟨hC, h20, hL, hLog0, hD1, hD2, gd⟩, _⟩ := hW
  exact ⟨hLog0, gd⟩
/-- the numbers of a stage with windows are in their bounds -/
def stOK (s : Nat) (X : Stg) : Prop := BdS s (sHow X) (sEa X) (sSp X) (sSt X) (gI X 21) (gI X 1) ∧ gI X 20 = nI (sHow X) ∧ gI X 22 = nI (sEa X) ∧ gI X 23 = nI (sDr X) ∧ (gI X 3 = 4 ∨ gI X 3 = 5 ∨ gI X 3 = 6)
/-- stage s of the mill is at p -/
def StV (g : Gl) (h : Hp) (ow : Nat → Nat) (s p lg : Nat) (X : Stg) (rows : List Rw) (US UZ : Nat) : Prop :=
  (fI h 1 p = gI X 1 ∧ fI h 2 p = gI X 2 ∧ fI h 3 p = gI X 3 ∧ fI h 4 p = gI X 4 ∧ fI h 5 p = nI (mskN (gF X) 24)) ∧
  ((isW X = true ∧ hK h p = 8 ∧ stOK s X ∧ ∃ A q1 q2, WS g h ow s p lg A q1 q2 (sSes X) (sHow X) (sEa X) (sSp X) (sSt X) (gI X 21) (gI X 1) (sDr X) (gL X) rows US UZ) ∨
   (isW X = false ∧ hK h p = 5 ∧ ow p = tP s ∧ fI h 6 p = gI X 6 ∧ fI h 7 p = gI X 7 ∧ fI h 8 p = gI X 8 ∧ fI h 9 p = gI X 9 ∧ fI h 10 p = gI X 10 ∧ fL h 11 p = gV X ∧ US = 0 ∧ UZ = 0))
theorem StV.tag {X : Stg} (hV : StV g h ow s p lg X rows US UZ) : ow p = tP s ∧ (hK h p = 5 ∨ hK h p = 8) := by
  rcases hV.2 with ⟨_, a2, _, A, q1, q2, w⟩ | ⟨_, a2, a3, _⟩
  · exact ⟨w.kd.2.2.2.2.2.2, Or.inr a2⟩
  · exact ⟨a3, Or.inl a2⟩
theorem StV.other {X : Stg} (hV : StV g h ow s p lg X rows US UZ) (wf : Wf h) (f : Fr ow ow' S h h') (hS : ∀ t, tgS s t → ¬ S t) (h0 : ¬ S 0) (wf' : Wf h') (hLog : LogV h' ow' lg rows') (hr : ∃ more, rows' = rows ++ more) : StV g h' ow' s p lg X rows' US UZ := by
  have ht := hV.tag
  have hp : p < hz h := wf p (by rcases ht.2 with e | e <;> rw [e] <;> decide)
  have sp : sameAt h h' p := f.2.2 p hp (by rw [ht.1]; exact hS _ (by unfold tgS tP; omega))
  obtain ⟨⟨a1, a2, a3, a4, a5⟩, hV2⟩ := hV
  refine ⟨⟨(sp.2.2.1 1).trans a1, (sp.2.2.1 2).trans a2, (sp.2.2.1 3).trans a3, (sp.2.2.1 4).trans a4, (sp.2.2.1 5).trans a5⟩, ?_⟩
  rcases hV2 with ⟨b1, b2, b3, A, q1, q2, w⟩ | ⟨b1, b2, b3, b4, b5, b6, b7, b8, b9, b10, b11⟩
  · exact Or.inl ⟨b1, sp.1.trans b2, b3, A, q1, q2, (w.other f hS h0 wf' hLog hr).1⟩
  · exact Or.inr ⟨b1, sp.1.trans b2, (f.2.1 p hp).trans b3, (sp.2.2.1 6).trans b4, (sp.2.2.1 7).trans b5, (sp.2.2.1 8).trans b6, (sp.2.2.1 9).trans b7, (sp.2.2.1 10).trans b8, (sp.2.2.2.1 11).trans b9, b10, b11⟩
end L82
