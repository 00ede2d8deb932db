/-! 37: a window by what it holds: add, absorb, answer; what a lane costs -/
section L37
variable {g : Gl} {d : Nat} {h : Hp} {Q : Option Value → Hp → Prop} {ow : Nat → Nat} {T how k p : Nat} {w : Wd}
theorem nI_z {n : Nat} (h : n < 1000000) : nI n = 0 ↔ n = 0 := nI_eq (a := n) (b := 0) (by omega) (by decide)
theorem k_wAdd {v : Int64} (x : WdV h ow T how k p w) (wf : Wf h) (hh : how ≤ 5) (hl : (wVs w).length + 1 < 1000000)
    (hQ : ∀ h', WdV h' (owX ow h T) T how k p (wB w, wE w, wR w, v :: wVs w) → Smo (fun a => a = p ∨ fP h 40 p = some a) h h' → Wf h' → (∀ t, fP h' 40 p = some t → fP h 40 p = some t ∨ hz h ≤ t) → hs h' + 2 * capO h (fP h 40 p) ≤ hs h + 2 * capO h' (fP h' 40 p) → hz h' ≤ hz h + 1 → Q none h') :
    Call g mX7_add (d + 3) [.ref p, .long v, .int (nI how)] h Q := by
  have hp := x.lt wf
  have hr := fun t ht => x.row (t := t) ht
  obtain ⟨x1, x2, x3, x4, x5, x6, x7, x8, vs, y, x9, x10, o, x11, x12⟩ := x
  by_cases h3 : how ≤ 3
  · refine k_winAddT x1 h3 ?_
    have hn := x11 h3
    have hv : vs = [] := x9.2.2 h3
    subst hv
    refine hQ _ ⟨x1, (if_pos hp).trans x2, ?_, ?_, ?_, ?_, ?_, ?_, [], ⟨x1, ?_, rfl, by simp, Or.inl ⟨hn, rfl⟩⟩, ⟨fun e => by omega, fun e => by omega, fun _ => rfl⟩, Nat.zero_le _, fun t ht => ?_, fun _ => hn, fun h4 => by omega⟩ (((Smo.rf h).andFL (Or.inl (Or.inl rfl))).andFI (Or.inl (Or.inl rfl))) (Wf_same rfl rfl wf) (fun t ht => Or.inl ht) (Nat.le_refl _) (Nat.le_succ _)
    · exact Eq.trans (by simp [fI_sFI, fI_sFL]) x3
    · exact Eq.trans (by simp [fI_sFI, fI_sFL]) x4
    · exact Eq.trans (by simp [fI_sFI, fI_sFL]) x5
    · simp only [fI_sFI, true_and, ↓reduceIte, x6]
      exact nI_1 _
    · exact Eq.trans (by simp [fI_sFI, fI_sFL]) x7
    · have e : fL (sFI (sFL h 39 p (if fI h 37 p = 0 then v else cmb (nI how) (fL h 39 p) v)) 37 p (fI h 37 p + 1)) 39 p = if (wVs w).length = 0 then v else cmb (nI how) (fL h 39 p) v := by
        simp only [fL_sFI, fL_sFL, true_and, ↓reduceIte, x6]
        by_cases h0 : (wVs w).length = 0
        · rw [if_pos h0, if_pos ((nI_z (by omega)).mpr h0)]
        · rw [if_neg h0, if_neg (fun e => h0 ((nI_z (by omega)).mp e))]
      rw [e]
      exact x8.add h3
    · have := y.2.1
      simpa [fI_sFI, fI_sFL] using this
    · rw [show fP (sFI (sFL h 39 p (if fI h 37 p = 0 then v else cmb (nI how) (fL h 39 p) v)) 37 p (fI h 37 p + 1)) 40 p = fP h 40 p from rfl, hn] at ht
      cases ht
  · have h45 : how = 4 ∨ how = 5 := by omega
    refine k_winAddV y h45 (by omega) (x9.sorted hh) wf (fun h' t' vs' s1 s2 s3 s4 s5 s6 => ?_)
    have ln := s4.len
    have hk' : hz h ≤ hz h' := s2.1
    refine hQ _ ⟨s1.1, (if_pos hp).trans x2, ?_, ?_, ?_, ?_, ?_, ?_, vs', ⟨s1.1, ?_, rfl, s1.2.2.2.1, ?_⟩, x9.add h45 s4, by simp only [wVs, List.length_cons]; unfold wVs at x10; omega, fun t ht => ?_, fun h4 => absurd h4 h3, fun _ _ => ?_⟩ (s2.andFI (Or.inl (Or.inl rfl))) (Wf_same rfl rfl s3) (fun t ht => ?_) ?_ ?_
    · exact Eq.trans (by simp [fI_sFI]) ((s5.1 34 (by decide)).trans x3)
    · exact Eq.trans (by simp [fI_sFI]) ((s5.1 35 (by decide)).trans x4)
    · exact Eq.trans (by simp [fI_sFI]) ((s5.1 36 (by decide)).trans x5)
    · simp only [fI_sFI, true_and, ↓reduceIte, x6]
      exact nI_1 _
    · exact Eq.trans (by simp [fI_sFI]) ((s5.1 38 (by decide)).trans x7)
    · refine Or.inr ⟨fun e => by omega, fun e => by omega, fun e => by omega⟩
    · simpa [fI_sFI] using s1.2.1
    · rw [show fP (sFI h' 37 p (fI h 37 p + 1)) 40 p = fP h' 40 p from rfl, s1.2.2.1]
      rcases s1.2.2.2.2 with e | e
      · cases e.1
      · obtain ⟨t, e1, e2⟩ := e
        exact Or.inr ⟨t, e1, e2⟩
    · rw [show fP (sFI h' 37 p (fI h 37 p + 1)) 40 p = fP h' 40 p from rfl, s1.2.2.1] at ht
      cases ht
      show owX ow h T t' = T ∧ hN h' t' ≤ max 4 (2 * vs'.length)
      rcases s6 with ⟨e1, e2, e3, e4⟩ | ⟨e1, e2, e3⟩
      · have o1 := o t' e1
        refine ⟨(if_pos (wf t' (by rw [(hr t' e1).1]; decide))).trans o1.1, ?_⟩
        rw [e4]
        have := o1.2
        omega
      · refine ⟨if_neg (by omega), ?_⟩
        rcases e3 with ⟨_, _, e3⟩ | ⟨t, _, _, _, e3⟩
        · omega
        · omega
    · rw [show fP (sFI h' 37 p (fI h 37 p + 1)) 40 p = fP h' 40 p from rfl, s1.2.2.1]
      exact Option.some_ne_none _
    · rw [show fP (sFI h' 37 p (fI h 37 p + 1)) 40 p = fP h' 40 p from rfl, s1.2.2.1] at ht
      cases ht
      rcases s6 with ⟨e1, _⟩ | ⟨e1, _⟩
      · exact Or.inl e1
      · exact Or.inr (by omega)
    · rw [show fP (sFI h' 37 p (fI h 37 p + 1)) 40 p = fP h' 40 p from rfl, s1.2.2.1]
      show hs h' + _ ≤ hs h + 2 * hN h' t'
      rcases s6 with ⟨e1, e2, e3, e4⟩ | ⟨e1, e2, e3⟩
      · rw [e1, e3, e4]
        exact Nat.le_refl _
      · rcases e3 with ⟨e4, e5, e6⟩ | ⟨t, e4, e5, e6, e7⟩
        · rw [e4]
          show hs h' + 2 * 0 ≤ _
          omega
        · rw [e4]
          show hs h' + 2 * hN h t ≤ _
          omega
    · show hz h' ≤ _
      rcases s6 with ⟨e1, e2, e3, e4⟩ | ⟨e1, e2, e3⟩ <;> omega
theorem k_wAnswer (x : WdV h ow T how k p w) (hh : how ≤ 5) (hne : wVs w ≠ []) (hl : (wVs w).length < 1000000) (hQ : Q (some (.long (ansV how (wVs w)))) h) : Call g mX7_answer d [.ref p, .int (nI how)] h Q := by
  obtain ⟨x1, x2, x3, x4, x5, x6, x7, x8, vs, y, x9, x10, o, x11, x12⟩ := x
  refine k_answer y hh ?_
  have e : ansW h p vs how = ansV how (wVs w) := by
    rw [← ansV_of hh hne x9 x8]
    unfold ansW
    rw [x6]
    by_cases h0 : how = 0
    · rw [if_pos h0, if_pos h0]
      exact nI_l (by omega)
    · rw [if_neg h0, if_neg h0]
  rw [e]
  exact hQ
end L37
