/-! A7: rows that a constructor makes, one after the other -/
def stA (c : Nat) (h : Hp) (x : Nat × Nat × Nat) : Hp := sFP (nArr h x.2.1 x.2.2) x.1 c (some (hz h))
def mkA (c : Nat) (h : Hp) (l : List (Nat × Nat × Nat)) : Hp := l.foldl (stA c) h
section LA7
variable {c : Nat} {h : Hp}
theorem stA_f {x : Nat × Nat × Nat} (hc : c < hz h) (wf : Wf h) : hz (stA c h x) = hz h + 1 ∧ hs (stA c h x) = hs h + x.2.2 ∧ (x.2.1 ≠ 0 → Wf (stA c h x)) ∧ (∀ a, a < hz h → a ≠ c → sameAt h (stA c h x) a) ∧ (hK (stA c h x) c = hK h c ∧ (∀ i, fI (stA c h x) i c = fI h i c) ∧ (∀ i, fP (stA c h x) i c = if i = x.1 then some (hz h) else fP h i c)) ∧ (hK (stA c h x) (hz h) = x.2.1 ∧ hN (stA c h x) (hz h) = x.2.2 ∧ aP (stA c h x) (hz h) = (fun _ => none) ∧ aI (stA c h x) (hz h) = (fun _ => 0) ∧ aL (stA c h x) (hz h) = (fun _ => 0)) ∧ ∀ a, hz h < a → hK (stA c h x) a = hK h a := by
  unfold stA
  have sm : Smo (fun a => a = c) h (sFP (nArr h x.2.1 x.2.2) x.1 c (some (hz h))) := ((Smo.rf (S := fun a => a = c) h).andArr).andFP (Or.inl rfl)
  refine ⟨rfl, rfl, fun _ => Wf_same (h := nArr h x.2.1 x.2.2) rfl rfl (Wf_nArr wf), fun a ha hn => sm.2 a ha hn, ⟨?_, fun i => ?_, fun i => ?_⟩, ⟨?_, ?_, ?_, ?_, ?_⟩, fun a ha => ?_⟩
  · rw [hK_sFP, hK_nArr, if_neg (by omega)]
  · rw [fI_sFP, fI_nArr]
  · rw [fP_sFP, fP_nArr]
    simp only [and_true]
  · rw [hK_sFP, hK_nArr, if_pos rfl]
  · rw [hN_sFP, hN_nArr, if_pos rfl]
  · rw [aP_sFP, aP_nArr, if_pos rfl]
  · rw [aI_sFP, aI_nArr, if_pos rfl]
  · rw [aL_sFP, aL_nArr, if_pos rfl]
  · rw [hK_sFP, hK_nArr, if_neg (by omega)]
theorem mkA_f : ∀ (l : List (Nat × Nat × Nat)) (h : Hp), c < hz h → Wf h → (∀ x ∈ l, x.2.1 ≠ 0) → (l.map (·.1)).Nodup →
    hz (mkA c h l) = hz h + l.length ∧ hs (mkA c h l) = hs h + (l.map (·.2.2)).sum ∧ Wf (mkA c h l) ∧ (∀ a, a < hz h → a ≠ c → sameAt h (mkA c h l) a) ∧ (hK (mkA c h l) c = hK h c ∧ (∀ i, fI (mkA c h l) i c = fI h i c) ∧ (∀ i, i ∉ l.map (·.1) → fP (mkA c h l) i c = fP h i c)) ∧
    ∀ j x, l[j]? = some x → fP (mkA c h l) x.1 c = some (hz h + j) ∧ hK (mkA c h l) (hz h + j) = x.2.1 ∧ hN (mkA c h l) (hz h + j) = x.2.2 ∧ aP (mkA c h l) (hz h + j) = (fun _ => none) ∧ aI (mkA c h l) (hz h + j) = (fun _ => 0) ∧ aL (mkA c h l) (hz h + j) = (fun _ => 0) := by
  intro l
  induction l with
  | nil =>
    intro h hc wf _ _
    exact ⟨rfl, rfl, wf, fun a _ _ => sameAt.rf h a, ⟨rfl, fun _ => rfl, fun _ _ => rfl⟩, fun j x hj => by simp at hj⟩
  | cons x l ih =>
    intro h hc wf hk hn
    rw [List.map_cons, List.nodup_cons] at hn
    obtain ⟨s1, s2, s3, s4, ⟨s5, s6, s7⟩, ⟨s8, s9, s10, s11, s12⟩, _⟩ := stA_f (x := x) hc wf
    have e : mkA c h (x :: l) = mkA c (stA c h x) l := rfl
    rw [e]
    obtain ⟨t1, t2, t3, t4, ⟨t5, t6, t7⟩, t8⟩ := ih (stA c h x) (by omega) (s3 (hk x List.mem_cons_self)) (fun y hy => hk y (List.mem_cons_of_mem _ hy)) hn.2
    generalize mkA c (stA c h x) l = h2 at *
    generalize stA c h x = h1 at *
    refine ⟨by rw [t1, s1, List.length_cons]; omega, by rw [t2, s2, List.map_cons, List.sum_cons]; omega, t3, fun a ha hn' => (s4 a ha hn').tr (t4 a (by omega) hn'), ⟨t5.trans s5, fun i => (t6 i).trans (s6 i), fun i hi => ?_⟩, fun j y hj => ?_⟩
    · rw [List.map_cons, List.mem_cons, not_or] at hi
      rw [t7 i hi.2, s7, if_neg hi.1]
    · cases j with
      | zero =>
        have : x = y := Option.some.inj hj
        subst this
        have sm := t4 (hz h) (by omega) (by omega)
        rw [Nat.add_zero]
        refine ⟨?_, sm.1.trans s8, sm.2.1.trans s9, sm.2.2.2.2.2.2.2.trans s10, sm.2.2.2.2.2.1.trans s11, sm.2.2.2.2.2.2.1.trans s12⟩
        rw [t7 _ hn.1, s7, if_pos rfl]
      | succ j =>
        have := t8 j y hj
        rw [s1, show hz h + 1 + j = hz h + (j + 1) by omega] at this
        exact this
end LA7
