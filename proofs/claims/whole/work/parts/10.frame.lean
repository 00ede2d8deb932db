/-! 10b: the frame rule: a method that was walked over a part of the heap does the same over the whole -/
def res (h : Hp) (D : Nat → Bool) : Hp := (hz h, hs h, (hL h).filter D, fun a => if D a then hK h a else 0, hN h, fI h, fL h, fP h, aI h, aL h, aP h)
def mrg (h h1 : Hp) (D : Nat → Bool) : Hp := (hz h1, hs h1, (hL h).filter (fun a => !D a) ++ hL h1, fun a => if a < hz h ∧ D a = false then hK h a else hK h1 a, fun a => if a < hz h ∧ D a = false then hN h a else hN h1 a, fun f a => if a < hz h ∧ D a = false then fI h f a else fI h1 f a, fun f a => if a < hz h ∧ D a = false then fL h f a else fL h1 f a, fun f a => if a < hz h ∧ D a = false then fP h f a else fP h1 f a, fun a => if a < hz h ∧ D a = false then aI h a else aI h1 a, fun a => if a < hz h ∧ D a = false then aL h a else aL h1 a, fun a => if a < hz h ∧ D a = false then aP h a else aP h1 a)
theorem plP {D : va_G} {L : List Nat} {f : Nat → va_E} {H : Heap} : va_P D vwCl (va_pl L f) H ↔ ∀ a ∈ L, va_at D vwCl (a, f a) H := by
  constructor
  · intro h a ha
    obtain ⟨k, hk⟩ := va_pl_get (X := []) (f := f) ha
    exact h k _ hk
  · intro h k q hk
    simp only [va_pl, List.getElem?_map, Option.map_eq_some_iff] at hk
    obtain ⟨a, ha, rfl⟩ := hk
    exact h a (List.mem_of_getElem? ha)
theorem plD {A : Nat → Prop} {L : List Nat} {f : Nat → va_E} : va_D A (va_pl L f) ↔ L.Nodup ∧ ∀ a ∈ L, A a := by
  constructor
  · intro ⟨h1, h2⟩
    refine ⟨?_, fun a ha => ?_⟩
    · rw [List.nodup_iff_pairwise_ne, List.pairwise_iff_getElem]
      intro i j hi hj hij e
      have e1 : (va_pl L f)[i]? = some (L[i], f L[i]) := by rw [va_pl, List.getElem?_map, List.getElem?_eq_getElem hi]; rfl
      have e2 : (va_pl L f)[j]? = some (L[j], f L[j]) := by rw [va_pl, List.getElem?_map, List.getElem?_eq_getElem hj]; rfl
      have := h1 i j _ _ e1 e2 e
      omega
    · obtain ⟨k, hk⟩ := va_pl_get (X := []) (f := f) ha
      exact h2 k _ hk
  · intro ⟨h1, h2⟩
    refine ⟨fun i j p q hi hj e => ?_, fun k q hk => ?_⟩
    · simp only [va_pl, List.getElem?_map, Option.map_eq_some_iff] at hi hj
      obtain ⟨a, ha, rfl⟩ := hi
      obtain ⟨b, hb, rfl⟩ := hj
      have e : a = b := e
      subst e
      obtain ⟨l1, e1⟩ := List.getElem?_eq_some_iff.mp ha
      obtain ⟨l2, e2⟩ := List.getElem?_eq_some_iff.mp hb
      rw [List.nodup_iff_pairwise_ne, List.pairwise_iff_getElem] at h1
      rcases Nat.lt_trichotomy i j with hl | hl | hl
      · exact absurd (e1.trans e2.symm) (h1 i j l1 l2 hl)
      · exact hl
      · exact absurd (e2.trans e1.symm) (h1 j i l2 l1 hl)
    · simp only [va_pl, List.getElem?_map, Option.map_eq_some_iff] at hk
      obtain ⟨a, ha, rfl⟩ := hk
      exact h2 a (List.mem_of_getElem? ha)
section FR
variable {g : Gl} {Y : Mth} {d : Nat} {av : List Value} {h h1 : Hp} {H : Heap} {Q : Option Value → Hp → Prop}
theorem cellOf_res {D : Nat → Bool} {a : Nat} (ha : D a = true) : cellOf g (res h D) a = cellOf g h a := by
  have e : hK (res h D) a = hK h a := by show (if D a then hK h a else 0) = _; rw [if_pos ha]
  unfold cellOf
  rw [e]
  rfl
theorem Rh.res (hR : Rh g h H) (D : Nat → Bool) : Rh g (res h D) H := by
  obtain ⟨r1, r2, r3, r4⟩ := hR
  have p2 := plP.mp r2
  have p3 := plD.mp r3
  refine ⟨r1, plP.mpr fun a ha => ?_, plD.mpr ⟨p3.1.filter _, fun a ha => p3.2 a (List.mem_filter.mp ha).1⟩, fun a ha => ?_⟩
  · rw [cellOf_res (List.mem_filter.mp ha).2]
    exact p2 a (List.mem_filter.mp ha).1
  · have e : (if D a then hK h a else 0) ≠ 0 := ha
    by_cases hD : D a = true
    · rw [if_pos hD] at e
      exact List.mem_filter.mpr ⟨r4 a e, hD⟩
    · rw [if_neg hD] at e
      exact absurd rfl e
theorem mrg_k {D : Nat → Bool} {a : Nat} (hk : a < hz h ∧ D a = false) : cellOf g (mrg h h1 D) a = cellOf g h a := by
  have e0 : hK (mrg h h1 D) a = hK h a := if_pos hk
  have e1 : hN (mrg h h1 D) a = hN h a := if_pos hk
  have e2 : aI (mrg h h1 D) a = aI h a := if_pos hk
  have e3 : aL (mrg h h1 D) a = aL h a := if_pos hk
  have e4 : aP (mrg h h1 D) a = aP h a := if_pos hk
  have e5 : fval (mrg h h1 D) a = fval h a := by
    funext y
    have f1 : fI (mrg h h1 D) y.2 a = fI h y.2 a := if_pos hk
    have f2 : fL (mrg h h1 D) y.2 a = fL h y.2 a := if_pos hk
    have f3 : fP (mrg h h1 D) y.2 a = fP h y.2 a := if_pos hk
    simp only [fval, f1, f2, f3]
  unfold cellOf
  rw [e0, e1, e2, e3, e4, e5]
theorem mrg_n {D : Nat → Bool} {a : Nat} (hk : ¬ (a < hz h ∧ D a = false)) : cellOf g (mrg h h1 D) a = cellOf g h1 a := by
  have e0 : hK (mrg h h1 D) a = hK h1 a := if_neg hk
  have e1 : hN (mrg h h1 D) a = hN h1 a := if_neg hk
  have e2 : aI (mrg h h1 D) a = aI h1 a := if_neg hk
  have e3 : aL (mrg h h1 D) a = aL h1 a := if_neg hk
  have e4 : aP (mrg h h1 D) a = aP h1 a := if_neg hk
  have e5 : fval (mrg h h1 D) a = fval h1 a := by
    funext y
    have f1 : fI (mrg h h1 D) y.2 a = fI h1 y.2 a := if_neg hk
    have f2 : fL (mrg h h1 D) y.2 a = fL h1 y.2 a := if_neg hk
    have f3 : fP (mrg h h1 D) y.2 a = fP h1 y.2 a := if_neg hk
    simp only [fval, f1, f2, f3]
  unfold cellOf
  rw [e0, e1, e2, e3, e4, e5]
theorem rh_mrg {H1 : Heap} {D : Nat → Bool} (hR : Rh g h H) (hR1 : Rh g h1 H1) (hE : Ext (res h D) h1) (hX : Fix (res h D) H H1) : Rh g (mrg h h1 D) H1 := by
  obtain ⟨r1, r2, r3, r4⟩ := hR
  obtain ⟨t1, t2, t3, t4⟩ := hR1
  have p2 := plP.mp r2
  have p3 := plD.mp r3
  have q2 := plP.mp t2
  have q3 := plD.mp t3
  have hlt : ∀ a ∈ hL h, a < hz h := fun a ha => by rw [← r1]; exact (p2 a ha).lt
  have hnk : ∀ a ∈ hL h1, ¬ (a < hz h ∧ D a = false) := fun a ha ⟨k1, k2⟩ => by
    rcases hE.2.2 a ha with hq | hq
    · have hD := (List.mem_filter.mp hq).2
      rw [k2] at hD
      cases hD
    · exact absurd k1 (Nat.not_lt.mpr hq)
  have hkp : ∀ a ∈ (hL h).filter (fun a => !D a), a < hz h ∧ D a = false := fun a ha => by
    obtain ⟨m1, m2⟩ := List.mem_filter.mp ha
    exact ⟨hlt a m1, by simpa using m2⟩
  refine ⟨t1, plP.mpr fun a ha => ?_, plD.mpr ⟨?_, fun a ha => ?_⟩, fun a ha => ?_⟩
  · rcases List.mem_append.mp ha with hq | hq
    · rw [mrg_k (hkp a hq)]
      refine (p2 a (List.mem_filter.mp hq).1).kept (hX a (by rw [r1]; exact (hkp a hq).1) (fun hq2 => ?_))
      have hD := (List.mem_filter.mp hq2).2
      rw [(hkp a hq).2] at hD
      cases hD
    · rw [mrg_n (hnk a hq)]
      exact q2 a hq
  · refine List.nodup_append.mpr ⟨p3.1.filter _, q3.1, fun a ha b hb e => ?_⟩
    subst e
    exact hnk a hb (hkp a ha)
  · rcases List.mem_append.mp ha with hq | hq
    · exact p3.2 a (List.mem_filter.mp hq).1
    · exact q3.2 a hq
  · by_cases hk : a < hz h ∧ D a = false
    · have e : (if a < hz h ∧ D a = false then hK h a else hK h1 a) ≠ 0 := ha
      rw [if_pos hk] at e
      exact List.mem_append_left _ (List.mem_filter.mpr ⟨r4 a e, by simp [hk.2]⟩)
    · have e : (if a < hz h ∧ D a = false then hK h a else hK h1 a) ≠ 0 := ha
      rw [if_neg hk] at e
      exact List.mem_append_right _ (t4 a e)
/-- THE FRAME RULE -/
theorem Call.frame (D : Nat → Bool) (k : Call g Y d av (res h D) Q) : Call g Y d av h (fun v h' => ∃ h1, Q v h1 ∧ Ext (res h D) h1 ∧ h' = mrg h h1 D) := by
  obtain ⟨v, h1, ⟨hE, hM⟩, q⟩ := k
  have hE2 : Ext h (mrg h h1 D) := by
    refine ⟨hE.1, hE.2.1, fun a ha => ?_⟩
    rcases List.mem_append.mp ha with hq | hq
    · exact Or.inl (List.mem_filter.mp hq).1
    · rcases hE.2.2 a hq with h3 | h3
      · exact Or.inl (List.mem_filter.mp h3).1
      · exact Or.inr h3
  refine ⟨v, mrg h h1 D, ⟨hE2, ?_⟩, h1, q, hE, rfl⟩
  intro p e ha hc hk s m args below hf happ hP hK
  obtain ⟨hav, hR, hKn⟩ := hP
  obtain ⟨n, o, w1, w2, w3, ⟨⟨hv, hR1, hKn1, hF, hX⟩, hL⟩⟩ := hM p e ha hc hk s m args below hf happ ⟨hav, hR.res D, hKn⟩ hK
  refine ⟨n, o, w1, w2, w3, ⟨hv, rh_mrg hR hR1 hE hX, hKn1, hF, fun q hq hn => ?_⟩, hL⟩
  exact hX q hq (fun hq2 => hn (List.mem_filter.mp hq2).1)
end FR
