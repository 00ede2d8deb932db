/-! 67: rise: the slots that the mark reaches, one after the other -/
/-- what holds while the slots U are still to be taken: mk was the mark, to is it now -/
def P1 (ses : Bool) (s : Nat) (sp mk to : Int32) (sty : Int) (U : List Int64) (ln : Nat → List Wd) (rows : List Rw) (D2 : List Int64) : Prop :=
  (∀ k, k < 1000 → LnI ses s k sp mk rows (ln k)) ∧
  (∀ k, k < 1000 → ∀ w ∈ ln k, (mk < wE w → wE w ≤ to → sSl k w ∈ U ∨ wR w ≠ none ∧ sSl k w ∈ D2) ∧ (¬ mk < wE w → mk.toInt < (wE w).toInt + sty → sSl k w ∈ D2)) ∧
  D2.Nodup ∧ (∀ x ∈ D2, InW ln x (fun e => e ≤ to.toInt ∧ mk.toInt < e + sty)) ∧
  (∀ x ∈ U, x ∉ D2 ∧ InW ln x (fun e => mk.toInt < e ∧ e ≤ to.toInt)) ∧ U.Pairwise (· < ·)
section L67
variable {ses : Bool} {s k how : Nat} {sp mk to : Int32} {sty : Int} {rows : List Rw} {ln : Nat → List Wd} {D2 U : List Int64} {x : Int64}
theorem P1.skip (h : P1 ses s sp mk to sty (x :: U) ln rows D2) (hn : ∀ k, k < 1000 → ∀ w ∈ ln k, x ≠ sSl k w) : P1 ses s sp mk to sty U ln rows D2 := by
  obtain ⟨h1, h2, h3, h4, h5, h6⟩ := h
  refine ⟨h1, fun k hk w hw => ⟨fun a b => ?_, (h2 k hk w hw).2⟩, h3, h4, fun y hy => h5 y (List.mem_cons_of_mem _ hy), (List.pairwise_cons.mp h6).2⟩
  rcases (h2 k hk w hw).1 a b with q | q
  · rcases List.mem_cons.mp q with e | q
    · exact absurd e.symm (hn k hk w hw)
    · exact Or.inl q
  · exact Or.inr q
theorem P1.hit {A B : List Wd} {w : Wd} (h : P1 ses s sp mk to sty (x :: U) ln rows D2) (h1' : 1 ≤ sp.toInt) (hs0 : 0 ≤ sty) (hk : k < 1000) (hL : ln k = A ++ w :: B) (hx : x = sSl k w) :
    P1 ses s sp mk to sty U (upR ln k (A ++ (finW s k how True rows w).1 :: B)) (finW s k how True rows w).2 (x :: D2) ∧ gvS s how (ln, rows) x = (upR ln k (A ++ (finW s k how True rows w).1 :: B), (finW s k how True rows w).2) := by
  obtain ⟨h1, h2, h3, h4, h5, h6⟩ := h
  have hI := h1 k hk
  have hvb := hI.vb h1' (show w ∈ ln k by rw [hL]; simp)
  rw [hL] at hI
  obtain ⟨g1, g2, ⟨more, em⟩, g4⟩ := hI.give (how := how)
  have hext : ∀ j, j < 1000 → (upR ln k (A ++ (finW s k how True rows w).1 :: B) j).map ext = (ln j).map ext := fun j hj => by
    by_cases e : j = k
    · subst e
      rw [show upR ln j (A ++ (finW s j how True rows w).1 :: B) j = A ++ (finW s j how True rows w).1 :: B from if_pos rfl, hL, List.map_append, List.map_append, List.map_cons, List.map_cons, finT_ext]
    · rw [show upR ln k (A ++ (finW s k how True rows w).1 :: B) j = ln j from if_neg e]
  have nA : ∀ y ∈ A, ¬ (wB y = wB w ∧ wE y = wE w) := fun y hy hh => by
    have := (List.pairwise_append.mp hI.2).2.2 y hy w List.mem_cons_self
    rw [hh.1] at this
    omega
  refine ⟨⟨fun j hj => ?_, fun j hj y hy => ?_, List.nodup_cons.mpr ⟨(h5 x List.mem_cons_self).1, h3⟩, fun y hy => ?_, fun y hy => ⟨fun hin => ?_, (h5 y (List.mem_cons_of_mem _ hy)).2.ext hext⟩, (List.pairwise_cons.mp h6).2⟩, ?_⟩
  · by_cases e : j = k
    · subst e
      rw [show upR ln j (A ++ (finW s j how True rows w).1 :: B) j = A ++ (finW s j how True rows w).1 :: B from if_pos rfl]
      exact g1
    · rw [show upR ln k (A ++ (finW s k how True rows w).1 :: B) j = ln j from if_neg e, em]
      exact (h1 j hj).app
  · have old : y ∈ ln j → (j = k → sSl j y ≠ x) → (mk < wE y → wE y ≤ to → sSl j y ∈ U ∨ wR y ≠ none ∧ sSl j y ∈ x :: D2) ∧ (¬ mk < wE y → mk.toInt < (wE y).toInt + sty → sSl j y ∈ x :: D2) := fun hy hne => by
      refine ⟨fun a b => ?_, fun a b => List.mem_cons_of_mem _ ((h2 j hj y hy).2 a b)⟩
      rcases (h2 j hj y hy).1 a b with q | q
      · rcases List.mem_cons.mp q with e | q
        · rw [hx] at e
          obtain ⟨e1, _⟩ := slot_inj ((h1 j hj).vb h1' hy) hvb hj hk e
          exact absurd (e.trans hx.symm) (hne e1)
        · exact Or.inl q
      · exact Or.inr ⟨q.1, List.mem_cons_of_mem _ q.2⟩
    by_cases e : j = k
    · subst e
      rw [show upR ln j (A ++ (finW s j how True rows w).1 :: B) j = A ++ (finW s j how True rows w).1 :: B from if_pos rfl] at hy
      rcases List.mem_append.mp hy with hy | hy
      · refine old (by rw [hL]; exact List.mem_append_left _ hy) (fun _ e => ?_)
        rw [hx] at e
        obtain ⟨_, e2, e3⟩ := slot_inj ((h1 j hj).vb h1' (by rw [hL]; exact List.mem_append_left _ hy)) hvb hj hk e
        exact nA y hy ⟨e2, e3⟩
      · rcases List.mem_cons.mp hy with e | hy
        · have e1 : sSl j y = x := by
            rw [e, hx]
            rfl
          rw [e1]
          refine ⟨fun _ _ => Or.inr ⟨by rw [e]; exact g4, List.mem_cons_self⟩, fun _ _ => List.mem_cons_self⟩
        · have hyl : y ∈ ln j := by rw [hL]; exact List.mem_append_right _ (List.mem_cons_of_mem _ hy)
          refine old hyl (fun _ e => ?_)
          rw [hx] at e
          obtain ⟨_, e2, _⟩ := slot_inj ((h1 j hj).vb h1' hyl) hvb hj hk e
          have := (List.pairwise_cons.mp (List.pairwise_append.mp hI.2).2.1).1 y hy
          rw [e2] at this
          omega
    · rw [show upR ln k (A ++ (finW s k how True rows w).1 :: B) j = ln j from if_neg e] at hy
      exact old hy (fun q => absurd q e)
  · rcases List.mem_cons.mp hy with e | hy
    · rw [e]
      obtain ⟨j, b, e', w', a1, a2, a3, a4, a5, a6, a7⟩ := ((h5 x List.mem_cons_self).2).ext hext
      exact ⟨j, b, e', w', a1, a2, a3, a4, a5, a6, a7.2, by omega⟩
    · exact (h4 y hy).ext hext
  · rcases List.mem_cons.mp hin with e | hin
    · have := (List.pairwise_cons.mp h6).1 y hy
      rw [e] at this
      exact absurd this (Int64.lt_irrefl)
    · exact (h5 y (List.mem_cons_of_mem _ hy)).1 hin
  · rw [hx]
    unfold sSl
    rw [gvS_slot _ hvb hk]
    show (upR ln k (gvL s k how rows (wB w) (wE w) (ln k)).1, (gvL s k how rows (wB w) (wE w) (ln k)).2) = _
    rw [hL, gvL_hit ⟨rfl, rfl⟩ nA]
theorem P1.miss_gv (h : P1 ses s sp mk to sty (x :: U) ln rows D2) (hn : ∀ k, k < 1000 → ∀ w ∈ ln k, x ≠ sSl k w) : gvS s how (ln, rows) x = (ln, rows) := by
  obtain ⟨k, b, e, w, h1, h2, h3, _⟩ := (h.2.2.2.2.1 x List.mem_cons_self).2
  rw [h2, gvS_slot _ h3 h1]
  show (upR ln k (gvL s k how rows b e (ln k)).1, (gvL s k how rows b e (ln k)).2) = _
  rw [gvL_miss (fun y hy hh => hn k h1 y hy (by rw [h2]; unfold sSl; rw [hh.1, hh.2]))]
  show (upR ln k (ln k), rows) = _
  rw [upR_self]
end L67
