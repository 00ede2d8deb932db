/-! C2: a window of the model changes, or comes new -/
theorem LK.on {nx nx' : Nat → Int32} : ∀ {es : List Nat} {e : Int32}, LK nx e es → (∀ i ∈ es, nx' i = nx i) → LK nx' e es
  | [], _, h, _ => h
  | i :: is, _, h, hh => ⟨h.1, by rw [hh i List.mem_cons_self]; exact LK.on h.2 (fun j hj => hh j (List.mem_cons_of_mem _ hj))⟩
/-- the numbers of a stage that its windows rest on -/
def CF (S S' : Stg) : Prop := (∀ j, j ≠ 4 → j ≠ 23 → gI S' j = gI S j) ∧ gV S' = gV S ∧ gF S' = gF S
theorem CF.rf (S : Stg) : CF S S := ⟨fun _ _ _ => rfl, rfl, rfl⟩
theorem CF.sty {S S' : Stg} (h : CF S S') : sSty S' = sSty S ∧ gI S' 1 = gI S 1 ∧ isW S' = isW S ∧ sSes S' = sSes S ∧ sSp S' = sSp S ∧ sHow S' = sHow S ∧ sEa S' = sEa S ∧ sSt S' = sSt S := by
  have e1 := h.1 1 (by decide) (by decide)
  have e3 := h.1 3 (by decide) (by decide)
  have e6 := h.1 6 (by decide) (by decide)
  have e7 := h.1 7 (by decide) (by decide)
  have e20 := h.1 20 (by decide) (by decide)
  have e21 := h.1 21 (by decide) (by decide)
  have e22 := h.1 22 (by decide) (by decide)
  unfold sSty sSes sSp isW sHow sEa sSt
  rw [e1, e3, e6, e7, e20, e21, e22]
  exact ⟨rfl, rfl, rfl, rfl, rfl, rfl, rfl, rfl⟩
theorem MWk.on {u u' : Mu} {X X' : Sg} {j : Nat} {o : Option Mw} (h : MWk u X j o) (hI : ∀ r, 19 ≤ r → r ≤ 26 → mI u' r j = mI u r j) (hE : ∀ i ∈ enO o, mI u' 28 i = mI u 28 i ∧ mL u' 27 i = mL u 27 i) (hX : ∀ s, sSty (xS X' s) = sSty (xS X s) ∧ gI (xS X' s) 1 = gI (xS X s) 1) : MWk u' X' j o := by
  match o, h, hE with
  | none, h, _ => exact (hI 19 (by decide) (by decide)).trans h
  | some (s, ky, w, es), h, hE =>
    obtain ⟨w1, w2, w3, w4, w5, w6, w7, w8, w9⟩ := h
    refine ⟨(hI 19 (by decide) (by decide)).trans w1, (hI 20 (by decide) (by decide)).trans w2, (hI 21 (by decide) (by decide)).trans w3, (hI 22 (by decide) (by decide)).trans w4, ?_, (hI 24 (by decide) (by decide)).trans w6, (hI 26 (by decide) (by decide)).trans w7, ?_, ?_⟩
    · rw [hI 23 (by decide) (by decide), (hX s).1, (hX s).2]
      exact w5
    · rw [hI 25 (by decide) (by decide)]
      exact w8.on (fun i hi => (hE i hi).1)
    · have e : es.map (mL u' 27) = es.map (mL u 27) := List.map_congr_left (fun i hi => (hE i hi).2)
      rw [e]
      exact w9
/-- what has changed when window k has: nothing of others, nothing of older entries -/
def EfU (k ne : Nat) (u u' : Mu) : Prop := (∀ r, 19 ≤ r → r ≤ 26 → ∀ j, j ≠ k → mI u' r j = mI u r j) ∧ (∀ i, i < ne → mI u' 28 i = mI u 28 i ∧ mL u' 27 i = mL u 27 i) ∧ (∀ j, j ≤ 18 → mI u' j = mI u j) ∧ mL u' 18 = mL u 18 ∧ mF u' 78 = mF u 78 ∧ mF u' 79 = mF u 79
theorem EfU.rf (k ne : Nat) (u : Mu) : EfU k ne u u := ⟨fun _ _ _ _ _ => rfl, fun _ _ => ⟨rfl, rfl⟩, fun _ _ => rfl, rfl, rfl, rfl⟩
theorem EfU.tr {k ne : Nat} {u v w : Mu} (a : EfU k ne u v) (b : EfU k ne v w) : EfU k ne u w :=
  ⟨fun r h1 h2 j hj => (b.1 r h1 h2 j hj).trans (a.1 r h1 h2 j hj), fun i hi => ⟨(b.2.1 i hi).1.trans (a.2.1 i hi).1, (b.2.1 i hi).2.trans (a.2.1 i hi).2⟩, fun j hj => (b.2.2.1 j hj).trans (a.2.2.1 j hj), b.2.2.2.1.trans a.2.2.2.1, b.2.2.2.2.1.trans a.2.2.2.2.1, b.2.2.2.2.2.trans a.2.2.2.2.2⟩
theorem NwU.ef {u u' : Mu} {n s ky ne : Nat} {b e : Int32} (h : NwU u u' n s ky b e) : EfU n ne u u' := by
  obtain ⟨⟨a1, a2, a3, a4, a5, a6, a7, a8⟩, h2, h3, h4, h5⟩ := h
  refine ⟨fun r h1 h2' j hj => ?_, fun i _ => ⟨by rw [h2 28 (by decide)], by rw [h3]⟩, fun j hj => h2 j (by omega), by rw [h3], h5 78 (by decide), h5 79 (by decide)⟩
  have : r = 19 ∨ r = 20 ∨ r = 21 ∨ r = 22 ∨ r = 23 ∨ r = 24 ∨ r = 25 ∨ r = 26 := by omega
  rcases this with e | e | e | e | e | e | e | e <;> subst e
  · rw [a1, upR_ne _ _ hj]
  · rw [a2, upR_ne _ _ hj]
  · rw [a3, upR_ne _ _ hj]
  · rw [a4, upR_ne _ _ hj]
  · rw [a5, upR_ne _ _ hj]
  · rw [a6, upR_ne _ _ hj]
  · rw [a7, upR_ne _ _ hj]
  · rw [a8, upR_ne _ _ hj]
theorem AeU.ef {u u' : Mu} {k ne : Nat} {v : Int64} (h : AeU u u' k ne v) : EfU k ne u u' := by
  obtain ⟨⟨a1, a2, a3⟩, h2, h3, h4, h5, h6⟩ := h
  refine ⟨fun r h1 h2' j hj => ?_, fun i hi => ⟨by rw [a3, upR_ne _ _ (by omega)], by rw [h3, upR_ne _ _ (by omega)]⟩, fun j hj => h2 j (by omega) (by omega) (by omega), h4 18 (by decide), h6 78 (by decide), h6 79 (by decide)⟩
  by_cases e25 : r = 25
  · subst e25
    rw [a1, upR_ne _ _ hj]
  · by_cases e26 : r = 26
    · subst e26
      rw [a2, upR_ne _ _ hj]
    · rw [h2 r e25 e26 (by omega)]
theorem GU.ef {u u' : Mu} {k ne : Nat} (h : GU k u u') : EfU k ne u u' := by
  obtain ⟨a1, a2, a3, a4⟩ := h
  refine ⟨fun r h1 h2' j hj => ?_, fun i hi => ⟨by rw [a1 28 (by decide) (by decide)], by rw [a3 27 (by decide) (by decide)]⟩, fun j hj => a1 j (by omega) (by omega), a3 18 (by decide) (by decide), a4 78 (by decide), a4 79 (by decide)⟩
  by_cases e24 : r = 24
  · subst e24
    exact a2 j hj
  · rw [a1 r (by omega) e24]
theorem MRs.ef {u u' : Mu} {X : Sg} {k ne : Nat} (h : MRs u X) (e : EfU k ne u u') : MRs u' X := h.same (fun j hj => e.2.2.1 j (by omega)) e.2.2.2.1 e.2.2.2.2.1 e.2.2.2.2.2
theorem lnO_app (A B : List (Option Mw)) (s ky : Nat) : lnO (A ++ B) s ky = lnO A s ky ++ lnO B s ky := List.filterMap_append
theorem alE_app (A B : List (Option Mw)) : alE (A ++ B) = alE A ++ alE B := List.flatMap_append
theorem lnO_one (o : Mw) (s ky : Nat) : lnO [some o] s ky = if o.1 = s ∧ o.2.1 = ky then [o.2.2.1] else [] := by
  obtain ⟨s', k', w, es⟩ := o
  show [some (s', k', w, es)].filterMap (inL s ky) = _
  rw [List.filterMap_cons]
  by_cases e : s' = s ∧ k' = ky
  · rw [show inL s ky (some (s', k', w, es)) = some w from if_pos e, if_pos e]
    rfl
  · rw [show inL s ky (some (s', k', w, es)) = none from if_neg e, if_neg e]
    rfl
/-- window k comes for T (a window of the lane, or none), with one entry more -/
theorem MR.put {u u' : Mu} {X X' : Sg} {ws P R : List (Option Mw)} {s ky k ne : Nat} {S' : Stg} {rows' : List Rw} {A B T : List Wd} {x' : Wd} {es : List Nat}
    (hR : MR u X ws) (hs : s < xM X) (hW : isW (xS X s) = true) (hk : ky < 1000) (h91 : mF u 91 = nI ne) (hne0 : ws.length ≤ ne) (hneB : ∀ i ∈ alE ws, i < ne)
    (hws : ws = P ++ (T.map (fun x => some (s, ky, x, es)) ++ R)) (hP : P.length = k) (hT : (T = [] ∧ R = [] ∧ es = []) ∨ ∃ x, T = [x]) (hlane : gL (xS X s) ky = A ++ (T ++ B))
    (hX' : X' = xSet X s S' rows') (hC : CF (xS X s) S') (hgL : gL S' = upR (gL (xS X s)) ky (A ++ x' :: B)) (hent : tot entS X' = tot entS X + 1) (hneE : ne ≤ tot entS X)
    (hE : EfU k ne u u') (hSt : RSt u' s S') (h88 : mF u' 88 = nI (P.length + 1 + R.length)) (h91' : mF u' 91 = nI (ne + 1)) (hr : MRr u' rows') (hMk : MWk u' X k (some (s, ky, x', ne :: es))) :
    MR u' X' (P ++ some (s, ky, x', ne :: es) :: R) := by
  have hcf := hC.sty
  have hXs : ∀ t, sSty (xS X' t) = sSty (xS X t) ∧ gI (xS X' t) 1 = gI (xS X t) 1 ∧ isW (xS X' t) = isW (xS X t) := fun t => by
    rw [hX']
    by_cases e : t = s
    · subst e
      rw [xS_set]
      exact ⟨hcf.1, hcf.2.1, hcf.2.2.1⟩
    · rw [xS_set_ne X _ _ e]
      exact ⟨rfl, rfl, rfl⟩
  have hxM : xM X' = xM X := by rw [hX']; rfl
  have hS1 := hR.1.ef hE
  have hesN : ∀ i ∈ es, i < ne := fun i hi => by
    rcases hT with ⟨h1, h2, h3⟩ | ⟨x, hx⟩
    · rw [h3] at hi
      cases hi
    · refine hneB i ?_
      rw [hws, hx]
      exact List.mem_flatMap.mpr ⟨some (s, ky, x, es), List.mem_append_right _ (List.mem_cons_self), hi⟩
  refine ⟨?_, by rw [hX']; exact hr, ?_, ?_, ?_, ?_, ⟨ne + 1, h91', ?_, by omega, ?_⟩, ?_⟩
  · rw [hX']
    refine ⟨hS1.1, hS1.2.1, fun t ht => ?_, hS1.2.2.2⟩
    by_cases e : t = s
    · subst e
      rw [xS_set]
      exact hSt
    · rw [xS_set_ne X _ _ e]
      exact hS1.2.2.1 t ht
  · rw [h88, List.length_append, List.length_cons]
    congr 1
    omega
  · intro j o ho
    by_cases e : j = k
    · subst e
      rw [List.getElem?_append_right (by omega), hP, Nat.sub_self] at ho
      have := Option.some.inj ho
      subst this
      exact hMk.on (fun _ _ _ => rfl) (fun _ _ => ⟨rfl, rfl⟩) (fun t => ⟨(hXs t).1, (hXs t).2.1⟩)
    · have ho' : ws[j]? = some o := by
        rw [hws]
        rcases Nat.lt_or_ge j k with b | b
        · rw [List.getElem?_append_left (by omega)] at ho ⊢
          exact ho
        · rw [List.getElem?_append_right (by omega), hP, show j - k = (j - k - 1) + 1 by omega, List.getElem?_cons_succ] at ho
          rcases hT with ⟨h1, h2, h3⟩ | ⟨x, hx⟩
          · rw [h2] at ho
            simp at ho
          · rw [hx, List.getElem?_append_right (by omega), hP, show j - k = (j - k - 1) + 1 by omega]
            exact ho
      refine (hR.2.2.2.1 j o ho').on (fun r h1 h2 => hE.1 r h1 h2 j e) (fun i hi => hE.2.1 i (hneB i ?_)) (fun t => ⟨(hXs t).1, (hXs t).2.1⟩)
      exact List.mem_flatMap.mpr ⟨o, List.mem_of_getElem? ho', hi⟩
  · intro s' k' w' es' hx
    rw [hxM, (hXs s').2.2]
    rcases List.mem_append.mp hx with hx | hx
    · exact hR.2.2.2.2.1 s' k' w' es' (by rw [hws]; exact List.mem_append_left _ hx)
    · rcases List.mem_cons.mp hx with e | hx
      · have := Option.some.inj e
        simp only [Prod.mk.injEq] at this
        obtain ⟨rfl, rfl, _⟩ := this
        exact ⟨hs, hW, hk⟩
      · exact hR.2.2.2.2.1 s' k' w' es' (by rw [hws]; exact List.mem_append_right _ (List.mem_append_right _ hx))
  · intro s' hs' hW' k' hk'
    rw [hxM] at hs'
    rw [(hXs s').2.2] at hW'
    have old := hR.2.2.2.2.2.1 s' hs' hW' k' hk'
    rw [show P ++ some (s, ky, x', ne :: es) :: R = P ++ ([some (s, ky, x', ne :: es)] ++ R) from rfl, lnO_app, lnO_app, lnO_one]
    rw [hws, lnO_app, lnO_app] at old
    by_cases e : s = s' ∧ ky = k'
    · obtain ⟨rfl, rfl⟩ := e
      rw [if_pos ⟨rfl, rfl⟩, hX', xS_set, hgL, upR_at]
      have eT : lnO (T.map (fun x => some (s, ky, x, es))) s ky = T := by
        rcases hT with ⟨h1, h2, h3⟩ | ⟨x, hx⟩
        · rw [h1]; rfl
        · rw [hx]
          show lnO [some (s, ky, x, es)] s ky = [x]
          rw [lnO_one, if_pos ⟨rfl, rfl⟩]
      rw [eT, hlane] at old
      have h1 : (lnO P s ky ++ lnO R s ky).Perm (A ++ B) := by
        have a1 : (T ++ (lnO P s ky ++ lnO R s ky)).Perm (T ++ (A ++ B)) := by
          refine List.Perm.trans ?_ (old.trans ?_)
          · rw [← List.append_assoc, ← List.append_assoc]
            exact List.perm_append_comm.append_right _
          · rw [← List.append_assoc, ← List.append_assoc]
            exact List.perm_append_comm.append_right _
        exact (List.perm_append_left_iff T).mp a1
      show (lnO P s ky ++ x' :: lnO R s ky).Perm (A ++ x' :: B)
      exact List.perm_middle.trans ((h1.cons x').trans List.perm_middle.symm)
    · rw [if_neg e]
      have eT : lnO (T.map (fun x => some (s, ky, x, es))) s' k' = [] := by
        rcases hT with ⟨h1, h2, h3⟩ | ⟨x, hx⟩
        · rw [h1]; rfl
        · rw [hx]
          show lnO [some (s, ky, x, es)] s' k' = []
          rw [lnO_one, if_neg e]
      rw [eT] at old
      have : gL (xS X' s') k' = gL (xS X s') k' := by
        rw [hX']
        by_cases e2 : s' = s
        · subst e2
          rw [xS_set, hgL, upR_ne _ _ (fun z => e ⟨rfl, z.symm⟩)]
        · rw [xS_set_ne X _ _ e2]
      rw [this]
      exact old
  · have := hR.2.2.1
    rw [List.length_append, List.length_cons]
    have hl : ws.length = P.length + (T.length + R.length) := by
      rw [hws, List.length_append, List.length_append, List.length_map]
    rcases hT with ⟨h1, h2, h3⟩ | ⟨x, hx⟩
    · rw [h1, h2] at hl
      rw [h2]
      simp at hl ⊢
      omega
    · rw [hx] at hl
      simp at hl
      omega
  · intro i hi
    have hi2 : i ∈ alE ws ∨ i = ne := by
      rw [show P ++ some (s, ky, x', ne :: es) :: R = P ++ ([some (s, ky, x', ne :: es)] ++ R) from rfl, alE_app, alE_app] at hi
      rcases List.mem_append.mp hi with hi | hi
      · exact Or.inl (by rw [hws, alE_app]; exact List.mem_append_left _ hi)
      · rcases List.mem_append.mp hi with hi | hi
        · have hi : i ∈ ne :: es := by
            have : alE [some (s, ky, x', ne :: es)] = ne :: es := by
              show (ne :: es) ++ [] = _
              exact List.append_nil _
            rw [this] at hi
            exact hi
          rcases List.mem_cons.mp hi with e | hi
          · exact Or.inr e
          · exact Or.inl (Classical.byContradiction fun z => by
              rcases hT with ⟨h1, h2, h3⟩ | ⟨x, hx⟩
              · rw [h3] at hi
                cases hi
              · refine z ?_
                rw [hws, hx]
                exact List.mem_flatMap.mpr ⟨some (s, ky, x, es), List.mem_append_right _ (List.mem_cons_self), hi⟩)
        · exact Or.inl (by rw [hws, alE_app, alE_app]; exact List.mem_append_right _ (List.mem_append_right _ hi))
    rcases hi2 with z | z
    · have := hneB i z
      omega
    · omega
  · have nd := hR.2.2.2.2.2.2.2
    have hnot : ne ∉ alE ws := fun z => absurd (hneB ne z) (Nat.lt_irrefl _)
    rw [show P ++ some (s, ky, x', ne :: es) :: R = P ++ ([some (s, ky, x', ne :: es)] ++ R) from rfl, alE_app, alE_app]
    have e1 : alE [some (s, ky, x', ne :: es)] = ne :: es := by
      show (ne :: es) ++ [] = _
      exact List.append_nil _
    have e2 : alE (T.map (fun x => some (s, ky, x, es))) = es := by
      rcases hT with ⟨h1, h2, h3⟩ | ⟨x, hx⟩
      · rw [h1, h3]; rfl
      · rw [hx]
        show es ++ [] = es
        exact List.append_nil _
    rw [hws, alE_app, alE_app, e2] at nd hnot
    rw [e1, List.cons_append]
    exact (List.perm_middle.nodup_iff).mpr (List.nodup_cons.mpr ⟨hnot, nd⟩)
