/-! D0: near windows have become one: the relation -/
theorem MR.join {u v : Mu} {Y Y' : Sg} {ws P0 N R : List (Option Mw)} {s ky k ne : Nat} {S' : Stg} {rows' : List Rw} {P : Wd → Bool} {A B : List Wd} {x' : Wd} {ds l : List Nat}
    (hR : MR u Y ws) (hs : s < xM Y) (hW : isW (xS Y s) = true) (hk : ky < 1000) (h91 : mF u 91 = nI ne) (hne0 : ws.length ≤ ne) (hneB : ∀ i ∈ alE ws, i < ne) (hneE : ne ≤ tot entS Y)
    (hlane : (gL (xS Y s) ky).filter (fun w => !P w) = A ++ B) (hl : l.Perm (neL ws s ky P ws.length)) (hds : ds.Perm (neE s ky P ws))
    (hun : unN s ky P ws = P0 ++ (N ++ R)) (hP : P0.length = k) (hN : (N = [] ∧ R = []) ∨ N = [none])
    (hY' : Y' = xSet Y s S' rows') (hC : CF (xS Y s) S') (hgL : gL S' = upR (gL (xS Y s)) ky (A ++ x' :: B)) (hent : tot entS Y' = tot entS Y + 1)
    (c1 : ∀ j, j < ws.length → j ∉ l → ∀ r, 19 ≤ r → r ≤ 26 → mI v r j = mI u r j) (c2 : ∀ j ∈ l, j ≠ k → mI v 19 j = -1) (c3 : ∀ i, i < ne → i ∉ ds → mI v 28 i = mI u 28 i) (c4 : ∀ i, i < ne → mL v 27 i = mL u 27 i) (c5 : ∀ j, j ≤ 18 → mI v j = mI u j) (c6 : mL v 18 = mL u 18) (c7 : mF v 78 = mF u 78 ∧ mF v 79 = mF u 79)
    (hSt : RSt v s S') (h88 : mF v 88 = nI (P0.length + 1 + R.length)) (h91' : mF v 91 = nI (ne + 1)) (hr : MRr v rows') (hMk : MWk v Y k (some (s, ky, x', ne :: ds))) :
    MR v Y' (P0 ++ some (s, ky, x', ne :: ds) :: R) := by
  have hcf := hC.sty
  have hXs : ∀ t, sSty (xS Y' t) = sSty (xS Y t) ∧ gI (xS Y' t) 1 = gI (xS Y t) 1 ∧ isW (xS Y' t) = isW (xS Y t) := fun t => by
    rw [hY']
    by_cases e : t = s
    · subst e
      rw [xS_set]
      exact ⟨hcf.1, hcf.2.1, hcf.2.2.1⟩
    · rw [xS_set_ne Y _ _ e]
      exact ⟨rfl, rfl, rfl⟩
  have hxM : xM Y' = xM Y := by rw [hY']; rfl
  have hS1 : MRs v Y := hR.1.same (fun j hj => c5 j (by omega)) c6 c7.1 c7.2
  have hperm := alE_un (ws := ws) (s := s) (ky := ky) (P := P)
  have hnd := hR.2.2.2.2.2.2.2
  have hnd2 : (alE (unN s ky P ws) ++ ds).Nodup := ((hds.append_left _).nodup_iff).mpr (hperm.nodup_iff.mp hnd)
  have hdsN : ∀ i ∈ ds, i < ne := fun i hi => hneB i (hperm.mem_iff.mpr (List.mem_append_right _ (hds.mem_iff.mp hi)))
  have hlen : ws.length = P0.length + (N.length + R.length) := by
    rw [← un_len (ws := ws) (s := s) (ky := ky) (P := P), hun, List.length_append, List.length_append]
  have hNe : alE N = [] := by
    rcases hN with ⟨h1, _⟩ | h1 <;> rw [h1] <;> rfl
  have hNl : ∀ a b, lnO N a b = [] := fun a b => by
    rcases hN with ⟨h1, _⟩ | h1 <;> rw [h1] <;> rfl
  have getF : ∀ j o, j ≠ k → (P0 ++ some (s, ky, x', ne :: ds) :: R)[j]? = some o → (unN s ky P ws)[j]? = some o := fun j o e ho => by
    rw [hun]
    rcases Nat.lt_or_ge j k with b | b
    · rw [List.getElem?_append_left (by omega)] at ho ⊢
      exact ho
    · rw [List.getElem?_append_right (by omega), hP, show j - k = (j - k - 1) + 1 by omega, List.getElem?_cons_succ] at ho
      rcases hN with ⟨h1, h2⟩ | h1
      · rw [h2] at ho
        simp at ho
      · rw [h1, List.getElem?_append_right (by omega), hP, show j - k = (j - k - 1) + 1 by omega]
        exact ho
  refine ⟨?_, by rw [hY']; exact hr, ?_, ?_, ?_, ?_, ⟨ne + 1, h91', ?_, by omega, ?_⟩, ?_⟩
  · rw [hY']
    refine ⟨hS1.1, hS1.2.1, fun t ht => ?_, hS1.2.2.2⟩
    by_cases e : t = s
    · subst e
      rw [xS_set]
      exact hSt
    · rw [xS_set_ne Y _ _ e]
      exact hS1.2.2.1 t ht
  · rw [h88, List.length_append, List.length_cons]
    congr 1
    omega
  · intro j o ho
    by_cases e : j = k
    · subst e
      rw [List.getElem?_append_right (by omega), hP, Nat.sub_self] at ho
      have := Option.some.inj ho
      subst this
      exact hMk.on (fun _ _ _ => rfl) (fun _ _ => ⟨rfl, rfl⟩) (fun t => ⟨(hXs t).1, (hXs t).2.1⟩)
    · have ho1 := getF j o e ho
      have hjl : j < ws.length := by
        have := (List.getElem?_eq_some_iff.mp ho1).1
        rw [un_len] at this
        exact this
      have ho0 : ws[j]? = some ws[j] := List.getElem?_eq_getElem hjl
      have ho2 := un_get (s := s) (ky := ky) (P := P) ho0
      rw [ho1] at ho2
      have ho3 := Option.some.inj ho2
      by_cases hne : neO s ky P ws[j] = true
      · rw [if_pos hne] at ho3
        rw [ho3]
        refine c2 j (hl.mem_iff.mpr ?_) e
        refine List.mem_filter.mpr ⟨List.mem_range.mpr hjl, ?_⟩
        rw [ho0]
        exact hne
      · rw [if_neg hne] at ho3
        rw [ho3]
        have hjn : j ∉ l := fun z => by
          have := (List.mem_filter.mp (hl.mem_iff.mp z)).2
          rw [ho0] at this
          exact hne this
        refine (hR.2.2.2.1 j _ ho0).on (fun r h1 h2 => c1 j hjl hjn r h1 h2) (fun i hi => ?_) (fun t => ⟨(hXs t).1, (hXs t).2.1⟩)
        have hin : i ∈ alE (unN s ky P ws) := List.mem_flatMap.mpr ⟨o, List.mem_of_getElem? ho1, by rw [ho3]; exact hi⟩
        have hlt : i < ne := hneB i (List.mem_flatMap.mpr ⟨_, List.mem_of_getElem? ho0, hi⟩)
        exact ⟨c3 i hlt (fun z => (List.nodup_append.mp hnd2).2.2 i hin i z rfl), c4 i hlt⟩
  · intro s' k' w' es' hx
    rw [hxM, (hXs s').2.2]
    have old : some (s', k', w', es') ∈ unN s ky P ws → s' < xM Y ∧ isW (xS Y s') = true ∧ k' < 1000 := fun z => by
      obtain ⟨o, ho, he⟩ := List.mem_map.mp z
      by_cases hne : neO s ky P o = true
      · rw [if_pos hne] at he
        cases he
      · rw [if_neg hne] at he
        rw [he] at ho
        exact hR.2.2.2.2.1 s' k' w' es' ho
    rcases List.mem_append.mp hx with hx | hx
    · exact old (by rw [hun]; exact List.mem_append_left _ hx)
    · rcases List.mem_cons.mp hx with e | hx
      · have := Option.some.inj e
        simp only [Prod.mk.injEq] at this
        obtain ⟨rfl, rfl, _⟩ := this
        exact ⟨hs, hW, hk⟩
      · exact old (by rw [hun]; exact List.mem_append_right _ (List.mem_append_right _ hx))
  · intro s' hs' hW' k' hk'
    rw [hxM] at hs'
    rw [(hXs s').2.2] at hW'
    have old := hR.2.2.2.2.2.1 s' hs' hW' k' hk'
    have hu := lnO_un (ws := ws) (s := s) (ky := ky) (P := P) s' k'
    rw [hun, lnO_app, lnO_app, hNl, List.nil_append] at hu
    rw [show P0 ++ some (s, ky, x', ne :: ds) :: R = P0 ++ ([some (s, ky, x', ne :: ds)] ++ R) from rfl, lnO_app, lnO_app, lnO_one]
    by_cases e : s = s' ∧ ky = k'
    · obtain ⟨rfl, rfl⟩ := e
      rw [if_pos ⟨rfl, rfl⟩, hY', xS_set, hgL, upR_at]
      have h1 : (lnO P0 s ky ++ lnO R s ky).Perm (A ++ B) := by
        rw [hu, ← hlane]
        have e1 : (fun w => !(decide (s = s ∧ ky = ky) && P w)) = fun w => !P w := funext fun w => by
          rw [decide_eq_true ⟨rfl, rfl⟩, Bool.true_and]
        rw [e1]
        exact old.filter _
      show (lnO P0 s ky ++ x' :: lnO R s ky).Perm (A ++ x' :: B)
      exact List.perm_middle.trans ((h1.cons x').trans List.perm_middle.symm)
    · rw [if_neg e, List.nil_append, hu]
      have e1 : (lnO ws s' k').filter (fun w => !(decide (s' = s ∧ k' = ky) && P w)) = lnO ws s' k' := List.filter_eq_self.mpr (fun w _ => by
        rw [decide_eq_false (fun z => e ⟨z.1.symm, z.2.symm⟩), Bool.false_and]
        rfl)
      have : gL (xS Y' s') k' = gL (xS Y s') k' := by
        rw [hY']
        by_cases e2 : s' = s
        · subst e2
          rw [xS_set, hgL, upR_ne _ _ (fun z => e ⟨rfl, z.symm⟩)]
        · rw [xS_set_ne Y _ _ e2]
      rw [e1, this]
      exact old
  · rw [List.length_append, List.length_cons]
    rcases hN with ⟨h1, h2⟩ | h1
    · rw [h1, h2] at hlen
      rw [h2]
      simp at hlen ⊢
      omega
    · rw [h1] at hlen
      simp at hlen
      omega
  · intro i hi
    rw [show P0 ++ some (s, ky, x', ne :: ds) :: R = P0 ++ ([some (s, ky, x', ne :: ds)] ++ R) from rfl, alE_app, alE_app] at hi
    have inU : i ∈ alE (unN s ky P ws) → i < ne + 1 := fun z => by
      have := hneB i (hperm.mem_iff.mpr (List.mem_append_left _ z))
      omega
    have e1 : alE [some (s, ky, x', ne :: ds)] = ne :: ds := by
      show (ne :: ds) ++ [] = _
      exact List.append_nil _
    rw [e1] at hi
    rcases List.mem_append.mp hi with hi | hi
    · exact inU (by rw [hun, alE_app]; exact List.mem_append_left _ hi)
    · rcases List.mem_append.mp hi with hi | hi
      · rcases List.mem_cons.mp hi with e | hi
        · omega
        · have := hdsN i hi
          omega
      · exact inU (by rw [hun, alE_app, alE_app]; exact List.mem_append_right _ (List.mem_append_right _ hi))
  · have e1 : alE [some (s, ky, x', ne :: ds)] = ne :: ds := by
      show (ne :: ds) ++ [] = _
      exact List.append_nil _
    rw [show P0 ++ some (s, ky, x', ne :: ds) :: R = P0 ++ ([some (s, ky, x', ne :: ds)] ++ R) from rfl, alE_app, alE_app, e1]
    rw [hun, alE_app, alE_app, hNe, List.nil_append] at hnd2
    have hp2 : (alE P0 ++ (ne :: ds ++ alE R)).Perm (ne :: (alE P0 ++ alE R ++ ds)) := by
      rw [List.cons_append]
      refine List.perm_middle.trans (List.Perm.cons ne ?_)
      rw [List.append_assoc]
      exact List.perm_append_comm.append_left _
    refine hp2.nodup_iff.mpr (List.nodup_cons.mpr ⟨fun z => ?_, hnd2⟩)
    have : ne < ne := by
      rcases List.mem_append.mp z with z | z
      · refine hneB ne (hperm.mem_iff.mpr (List.mem_append_left _ ?_))
        rw [hun, alE_app, alE_app, hNe, List.nil_append]
        exact z
      · exact hdsN ne z
    omega
