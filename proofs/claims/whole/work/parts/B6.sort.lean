/-! B6: windows that are found, in order; the model: leftRow -/
def gt (ws : List (Option Mw)) (k : Nat) : Nat × Wd := match (ws[k]?).getD none with
  | some (_, ky, w, _) => (ky, w)
  | none => (0, 0, 0, none, [])
def kO (s : Nat) (P : Wd → Bool) : Option Mw → Option (Nat × Wd)
  | some (s', ky, w, _) => if s' = s ∧ P w = true then some (ky, w) else none
  | none => none
/-- the windows of a stage for which P holds, by key and begin -/
def spL (P : Wd → Bool) (ln : Nat → List Wd) (n : Nat) : List (Nat × Wd) := (List.range n).flatMap (fun ky => ((ln ky).filter P).map (fun w => (ky, w)))
def kyK (x : Nat × Wd) : Int := ((x.1 : Int) * 131072 + ((wB x.2).toInt + 10000)) * 1048576 + (wE x.2).toInt
def kyE (x : Nat × Wd) : Int := ((wE x.2).toInt * 131072 + ((wB x.2).toInt + 10000)) * 1024 + x.1
section LB6
variable {ws : List (Option Mw)} {s : Nat} {P : Wd → Bool}
theorem fnd_map : (fnd ws s P ws.length).map (gt ws) = ws.filterMap (kO s P) := by
  have key : ∀ n, n ≤ ws.length → (fnd ws s P n).map (gt ws) = (ws.take n).filterMap (kO s P) := by
    intro n
    induction n with
    | zero => exact fun _ => rfl
    | succ n ih =>
      intro hn
      have hn' : n < ws.length := hn
      rw [fnd_succ, List.map_append, ih (by omega), List.take_succ, List.filterMap_append, List.getElem?_eq_getElem hn']
      congr 1
      show _ = [ws[n]].filterMap _
      have eg : gt ws n = match ws[n] with | some (_, ky, w, _) => (ky, w) | none => (0, 0, 0, none, []) := by
        unfold gt
        rw [List.getElem?_eq_getElem hn']
        rfl
      show ((if isP s P ws[n] = true then [n] else []).map (gt ws)) = _
      generalize ws[n] = o at eg
      match o, eg with
      | none, eg => rfl
      | some (s', ky, w, es), eg =>
        show ((if (decide (s' = s) && P w) = true then [n] else []).map (gt ws)) = [some (s', ky, w, es)].filterMap (kO s P)
        rw [List.filterMap_cons]
        by_cases e : s' = s ∧ P w = true
        · rw [if_pos (by rw [decide_eq_true e.1, e.2]; rfl), show kO s P (some (s', ky, w, es)) = some (ky, w) from if_pos e]
          show [gt ws n] = _
          rw [eg]
          rfl
        · rw [if_neg (fun z => e (by
            rw [Bool.and_eq_true, decide_eq_true_iff] at z
            exact z)), show kO s P (some (s', ky, w, es)) = none from if_neg e]
          rfl
  have := key ws.length (Nat.le_refl _)
  rw [List.take_length] at this
  exact this
theorem kO_lane (ky : Nat) : (ws.filterMap (kO s P)).filter (fun x => decide (x.1 = ky)) = ((lnO ws s ky).filter P).map (fun w => (ky, w)) := by
  induction ws with
  | nil => rfl
  | cons o ws ih =>
    unfold lnO at ih ⊢
    rw [List.filterMap_cons, List.filterMap_cons]
    match o with
    | none => exact ih
    | some (s', k', w, es) =>
      by_cases e1 : s' = s
      · by_cases e3 : k' = ky
        · rw [show inL s ky (some (s', k', w, es)) = some w from if_pos ⟨e1, e3⟩]
          by_cases e2 : P w = true
          · rw [show kO s P (some (s', k', w, es)) = some (k', w) from if_pos ⟨e1, e2⟩]
            show ((k', w) :: ws.filterMap (kO s P)).filter _ = ((w :: ws.filterMap (inL s ky)).filter P).map _
            rw [List.filter_cons, if_pos (decide_eq_true e3), List.filter_cons, if_pos e2, List.map_cons, ih, e3]
          · rw [show kO s P (some (s', k', w, es)) = none from if_neg (fun z => e2 z.2)]
            show (ws.filterMap (kO s P)).filter _ = ((w :: ws.filterMap (inL s ky)).filter P).map _
            rw [List.filter_cons, if_neg e2]
            exact ih
        · rw [show inL s ky (some (s', k', w, es)) = none from if_neg (fun z => e3 z.2)]
          by_cases e2 : P w = true
          · rw [show kO s P (some (s', k', w, es)) = some (k', w) from if_pos ⟨e1, e2⟩]
            show ((k', w) :: ws.filterMap (kO s P)).filter _ = _
            rw [List.filter_cons, if_neg (fun z => e3 (of_decide_eq_true z))]
            exact ih
          · rw [show kO s P (some (s', k', w, es)) = none from if_neg (fun z => e2 z.2)]
            exact ih
      · rw [show inL s ky (some (s', k', w, es)) = none from if_neg (fun z => e1 z.1), show kO s P (some (s', k', w, es)) = none from if_neg (fun z => e1 z.1)]
        exact ih
theorem flat_perm {α β : Type} {f g : α → List β} : ∀ l : List α, (∀ a ∈ l, (f a).Perm (g a)) → (l.flatMap f).Perm (l.flatMap g)
  | [], _ => List.Perm.refl _
  | a :: l, h => by
    rw [List.flatMap_cons, List.flatMap_cons]
    exact (h a List.mem_cons_self).append (flat_perm l (fun b hb => h b (List.mem_cons_of_mem _ hb)))
theorem filt_split {α : Type} {p q r : α → Bool} (h : ∀ x, r x = (p x || q x)) (hd : ∀ x, (p x && q x) = false) : ∀ M : List α, (M.filter r).Perm (M.filter p ++ M.filter q)
  | [] => List.Perm.refl _
  | x :: M => by
    have ih := filt_split h hd M
    have h1 := h x
    have h2 := hd x
    rw [List.filter_cons, List.filter_cons, List.filter_cons]
    by_cases hp : p x = true
    · have hq : q x = false := by rw [hp, Bool.true_and] at h2; exact h2
      rw [if_pos (by rw [h1, hp]; rfl), if_pos hp, if_neg (by rw [hq]; decide), List.cons_append]
      exact ih.cons x
    · by_cases hq : q x = true
      · rw [if_pos (by rw [h1, hq, Bool.or_true]), if_neg hp, if_pos hq]
        exact (ih.cons x).trans List.perm_middle.symm
      · rw [if_neg (by rw [h1, Bool.eq_false_iff.mpr hp, Bool.eq_false_iff.mpr hq]; decide), if_neg hp, if_neg hq]
        exact ih
theorem group_perm {α : Type} (M : List (Nat × α)) : ∀ n, (M.filter (fun x => decide (x.1 < n))).Perm ((List.range n).flatMap (fun ky => M.filter (fun x => decide (x.1 = ky)))) := by
  intro n
  induction n with
  | zero =>
    rw [List.filter_eq_nil_iff.mpr (fun x _ => by simp)]
    exact List.Perm.refl _
  | succ n ih =>
    rw [List.range_succ, List.flatMap_append, List.flatMap_singleton]
    refine (filt_split (p := fun x => decide (x.1 < n)) (q := fun x => decide (x.1 = n)) (fun x => ?_) (fun x => ?_) M).trans (ih.append (List.Perm.refl _))
    · by_cases e : x.1 = n
      · rw [e]; simp
      · by_cases e2 : x.1 < n
        · simp [e2, Nat.lt_succ_of_lt e2]
        · simp [e, e2, show ¬ x.1 < n + 1 by omega]
    · by_cases e : x.1 = n
      · rw [e]; simp
      · simp [e]
theorem found_perm {u : Mu} {X : Sg} (hw : MRw u X ws) (hs : s < xM X) (hW : isW (xS X s) = true) : ((fnd ws s P ws.length).map (gt ws)).Perm (spL P (gL (xS X s)) 1000) := by
  rw [fnd_map]
  have h1 := group_perm (ws.filterMap (kO s P)) 1000
  have h2 : (ws.filterMap (kO s P)).filter (fun x => decide (x.1 < 1000)) = ws.filterMap (kO s P) := List.filter_eq_self.mpr (fun x hx => by
    obtain ⟨o, ho, he⟩ := List.mem_filterMap.mp hx
    match o, ho, he with
    | none, ho, he => cases he
    | some (s', ky, w, es), ho, he =>
      have := (hw.2.2.1 s' ky w es ho).2.2
      have he : (if s' = s ∧ P w = true then some (ky, w) else none) = some x := he
      by_cases e : s' = s ∧ P w = true
      · rw [if_pos e] at he
        have := Option.some.inj he
        subst this
        exact decide_eq_true (by assumption)
      · rw [if_neg e] at he
        cases he)
  rw [h2] at h1
  refine h1.trans (flat_perm _ (fun ky hk => ?_))
  rw [kO_lane]
  exact ((hw.2.2.2.1 s hs hW ky (List.mem_range.mp hk)).filter P).map _
theorem sorted_uniq {α : Type} {k : α → Int} {a b : List α} (h : a.Perm b) (ha : a.Pairwise (fun x y => k x ≤ k y)) (hb : b.Pairwise (fun x y => k x < k y)) : a = b := by
  refine h.eq_of_pairwise (fun x y hx hy h1 h2 => ?_) ha (hb.imp (fun h => Int.le_of_lt h))
  have hx' := h.mem_iff.mp hx
  obtain ⟨i, hi, rfl⟩ := List.mem_iff_getElem.mp hx'
  obtain ⟨j, hj, rfl⟩ := List.mem_iff_getElem.mp hy
  rcases Nat.lt_trichotomy i j with e | e | e
  · have := List.pairwise_iff_getElem.mp hb i j hi hj e
    omega
  · subst e
    rfl
  · have := List.pairwise_iff_getElem.mp hb j i hj hi e
    omega
theorem spL_sorted {ln : Nat → List Wd} {k : Nat × Wd → Int} (h1 : ∀ ky, ky < 1000 → (ln ky).Pairwise (fun x y => k (ky, x) < k (ky, y))) (h2 : ∀ ky ky', ky < ky' → ky' < 1000 → ∀ x ∈ ln ky, ∀ y ∈ ln ky', k (ky, x) < k (ky', y)) : ∀ n, n ≤ 1000 → (spL P ln n).Pairwise (fun x y => k x < k y) := by
  intro n
  induction n with
  | zero => exact fun _ => List.Pairwise.nil
  | succ n ih =>
    intro hn
    unfold spL at ih ⊢
    rw [List.range_succ, List.flatMap_append, List.flatMap_singleton, List.pairwise_append]
    refine ⟨ih (by omega), ?_, fun x hx y hy => ?_⟩
    · rw [List.pairwise_map]
      exact (h1 n (by omega)).filter P
    · obtain ⟨ky, hk, hx⟩ := List.mem_flatMap.mp hx
      obtain ⟨wx, hwx, rfl⟩ := List.mem_map.mp hx
      obtain ⟨wy, hwy, rfl⟩ := List.mem_map.mp hy
      exact h2 ky n (List.mem_range.mp hk) (by omega) wx (List.mem_filter.mp hwx).1 wy (List.mem_filter.mp hwy).1
theorem lrw_spL (ln : Nat → List Wd) : lefts ln 0 1000 = (spL (fun w => (wR w).isSome) ln 1000).map (fun x => (wR x.2).getD 0) := by
  unfold lefts spL
  rw [← List.range_eq_range', List.map_flatMap]
  congr 1
  funext ky
  unfold lrw
  induction ln ky with
  | nil => rfl
  | cons w L ih =>
    rw [List.filterMap_cons, List.filter_cons]
    match h : wR w with
    | none =>
      simp only [Option.isSome_none, Bool.false_eq_true, if_false]
      exact ih
    | some r =>
      simp only [Option.isSome_some, if_true, List.map_cons]
      rw [ih]
      simp [h]
end LB6
section LB6b
variable {g : Gl} {d : Nat} {h : Hp} {m : Nat} {u : Mu} {Q : Option Value → Hp → Prop} {X : Sg} {ws : List (Option Mw)}
/-- the bounds of a window of the model -/
theorem mw_bd {s ky : Nat} {w : Wd} {es : List Nat} (hw : MRw u X ws) (hS : SI X) (hx : some (s, ky, w, es) ∈ ws) : -10000 ≤ (wB w).toInt ∧ (wB w).toInt < 120000 ∧ 0 < (wE w).toInt ∧ (wE w).toInt ≤ 120000 ∧ ky < 1000 := by
  obtain ⟨h1, h2, h3⟩ := hw.2.2.1 s ky w es hx
  obtain ⟨hO, hL, _⟩ := (hS.1 s h1).1 h2
  have hl := (hL ky h3).1 w (mw_lane hw hx)
  obtain ⟨B1, B2, B3, B4, _⟩ := hO.1
  omega
def Dw (ws : List (Option Mw)) (k : Nat) : Prop := ∃ s ky w es, ws[k]? = some (some (s, ky, w, es))
theorem gt_at {k s ky : Nat} {w : Wd} {es : List Nat} (h : ws[k]? = some (some (s, ky, w, es))) : gt ws k = (ky, w) := by
  unfold gt
  rw [h]
  rfl
theorem cmp_K {x y : Nat} (hw : MRw u X ws) (hS : SI X) (hx : Dw ws x) (hy : Dw ws y) : cmpB false u x y = decide (kyK (gt ws x) < kyK (gt ws y)) := by
  obtain ⟨s1, k1, w1, e1, h1⟩ := hx
  obtain ⟨s2, k2, w2, e2, h2⟩ := hy
  have m1 := hw.2.1 x _ h1
  have m2 := hw.2.1 y _ h2
  have b1 := mw_bd hw hS (List.mem_of_getElem? h1)
  have b2 := mw_bd hw hS (List.mem_of_getElem? h2)
  rw [gt_at h1, gt_at h2]
  unfold cmpB lexI kyK
  rw [if_neg (show ¬ false = true by decide), m1.2.1, m1.2.2.1, m1.2.2.2.1, m2.2.1, m2.2.2.1, m2.2.2.2.1]
  have n1 : (nI k1).toInt = (k1 : Int) := nI_toInt (by omega)
  have n2 : (nI k2).toInt = (k2 : Int) := nI_toInt (by omega)
  simp only [fa_eq, fa_lt, n1, n2]
  by_cases a : (k1 : Int) = k2
  · rw [if_pos a]
    by_cases b : (wB w1).toInt = (wB w2).toInt
    · rw [if_pos b]
      exact decide_eq_decide.mpr (by omega)
    · rw [if_neg b]
      exact decide_eq_decide.mpr (by omega)
  · rw [if_neg a]
    exact decide_eq_decide.mpr (by omega)
theorem cmp_E {x y : Nat} (hw : MRw u X ws) (hS : SI X) (hx : Dw ws x) (hy : Dw ws y) : cmpB true u x y = decide (kyE (gt ws x) < kyE (gt ws y)) := by
  obtain ⟨s1, k1, w1, e1, h1⟩ := hx
  obtain ⟨s2, k2, w2, e2, h2⟩ := hy
  have m1 := hw.2.1 x _ h1
  have m2 := hw.2.1 y _ h2
  have b1 := mw_bd hw hS (List.mem_of_getElem? h1)
  have b2 := mw_bd hw hS (List.mem_of_getElem? h2)
  rw [gt_at h1, gt_at h2]
  unfold cmpB lexI kyE
  rw [if_pos rfl, m1.2.1, m1.2.2.1, m1.2.2.2.1, m2.2.1, m2.2.2.1, m2.2.2.2.1]
  have n1 : (nI k1).toInt = (k1 : Int) := nI_toInt (by omega)
  have n2 : (nI k2).toInt = (k2 : Int) := nI_toInt (by omega)
  simp only [fa_eq, fa_lt, n1, n2]
  by_cases a : (wE w1).toInt = (wE w2).toInt
  · rw [if_pos a]
    by_cases b : (wB w1).toInt = (wB w2).toInt
    · rw [if_pos b]
      exact decide_eq_decide.mpr (by omega)
    · rw [if_neg b]
      exact decide_eq_decide.mpr (by omega)
  · rw [if_neg a]
    exact decide_eq_decide.mpr (by omega)
end LB6b
