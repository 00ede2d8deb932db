/-! 60: enter keeps a lane as it must be -/
section L60
variable {ses : Bool} {s k how ea : Nat} {sp mk b : Int32} {v : Int64} {rows : List Rw} {L : List Wd}
theorem LnI.parts (h : LnI ses s k sp mk rows L) (b' e' : Int32) : (∀ x ∈ entA ses b' e' L, x ∈ L) ∧ (∀ x ∈ entT ses b' e' L, x ∈ L) ∧ (∀ x ∈ entB ses b' e' L, x ∈ L) ∧ (entA ses b' e' L).Pairwise (fun x y => (wB x).toInt < (wB y).toInt ∧ (ses = true → (wE x).toInt ≤ (wB y).toInt)) ∧ (entT ses b' e' L).Pairwise (fun x y => (wB x).toInt < (wB y).toInt ∧ (ses = true → (wE x).toInt ≤ (wB y).toInt)) ∧ (entB ses b' e' L).Pairwise (fun x y => (wB x).toInt < (wB y).toInt ∧ (ses = true → (wE x).toInt ≤ (wB y).toInt)) ∧ (∀ x ∈ entA ses b' e' L, ∀ y ∈ entT ses b' e' L, (wB x).toInt < (wB y).toInt ∧ (ses = true → (wE x).toInt ≤ (wB y).toInt)) ∧ (∀ x ∈ entA ses b' e' L, ∀ y ∈ entB ses b' e' L, (wB x).toInt < (wB y).toInt ∧ (ses = true → (wE x).toInt ≤ (wB y).toInt)) ∧ (∀ x ∈ entT ses b' e' L, ∀ y ∈ entB ses b' e' L, (wB x).toInt < (wB y).toInt ∧ (ses = true → (wE x).toInt ≤ (wB y).toInt)) := by
  have sp := ent_split ses b' e' L
  have h2 := h.2
  generalize entA ses b' e' L = A at *
  generalize entT ses b' e' L = T at *
  generalize entB ses b' e' L = B at *
  subst sp
  obtain ⟨p1, p2, p3⟩ := List.pairwise_append.mp h2
  obtain ⟨p4, p5, p6⟩ := List.pairwise_append.mp p2
  exact ⟨fun x hx => List.mem_append_left _ hx, fun x hx => List.mem_append_right _ (List.mem_append_left _ hx), fun x hx => List.mem_append_right _ (List.mem_append_right _ hx), p1, p4, p5, fun x hx y hy => p3 x hx y (List.mem_append_left _ hy), fun x hx y hy => p3 x hx y (List.mem_append_right _ hy), p6⟩
/-- the window that the event comes to -/
theorem ent_x (h : LnI ses s k sp mk rows L) (hB : BdE sp b) :
    (wVs (entX ses b (b + sp) v (entT ses b (b + sp) L)) ≠ []) ∧
    (-10000 ≤ (wB (entX ses b (b + sp) v (entT ses b (b + sp) L))).toInt ∧ (wE (entX ses b (b + sp) v (entT ses b (b + sp) L))).toInt ≤ 120000 ∧ 0 < (wE (entX ses b (b + sp) v (entT ses b (b + sp) L))).toInt) ∧
    ((wB (entX ses b (b + sp) v (entT ses b (b + sp) L))).toInt + sp.toInt ≤ (wE (entX ses b (b + sp) v (entT ses b (b + sp) L))).toInt ∧ (ses = false → (wE (entX ses b (b + sp) v (entT ses b (b + sp) L))).toInt = (wB (entX ses b (b + sp) v (entT ses b (b + sp) L))).toInt + sp.toInt)) ∧
    ((wB (entX ses b (b + sp) v (entT ses b (b + sp) L))).toInt ≤ b.toInt ∧ b.toInt + sp.toInt ≤ (wE (entX ses b (b + sp) v (entT ses b (b + sp) L))).toInt) ∧
    (∀ t ∈ entT ses b (b + sp) L, (wB (entX ses b (b + sp) v (entT ses b (b + sp) L))).toInt ≤ (wB t).toInt ∧ (wE t).toInt ≤ (wE (entX ses b (b + sp) v (entT ses b (b + sp) L))).toInt) ∧
    (∀ x ∈ entA ses b (b + sp) L, (wB x).toInt < (wB (entX ses b (b + sp) v (entT ses b (b + sp) L))).toInt ∧ (ses = true → (wE x).toInt ≤ (wB (entX ses b (b + sp) v (entT ses b (b + sp) L))).toInt)) ∧
    (∀ y ∈ entB ses b (b + sp) L, (wB (entX ses b (b + sp) v (entT ses b (b + sp) L))).toInt < (wB y).toInt ∧ (ses = true → (wE (entX ses b (b + sp) v (entT ses b (b + sp) L))).toInt ≤ (wB y).toInt)) ∧
    RowOK s k (entRw ses s k rows (entT ses b (b + sp) L)) (entX ses b (b + sp) v (entT ses b (b + sp) L)) := by
  obtain ⟨pA, pT, pB, _, _, _, pAT, pAB, pTB⟩ := h.parts b (b + sp)
  obtain ⟨qA, qT, qB, q1⟩ := ent_pos h hB
  have hB' := hB
  obtain ⟨b1, b2, b3, b4, b5⟩ := hB
  have eE : (b + sp).toInt = b.toInt + sp.toInt := i32_add (by omega) (by omega)
  generalize entA ses b (b + sp) L = A at *
  generalize entB ses b (b + sp) L = Bs at *
  generalize entT ses b (b + sp) L = T at *
  have hA : ∀ x ∈ A, (wB x).toInt + sp.toInt ≤ (wE x).toInt := fun x hx => (h.1 x (pA x hx)).2.2.2.2.2.1
  match T with
  | [] =>
    show [v] ≠ [] ∧ (-10000 ≤ b.toInt ∧ (b + sp).toInt ≤ 120000 ∧ 0 < (b + sp).toInt) ∧ (b.toInt + sp.toInt ≤ (b + sp).toInt ∧ (ses = false → (b + sp).toInt = b.toInt + sp.toInt)) ∧ (b.toInt ≤ b.toInt ∧ b.toInt + sp.toInt ≤ (b + sp).toInt) ∧ (∀ t ∈ [], b.toInt ≤ (wB t).toInt ∧ (wE t).toInt ≤ (b + sp).toInt) ∧ (∀ x ∈ A, (wB x).toInt < b.toInt ∧ (ses = true → (wE x).toInt ≤ b.toInt)) ∧ (∀ y ∈ Bs, b.toInt < (wB y).toInt ∧ (ses = true → (b + sp).toInt ≤ (wB y).toInt)) ∧ RowOK s k _ (b, b + sp, none, [v])
    rw [eE]
    refine ⟨List.cons_ne_nil _ _, by omega, ⟨by omega, fun _ => rfl⟩, by omega, fun t ht => (by cases ht), fun x hx => ?_, fun y hy => ?_, fun r hr => (by cases hr)⟩
    · have a := qA x hx
      have c := hA x hx
      cases ses with
      | true =>
        have a : (wE x).toInt < b.toInt + 1 := a
        exact ⟨by omega, fun _ => by omega⟩
      | false =>
        have a : (wE x).toInt < b.toInt + sp.toInt := a
        exact ⟨by omega, fun hc => by cases hc⟩
    · have a := (qB y hy).2 (Or.inl rfl)
      cases ses with
      | true =>
        have a : b.toInt + sp.toInt ≤ (wB y).toInt := a
        exact ⟨by omega, fun _ => a⟩
      | false =>
        have a : b.toInt + 1 ≤ (wB y).toInt := a
        exact ⟨by omega, fun hc => by cases hc⟩
  | x :: R =>
    have hx := h.1 x (pT x List.mem_cons_self)
    cases ses with
    | false =>
      have hR : R = [] := by
        have := q1 rfl
        simp only [List.length_cons] at this
        exact List.eq_nil_of_length_eq_zero (by omega)
      subst hR
      have a : b.toInt + sp.toInt ≤ (wE x).toInt ∧ (wB x).toInt < b.toInt + 1 := qT x List.mem_cons_self
      have c := hx.2.2.2.2.2.2.1 rfl
      show v :: wVs x ≠ [] ∧ (-10000 ≤ (wB x).toInt ∧ (wE x).toInt ≤ 120000 ∧ 0 < (wE x).toInt) ∧ ((wB x).toInt + sp.toInt ≤ (wE x).toInt ∧ (false = false → (wE x).toInt = (wB x).toInt + sp.toInt)) ∧ ((wB x).toInt ≤ b.toInt ∧ b.toInt + sp.toInt ≤ (wE x).toInt) ∧ (∀ t ∈ [x], (wB x).toInt ≤ (wB t).toInt ∧ (wE t).toInt ≤ (wE x).toInt) ∧ (∀ y ∈ A, (wB y).toInt < (wB x).toInt ∧ (false = true → (wE y).toInt ≤ (wB x).toInt)) ∧ (∀ y ∈ Bs, (wB x).toInt < (wB y).toInt ∧ (false = true → (wE x).toInt ≤ (wB y).toInt)) ∧ RowOK s k rows (adV x v)
      refine ⟨List.cons_ne_nil _ _, ⟨hx.2.2.1, hx.2.2.2.1, hx.2.2.2.2.1⟩, ⟨hx.2.2.2.2.2.1, fun _ => c⟩, by omega, fun t ht => ?_, fun y hy => pAT y hy x List.mem_cons_self, fun y hy => pTB x List.mem_cons_self y hy, hx.2.1⟩
      rw [List.mem_singleton.mp ht]
      exact ⟨Int.le_refl _, Int.le_refl _⟩
    | true =>
      have cov := jnL_cov R (noR x)
      have tl : ∀ t ∈ x :: R, -10000 ≤ (wB t).toInt ∧ (wE t).toInt ≤ 120000 := fun t ht => ⟨(h.1 t (pT t ht)).2.2.1, (h.1 t (pT t ht)).2.2.2.1⟩
      have lo := jnL_low (lo := -10000) R (noR x) (tl x List.mem_cons_self).1 (fun t ht => (tl t (List.mem_cons_of_mem _ ht)).1)
      have hi := jnL_high (hi := 120000) R (noR x) (tl x List.mem_cons_self).2 (fun t ht => (tl t (List.mem_cons_of_mem _ ht)).2)
      have loA : ∀ y ∈ A, (wE y).toInt ≤ (wB (jnL (noR x) R)).toInt := fun y hy => jnL_low R (noR x) ((pAT y hy x List.mem_cons_self).2 rfl) (fun t ht => (pAT y hy t (List.mem_cons_of_mem _ ht)).2 rfl)
      have hiB : ∀ y ∈ Bs, (wE (jnL (noR x) R)).toInt ≤ (wB y).toInt := fun y hy => jnL_high R (noR x) ((pTB x List.mem_cons_self y hy).2 rfl) (fun t ht => (pTB t (List.mem_cons_of_mem _ ht) y hy).2 rfl)
      have m1 := mnI_int (wB (jnL (noR x) R)) b
      have m2 := mxI_int (wE (jnL (noR x) R)) (b + sp)
      rw [eE] at m2
      have c1 : (wB (jnL (noR x) R)).toInt ≤ (wB x).toInt ∧ (wE x).toInt ≤ (wE (jnL (noR x) R)).toInt := cov.1
      show v :: wVs (jnL (noR x) R) ≠ [] ∧ (-10000 ≤ (mnI (wB (jnL (noR x) R)) b).toInt ∧ (mxI (wE (jnL (noR x) R)) (b + sp)).toInt ≤ 120000 ∧ 0 < (mxI (wE (jnL (noR x) R)) (b + sp)).toInt) ∧ ((mnI (wB (jnL (noR x) R)) b).toInt + sp.toInt ≤ (mxI (wE (jnL (noR x) R)) (b + sp)).toInt ∧ (true = false → (mxI (wE (jnL (noR x) R)) (b + sp)).toInt = (mnI (wB (jnL (noR x) R)) b).toInt + sp.toInt)) ∧ ((mnI (wB (jnL (noR x) R)) b).toInt ≤ b.toInt ∧ b.toInt + sp.toInt ≤ (mxI (wE (jnL (noR x) R)) (b + sp)).toInt) ∧ (∀ t ∈ x :: R, (mnI (wB (jnL (noR x) R)) b).toInt ≤ (wB t).toInt ∧ (wE t).toInt ≤ (mxI (wE (jnL (noR x) R)) (b + sp)).toInt) ∧ (∀ y ∈ A, (wB y).toInt < (mnI (wB (jnL (noR x) R)) b).toInt ∧ (true = true → (wE y).toInt ≤ (mnI (wB (jnL (noR x) R)) b).toInt)) ∧ (∀ y ∈ Bs, (mnI (wB (jnL (noR x) R)) b).toInt < (wB y).toInt ∧ (true = true → (mxI (wE (jnL (noR x) R)) (b + sp)).toInt ≤ (wB y).toInt)) ∧ RowOK s k _ (mnI (wB (jnL (noR x) R)) b, mxI (wE (jnL (noR x) R)) (b + sp), none, v :: wVs (jnL (noR x) R))
      rw [m1, m2]
      refine ⟨List.cons_ne_nil _ _, ⟨by omega, by omega, by omega⟩, ⟨by omega, fun hc => (by cases hc)⟩, by omega, fun t ht => ?_, fun y hy => ?_, fun y hy => ?_, fun r hr => (by cases hr)⟩
      · rcases List.mem_cons.mp ht with e | ht
        · subst e
          omega
        · have := cov.2 t ht
          omega
      · have a : (wE y).toInt < b.toInt + 1 := qA y hy
        have c := hA y hy
        have c2 := loA y hy
        exact ⟨by omega, fun _ => by omega⟩
      · have a : b.toInt + sp.toInt ≤ (wB y).toInt := (qB y hy).2 (Or.inr rfl)
        have c2 := hiB y hy
        exact ⟨by omega, fun _ => by omega⟩
theorem finW_p {gv : Prop} [Decidable gv] {x : Wd} (hr : RowOK s k rows x) : wB (finW s k how gv rows x).1 = wB x ∧ wE (finW s k how gv rows x).1 = wE x ∧ wVs (finW s k how gv rows x).1 = wVs x ∧ RowOK s k (finW s k how gv rows x).2 (finW s k how gv rows x).1 ∧ (∃ more, (finW s k how gv rows x).2 = rows ++ more) ∧ (gv → wR (finW s k how gv rows x).1 ≠ none) ∧ (¬ gv → (finW s k how gv rows x) = (x, rows)) := by
  unfold finW
  by_cases hg : gv
  · rw [if_pos hg]
    refine ⟨rfl, rfl, rfl, fun r h => ?_, ⟨_, List.append_assoc _ _ _⟩, fun _ h => (by cases h), fun hn => absurd hg hn⟩
    have e : r = (rows ++ backOf s k rows x).length := by
      have : some (rows ++ backOf s k rows x).length = some r := h
      exact (Option.some.inj this).symm
    subst e
    refine ⟨ansV how (wVs x), ?_⟩
    rw [List.getElem?_append_right (Nat.le_refl _), Nat.sub_self]
    rfl
  · rw [if_neg hg]
    exact ⟨rfl, rfl, rfl, hr, ⟨[], (List.append_nil _).symm⟩, fun h => absurd h hg, fun _ => rfl⟩
theorem entRw_app (T : List Wd) : ∃ more, entRw ses s k rows T = rows ++ more := by
  unfold entRw
  split
  · exact ⟨_, rfl⟩
  · exact ⟨[], (List.append_nil _).symm⟩
theorem entW_app (h : LnI ses s k sp mk rows L) (hB : BdE sp b) : ∃ more, (entW ses s k how ea mk b (b + sp) v L rows).2 = rows ++ more := by
  obtain ⟨_, _, _, _, _, _, _, hr⟩ := ent_x (v := v) h hB
  obtain ⟨m1, e1⟩ := entRw_app (ses := ses) (s := s) (k := k) (rows := rows) (entT ses b (b + sp) L)
  obtain ⟨m2, e2⟩ := (finW_p (how := how) (gv := entG ses s k rows (entT ses b (b + sp) L) mk ea (entX ses b (b + sp) v (entT ses b (b + sp) L)) = true) hr).2.2.2.2.1
  refine ⟨m1 ++ m2, ?_⟩
  unfold entW
  rw [e2, e1, List.append_assoc]
theorem LnI.ent (h : LnI ses s k sp mk rows L) (hB : BdE sp b) : LnI ses s k sp mk (entW ses s k how ea mk b (b + sp) v L rows).2 (entLn ses s k how ea mk b (b + sp) v L rows) := by
  obtain ⟨more, em⟩ := entW_app (how := how) (ea := ea) (v := v) h hB
  obtain ⟨x1, x2, x3, x4, x5, x6, x7, hr⟩ := ent_x (v := v) h hB
  obtain ⟨w1, w2, w3, w4, w5, w6, w7⟩ := finW_p (how := how) (gv := entG ses s k rows (entT ses b (b + sp) L) mk ea (entX ses b (b + sp) v (entT ses b (b + sp) L)) = true) hr
  obtain ⟨pA, pT, pB, ppA, _, ppB, pAT, pAB, pTB⟩ := h.parts b (b + sp)
  have hap := h.app (more := more)
  rw [← em] at hap
  have eW : finW s k how (entG ses s k rows (entT ses b (b + sp) L) mk ea (entX ses b (b + sp) v (entT ses b (b + sp) L)) = true) (entRw ses s k rows (entT ses b (b + sp) L)) (entX ses b (b + sp) v (entT ses b (b + sp) L)) = entW ses s k how ea mk b (b + sp) v L rows := rfl
  rw [eW] at w1 w2 w3 w4 w6 w7
  unfold entLn
  refine ⟨fun y hy => ?_, List.pairwise_append.mpr ⟨ppA, List.pairwise_cons.mpr ⟨fun y hy => ?_, ppB⟩, fun y hy z hz => ?_⟩⟩
  · rcases List.mem_append.mp hy with hy | hy
    · exact hap.1 y (pA y hy)
    · rcases List.mem_cons.mp hy with e | hy
      · subst e
        rw [w1, w2, w3]
        refine ⟨x1, w4, x2.1, x2.2.1, x2.2.2, x3.1, x3.2, fun hm => w6 ?_⟩
        unfold entG
        exact decide_eq_true (Or.inr (Or.inl hm))
      · exact hap.1 y (pB y hy)
  · rw [w1, w2]
    exact x7 y hy
  · rcases List.mem_cons.mp hz with e | hz
    · subst e
      rw [w1]
      exact x6 y hy
    · exact pAB y hy z hz
end L60
