/-! 62: what is counted over the windows, and how enter changes it -/
def cR (L : List Wd) : Nat := L.countP (fun x => (wR x).isSome)
def cD (mk : Int32) (L : List Wd) : Nat := L.countP (fun x => decide (mk < wE x))
/-- the windows that are there: till is sty behind the end -/
def thr (sty : Int) (mk : Int32) (x : Wd) : Bool := decide (mk.toInt < (wE x).toInt + sty)
def cT (sty : Int) (mk : Int32) (L : List Wd) : Nat := L.countP (thr sty mk)
def cH (sty : Int) (mk : Int32) (L : List Wd) : Nat := (L.map (fun x => if thr sty mk x then (wVs x).length else 0)).sum
def sm (f : List Wd → Nat) (ln : Nat → List Wd) : Nat := fb_sm (fun k => f (ln k)) 1000
theorem sm_upd (f : List Wd → Nat) (ln : Nat → List Wd) {k : Nat} (hk : k < 1000) (L : List Wd) : sm f (upR ln k L) + f (ln k) = sm f ln + f L := by
  have h := fb_sm_upd (fun j => f (ln j)) (f L) hk
  have e : (fun j => f (upR ln k L j)) = fun j => if j = k then f L else f (ln j) := funext fun j => by
    unfold upR
    split <;> rfl
  unfold sm
  rw [e]
  exact h
theorem sm_le (f : List Wd → Nat) (ln : Nat → List Wd) {k : Nat} (hk : k < 1000) : f (ln k) ≤ sm f ln := by
  have := fb_sm_part (fun j => f (ln j)) hk
  unfold sm
  omega
section L62
variable {ses : Bool} {s k how ea : Nat} {sp mk b : Int32} {v : Int64} {rows : List Rw} {L : List Wd} {sty : Int}
theorem backOf_len {x : Wd} (h : RowOK s k rows x) : (backOf s k rows x).length = if (wR x).isSome then 1 else 0 := by
  match hr : wR x with
  | none =>
    rw [backOf_none hr]
    rfl
  | some r =>
    obtain ⟨y, hy⟩ := h r hr
    rw [backOf_some hr hy]
    rfl
theorem bksL_len {T : List Wd} (h : ∀ x ∈ T, RowOK s k rows x) : (bksL s k rows T).length = cR T := by
  unfold bksL cR
  induction T with
  | nil => rfl
  | cons x T ih =>
    rw [List.flatMap_cons, List.length_append, ih (fun y hy => h y (List.mem_cons_of_mem _ hy)), List.countP_cons, backOf_len (h x List.mem_cons_self)]
    omega
theorem vN_app (X Y : List Wd) : vN (X ++ Y) = vN X + vN Y := by
  unfold vN
  rw [List.map_append, List.sum_append]
theorem vN_cons (x : Wd) (Y : List Wd) : vN (x :: Y) = (wVs x).length + vN Y := by
  unfold vN
  rw [List.map_cons, List.sum_cons]
theorem cH_app (X Y : List Wd) : cH sty mk (X ++ Y) = cH sty mk X + cH sty mk Y := by
  unfold cH
  rw [List.map_append, List.sum_append]
theorem cH_cons (x : Wd) (Y : List Wd) : cH sty mk (x :: Y) = (if thr sty mk x then (wVs x).length else 0) + cH sty mk Y := by
  unfold cH
  rw [List.map_cons, List.sum_cons]
theorem cH_all : ∀ {T : List Wd}, (∀ x ∈ T, thr sty mk x = true) → cH sty mk T = vN T
  | [], _ => rfl
  | x :: T, h => by
    rw [cH_cons, vN_cons, if_pos (h x List.mem_cons_self), cH_all (fun y hy => h y (List.mem_cons_of_mem _ hy))]
theorem jnL_len (R : List Wd) : ∀ x : Wd, (wVs (jnL x R)).length = (wVs x).length + vN R := by
  induction R with
  | nil => exact fun x => rfl
  | cons z R ih =>
    intro x
    show (wVs (jnL (jn1 x z) R)).length = _
    rw [ih, vN_cons]
    show (wVs x ++ wVs z).length + vN R = _
    rw [List.length_append]
    omega
theorem entX_len (h : LnI ses s k sp mk rows L) (hB : BdE sp b) : (wVs (entX ses b (b + sp) v (entT ses b (b + sp) L))).length = vN (entT ses b (b + sp) L) + 1 := by
  obtain ⟨_, _, _, q1⟩ := ent_pos h hB
  match hT : entT ses b (b + sp) L with
  | [] => rfl
  | x :: R =>
    cases ses with
    | false =>
      have := q1 rfl
      rw [hT, List.length_cons] at this
      have hR : R = [] := List.eq_nil_of_length_eq_zero (by omega)
      subst hR
      rw [vN_cons]
      show (v :: wVs x).length = _
      rw [List.length_cons]
      rfl
    | true =>
      show (v :: wVs (jnL (noR x) R)).length = _
      rw [List.length_cons, jnL_len, vN_cons]
      rfl
theorem entX_row (hT : (entT ses b (b + sp) L).length ≤ 1 ∨ ses = true) : (wR (entX ses b (b + sp) v (entT ses b (b + sp) L))).isSome = (!ses && decide (0 < cR (entT ses b (b + sp) L))) := by
  match hq : entT ses b (b + sp) L with
  | [] => cases ses <;> rfl
  | x :: R =>
    cases ses with
    | true => rfl
    | false =>
      rw [hq, List.length_cons] at hT
      have hR : R = [] := List.eq_nil_of_length_eq_zero (by rcases hT with h | h; omega; cases h)
      subst hR
      show (wR x).isSome = (true && decide (0 < cR [x]))
      unfold cR
      rw [List.countP_singleton]
      cases (wR x).isSome <;> rfl
theorem cR_len {T : List Wd} : cR T ≤ T.length := List.countP_le_length
/-- what enter changes of all that is counted -/
theorem ent_cnt (h : LnI ses s k sp mk rows L) (hB : BdE sp b) (hst : mk.toInt < b.toInt + sp.toInt + sty) (hst2 : ses = true → mk.toInt < b.toInt + 1 + sty) :
    vN (entLn ses s k how ea mk b (b + sp) v L rows) = vN L + 1 ∧
    (entW ses s k how ea mk b (b + sp) v L rows).2.length + cR (entLn ses s k how ea mk b (b + sp) v L rows) + 2 * cD mk (entLn ses s k how ea mk b (b + sp) v L rows) ≤ rows.length + cR L + 2 * cD mk L + 4 ∧
    cT sty mk (entLn ses s k how ea mk b (b + sp) v L rows) + (entT ses b (b + sp) L).length = cT sty mk L + 1 ∧
    cH sty mk (entLn ses s k how ea mk b (b + sp) v L rows) = cH sty mk L + 1 ∧
    (∀ n, cR L ≤ n → entF ses s k ea mk b (b + sp) v L rows (nI n) = nI (n - cR L + cR (entLn ses s k how ea mk b (b + sp) v L rows))) := by
  obtain ⟨x1, x2, x3, x4, x5, x6, x7, hr⟩ := ent_x (v := v) h hB
  have hlen := entX_len (v := v) h hB
  obtain ⟨w1, w2, w3, w4, w5, w6, w7⟩ := finW_p (how := how) (gv := entG ses s k rows (entT ses b (b + sp) L) mk ea (entX ses b (b + sp) v (entT ses b (b + sp) L)) = true) hr
  obtain ⟨pA, pT, pB, _⟩ := h.parts b (b + sp)
  obtain ⟨qA, qT, qB, q1⟩ := ent_pos h hB
  have sp0 := ent_split ses b (b + sp) L
  have hrow := entX_row (v := v) (sp := sp) (b := b) (L := L) (ses := ses) (by
    cases ses with
    | true => exact Or.inr rfl
    | false => exact Or.inl (q1 rfl))
  have hrT : ∀ x ∈ entT ses b (b + sp) L, RowOK s k rows x := fun x hx => (h.1 x (pT x hx)).2.1
  have hbl := bksL_len hrT
  have hbx := backOf_len hr
  have thT : ∀ x ∈ entT ses b (b + sp) L, thr sty mk x = true := fun x hx => by
    have := (qT x hx).1
    unfold thr
    refine decide_eq_true ?_
    cases ses with
    | true =>
      have h2 := hst2 rfl
      have : b.toInt + 1 ≤ (wE x).toInt := this
      omega
    | false =>
      have : b.toInt + sp.toInt ≤ (wE x).toInt := this
      omega
  have eW : entW ses s k how ea mk b (b + sp) v L rows = finW s k how (entG ses s k rows (entT ses b (b + sp) L) mk ea (entX ses b (b + sp) v (entT ses b (b + sp) L)) = true) (entRw ses s k rows (entT ses b (b + sp) L)) (entX ses b (b + sp) v (entT ses b (b + sp) L)) := rfl
  have eL : entLn ses s k how ea mk b (b + sp) v L rows = entA ses b (b + sp) L ++ (finW s k how (entG ses s k rows (entT ses b (b + sp) L) mk ea (entX ses b (b + sp) v (entT ses b (b + sp) L)) = true) (entRw ses s k rows (entT ses b (b + sp) L)) (entX ses b (b + sp) v (entT ses b (b + sp) L))).1 :: entB ses b (b + sp) L := rfl
  have eF : ∀ n, entF ses s k ea mk b (b + sp) v L rows n = finL s k (entG ses s k rows (entT ses b (b + sp) L) mk ea (entX ses b (b + sp) v (entT ses b (b + sp) L)) = true) (entRw ses s k rows (entT ses b (b + sp) L)) (entX ses b (b + sp) v (entT ses b (b + sp) L)) (if ses then n - nI (bksL s k rows (entT ses b (b + sp) L)).length else n) := fun n => rfl
  have eRw : (entRw ses s k rows (entT ses b (b + sp) L)).length = rows.length + if ses then cR (entT ses b (b + sp) L) else 0 := by
    unfold entRw
    split
    · rw [List.length_append, hbl]
    · rfl
  have hG : ses = true → entG ses s k rows (entT ses b (b + sp) L) mk ea (entX ses b (b + sp) v (entT ses b (b + sp) L)) ≠ true → cR (entT ses b (b + sp) L) = 0 := fun hs hg => by
    unfold entG at hg
    rw [← hbl]
    exact Classical.byContradiction fun q => hg (decide_eq_true (Or.inl ⟨hs, q⟩))
  have hlT : ses = false → cR (entT ses b (b + sp) L) ≤ 1 := fun hs => Nat.le_trans cR_len (q1 hs)
  rw [eW, eL]
  simp only [eF]
  have cRL : cR L = cR (entA ses b (b + sp) L) + (cR (entT ses b (b + sp) L) + cR (entB ses b (b + sp) L)) := by
    unfold cR
    rw [← List.countP_append, ← List.countP_append, ← sp0]
  have cDL : cD mk L = cD mk (entA ses b (b + sp) L) + (cD mk (entT ses b (b + sp) L) + cD mk (entB ses b (b + sp) L)) := by
    unfold cD
    rw [← List.countP_append, ← List.countP_append, ← sp0]
  have cTL : cT sty mk L = cT sty mk (entA ses b (b + sp) L) + (cT sty mk (entT ses b (b + sp) L) + cT sty mk (entB ses b (b + sp) L)) := by
    unfold cT
    rw [← List.countP_append, ← List.countP_append, ← sp0]
  have cHL : cH sty mk L = cH sty mk (entA ses b (b + sp) L) + (cH sty mk (entT ses b (b + sp) L) + cH sty mk (entB ses b (b + sp) L)) := by
    rw [← cH_app, ← cH_app, ← sp0]
  have vNL : vN L = vN (entA ses b (b + sp) L) + (vN (entT ses b (b + sp) L) + vN (entB ses b (b + sp) L)) := by
    rw [← vN_app, ← vN_app, ← sp0]
  rw [cRL, cDL, cTL, cHL, vNL]
  have tT : cT sty mk (entT ses b (b + sp) L) = (entT ses b (b + sp) L).length := List.countP_eq_length.mpr thT
  have tH := cH_all thT
  have th1 : thr sty mk (entX ses b (b + sp) v (entT ses b (b + sp) L)) = true := decide_eq_true (by omega)
  generalize entT ses b (b + sp) L = T at *
  generalize entA ses b (b + sp) L = A at *
  generalize entB ses b (b + sp) L = Bs at *
  generalize entX ses b (b + sp) v T = y1 at *
  generalize entG ses s k rows T mk ea y1 = gv at *
  generalize entRw ses s k rows T = rw1 at *
  have y2B : thr sty mk (finW s k how (gv = true) rw1 y1).1 = true := by
    unfold thr at th1 ⊢
    rw [w2]
    exact th1
  have y2D : decide (mk < wE (finW s k how (gv = true) rw1 y1).1) = decide (mk < wE y1) := by rw [w2]
  have k1 : vN (A ++ (finW s k how (gv = true) rw1 y1).1 :: Bs) = vN A + ((wVs y1).length + vN Bs) := by rw [vN_app, vN_cons, w3]
  have k2 : cR (A ++ (finW s k how (gv = true) rw1 y1).1 :: Bs) = cR A + (cR Bs + if (wR (finW s k how (gv = true) rw1 y1).1).isSome then 1 else 0) := by
    unfold cR
    rw [List.countP_append, List.countP_cons]
  have k3 : cD mk (A ++ (finW s k how (gv = true) rw1 y1).1 :: Bs) ≤ cD mk A + (cD mk Bs + 1) := by
    unfold cD
    rw [List.countP_append, List.countP_cons]
    split <;> omega
  have k4 : cT sty mk (A ++ (finW s k how (gv = true) rw1 y1).1 :: Bs) = cT sty mk A + (cT sty mk Bs + 1) := by
    unfold cT
    rw [List.countP_append, List.countP_cons, if_pos y2B]
  have k5 : cH sty mk (A ++ (finW s k how (gv = true) rw1 y1).1 :: Bs) = cH sty mk A + ((wVs y1).length + cH sty mk Bs) := by rw [cH_app, cH_cons, if_pos y2B, w3]
  rw [k1, k2, k4, k5]
  refine ⟨by omega, ?_, by omega, by omega, fun n hn => ?_⟩
  · by_cases hg : gv = true
    · have e1 : (finW s k how (gv = true) rw1 y1).2.length = rw1.length + (backOf s k rw1 y1).length + 1 := by
        unfold finW
        rw [if_pos hg, List.length_append, List.length_append, List.length_singleton]
      rw [e1, eRw, hbx, hrow]
      have i1 : (if (wR (finW s k how (gv = true) rw1 y1).1).isSome then 1 else 0) ≤ 1 := by split <;> omega
      cases ses with
      | true =>
        simp only [Bool.not_true, Bool.false_and, Bool.false_eq_true, ↓reduceIte]
        omega
      | false =>
        have hl := hlT rfl
        simp only [Bool.not_false, Bool.true_and, Bool.false_eq_true, ↓reduceIte, decide_eq_true_eq]
        split <;> omega
    · have e1 := w7 hg
      rw [e1, eRw]
      show _ + (cR A + (cR Bs + if (wR y1).isSome then 1 else 0)) + _ ≤ _
      rw [hrow]
      rw [e1] at k3
      cases ses with
      | true =>
        have hz := hG rfl hg
        simp only [Bool.not_true, Bool.false_and, Bool.false_eq_true, ↓reduceIte]
        have k3' : cD mk (A ++ y1 :: Bs) ≤ cD mk A + (cD mk Bs + 1) := k3
        omega
      | false =>
        simp only [Bool.not_false, Bool.true_and, Bool.false_eq_true, ↓reduceIte, decide_eq_true_eq]
        have k3' : cD mk (A ++ y1 :: Bs) ≤ cD mk A + (cD mk Bs + 1) := k3
        split <;> omega
  · rw [hbl]
    have sub : ∀ a c : Nat, c ≤ a → nI a - nI c = nI (a - c) := fun a c hc => by
      have : nI a = nI (a - c) + nI c := by rw [nI_add]; congr 1; omega
      rw [this]
      exact Int32.add_sub_cancel _ _
    by_cases hg : gv = true
    · have hs1 : wR (finW s k how (gv = true) rw1 y1).1 ≠ none := w6 hg
      rw [if_pos (Option.isSome_iff_ne_none.mpr hs1)]
      unfold finL
      rw [if_pos hg, hbx, hrow]
      cases ses with
      | true =>
        simp only [Bool.not_true, Bool.false_and, Bool.false_eq_true, ↓reduceIte]
        rw [show nI 0 = (0 : Int32) from rfl, Int32.sub_zero, sub _ _ (by omega), nI_1]
        congr 1
        omega
      | false =>
        have hl := hlT rfl
        simp only [Bool.not_false, Bool.true_and, Bool.false_eq_true, ↓reduceIte, decide_eq_true_eq]
        rw [sub _ _ (by split <;> omega), nI_1]
        congr 1
        split <;> omega
    · have e1 := w7 hg
      unfold finL
      rw [if_neg hg, e1]
      show _ = nI (_ + (cR A + (cR Bs + if (wR y1).isSome then 1 else 0)))
      rw [hrow]
      cases ses with
      | true =>
        have hz := hG rfl hg
        simp only [Bool.not_true, Bool.false_and, Bool.false_eq_true, ↓reduceIte]
        rw [hz, show nI 0 = (0 : Int32) from rfl, Int32.sub_zero]
        congr 1
        omega
      | false =>
        have hl := hlT rfl
        simp only [Bool.not_false, Bool.true_and, Bool.false_eq_true, ↓reduceIte, decide_eq_true_eq]
        congr 1
        split <;> omega
end L62
