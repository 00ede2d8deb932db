/-! C8: the windows without the near ones -/
def esK (ws : List (Option Mw)) (k : Nat) : List Nat := enO ((ws[k]?).getD none)
def nwK (ws : List (Option Mw)) (k : Nat) : Nw := (k, (gt ws k).2, esK ws k)
def unN (s ky : Nat) (P : Wd → Bool) (ws : List (Option Mw)) : List (Option Mw) := ws.map (fun o => if neO s ky P o then none else o)
def neE (s ky : Nat) (P : Wd → Bool) (ws : List (Option Mw)) : List Nat := ws.flatMap (fun o => if neO s ky P o then enO o else [])
section LC8
variable {ws : List (Option Mw)} {s ky : Nat} {P : Wd → Bool}
theorem neL_fold {β : Type} (f : Nat → β) (F : Option Mw → List β) (hF : ∀ k o, ws[k]? = some o → (if neO s ky P o then [f k] else []) = F o) : (neL ws s ky P ws.length).map f = ws.flatMap F := by
  have key : ∀ n, n ≤ ws.length → (neL ws s ky P n).map f = (ws.take n).flatMap F := by
    intro n
    induction n with
    | zero => exact fun _ => rfl
    | succ n ih =>
      intro hn
      have hn' : n < ws.length := hn
      have h1 := hF n _ (List.getElem?_eq_getElem hn')
      rw [neL_succ, List.map_append, ih (by omega), List.take_succ, List.flatMap_append, List.getElem?_eq_getElem hn']
      congr 1
      show (if neO s ky P ws[n] = true then [n] else []).map f = [ws[n]].flatMap F
      rw [List.flatMap_singleton, ← h1]
      split <;> rfl
  have := key ws.length (Nat.le_refl _)
  rw [List.take_length] at this
  exact this
theorem neL_win : (neL ws s ky P ws.length).map (fun k => (gt ws k).2) = (lnO ws s ky).filter P := by
  rw [neL_fold (fun k => (gt ws k).2) (fun o => match o with | some (s', k', w, _) => if (s' = s ∧ k' = ky) ∧ P w = true then [w] else [] | none => []) (fun k o ho => ?_)]
  · induction ws with
    | nil => rfl
    | cons o ws ih =>
      rw [List.flatMap_cons, ih, lnO_cons, List.filter_append]
      congr 1
      match o with
      | none => rfl
      | some (s', k', w, es) =>
        show (if (s' = s ∧ k' = ky) ∧ P w = true then [w] else []) = _
        by_cases e : s' = s ∧ k' = ky
        · rw [show inL s ky (some (s', k', w, es)) = some w from if_pos e]
          by_cases hp : P w = true
          · rw [if_pos ⟨e, hp⟩]
            simp [hp]
          · rw [if_neg (fun z => hp z.2)]
            simp [hp]
        · rw [show inL s ky (some (s', k', w, es)) = none from if_neg e, if_neg (fun z => e z.1)]
          rfl
  · match o, ho with
    | none, ho => rfl
    | some (s', k', w, es), ho =>
      show (if (decide (s' = s ∧ k' = ky) && P w) = true then [(gt ws k).2] else []) = if (s' = s ∧ k' = ky) ∧ P w = true then [w] else []
      rw [gt_at ho]
      by_cases e : (s' = s ∧ k' = ky) ∧ P w = true
      · rw [if_pos e, if_pos (by rw [decide_eq_true e.1, e.2]; rfl)]
      · rw [if_neg e, if_neg (fun z => e (by
          rw [Bool.and_eq_true, decide_eq_true_iff] at z
          exact z))]
theorem neL_ent : (neL ws s ky P ws.length).flatMap (esK ws) = neE s ky P ws := by
  have key : ∀ n, n ≤ ws.length → (neL ws s ky P n).flatMap (esK ws) = (ws.take n).flatMap (fun o => if neO s ky P o then enO o else []) := by
    intro n
    induction n with
    | zero => exact fun _ => rfl
    | succ n ih =>
      intro hn
      have hn' : n < ws.length := hn
      rw [neL_succ, List.flatMap_append, ih (by omega), List.take_succ, List.flatMap_append, List.getElem?_eq_getElem hn']
      congr 1
      show (if neO s ky P ws[n] = true then [n] else []).flatMap (esK ws) = [ws[n]].flatMap _
      rw [List.flatMap_singleton]
      have ee : esK ws n = enO ws[n] := by
        unfold esK
        rw [List.getElem?_eq_getElem hn']
        rfl
      split
      · rw [List.flatMap_singleton, ee]
      · rfl
  have := key ws.length (Nat.le_refl _)
  rw [List.take_length] at this
  exact this
theorem alE_un : (alE ws).Perm (alE (unN s ky P ws) ++ neE s ky P ws) := by
  induction ws with
  | nil => exact List.Perm.refl _
  | cons o ws ih =>
    unfold alE unN neE at ih ⊢
    rw [List.flatMap_cons, List.map_cons, List.flatMap_cons, List.flatMap_cons]
    by_cases hn : neO s ky P o = true
    · rw [if_pos hn, if_pos hn]
      show (enO o ++ ws.flatMap enO).Perm (([] ++ _) ++ (enO o ++ _))
      rw [List.nil_append]
      refine (ih.append_left (enO o)).trans ?_
      rw [← List.append_assoc, ← List.append_assoc]
      exact List.perm_append_comm.append_right _
    · rw [if_neg hn, if_neg hn, List.nil_append, List.append_assoc]
      exact ih.append_left _
theorem lnO_un (s' k' : Nat) : lnO (unN s ky P ws) s' k' = (lnO ws s' k').filter (fun w => !(decide (s' = s ∧ k' = ky) && P w)) := by
  induction ws with
  | nil => rfl
  | cons o ws ih =>
    have e0 : unN s ky P (o :: ws) = (if neO s ky P o then none else o) :: unN s ky P ws := rfl
    rw [e0, lnO_cons, lnO_cons, ih, List.filter_append]
    congr 1
    match o with
    | none => rfl
    | some (a, b, w, es) =>
      show (match inL s' k' (if (decide (a = s ∧ b = ky) && P w) = true then none else some (a, b, w, es)) with | some w => [w] | none => []) = _
      by_cases e : a = s' ∧ b = k'
      · obtain ⟨rfl, rfl⟩ := e
        rw [show inL a b (some (a, b, w, es)) = some w from if_pos ⟨rfl, rfl⟩]
        by_cases hn : (decide (a = s ∧ b = ky) && P w) = true
        · rw [if_pos hn]
          show [] = [w].filter _
          rw [List.filter_cons, if_neg (by rw [hn]; decide)]
          rfl
        · rw [if_neg hn, show inL a b (some (a, b, w, es)) = some w from if_pos ⟨rfl, rfl⟩]
          show [w] = [w].filter _
          rw [List.filter_cons, if_pos (by rw [Bool.eq_false_iff.mpr hn]; rfl)]
          rfl
      · rw [show inL s' k' (some (a, b, w, es)) = none from if_neg e]
        by_cases hn : (decide (a = s ∧ b = ky) && P w) = true
        · rw [if_pos hn]
          rfl
        · rw [if_neg hn, show inL s' k' (some (a, b, w, es)) = none from if_neg e]
          rfl
theorem un_get {j : Nat} {o : Option Mw} (h : ws[j]? = some o) : (unN s ky P ws)[j]? = some (if neO s ky P o then none else o) := by
  unfold unN
  rw [List.getElem?_map, h]
  rfl
theorem un_len : (unN s ky P ws).length = ws.length := by
  unfold unN
  rw [List.length_map]
end LC8
/-- begin and end of what has become one -/
def mnB (T : List Wd) (B : Int32) : Int32 := T.foldl (fun B x => if wB x < B then wB x else B) B
def mxE (T : List Wd) (E : Int32) : Int32 := T.foldl (fun E x => if E < wE x then wE x else E) E
theorem mnB_jn : ∀ (R : List Wd) (y : Wd) (A B : Int32), A.toInt = min (wB y).toInt B.toInt → (mnB R A).toInt = min (wB (jnL y R)).toInt B.toInt := by
  intro R
  induction R with
  | nil => exact fun y A B h => h
  | cons z R ih =>
    intro y A B h
    show (mnB R (if wB z < A then wB z else A)).toInt = min (wB (jnL (jn1 y z) R)).toInt B.toInt
    refine ih (jn1 y z) _ B ?_
    show _ = min (mnI (wB y) (wB z)).toInt B.toInt
    rw [mnI_int]
    by_cases hz : wB z < A
    · rw [if_pos hz]
      rw [fa_lt] at hz
      omega
    · rw [if_neg hz]
      rw [fa_lt] at hz
      omega
theorem mxE_jn : ∀ (R : List Wd) (y : Wd) (A B : Int32), A.toInt = max (wE y).toInt B.toInt → (mxE R A).toInt = max (wE (jnL y R)).toInt B.toInt := by
  intro R
  induction R with
  | nil => exact fun y A B h => h
  | cons z R ih =>
    intro y A B h
    show (mxE R (if A < wE z then wE z else A)).toInt = max (wE (jnL (jn1 y z) R)).toInt B.toInt
    refine ih (jn1 y z) _ B ?_
    show _ = max (mxI (wE y) (wE z)).toInt B.toInt
    rw [mxI_int]
    by_cases hz : A < wE z
    · rw [if_pos hz]
      rw [fa_lt] at hz
      omega
    · rw [if_neg hz]
      rw [fa_lt] at hz
      omega
theorem jnL_vs : ∀ (R : List Wd) (y : Wd), wVs (jnL y R) = wVs y ++ R.flatMap wVs := by
  intro R
  induction R with
  | nil => exact fun y => (List.append_nil _).symm
  | cons z R ih =>
    intro y
    show wVs (jnL (jn1 y z) R) = _
    rw [ih, List.flatMap_cons, ← List.append_assoc]
    rfl
/-- the window that comes of near ones and an event -/
theorem entX_ses (b e : Int32) (v : Int64) (T : List Wd) : wB (entX true b e v T) = mnB T b ∧ wE (entX true b e v T) = mxE T e ∧ wR (entX true b e v T) = none ∧ wVs (entX true b e v T) = v :: T.flatMap wVs := by
  match T with
  | [] => exact ⟨rfl, rfl, rfl, rfl⟩
  | x :: R =>
    refine ⟨?_, ?_, rfl, ?_⟩
    · show mnI (wB (jnL (noR x) R)) b = mnB R (if wB x < b then wB x else b)
      rw [fa_eq, mnI_int, mnB_jn R (noR x) _ b]
      show (if wB x < b then wB x else b).toInt = min (wB x).toInt b.toInt
      by_cases hz : wB x < b
      · rw [if_pos hz]
        rw [fa_lt] at hz
        omega
      · rw [if_neg hz]
        rw [fa_lt] at hz
        omega
    · show mxI (wE (jnL (noR x) R)) e = mxE R (if e < wE x then wE x else e)
      rw [fa_eq, mxI_int, mxE_jn R (noR x) _ e]
      show (if e < wE x then wE x else e).toInt = max (wE x).toInt e.toInt
      by_cases hz : e < wE x
      · rw [if_pos hz]
        rw [fa_lt] at hz
        omega
      · rw [if_neg hz]
        rw [fa_lt] at hz
        omega
    · show v :: wVs (jnL (noR x) R) = _
      rw [jnL_vs, List.flatMap_cons]
      rfl
def nrB (b sp : Int32) (w : Wd) : Bool := decide (b.toInt + 1 ≤ (wE w).toInt ∧ (wB w).toInt < b.toInt + sp.toInt)
/-- the near windows of a lane are those that the event joins -/
theorem ent_near {s ky : Nat} {sp mk b : Int32} {rows : List Rw} {L : List Wd} (hI : LnI true s ky sp mk rows L) (hB : BdE sp b) : L.filter (nrB b sp) = entT true b (b + sp) L ∧ L.filter (fun w => !nrB b sp w) = entA true b (b + sp) L ++ entB true b (b + sp) L := by
  obtain ⟨p1, p2, p3, p4⟩ := ent_pos hI hB
  have hsp := ent_split true b (b + sp) L
  have fA : ∀ x ∈ entA true b (b + sp) L, nrB b sp x = false := fun x hx => by
    have := p1 x hx
    simp at this
    exact decide_eq_false (by omega)
  have fT : ∀ x ∈ entT true b (b + sp) L, nrB b sp x = true := fun x hx => by
    have := p2 x hx
    simp at this
    exact decide_eq_true (by omega)
  have fB : ∀ x ∈ entB true b (b + sp) L, nrB b sp x = false := fun x hx => by
    have := (p3 x hx).2 (Or.inr rfl)
    simp at this
    exact decide_eq_false (by omega)
  constructor
  · conv => lhs; rw [hsp]
    rw [List.filter_append, List.filter_append, List.filter_eq_nil_iff.mpr (fun x hx => by rw [fA x hx]; decide), List.filter_eq_self.mpr fT, List.filter_eq_nil_iff.mpr (fun x hx => by rw [fB x hx]; decide), List.nil_append, List.append_nil]
  · conv => lhs; rw [hsp]
    rw [List.filter_append, List.filter_append, List.filter_eq_self.mpr (fun x hx => by rw [fA x hx]; rfl), List.filter_eq_nil_iff.mpr (fun x hx => by rw [fT x hx]; decide), List.filter_eq_self.mpr (fun x hx => by rw [fB x hx]; rfl), List.nil_append]
