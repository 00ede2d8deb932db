/-! B2: sums over the model's windows -/
def wt (s : Nat) (G : Wd → Nat) : Option Mw → Nat
  | some (s', _, w, _) => if s' = s then G w else 0
  | none => 0
def wtA (G : Nat → Wd → Nat) : Option Mw → Nat
  | some (s', _, w, _) => G s' w
  | none => 0
def smG (G : Wd → Nat) (L : List Wd) : Nat := (L.map G).sum
section LB2
variable {ws : List (Option Mw)} {s : Nat} {G : Wd → Nat}
theorem fb_sm_z {f : Nat → Nat} {n : Nat} (h : ∀ k, k < n → f k = 0) : fb_sm f n = 0 := by
  rw [fb_sm_cong (g := fun _ => 0) h, fb_sm_const, Nat.mul_zero]
theorem nsum_perm {a b : List Nat} (h : a.Perm b) : a.sum = b.sum := by
  induction h with
  | nil => rfl
  | cons x _ ih => rw [List.sum_cons, List.sum_cons, ih]
  | swap x y l => rw [List.sum_cons, List.sum_cons, List.sum_cons, List.sum_cons]; omega
  | trans _ _ h1 h2 => rw [h1, h2]
theorem smG_perm {a b : List Wd} (h : a.Perm b) : smG G a = smG G b := nsum_perm (h.map G)
theorem lnO_cons (o : Option Mw) (ky : Nat) : lnO (o :: ws) s ky = (match inL s ky o with | some w => [w] | none => []) ++ lnO ws s ky := by
  unfold lnO
  rw [List.filterMap_cons]
  split <;> rename_i e <;> rw [e] <;> rfl
theorem fb_sm_pt (v : Nat) {i : Nat} : ∀ n, i < n → fb_sm (fun k => if k = i then v else 0) n = v := by
  intro n hi
  have h := fb_sm_upd (fun _ => 0) v hi
  rw [fb_sm_const] at h
  omega
theorem lanes_sum (hk : ∀ s ky w es, some (s, ky, w, es) ∈ ws → ky < 1000) : fb_sm (fun ky => smG G (lnO ws s ky)) 1000 = (ws.map (wt s G)).sum := by
  induction ws with
  | nil => exact fb_sm_z (fun _ _ => rfl)
  | cons o ws ih =>
    have ih' := ih (fun s ky w es hx => hk s ky w es (List.mem_cons_of_mem _ hx))
    rw [List.map_cons, List.sum_cons, ← ih']
    have e : ∀ ky, smG G (lnO (o :: ws) s ky) = smG G (match inL s ky o with | some w => [w] | none => []) + smG G (lnO ws s ky) := fun ky => by
      rw [lnO_cons]
      unfold smG
      rw [List.map_append, List.sum_append]
    rw [fb_sm_cong (g := fun ky => smG G (match inL s ky o with | some w => [w] | none => []) + smG G (lnO ws s ky)) (fun ky _ => e ky), fb_sm_add]
    refine congrArg (· + _) ?_
    match o, hk with
    | none, _ => exact fb_sm_z (fun _ _ => rfl)
    | some (s', ky', w, es), hk =>
      have hk' := hk s' ky' w es List.mem_cons_self
      by_cases e : s' = s
      · subst e
        show _ = if s' = s' then G w else 0
        rw [if_pos rfl, fb_sm_cong (g := fun k => if k = ky' then G w else 0) (fun ky _ => ?_), fb_sm_pt _ _ hk']
        by_cases e2 : ky = ky'
        · subst e2
          rw [if_pos rfl, show inL s' ky (some (s', ky, w, es)) = some w from if_pos ⟨rfl, rfl⟩]
          exact Nat.add_zero _
        · rw [if_neg e2, show inL s' ky (some (s', ky', w, es)) = none from if_neg (fun z => e2 z.2.symm)]
          rfl
      · show _ = if s' = s then G w else 0
        rw [if_neg e]
        refine fb_sm_z (fun ky _ => ?_)
        rw [show inL s ky (some (s', ky', w, es)) = none from if_neg (fun z => e z.1)]
        rfl
theorem stages_sum {GA : Nat → Wd → Nat} {n : Nat} (hk : ∀ s ky w es, some (s, ky, w, es) ∈ ws → s < n) : fb_sm (fun s => (ws.map (wt s (GA s))).sum) n = (ws.map (wtA GA)).sum := by
  induction ws with
  | nil => exact (fb_sm_const 0 n).trans (Nat.mul_zero n)
  | cons o ws ih =>
    have ih' := ih (fun s ky w es hx => hk s ky w es (List.mem_cons_of_mem _ hx))
    rw [List.map_cons, List.sum_cons, ← ih']
    rw [fb_sm_cong (g := fun s => wt s (GA s) o + (ws.map (wt s (GA s))).sum) (fun s _ => by rw [List.map_cons, List.sum_cons]), fb_sm_add]
    refine congrArg (· + _) ?_
    match o, hk with
    | none, _ => exact fb_sm_z (fun _ _ => rfl)
    | some (s', ky', w, es), hk =>
      have hk' := hk s' ky' w es List.mem_cons_self
      rw [fb_sm_cong (g := fun k => if k = s' then GA s' w else 0) (fun s _ => ?_), fb_sm_pt _ _ hk']
      · rfl
      · show (if s' = s then GA s w else 0) = _
        by_cases e : s = s'
        · subst e
          rw [if_pos rfl]
        · rw [if_neg (fun z => e z.symm), if_neg e]
theorem wt_none (hk : ∀ s' ky w es, some (s', ky, w, es) ∈ ws → s' ≠ s) : (ws.map (wt s G)).sum = 0 := by
  induction ws with
  | nil => rfl
  | cons o ws ih =>
    rw [List.map_cons, List.sum_cons, ih (fun s ky w es hx => hk s ky w es (List.mem_cons_of_mem _ hx))]
    match o, hk with
    | none, _ => rfl
    | some (s', ky', w, es), hk => exact if_neg (hk s' ky' w es List.mem_cons_self)
end LB2
theorem sm_smG {u : Mu} {X : Sg} {ws : List (Option Mw)} {s : Nat} (hw : MRw u X ws) (hs : s < xM X) (hW : isW (xS X s) = true) (f : List Wd → Nat) (G : Wd → Nat) (hf : ∀ L, f L = smG G L) : sm f (gL (xS X s)) = (ws.map (wt s G)).sum := by
  rw [← lanes_sum (s := s) (G := G) (fun s ky w es hx => (hw.2.2.1 s ky w es hx).2.2)]
  unfold sm
  refine fb_sm_cong (fun ky hk => ?_)
  rw [hf]
  exact (smG_perm (hw.2.2.2.1 s hs hW ky hk)).symm
theorem cT_smG (sty : Int) (mk : Int32) (L : List Wd) : cT sty mk L = smG (fun x => if thr sty mk x then 1 else 0) L := by
  unfold cT smG
  induction L with
  | nil => rfl
  | cons x L ih => rw [List.countP_cons, List.map_cons, List.sum_cons, ih]; omega
theorem cR_smG (L : List Wd) : cR L = smG (fun x => if (wR x).isSome then 1 else 0) L := by
  unfold cR smG
  induction L with
  | nil => rfl
  | cons x L ih => rw [List.countP_cons, List.map_cons, List.sum_cons, ih]; omega
theorem cH_smG (sty : Int) (mk : Int32) (L : List Wd) : cH sty mk L = smG (fun x => if thr sty mk x then (wVs x).length else 0) L := rfl
theorem MRw.at {u : Mu} {X : Sg} {ws : List (Option Mw)} (hw : MRw u X ws) {k : Nat} (hk : k < ws.length) : ∃ o, ws[k]? = some o ∧ ws.drop k = o :: ws.drop (k + 1) ∧ MWk u X k o := by
  refine ⟨ws[k], List.getElem?_eq_getElem hk, List.drop_eq_getElem_cons hk, hw.2.1 k _ (List.getElem?_eq_getElem hk)⟩
theorem nI_m1 {s : Nat} (h : s < 2147483648) : ¬ nI s = -1 := fun e => by
  have := congrArg Int32.toInt e
  rw [nI_toInt h, show (-1 : Int32).toInt = -1 by decide] at this
  omega
