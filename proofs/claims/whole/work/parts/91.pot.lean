/-! 91: the graph of a mill; what is counted over its stages -/
def tot (f : Stg → Nat) (X : Sg) : Nat := fb_sm (fun s => f (xS X s)) (xM X)
def entS (S : Stg) : Nat := if isW S then sm vN (gL S) else 0
def camS (S : Stg) : Nat := if isW S then (gI S 4).toNatClampNeg else 0
def potS (S : Stg) : Nat := if isW S then sm cR (gL S) + 2 * sm (cD (gI S 1)) (gL S) else 0
/-- the bounds: entries by what came, rows by entries -/
def BI (X : Sg) : Prop := (∀ s, s < xM X → isW (xS X s) = true → entS (xS X s) ≤ 4 * camS (xS X s) ∧ (sSes (xS X s) = true → entS (xS X s) ≤ camS (xS X s)) ∧ sDr (xS X s) ≤ 4 * camS (xS X s) ∧ gI (xS X s) 4 = nI (camS (xS X s)) ∧ camS (xS X s) < 2147483647) ∧ (xR X).length + tot potS X ≤ 4 * tot entS X
/-- the graph: a stage is fed by what is ahead of it, and by no stage with windows -/
def GO (X : Sg) : Prop := xM X ≤ 16 ∧ (∀ s, s < xM X → ∀ f, gF (xS X s) f = true → f < 8 + s ∧ (8 ≤ f → isW (xS X (f - 8)) = false)) ∧ ∀ s, s < xM X → saidB (gI (xS X s) 3) (gI (xS X s) 6) (gI (xS X s) 7) = true
/-- ways to stages with windows, from a source -/
def wz (X : Sg) : Nat → Nat → Nat
  | 0, _ => 0
  | n + 1, f => fb_sm (fun s => if gF (xS X s) f then (if isW (xS X s) then 1 else wz X n (8 + s)) else 0) (xM X)
/-- the same graph -/
def SGs (S S' : Stg) : Prop := gF S' = gF S ∧ gI S' 3 = gI S 3 ∧ gI S' 6 = gI S 6 ∧ gI S' 7 = gI S 7
theorem SGs.rf (S : Stg) : SGs S S := ⟨rfl, rfl, rfl, rfl⟩
theorem SGs.tr {S T U : Stg} (a : SGs S T) (b : SGs T U) : SGs S U := ⟨b.1.trans a.1, b.2.1.trans a.2.1, b.2.2.1.trans a.2.2.1, b.2.2.2.trans a.2.2.2⟩
theorem SGs.w {S T : Stg} (a : SGs S T) : isW T = isW S := by
  unfold isW
  rw [a.2.1]
def SG (X X' : Sg) : Prop := xM X' = xM X ∧ ∀ s, SGs (xS X s) (xS X' s)
theorem SG.rf (X : Sg) : SG X X := ⟨rfl, fun _ => SGs.rf _⟩
theorem SG.tr {X Y Z : Sg} (a : SG X Y) (b : SG Y Z) : SG X Z := ⟨b.1.trans a.1, fun s => (a.2 s).tr (b.2 s)⟩
theorem SG.set (X : Sg) (s : Nat) (S : Stg) (r : List Rw) (h1 : SGs (xS X s) S) : SG X (xSet X s S r) := by
  refine ⟨rfl, fun t => ?_⟩
  show SGs _ (upR (xS X) s S t)
  by_cases e : t = s
  · subst e
    rw [show upR (xS X) t S t = S from if_pos rfl]
    exact h1
  · rw [show upR (xS X) s S t = xS X t from if_neg e]
    exact SGs.rf _
theorem GO.same {X X' : Sg} (h : GO X) (a : SG X X') : GO X' := by
  refine ⟨by rw [a.1]; exact h.1, fun s hs f hf => ?_, fun s hs => ?_⟩
  · rw [a.1] at hs
    rw [(a.2 s).1] at hf
    have := h.2.1 s hs f hf
    exact ⟨this.1, fun h8 => by rw [(a.2 _).w]; exact this.2 h8⟩
  · rw [a.1] at hs
    rw [(a.2 s).2.1, (a.2 s).2.2.1, (a.2 s).2.2.2]
    exact h.2.2 s hs
theorem wz_same {X X' : Sg} (a : SG X X') : ∀ n f, wz X' n f = wz X n f := by
  intro n
  induction n with
  | zero => exact fun _ => rfl
  | succ n ih =>
    intro f
    unfold wz
    rw [a.1]
    refine fb_sm_cong (fun s _ => ?_)
    rw [(a.2 s).1, (a.2 s).w, ih]
theorem tot_set (f : Stg → Nat) (X : Sg) {s : Nat} (hs : s < xM X) (S : Stg) (r : List Rw) : tot f (xSet X s S r) + f (xS X s) = tot f X + f S := by
  have h := fb_sm_upd (fun t => f (xS X t)) (f S) hs
  have e : (fun t => f (xS (xSet X s S r) t)) = fun t => if t = s then f S else f (xS X t) := funext fun t => by
    show f (upR (xS X) s S t) = _
    unfold upR
    split <;> rfl
  unfold tot
  rw [e]
  exact h
theorem tot_le (f : Stg → Nat) (X : Sg) {s : Nat} (hs : s < xM X) : f (xS X s) ≤ tot f X := by
  have := fb_sm_part (fun t => f (xS X t)) hs
  unfold tot
  omega
theorem tot_mul {f f' : Stg → Nat} {X : Sg} {c : Nat} (h : ∀ s, s < xM X → f (xS X s) ≤ c * f' (xS X s)) : tot f X ≤ c * tot f' X := by
  unfold tot
  generalize xM X = n at *
  induction n with
  | zero => exact Nat.zero_le _
  | succ n ih =>
    rw [fb_sm_succ, fb_sm_succ, Nat.mul_add]
    have h1 := ih (fun s hs => h s (by omega))
    have h2 := h n (by omega)
    omega
theorem upR_at {α : Type} (f : Nat → α) (i : Nat) (v : α) : upR f i v i = v := if_pos rfl
theorem upR_ne {α : Type} (f : Nat → α) {i j : Nat} (v : α) (h : j ≠ i) : upR f i v j = f j := if_neg h
theorem xS_set (X : Sg) (s : Nat) (S : Stg) (r : List Rw) : xS (xSet X s S r) s = S := if_pos rfl
theorem xS_set_ne (X : Sg) {s t : Nat} (S : Stg) (r : List Rw) (h : t ≠ s) : xS (xSet X s S r) t = xS X t := if_neg h
theorem BI.ent {X : Sg} (h : BI X) : tot entS X ≤ 4 * tot camS X := by
  refine tot_mul (fun s hs => ?_)
  by_cases hw : isW (xS X s) = true
  · exact (h.1 s hs hw).1
  · unfold entS
    rw [if_neg hw]
    exact Nat.zero_le _
/-- the bounds go on when a stage with windows takes an event -/
theorem BI.take {X : Sg} {s : Nat} {ln' : Nat → List Wd} {rows' : List Rw} {dr' : Nat} (h : BI X) (hs : s < xM X) (hw : isW (xS X s) = true) (hC : tot camS X < 1000000)
    (h1 : ptR (gI (xS X s) 1) ln' rows' + 4 * sm vN (gL (xS X s)) ≤ ptR (gI (xS X s) 1) (gL (xS X s)) (xR X) + 4 * sm vN ln') (h2 : sm vN (gL (xS X s)) ≤ sm vN ln') (h3 : sm vN ln' ≤ sm vN (gL (xS X s)) + 4) (h4 : sSes (xS X s) = true → sm vN ln' ≤ sm vN (gL (xS X s)) + 1) (h5 : dr' ≤ sDr (xS X s) + 4) :
    BI (xSet X s (stT (xS X s) ln' dr') rows') ∧ tot camS (xSet X s (stT (xS X s) ln' dr') rows') = tot camS X + 1 := by
  have hb := h.1 s hs hw
  have hc := tot_le camS X hs
  have w' : isW (stT (xS X s) ln' dr') = true := hw
  have e1 : entS (stT (xS X s) ln' dr') = sm vN ln' := if_pos w'
  have e0 : entS (xS X s) = sm vN (gL (xS X s)) := if_pos hw
  have c1 : camS (stT (xS X s) ln' dr') = camS (xS X s) + 1 := by
    have a : gI (stT (xS X s) ln' dr') 4 = gI (xS X s) 4 + 1 := rfl
    have b : camS (stT (xS X s) ln' dr') = (gI (stT (xS X s) ln' dr') 4).toNatClampNeg := if_pos w'
    rw [b, a, hb.2.2.2.1, nI_1, nI_clamp (by omega)]
  have p1 : potS (stT (xS X s) ln' dr') = sm cR ln' + 2 * sm (cD (gI (xS X s) 1)) ln' := if_pos w'
  have p0 : potS (xS X s) = sm cR (gL (xS X s)) + 2 * sm (cD (gI (xS X s) 1)) (gL (xS X s)) := if_pos hw
  have d1 : sDr (stT (xS X s) ln' dr') = dr' := nI_clamp (by omega)
  have t1 := tot_set entS X hs (stT (xS X s) ln' dr') rows'
  have t2 := tot_set camS X hs (stT (xS X s) ln' dr') rows'
  have t3 := tot_set potS X hs (stT (xS X s) ln' dr') rows'
  refine ⟨⟨fun t ht hwt => ?_, ?_⟩, by omega⟩
  · by_cases e : t = s
    · subst e
      rw [xS_set]
      have ses : sSes (stT (xS X t) ln' dr') = sSes (xS X t) := rfl
      rw [ses, e1, c1, d1]
      refine ⟨by omega, fun q => ?_, by omega, ?_, by omega⟩
      · have := h4 q
        have := hb.2.1 q
        omega
      · show gI (xS X t) 4 + 1 = _
        rw [hb.2.2.2.1, nI_1]
    · rw [xS_set_ne X _ _ e] at hwt ⊢
      exact h.1 t ht hwt
  · show rows'.length + _ ≤ _
    have := h.2
    unfold ptR at h1
    omega
/-- the bounds go on when a stage changes and what is counted of it does not grow -/
theorem BI.set {X : Sg} {s : Nat} {S : Stg} {rows' : List Rw} (h : BI X) (hs : s < xM X) (hw : isW S = isW (xS X s)) (h1 : entS S = entS (xS X s)) (h2 : camS S = camS (xS X s)) (h3 : rows'.length + potS S ≤ (xR X).length + potS (xS X s)) (h4 : sSes S = sSes (xS X s)) (h5 : isW S = true → gI S 23 = gI (xS X s) 23 ∧ gI S 4 = gI (xS X s) 4) :
    BI (xSet X s S rows') ∧ tot camS (xSet X s S rows') = tot camS X := by
  have t1 := tot_set entS X hs S rows'
  have t2 := tot_set camS X hs S rows'
  have t3 := tot_set potS X hs S rows'
  refine ⟨⟨fun t ht hwt => ?_, ?_⟩, by omega⟩
  · by_cases e : t = s
    · subst e
      rw [xS_set] at hwt ⊢
      have := h.1 t hs (by rw [← hw]; exact hwt)
      obtain ⟨q1, q2⟩ := h5 hwt
      have d1 : sDr S = sDr (xS X t) := by
        unfold sDr
        rw [q1]
      rw [h1, h2, h4, d1, q2]
      exact this
    · rw [xS_set_ne X _ _ e] at hwt ⊢
      exact h.1 t ht hwt
  · show rows'.length + _ ≤ _
    have := h.2
    omega
