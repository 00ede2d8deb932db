/-! 59: a lane as it must be; enter keeps it so -/
def LnI (ses : Bool) (s k : Nat) (sp mk : Int32) (rows : List Rw) (L : List Wd) : Prop :=
  (∀ x ∈ L, wVs x ≠ [] ∧ RowOK s k rows x ∧ -10000 ≤ (wB x).toInt ∧ (wE x).toInt ≤ 120000 ∧ 0 < (wE x).toInt ∧ (wB x).toInt + sp.toInt ≤ (wE x).toInt ∧ (ses = false → (wE x).toInt = (wB x).toInt + sp.toInt) ∧ (wE x ≤ mk → wR x ≠ none)) ∧
  L.Pairwise (fun x y => (wB x).toInt < (wB y).toInt ∧ (ses = true → (wE x).toInt ≤ (wB y).toInt))
/-- the numbers of an event that enters -/
def BdE (sp b : Int32) : Prop := 1 ≤ sp.toInt ∧ sp.toInt ≤ 10001 ∧ -10000 ≤ b.toInt ∧ b.toInt ≤ 100000 ∧ 0 < b.toInt + sp.toInt
theorem i32_add {x y : Int32} (h1 : -2000000000 ≤ x.toInt + y.toInt) (h2 : x.toInt + y.toInt ≤ 2000000000) : (x + y).toInt = x.toInt + y.toInt := by
  rw [Int32.toInt_add]
  exact Int.bmod_eq_of_le (by omega) (by omega)
theorem i32_1 : (1 : Int32).toInt = 1 := by decide
theorem mnI_int (x y : Int32) : (mnI x y).toInt = min x.toInt y.toInt := by
  unfold mnI
  by_cases h : y < x
  · rw [if_pos h]
    rw [fa_lt] at h
    omega
  · rw [if_neg h]
    rw [fa_lt] at h
    omega
theorem mxI_int (x y : Int32) : (mxI x y).toInt = max x.toInt y.toInt := by
  unfold mxI
  by_cases h : x < y
  · rw [if_pos h]
    rw [fa_lt] at h
    omega
  · rw [if_neg h]
    rw [fa_lt] at h
    omega
theorem tw_true {α : Type} {p : α → Bool} : ∀ (l : List α) (x : α), x ∈ l.takeWhile p → p x = true ∧ x ∈ l
  | [], x, h => by cases h
  | y :: l, x, h => by
    rw [List.takeWhile_cons] at h
    by_cases hy : p y = true
    · rw [if_pos hy] at h
      rcases List.mem_cons.mp h with e | h
      · subst e
        exact ⟨hy, List.mem_cons_self⟩
      · exact ⟨(tw_true l x h).1, List.mem_cons_of_mem _ (tw_true l x h).2⟩
    · rw [if_neg hy] at h
      cases h
theorem dw_false {α : Type} {p : α → Bool} : ∀ (l : List α), l.Pairwise (fun x y => p y = true → p x = true) → ∀ x ∈ l.dropWhile p, p x = false
  | [], _, x, h => by cases h
  | y :: l, hp, x, h => by
    have h1 := List.pairwise_cons.mp hp
    rw [List.dropWhile_cons] at h
    by_cases hy : p y = true
    · rw [if_pos hy] at h
      exact dw_false l h1.2 x h
    · rw [if_neg hy] at h
      rcases List.mem_cons.mp h with e | h
      · subst e
        exact Bool.eq_false_iff.mpr hy
      · exact Bool.eq_false_iff.mpr (fun q => hy (h1.1 x h q))
theorem ent_split (ses : Bool) (b e : Int32) (L : List Wd) : L = entA ses b e L ++ (entT ses b e L ++ entB ses b e L) := by
  have h1 : entT ses b e L <+: entR ses b e L := by
    unfold entT
    split
    · exact List.takeWhile_prefix _
    · exact (List.take_prefix 1 _).trans (List.takeWhile_prefix _)
  have h2 : entT ses b e L ++ entB ses b e L = entR ses b e L := by
    have h3 := List.prefix_iff_eq_take.mp h1
    unfold entB
    have : entT ses b e L ++ (entR ses b e L).drop (entT ses b e L).length = (entR ses b e L).take (entT ses b e L).length ++ (entR ses b e L).drop (entT ses b e L).length := by rw [← h3]
    rw [this, List.take_append_drop]
  rw [h2]
  unfold entA entR
  exact List.takeWhile_append_dropWhile.symm
theorem jnL_low {lo : Int} : ∀ (R : List Wd) (x : Wd), lo ≤ (wB x).toInt → (∀ y ∈ R, lo ≤ (wB y).toInt) → lo ≤ (wB (jnL x R)).toInt
  | [], x, h, _ => h
  | y :: R, x, h, hR => jnL_low R (jn1 x y) (by
      show lo ≤ (mnI (wB x) (wB y)).toInt
      rw [mnI_int]
      have := hR y List.mem_cons_self
      omega) (fun z hz => hR z (List.mem_cons_of_mem _ hz))
theorem jnL_high {hi : Int} : ∀ (R : List Wd) (x : Wd), (wE x).toInt ≤ hi → (∀ y ∈ R, (wE y).toInt ≤ hi) → (wE (jnL x R)).toInt ≤ hi
  | [], x, h, _ => h
  | y :: R, x, h, hR => jnL_high R (jn1 x y) (by
      show (mxI (wE x) (wE y)).toInt ≤ hi
      rw [mxI_int]
      have := hR y List.mem_cons_self
      omega) (fun z hz => hR z (List.mem_cons_of_mem _ hz))
theorem jnL_cov : ∀ (R : List Wd) (x : Wd), ((wB (jnL x R)).toInt ≤ (wB x).toInt ∧ (wE x).toInt ≤ (wE (jnL x R)).toInt) ∧ ∀ y ∈ R, (wB (jnL x R)).toInt ≤ (wB y).toInt ∧ (wE y).toInt ≤ (wE (jnL x R)).toInt
  | [], x => ⟨⟨Int.le_refl _, Int.le_refl _⟩, fun y hy => by cases hy⟩
  | y :: R, x => by
    have h := jnL_cov R (jn1 x y)
    have h1 := h.1
    rw [show wB (jn1 x y) = mnI (wB x) (wB y) from rfl, show wE (jn1 x y) = mxI (wE x) (wE y) from rfl, mnI_int, mxI_int] at h1
    show ((wB (jnL (jn1 x y) R)).toInt ≤ _ ∧ _ ≤ (wE (jnL (jn1 x y) R)).toInt) ∧ ∀ z ∈ y :: R, (wB (jnL (jn1 x y) R)).toInt ≤ _ ∧ _ ≤ (wE (jnL (jn1 x y) R)).toInt
    refine ⟨⟨by omega, by omega⟩, fun z hz => ?_⟩
    rcases List.mem_cons.mp hz with e | hz
    · subst e
      exact ⟨by omega, by omega⟩
    · exact h.2 z hz
section L59
variable {ses : Bool} {s k how ea : Nat} {sp mk b : Int32} {v : Int64} {rows : List Rw} {L : List Wd}
theorem LnI.ends (h : LnI ses s k sp mk rows L) (h1 : 1 ≤ sp.toInt) : L.Pairwise (fun x y => (wE x).toInt < (wE y).toInt) := by
  refine h.2.imp_of_mem (fun {x y} hx hy hxy => ?_)
  have a := h.1 x hx
  have c := h.1 y hy
  cases ses with
  | true =>
    have := hxy.2 rfl
    omega
  | false =>
    have q1 := a.2.2.2.2.2.2.1 rfl
    have q2 := c.2.2.2.2.2.2.1 rfl
    omega
theorem LnI.ok (h : LnI ses s k sp mk rows L) (h1 : 1 ≤ sp.toInt) : LnOK s k rows L :=
  ⟨fun x hx => ⟨(h.1 x hx).1, (h.1 x hx).2.1⟩, (h.ends h1).imp (fun h => by rw [fa_le]; omega)⟩
theorem LnI.app {more : List Rw} (h : LnI ses s k sp mk rows L) : LnI ses s k sp mk (rows ++ more) L :=
  ⟨fun x hx => ⟨(h.1 x hx).1, (h.1 x hx).2.1.app, (h.1 x hx).2.2⟩, h.2⟩
/-- where the event stands among the windows of its lane -/
theorem ent_pos (h : LnI ses s k sp mk rows L) (hB : BdE sp b) :
    (∀ x ∈ entA ses b (b + sp) L, (wE x).toInt < (if ses then b.toInt + 1 else b.toInt + sp.toInt)) ∧
    (∀ x ∈ entT ses b (b + sp) L, (if ses then b.toInt + 1 else b.toInt + sp.toInt) ≤ (wE x).toInt ∧ (wB x).toInt < (if ses then b.toInt + sp.toInt else b.toInt + 1)) ∧
    (∀ x ∈ entB ses b (b + sp) L, (if ses then b.toInt + 1 else b.toInt + sp.toInt) ≤ (wE x).toInt ∧ (entT ses b (b + sp) L = [] ∨ ses = true → (if ses then b.toInt + sp.toInt else b.toInt + 1) ≤ (wB x).toInt)) ∧
    (ses = false → (entT ses b (b + sp) L).length ≤ 1) := by
  obtain ⟨b1, b2, b3, b4, b5⟩ := hB
  have eE : (b + sp).toInt = b.toInt + sp.toInt := i32_add (by omega) (by omega)
  have e1 : (b + 1).toInt = b.toInt + 1 := by
    rw [i32_add (by rw [i32_1]; omega) (by rw [i32_1]; omega), i32_1]
  have lim : ((if ses then b + 1 else b + sp : Int32)).toInt = if ses then b.toInt + 1 else b.toInt + sp.toInt := by
    cases ses with
    | true => exact e1
    | false => exact eE
  have hE := h.ends b1
  have rF : ∀ x ∈ entR ses b (b + sp) L, (if ses then b.toInt + 1 else b.toInt + sp.toInt) ≤ (wE x).toInt ∧ x ∈ L := fun x hx => by
    have h1 := dw_false (p := fun w => decide (wE w < if ses then b + 1 else b + sp)) L (hE.imp (fun {x y} hxy hy => by
      have hy := of_decide_eq_true hy
      rw [fa_lt] at hy
      refine decide_eq_true ?_
      rw [fa_lt]
      omega)) x hx
    have h2 := of_decide_eq_false h1
    rw [fa_lt, lim] at h2
    exact ⟨by omega, (List.dropWhile_suffix _).subset hx⟩
  have hR : (entR ses b (b + sp) L).Pairwise (fun x y => (wB x).toInt < (wB y).toInt) := (h.2.imp (fun h => h.1)).sublist (List.dropWhile_suffix _).sublist
  have dB : ∀ c : Int32, ∀ x ∈ (entR ses b (b + sp) L).dropWhile (fun w => decide (wB w < c)), c.toInt ≤ (wB x).toInt := fun c x hx => by
    have h1 := dw_false (p := fun w => decide (wB w < c)) _ (hR.imp (fun {x y} hxy hy => by
      have hy := of_decide_eq_true hy
      rw [fa_lt] at hy
      refine decide_eq_true ?_
      rw [fa_lt]
      omega)) x hx
    have h2 := of_decide_eq_false h1
    rw [fa_lt] at h2
    omega
  have tR : ∀ x ∈ entT ses b (b + sp) L, x ∈ entR ses b (b + sp) L := fun x hx => by
    unfold entT at hx
    split at hx
    · exact (tw_true _ x hx).2
    · exact (tw_true _ x (List.mem_of_mem_take hx)).2
  refine ⟨fun x hx => ?_, fun x hx => ⟨(rF x (tR x hx)).1, ?_⟩, fun x hx => ⟨(rF x (List.mem_of_mem_drop hx)).1, fun hc => ?_⟩, fun hs => ?_⟩
  · have h1 := of_decide_eq_true (tw_true L x hx).1
    rw [fa_lt, lim] at h1
    exact h1
  · unfold entT at hx
    cases ses with
    | true =>
      have h1 := of_decide_eq_true (tw_true _ x hx).1
      rw [fa_lt, eE] at h1
      exact h1
    | false =>
      have h1 := of_decide_eq_true (tw_true _ x (List.mem_of_mem_take hx)).1
      rw [fa_lt, e1] at h1
      exact h1
  · cases ses with
    | true =>
      have hx2 : x ∈ (entR true b (b + sp) L).dropWhile (fun w => decide (wB w < b + sp)) := by
        have e3 : entR true b (b + sp) L = (entR true b (b + sp) L).takeWhile (fun w => decide (wB w < b + sp)) ++ (entR true b (b + sp) L).dropWhile (fun w => decide (wB w < b + sp)) := List.takeWhile_append_dropWhile.symm
        have hx' : x ∈ (entR true b (b + sp) L).drop ((entR true b (b + sp) L).takeWhile (fun w => decide (wB w < b + sp))).length := hx
        rw [e3] at hx'
        rw [← e3] at hx'
        generalize hG : (entR true b (b + sp) L).takeWhile (fun w => decide (wB w < b + sp)) = G at *
        rw [e3, List.drop_left] at hx'
        exact hx'
      have := dB (b + sp) x hx2
      rw [eE] at this
      exact this
    | false =>
      have hT : entT false b (b + sp) L = [] := hc.resolve_right (by decide)
      have hx' : x ∈ (entR false b (b + sp) L).drop (entT false b (b + sp) L).length := hx
      rw [hT] at hx'
      have hx3 : x ∈ entR false b (b + sp) L := hx'
      have hT2 : (entR false b (b + sp) L).takeWhile (fun w => decide (wB w < b + 1)) = [] := by
        have : ((entR false b (b + sp) L).takeWhile (fun w => decide (wB w < b + 1))).take 1 = [] := hT
        match hq : (entR false b (b + sp) L).takeWhile (fun w => decide (wB w < b + 1)), this with
        | [], _ => rfl
      have e3 : entR false b (b + sp) L = (entR false b (b + sp) L).takeWhile (fun w => decide (wB w < b + 1)) ++ (entR false b (b + sp) L).dropWhile (fun w => decide (wB w < b + 1)) := List.takeWhile_append_dropWhile.symm
      rw [hT2, List.nil_append] at e3
      rw [e3] at hx3
      have := dB (b + 1) x hx3
      rw [e1] at this
      exact this
  · subst hs
    unfold entT
    rw [if_neg (by decide), List.length_take]
    omega
end L59
