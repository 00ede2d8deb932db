/-! 52: what enter does, in lists; a whole stage with windows -/
def entA (ses : Bool) (b e : Int32) (L : List Wd) : List Wd := L.takeWhile (fun w => decide (wE w < if ses then b + 1 else e))
def entR (ses : Bool) (b e : Int32) (L : List Wd) : List Wd := L.dropWhile (fun w => decide (wE w < if ses then b + 1 else e))
def entT (ses : Bool) (b e : Int32) (L : List Wd) : List Wd := if ses then (entR ses b e L).takeWhile (fun w => decide (wB w < e)) else ((entR ses b e L).takeWhile (fun w => decide (wB w < b + 1))).take 1
def entB (ses : Bool) (b e : Int32) (L : List Wd) : List Wd := (entR ses b e L).drop (entT ses b e L).length
def bksL (s k : Nat) (rows : List Rw) (T : List Wd) : List Rw := T.flatMap (backOf s k rows)
def jnL (x : Wd) (T : List Wd) : Wd := T.foldl jn1 x
def entX (ses : Bool) (b e : Int32) (v : Int64) (T : List Wd) : Wd :=
  match T with
  | [] => (b, e, none, [v])
  | x :: R => if ses then (mnI (wB (jnL (noR x) R)) b, mxI (wE (jnL (noR x) R)) e, none, v :: wVs (jnL (noR x) R)) else adV x v
def entRw (ses : Bool) (s k : Nat) (rows : List Rw) (T : List Wd) : List Rw := if ses then rows ++ bksL s k rows T else rows
def entG (ses : Bool) (s k : Nat) (rows : List Rw) (T : List Wd) (mk : Int32) (ea : Nat) (x : Wd) : Bool := decide ((ses = true ∧ (bksL s k rows T).length ≠ 0) ∨ wE x ≤ mk ∨ (0 < ea ∧ (wVs x).length % ea = 0))
def entC (ses : Bool) (b e : Int32) (v : Int64) (T : List Wd) : Bool :=
  match T with
  | [] => true
  | x :: _ => ses && !decide (wB (entX ses b e v T) = wB x ∧ wE (entX ses b e v T) = wE x)
/-- the window and the rows, after it is given or not -/
def entW (ses : Bool) (s k how ea : Nat) (mk b e : Int32) (v : Int64) (L : List Wd) (rows : List Rw) : Wd × List Rw :=
  finW s k how (entG ses s k rows (entT ses b e L) mk ea (entX ses b e v (entT ses b e L)) = true) (entRw ses s k rows (entT ses b e L)) (entX ses b e v (entT ses b e L))
def entLn (ses : Bool) (s k how ea : Nat) (mk b e : Int32) (v : Int64) (L : List Wd) (rows : List Rw) : List Wd := entA ses b e L ++ (entW ses s k how ea mk b e v L rows).1 :: entB ses b e L
/-- the rows left, after it -/
def entF (ses : Bool) (s k ea : Nat) (mk b e : Int32) (v : Int64) (L : List Wd) (rows : List Rw) (n : Int32) : Int32 :=
  finL s k (entG ses s k rows (entT ses b e L) mk ea (entX ses b e v (entT ses b e L)) = true) (entRw ses s k rows (entT ses b e L)) (entX ses b e v (entT ses b e L)) (if ses then n - nI (bksL s k rows (entT ses b e L)).length else n)
theorem finW_iff {s k how : Nat} {gv gw : Prop} [Decidable gv] [Decidable gw] {rows : List Rw} {x : Wd} (h : gv ↔ gw) : finW s k how gv rows x = finW s k how gw rows x := by
  unfold finW
  by_cases hg : gv
  · rw [if_pos hg, if_pos (h.mp hg)]
  · rw [if_neg hg, if_neg (fun q => hg (h.mpr q))]
theorem finL_iff {s k : Nat} {gv gw : Prop} [Decidable gv] [Decidable gw] {rows : List Rw} {x : Wd} {n : Int32} (h : gv ↔ gw) : finL s k gv rows x n = finL s k gw rows x n := by
  unfold finL
  by_cases hg : gv
  · rw [if_pos hg, if_pos (h.mp hg)]
  · rw [if_neg hg, if_neg (fun q => hg (h.mpr q))]
theorem dueA_iff {ch cw : Prop} [Decidable ch] [Decidable cw] {mk b e : Int32} {k : Nat} {D : List Int64} (h : ch ↔ cw) : dueA ch mk k b e D = dueA cw mk k b e D := by
  unfold dueA
  by_cases hg : ch ∧ mk < e
  · rw [if_pos hg, if_pos ⟨h.mp hg.1, hg.2⟩]
  · rw [if_neg hg, if_neg (fun q => hg ⟨h.mpr q.1, q.2⟩)]
theorem pasA_iff {ch cw : Prop} [Decidable ch] [Decidable cw] {mk b e : Int32} {k : Nat} {D : List Int64} (h : ch ↔ cw) : pasA ch mk k b e D = pasA cw mk k b e D := by
  unfold pasA
  by_cases hg : ch ∧ ¬ mk < e
  · rw [if_pos hg, if_pos ⟨h.mp hg.1, hg.2⟩]
  · rw [if_neg hg, if_neg (fun q => hg ⟨h.mpr q.1, q.2⟩)]
theorem tw_eq {α : Type} {p : α → Bool} : ∀ (l : List α) (j : Nat), (∀ (i : Nat) (x : α), i < j → l[i]? = some x → p x = true) → (∀ (i : Nat) (x : α), j ≤ i → l[i]? = some x → p x = false) → j ≤ l.length → l.takeWhile p = l.take j ∧ l.dropWhile p = l.drop j
  | [], j, _, _, _ => by simp
  | x :: l, 0, _, h2, _ => by
    have := h2 0 x (Nat.le_refl _) rfl
    simp [this]
  | x :: l, j + 1, h1, h2, hj => by
    have hx := h1 0 x (Nat.succ_pos _) rfl
    have ih := tw_eq l j (fun i y hi hy => h1 (i + 1) y (by omega) (by simpa using hy)) (fun i y hi hy => h2 (i + 1) y (by omega) (by simpa using hy)) (by simpa using hj)
    simp [hx, ih.1, ih.2]
theorem bks_map (s k : Nat) (rows : List Rw) (R : Zw) : bks s k rows R = bksL s k rows (R.map (·.2)) := by
  unfold bks bksL
  rw [List.flatMap_map]
theorem jnR_map (x : Wd) (R : Zw) : jnR x R = jnL x (R.map (·.2)) := by
  unfold jnR jnL
  rw [List.foldl_map]
def LaneO (g : Gl) (h : Hp) (ow : Nat → Nat) (s k how c : Nat) (o : Option Nat) (L : List Wd) (sl ce : Nat) : Prop :=
  (o = none ∧ L = [] ∧ sl = 0 ∧ ce = 0) ∨ ∃ la al e Z, o = some la ∧ LaneS g h ow (tg s k) how k la al e Z ∧ L = Z.map (·.2) ∧ fI h 28 la = nI (cntR Z) ∧ LCost h e c Z sl ce
def WgL (g : Gl) (h : Hp) (ow : Nat → Nat) (s A how c : Nat) (ln : Nat → List Wd) (ac : Nat → Nat × Nat) : Prop := ∀ k, k < 1000 → LaneO g h ow s k how c (aP h A k) (ln k) (ac k).1 (ac k).2
/-- a stage with windows: lanes, the log, the slots that wait and that are passed; their accounts -/
def WG (g : Gl) (h : Hp) (ow : Nat → Nat) (s p lg A q1 q2 how c : Nat) (ln : Nat → List Wd) (ac : Nat → Nat × Nat) (rows : List Rw) (D1 D2 : List Int64) (s1 c1 b1 s2 c2 b2 : Nat) : Prop :=
  WgC h ow s p lg A q1 q2 ∧ fI h 20 p = nI how ∧ WgL g h ow s A how c ln ac ∧ LogV h ow lg rows ∧ HpL h ow (tD s) q1 D1 s1 c1 b1 ∧ HpL h ow (tQ s) q2 D2 s2 c2 b2 ∧ Gd g h ow
section L52
variable {g : Gl} {h : Hp} {ow : Nat → Nat} {s p lg A q1 q2 how c k : Nat} {rows : List Rw}
theorem LaneO.fr {h' : Hp} {ow' : Nat → Nat} {S : Nat → Prop} {o : Option Nat} {L : List Wd} {sl ce : Nat} (x : LaneO g h ow s k how c o L sl ce) (gd : Gd g h ow) (f : Fr ow ow' S h h') (hT : ¬ S (tg s k)) (h0 : ¬ S 0) : LaneO g h' ow' s k how c o L sl ce := by
  rcases x with x | ⟨la, al, e, Z, x1, x2, x3, x4, x5⟩
  · exact Or.inl x
  · have sl := f.2.2 la (gd.1 la (by rw [x2.1.1]; decide)) (by rw [x2.2.1]; exact hT)
    exact Or.inr ⟨la, al, e, Z, x1, x2.fr gd f hT h0, x3, (sl.2.2.1 28).trans x4, x5.fr x2 gd f hT h0⟩
theorem WgL.one {h' : Hp} {ow' : Nat → Nat} {S : Nat → Prop} {ln : Nat → List Wd} {ac : Nat → Nat × Nat} {L : List Wd} {sl ce : Nat} (x : WgL g h ow s A how c ln ac) (gd : Gd g h ow) (f : Fr ow ow' S h h') (hT : ∀ j, j < 1000 → j ≠ k → ¬ S (tg s j)) (h0 : ¬ S 0) (hA : ∀ j, j ≠ k → aP h' A j = aP h A j) (y : LaneO g h' ow' s k how c (aP h' A k) L sl ce) : WgL g h' ow' s A how c (upR ln k L) (upR ac k (sl, ce)) := by
  intro j hj
  by_cases e : j = k
  · subst e
    rw [show upR ln j L j = L from if_pos rfl, show upR ac j (sl, ce) j = (sl, ce) from if_pos rfl]
    exact y
  · rw [show upR ln k L j = ln j from if_neg e, show upR ac k (sl, ce) j = ac j from if_neg e, hA j e]
    exact (x j hj).fr gd f (hT j hj e) h0
theorem WgL.fr {h' : Hp} {ow' : Nat → Nat} {S : Nat → Prop} {ln : Nat → List Wd} {ac : Nat → Nat × Nat} (x : WgL g h ow s A how c ln ac) (gd : Gd g h ow) (f : Fr ow ow' S h h') (hT : ∀ j, j < 1000 → ¬ S (tg s j)) (h0 : ¬ S 0) (hA : aP h' A = aP h A) : WgL g h' ow' s A how c ln ac := fun j hj => by
  rw [hA]
  exact (x j hj).fr gd f (hT j hj) h0
theorem LnF.laneO {la al e : Nat} {Z : Zw} {sl ce : Nat} (hF : LnF g h ow s p lg A q1 q2 how c k la al e Z sl ce rows) : LaneO g h ow s k how c (aP h A k) (Z.map (·.2)) sl ce :=
  Or.inr ⟨la, al, e, Z, hF.2.2.1, hF.2.2.2.1, rfl, hF.2.2.2.2.1, hF.2.2.2.2.2.1⟩
end L52
