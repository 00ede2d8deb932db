/-! 95: WindowMill: settleMarks, a stage's idleness and its sources -/
abbrev yRise : MethodName := ⟨"WindowMill$Stage", "rise", "(I)V"⟩
theorem ws_rise8 : ∀ w ∈ va_wsU RX9 217 RX8 yRise.cls yRise yX8_rise [], w ∈ tb := by
  intro w hw
  unfold va_wsU at hw
  rw [List.append_nil] at hw
  simp only [List.mem_cons, List.not_mem_nil, or_false] at hw
  rcases hw with e | e | e | e | e <;> subst e
  · exact ml_X9_217
  · exact tm 326 (by decide +kernel) rfl
  · exact tm 330 (by decide +kernel) rfl
  · exact tm 331 (by decide +kernel) rfl
  · exact tm 53 (by decide +kernel) rfl
theorem ws_rise4 : ∀ w ∈ va_wsU RX9 217 RX4 yRise.cls yRise yX4_rise [], w ∈ tb := by
  intro w hw
  unfold va_wsU at hw
  rw [List.append_nil] at hw
  simp only [List.mem_cons, List.not_mem_nil, or_false] at hw
  rcases hw with e | e | e | e | e <;> subst e
  · exact ml_X9_217
  · exact tm 326 (by decide +kernel) rfl
  · exact tm 327 (by decide +kernel) rfl
  · exact tm 328 (by decide +kernel) rfl
  · exact tm 56 (by decide +kernel) rfl
theorem de_rise : Cond.declares ⟨yRise.cls, yRise.name, yRise.desc⟩ ∈ tbN := tmN 325 (by decide +kernel) rfl
theorem upR_id {α : Type} (f : Nat → α) (i : Nat) : upR f i (f i) = f := funext fun j => by
  unfold upR
  split
  · rename_i e
    rw [e]
  · rfl
section L95
variable {g : Gl} {d : Nat} {h : Hp} {ow us uz : Nat → Nat} {c lg SA ST WY s : Nat} {po sp : Nat → Nat} {X : Sg} {u : Int32}
theorem StV.set2 {p US UZ : Nat} {S : Stg} {rows : List Rw} (hV : StV g h ow s p lg S rows US UZ) (hs6 : s < 16) : StV g (sFI h 2 p u) ow s p lg (sgI S 2 u) rows US UZ ∧ Fr ow ow (fun t => t = tP s) h (sFI h 2 p u) := by
  have ht := hV.tag
  have hV0 := hV
  obtain ⟨⟨a1, a2, a3, a4, a5⟩, hV2⟩ := hV
  have frP : Fr ow ow (fun t => t = tP s) h (sFI h 2 p u) := Fr.of0 (P := fun a => a = p) (Smo_sFI rfl) (fun a _ e => by rw [e]; exact ht.1)
  refine ⟨?_, frP⟩
  rcases hV2 with ⟨b1, b2, b3, A, q1, q2, w⟩ | ⟨b1, b2, b3, b4, b5, b6, b7, b8, b9, b10, b11⟩
  · exact ⟨⟨(fi_ne _ _ _ _ (by decide)).trans a1, fi_eq _ _ _ _, (fi_ne _ _ _ _ (by decide)).trans a3, (fi_ne _ _ _ _ (by decide)).trans a4, (fi_ne _ _ _ _ (by decide)).trans a5⟩, Or.inl ⟨b1, b2, b3, A, q1, q2, (w.set (u := u) hs6 (Or.inl rfl)).1⟩⟩
  · exact stv_cell hV0 b1 rfl b1 ((fi_ne _ _ _ _ (by decide)).trans a1) (fi_eq _ _ _ _) ((fi_ne _ _ _ _ (by decide)).trans a3) ((fi_ne _ _ _ _ (by decide)).trans a4) ((fi_ne _ _ _ _ (by decide)).trans a5) ((fi_ne _ _ _ _ (by decide)).trans b4) ((fi_ne _ _ _ _ (by decide)).trans b5) ((fi_ne _ _ _ _ (by decide)).trans b6) ((fi_ne _ _ _ _ (by decide)).trans b7) ((fi_ne _ _ _ _ (by decide)).trans b8) b9
theorem tP_SS (s t : Nat) (e : t = tP s) : SS s t := Or.inl (by rw [e]; unfold tP; omega)
theorem MV.set2 (hM : MV g h ow c lg SA ST WY po sp X us uz) (hs : s < xM X) : MV g (sFI h 2 (sp s) u) ow c lg SA ST WY po sp (xSet X s (sgI (xS X s) 2 u) (xR X)) us uz ∧ Fr ow ow CS h (sFI h 2 (sp s) u) := by
  have h16 : xM X ≤ 16 := hM.2.2.2.2.1
  have gd := hM.2.2.2.2.2.2
  obtain ⟨hV, fr⟩ := (hM.st hs).set2 (u := u) (by omega)
  have hL : LogV (sFI h 2 (sp s) u) ow lg (xR X) := hM.2.2.2.2.2.1.fr gd.1 fr (by unfold tL tP; omega)
  have fr2 := fr.mono (tP_SS s)
  have := hM.stage hs fr2 (Wf_same rfl rfl gd.1) hV hL ⟨[], (List.append_nil _).symm⟩
  rw [upR_id, upR_id] at this
  exact ⟨this, fr2.mono (fun t ht => SS_CS (by omega) ht)⟩
/-- a source: where it is, its mark and idleness -/
theorem MV.src {f : Nat} (hM : MV g h ow c lg SA ST WY po sp X us uz) (hf : f < 8 + xM X) : ∃ a, aP h SA f = some a ∧ (hK h a = 6 ∨ hK h a = 5 ∨ hK h a = 8) ∧ fI h 1 a = srcM X f ∧ fI h 2 a = srcI X f := by
  have h16 : xM X ≤ 16 := hM.2.2.2.2.1
  unfold srcM srcI
  by_cases h8 : f < 8
  · obtain ⟨p1, p2, p3, p4, p5⟩ := hM.2.2.1 f h8
    rw [if_pos h8, if_pos h8]
    exact ⟨po f, p1, Or.inl p2, p4, p5⟩
  · obtain ⟨t, rfl⟩ : ∃ t, f = 8 + t := ⟨f - 8, by omega⟩
    have hS := hM.st (show t < xM X by omega)
    have hp := ((hM.2.2.2.1 t (by omega)).1 (by omega)).2.1
    rw [if_neg h8, if_neg h8, show 8 + t - 8 = t by omega]
    exact ⟨sp t, hp, Or.inr hS.tag.2, hS.1.1, hS.1.2.1⟩
/-- the sources that wake stage s, among the first j -/
def wkP (X : Sg) (s f : Nat) : Bool := gF (xS X s) f && decide (srcI X f = 0)
def wkL (X : Sg) (s j : Nat) : List Nat := (List.range j).filter (wkP X s)
def idl (X : Sg) (s j : Nat) : Int32 := if wkL X s j = [] then 1 else 0
def lst (X : Sg) (s j : Nat) : Int32 := (wkL X s j).foldl (fun m f => mnI m (srcM X f)) 200000
theorem wkL_succ (X : Sg) (s j : Nat) : wkL X s (j + 1) = wkL X s j ++ if wkP X s j then [j] else [] := by
  unfold wkL
  rw [List.range_succ, List.filter_append]
  congr 1
  by_cases h : wkP X s j = true
  · rw [if_pos h]
    simp [h]
  · rw [if_neg h]
    simp [h]
theorem wkL_more (X : Sg) (s j : Nat) (hj : ∀ f, j ≤ f → gF (xS X s) f = false) : ∀ n, wkL X s (j + n) = wkL X s j := by
  intro n
  induction n with
  | zero => rfl
  | succ n ih =>
    rw [← Nat.add_assoc, wkL_succ, ih]
    have : wkP X s (j + n) = false := by
      unfold wkP
      rw [hj _ (by omega)]
      rfl
    rw [this]
    simp
theorem lst_le (X : Sg) (s j : Nat) : (lst X s j).toInt ≤ 200000 := by
  unfold lst
  have key : ∀ (l : List Nat) (m : Int32), m.toInt ≤ 200000 → (l.foldl (fun m f => mnI m (srcM X f)) m).toInt ≤ 200000 := by
    intro l
    induction l with
    | nil => exact fun m h => h
    | cons f l ih =>
      intro m h
      rw [List.foldl_cons]
      refine ih _ ?_
      rw [mnI_int]
      omega
  exact key _ _ (by decide)
end L95
