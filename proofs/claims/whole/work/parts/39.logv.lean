/-! 39: the log as a list of rows -/
def tL : Nat := 100000
def rcode (r : Rw) : Int64 := if r.1 = true then cPut (cSlot (nI r.2.2.1) r.2.2.2.1 r.2.2.2.2.1) (nI r.2.1) ||| 1 else cPut (cSlot (nI r.2.2.1) r.2.2.2.1 r.2.2.2.2.1) (nI r.2.1)
def lgS (n : Nat) : Nat := 2048 * ((n + 1023) / 1024)
def lgZ (n : Nat) : Nat := 2 * ((n + 1023) / 1024)
def LogV (h : Hp) (ow : Nat → Nat) (lg : Nat) (rows : List Rw) : Prop :=
  ∃ C S cb sb, LGv h lg C S rows.length cb sb ∧ ow lg = tL ∧ ow C = tL ∧ ow S = tL ∧ (∀ b, b * 1024 < rows.length → ow (cb b) = tL ∧ ow (sb b) = tL) ∧ ∀ (i : Nat) (r : Rw), rows[i]? = some r → lgR h cb i = rcode r ∧ lgR h sb i = rSum r
section L39
variable {g : Gl} {d : Nat} {h : Hp} {Q : Option Value → Hp → Prop} {ow : Nat → Nat}
theorem LogV.kd {lg : Nat} {rows : List Rw} (x : LogV h ow lg rows) : hK h lg = 4 ∧ fI h 33 lg = nI rows.length ∧ ow lg = tL ∧ rows.length ≤ 192512 := by
  obtain ⟨C, S, cb, sb, l, o, _⟩ := x
  exact ⟨l.1, l.2.2.2.2.2.2.2.2.1, o, l.2.2.2.2.2.2.2.2.2.1⟩
theorem LogV.fr {h' : Hp} {ow' : Nat → Nat} {P : Nat → Prop} {lg : Nat} {rows : List Rw} (x : LogV h ow lg rows) (wf : Wf h) (f : Fr ow ow' P h h') (hT : ¬ P tL) : LogV h' ow' lg rows := by
  obtain ⟨C, S, cb, sb, ⟨l1, l2, l3, l4, l5, l6, l7, l8, l9, l10, l11, l12⟩, o1, o2, o3, o4, rw⟩ := x
  have sm : ∀ a, hK h a ≠ 0 → ow a = tL → sameAt h h' a ∧ a < hz h := fun a ha e => ⟨f.2.2 a (wf a ha) (e ▸ hT), wf a ha⟩
  have sl := sm lg (by rw [l1]; decide) o1
  have sC := sm C (by rw [l4]; decide) o2
  have sS := sm S (by rw [l6]; decide) o3
  have bk : ∀ b, b * 1024 < rows.length → hK h (cb b) = 22 ∧ hN h (cb b) = 1024 ∧ hK h (sb b) = 22 ∧ hN h (sb b) = 1024 := fun b hb => by
    have := l11 b (by omega)
    unfold LGb at this
    rw [if_pos hb] at this
    exact this.2.2
  have sb1 : ∀ b, b * 1024 < rows.length → (sameAt h h' (cb b) ∧ cb b < hz h) ∧ (sameAt h h' (sb b) ∧ sb b < hz h) := fun b hb => ⟨sm _ (by rw [(bk b hb).1]; decide) (o4 b hb).1, sm _ (by rw [(bk b hb).2.2.1]; decide) (o4 b hb).2⟩
  refine ⟨C, S, cb, sb, ⟨sl.1.1.trans l1, (sl.1.2.2.2.2.1 31).trans l2, (sl.1.2.2.2.2.1 32).trans l3, sC.1.1.trans l4, sC.1.2.1.trans l5, sS.1.1.trans l6, sS.1.2.1.trans l7, l8, (sl.1.2.2.1 33).trans l9, l10, fun b hb => ?_, l12⟩, (f.2.1 lg sl.2).trans o1, (f.2.1 C sC.2).trans o2, (f.2.1 S sS.2).trans o3, fun b hb => ?_, fun i r hi => ?_⟩
  · have h1 := l11 b hb
    unfold LGb at h1 ⊢
    rw [sC.1.2.2.2.2.2.2.2, sS.1.2.2.2.2.2.2.2]
    split
    · rename_i hlt
      rw [if_pos hlt] at h1
      have s1 := sb1 b hlt
      rw [s1.1.1.1, s1.1.1.2.1, s1.2.1.1, s1.2.1.2.1]
      exact h1
    · rename_i hlt
      rw [if_neg hlt] at h1
      exact h1
  · have s1 := sb1 b hb
    rw [f.2.1 _ s1.1.2, f.2.1 _ s1.2.2]
    exact o4 b hb
  · have hlt : i < rows.length := (List.getElem?_eq_some_iff.mp hi).1
    have s1 := sb1 (i / 1024) (by omega)
    have := rw i r hi
    unfold lgR at this ⊢
    rw [s1.1.1.2.2.2.2.2.2.1, s1.2.1.2.2.2.2.2.2.1]
    exact this
theorem k_logAddV {lg : Nat} {rows : List Rw} {r : Rw} {x y : Int64} (hL : LogV h ow lg rows) (wf : Wf h) (hn : rows.length < 192512) (hx : x = rcode r) (hy : y = rSum r)
    (hQ : ∀ h', LogV h' (owX ow h tL) lg (rows ++ [r]) → Fr ow (owX ow h tL) (fun t => t = tL) h h' → Wf h' → hs h' + lgS rows.length ≤ hs h + lgS (rows.length + 1) → hz h' + lgZ rows.length ≤ hz h + lgZ (rows.length + 1) → Q (some (.int (nI rows.length))) h') : Call g mX3_add (d + 1) [.ref lg, .long x, .long y] h Q := by
  obtain ⟨C, S, cb, sb, l, o1, o2, o3, o4, rw⟩ := hL
  have wlt : ∀ a, hK h a ≠ 0 → a < hz h := wf
  have l1 := l.1
  have l4 := l.2.2.2.1
  have l6 := l.2.2.2.2.2.1
  have l11 := l.2.2.2.2.2.2.2.2.2.2.1
  have bk : ∀ b, b * 1024 < rows.length → hK h (cb b) = 22 ∧ hK h (sb b) = 22 := fun b hb => by
    have := l11 b (by omega)
    unfold LGb at this
    rw [if_pos hb] at this
    exact ⟨this.2.2.1, this.2.2.2.2.1⟩
  refine k_logAdd l wf hn (fun h' cb' sb' t1 t2 t3 t4 t5 t6 t7 t8 => ?_)
  have ho : ∀ a, hK h a ≠ 0 → owX ow h tL a = ow a := fun a ha => if_pos (wf a ha)
  refine hQ h' ⟨C, S, cb', sb', by rw [List.length_append]; exact t1, (ho lg (by rw [l1]; decide)).trans o1, (ho C (by rw [l4]; decide)).trans o2, (ho S (by rw [l6]; decide)).trans o3, fun b hb => ?_, fun i r' hi => ?_⟩ (Fr.of t5 (fun a ha hc => ?_)) t6 ?_ ?_
  · rw [List.length_append, List.length_singleton] at hb
    by_cases hlt : b * 1024 < rows.length
    · rw [(t7 b hlt).1, (t7 b hlt).2, ho _ (by rw [(bk b hlt).1]; decide), ho _ (by rw [(bk b hlt).2]; decide)]
      exact o4 b hlt
    · rcases t8 with ⟨e, _⟩ | ⟨e0, _, _, e1, e2⟩
      · omega
      · have : b = rows.length / 1024 := by omega
        rw [this, e1, e2]
        exact ⟨if_neg (Nat.lt_irrefl _), if_neg (by omega)⟩
  · by_cases hlt : i < rows.length
    · rw [List.getElem?_append_left hlt] at hi
      rw [(t2 i hlt).1, (t2 i hlt).2]
      exact rw i r' hi
    · have h1 := (List.getElem?_eq_some_iff.mp hi).1
      rw [List.length_append, List.length_singleton] at h1
      have e : i = rows.length := by omega
      subst e
      rw [List.getElem?_append_right (Nat.le_refl _), Nat.sub_self] at hi
      cases hi
      exact ⟨t3.trans hx, t4.trans hy⟩
  · rcases hc with e | e | e | ⟨b, hb, e | e⟩
    · exact e ▸ o1
    · exact e ▸ o2
    · exact e ▸ o3
    · exact e ▸ (o4 b hb).1
    · exact e ▸ (o4 b hb).2
  · unfold lgS
    rcases t8 with ⟨e, _, e1⟩ | ⟨e, _, e1, _⟩
    · have : (rows.length + 1 + 1023) / 1024 = (rows.length + 1023) / 1024 := by omega
      rw [this]
      omega
    · have : (rows.length + 1 + 1023) / 1024 = (rows.length + 1023) / 1024 + 1 := by omega
      rw [this]
      omega
  · unfold lgZ
    rcases t8 with ⟨e, e1, _⟩ | ⟨e, e1, _, _⟩
    · have : (rows.length + 1 + 1023) / 1024 = (rows.length + 1023) / 1024 := by omega
      rw [this]
      omega
    · have : (rows.length + 1 + 1023) / 1024 = (rows.length + 1023) / 1024 + 1 := by omega
      rw [this]
      omega
theorem k_codeV {lg j : Nat} {rows : List Rw} {r : Rw} (hL : LogV h ow lg rows) (hj : rows[j]? = some r) (hQ : Q (some (.long (rcode r))) h) : Call g mX3_codeAt (d + 1) [.ref lg, .int (nI j)] h Q := by
  obtain ⟨C, S, cb, sb, l, o1, o2, o3, o4, rw⟩ := hL
  refine k_codeAt l (fun v h1 _ => ?_)
  rw [h1 j rfl (List.getElem?_eq_some_iff.mp hj).1, (rw j r hj).1]
  exact hQ
theorem k_sumV {lg j : Nat} {rows : List Rw} {r : Rw} (hL : LogV h ow lg rows) (hj : rows[j]? = some r) (hQ : Q (some (.long (rSum r))) h) : Call g mX3_sumAt (d + 1) [.ref lg, .int (nI j)] h Q := by
  obtain ⟨C, S, cb, sb, l, o1, o2, o3, o4, rw⟩ := hL
  refine k_sumAt l (fun v h1 _ => ?_)
  rw [h1 j rfl (List.getElem?_eq_some_iff.mp hj).1, (rw j r hj).2]
  exact hQ
theorem k_sumN {lg : Nat} {i : Int32} {rows : List Rw} (hL : LogV h ow lg rows) (hi : ¬ (0 ≤ i ∧ i < nI rows.length)) (hQ : Q (some (.long 0)) h) : Call g mX3_sumAt (d + 1) [.ref lg, .int i] h Q := by
  obtain ⟨C, S, cb, sb, l, o1, o2, o3, o4, rw⟩ := hL
  refine k_sumAt l (fun v _ h2 => ?_)
  rw [h2 hi]
  exact hQ
end L39
