/-! 20: heaps as mathematics -/
def HO (r : Nat → Int64) (n : Nat) : Prop := ∀ i, 0 < i → i < n → r ((i - 1) / 2) ≤ r i
theorem HO.root {r : Nat → Int64} {n : Nat} (h : HO r n) : ∀ i, i < n → r 0 ≤ r i := by
  intro i
  induction i using Nat.strongRecOn with
  | ind i ih =>
    intro hi
    by_cases h0 : i = 0
    · rw [h0]
      exact Int64.le_refl _
    · exact Int64.le_trans (ih ((i - 1) / 2) (by omega) (by omega)) (h i (by omega) hi)
def ctL (r : Nat → Int64) (n : Nat) (x : Int64) : Nat := fb_ct (fun k => decide (r k = x)) n
theorem ctL_upd (r : Nat → Int64) (v x : Int64) {i n : Nat} (hi : i < n) : ctL (vp_updL r i v) n x + (if r i = x then 1 else 0) = ctL r n x + (if v = x then 1 else 0) := by
  have h := fb_ct_upd (fun k => decide (r k = x)) (decide (v = x)) hi
  have e : (fun k => decide (vp_updL r i v k = x)) = (fun k => if k = i then decide (v = x) else decide (r k = x)) := by
    funext k
    by_cases hk : k = i <;> simp [vp_updL, hk]
  unfold ctL
  rw [e]
  simpa using h
theorem ctL_out (r : Nat → Int64) (v x : Int64) {i n : Nat} (hi : n ≤ i) : ctL (vp_updL r i v) n x = ctL r n x := by
  unfold ctL
  refine fb_ct_cong (fun k hk => ?_)
  simp [vp_updL, show k ≠ i by omega]
theorem ctL_cong {r r2 : Nat → Int64} {n : Nat} (h : ∀ k, k < n → r k = r2 k) (x : Int64) : ctL r n x = ctL r2 n x := by
  unfold ctL
  exact fb_ct_cong (fun k hk => by rw [h k hk])
theorem ctL_succ (r : Nat → Int64) (n : Nat) (x : Int64) : ctL r (n + 1) x = ctL r n x + (if r n = x then 1 else 0) := by
  unfold ctL
  rw [fb_ct_succ]
  simp
def swp (r : Nat → Int64) (i j : Nat) : Nat → Int64 := vp_updL (vp_updL r i (r j)) j (r i)
theorem swp_at (r : Nat → Int64) (i j k : Nat) : swp r i j k = if k = j then r i else if k = i then r j else r k := rfl
theorem ctL_swp (r : Nat → Int64) {i j n : Nat} (hi : i < n) (hj : j < n) (hij : i ≠ j) (x : Int64) : ctL (swp r i j) n x = ctL r n x := by
  have h1 := ctL_upd r (r j) x hi
  have h2 := ctL_upd (vp_updL r i (r j)) (r i) x hj
  have e : vp_updL r i (r j) j = r j := pk_uLn (Ne.symm hij)
  rw [e] at h2
  unfold swp
  omega
def UpI (r : Nat → Int64) (n a : Nat) : Prop := (∀ i, 0 < i → i < n → i ≠ a → r ((i - 1) / 2) ≤ r i) ∧ ∀ i, 0 < i → i < n → (i - 1) / 2 = a → 0 < a → r ((a - 1) / 2) ≤ r i
theorem UpI.done {r : Nat → Int64} {n a : Nat} (h : UpI r n a) (he : a = 0 ∨ r ((a - 1) / 2) ≤ r a) : HO r n := by
  intro i h0 hi
  by_cases e : i = a
  · rw [e]
    exact he.resolve_left (by omega)
  · exact h.1 i h0 hi e
theorem UpI.step {r : Nat → Int64} {n a : Nat} (h : UpI r n a) (h0 : 0 < a) (hn : a < n) (hl : r a < r ((a - 1) / 2)) : UpI (swp r a ((a - 1) / 2)) n ((a - 1) / 2) := by
  obtain ⟨h1, h2⟩ := h
  generalize hp : (a - 1) / 2 = p at *
  have hpa : p ≠ a := by omega
  refine ⟨fun i i0 hi hne => ?_, fun i i0 hi hpi p0 => ?_⟩
  · rw [swp_at, swp_at, if_neg hne]
    by_cases e1 : i = a
    · subst e1
      rw [if_pos rfl, hp, if_pos rfl]
      exact Int64.le_of_lt hl
    · rw [if_neg e1]
      by_cases e2 : (i - 1) / 2 = p
      · rw [if_pos e2]
        have := h1 i i0 hi e1
        rw [e2] at this
        exact Int64.le_trans (Int64.le_of_lt hl) this
      · rw [if_neg e2]
        by_cases e3 : (i - 1) / 2 = a
        · rw [if_pos e3]
          exact h2 i i0 hi e3 h0
        · rw [if_neg e3]
          exact h1 i i0 hi e1
  · have q1 : (p - 1) / 2 ≠ p := by omega
    have q2 : (p - 1) / 2 ≠ a := by omega
    rw [swp_at, swp_at, if_neg q1, if_neg q2]
    have hpp := h1 p p0 (by omega) hpa
    have hip : i ≠ p := by omega
    rw [if_neg hip]
    by_cases e1 : i = a
    · rw [if_pos e1]
      exact hpp
    · rw [if_neg e1]
      have := h1 i i0 hi e1
      rw [hpi] at this
      exact Int64.le_trans hpp this
def DnI (r : Nat → Int64) (n a : Nat) : Prop := (∀ i, 0 < i → i < n → (i - 1) / 2 ≠ a → r ((i - 1) / 2) ≤ r i) ∧ ∀ i, 0 < i → i < n → (i - 1) / 2 = a → 0 < a → r ((a - 1) / 2) ≤ r i
theorem DnI.done {r : Nat → Int64} {n a : Nat} (h : DnI r n a) (he : ∀ i, 0 < i → i < n → (i - 1) / 2 = a → r a ≤ r i) : HO r n := by
  intro i h0 hi
  by_cases e : (i - 1) / 2 = a
  · rw [e]
    exact he i h0 hi e
  · exact h.1 i h0 hi e
theorem DnI.step {r : Nat → Int64} {n a c : Nat} (h : DnI r n a) (hc : (c - 1) / 2 = a) (c0 : 0 < c) (hn : c < n) (hm : ∀ i, 0 < i → i < n → (i - 1) / 2 = a → r c ≤ r i) (hl : r c < r a) : DnI (swp r a c) n c := by
  obtain ⟨h1, h2⟩ := h
  have hca : c ≠ a := by omega
  refine ⟨fun i i0 hi hne => ?_, fun i i0 hi hpi p0 => ?_⟩
  · rw [swp_at, swp_at, if_neg hne]
    by_cases e1 : (i - 1) / 2 = a
    · rw [if_pos e1]
      by_cases e2 : i = c
      · rw [if_pos e2]
        exact Int64.le_of_lt hl
      · rw [if_neg e2, if_neg (by omega)]
        exact hm i i0 hi e1
    · rw [if_neg e1]
      have hic : i ≠ c := fun e => e1 (by rw [e]; exact hc)
      rw [if_neg hic]
      by_cases e3 : i = a
      · subst e3
        rw [if_pos rfl]
        exact h2 c c0 hn hc i0
      · rw [if_neg e3]
        exact h1 i i0 hi e1
  · rw [swp_at, swp_at, hc, if_neg (Ne.symm hca), if_pos rfl]
    rw [if_neg (by omega), if_neg (by omega)]
    have := h1 i i0 hi (by omega)
    rw [hpi] at this
    exact this
/-- what a heap holds, as a list -/
def hpl (r : Nat → Int64) (n : Nat) : List Int64 := (List.range n).map r
theorem hpl_count (r : Nat → Int64) (n : Nat) (x : Int64) : (hpl r n).count x = ctL r n x := by
  induction n with
  | zero => rfl
  | succ n ih =>
    unfold hpl at ih ⊢
    rw [List.range_succ, List.map_append, List.count_append, ih, ctL_succ]
    simp [List.count_cons, List.count_nil]
