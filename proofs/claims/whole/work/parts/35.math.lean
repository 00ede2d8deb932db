/-- a window: begin, end, the number of its row, its values -/
abbrev Wd : Type := Int32 × Int32 × Option Nat × List Int64
def wB (w : Wd) : Int32 := w.1
def wE (w : Wd) : Int32 := w.2.1
def wR (w : Wd) : Option Nat := w.2.2.1
def wVs (w : Wd) : List Int64 := w.2.2.2
/-- a row: back, stage, key, begin, end, sum -/
abbrev Rw : Type := Bool × Nat × Nat × Int32 × Int32 × Int64
def rSum (r : Rw) : Int64 := r.2.2.2.2.2
def ins64 (x : Int64) : List Int64 → List Int64
  | [] => [x]
  | y :: ys => if x ≤ y then x :: y :: ys else y :: ins64 x ys
def srt : List Int64 → List Int64
  | [] => []
  | x :: xs => ins64 x (srt xs)
def dd : List Int64 → List Int64
  | [] => []
  | x :: xs => if xs.head? = some x then dd xs else x :: dd xs
def sm64 (vs : List Int64) : Int64 := vs.foldr (· + ·) 0
def ansV (how : Nat) (vs : List Int64) : Int64 :=
  if how = 0 then lN vs.length else if how = 1 then sm64 vs else if how = 2 then (srt vs).head?.getD 0 else if how = 3 then (srt vs).getLast?.getD 0 else if how = 4 then lN (dd (srt vs)).length else ((srt vs)[(vs.length - 1) / 2]?).getD 0
theorem ins64_perm (x : Int64) : ∀ ys : List Int64, (ins64 x ys).Perm (x :: ys)
  | [] => List.Perm.refl _
  | y :: ys => by
    unfold ins64
    split
    · exact List.Perm.refl _
    · exact ((ins64_perm x ys).cons y).trans (List.Perm.swap x y ys)
theorem srt_perm : ∀ vs : List Int64, (srt vs).Perm vs
  | [] => List.Perm.refl _
  | x :: xs => (ins64_perm x (srt xs)).trans ((srt_perm xs).cons x)
theorem le_total64 (x y : Int64) (h : ¬ x ≤ y) : y ≤ x := by
  rw [Int64.le_iff_toInt_le] at *
  omega
theorem ins64_sorted (x : Int64) : ∀ ys : List Int64, ys.Pairwise (· ≤ ·) → (ins64 x ys).Pairwise (· ≤ ·)
  | [], _ => List.pairwise_singleton _ _
  | y :: ys, h => by
    unfold ins64
    have h1 := List.pairwise_cons.mp h
    split
    · rename_i hxy
      refine List.pairwise_cons.mpr ⟨fun z hz => ?_, h⟩
      rcases List.mem_cons.mp hz with e | hz
      · exact e ▸ hxy
      · exact Int64.le_trans hxy (h1.1 z hz)
    · rename_i hxy
      refine List.pairwise_cons.mpr ⟨fun z hz => ?_, ins64_sorted x ys h1.2⟩
      rcases List.mem_cons.mp ((ins64_perm x ys).mem_iff.mp hz) with e | hz
      · exact e ▸ le_total64 x y hxy
      · exact h1.1 z hz
theorem srt_sorted : ∀ vs : List Int64, (srt vs).Pairwise (· ≤ ·)
  | [] => List.Pairwise.nil
  | x :: xs => ins64_sorted x (srt xs) (srt_sorted xs)
theorem sorted_eq {a b : List Int64} (ha : a.Pairwise (· ≤ ·)) (hb : b.Pairwise (· ≤ ·)) (h : a.Perm b) : a = b :=
  h.eq_of_pairwise (fun _ _ _ _ h1 h2 => Int64.le_antisymm h1 h2) ha hb
theorem srt_eq {vs ws : List Int64} (h : vs.Perm ws) : srt vs = srt ws :=
  sorted_eq (srt_sorted vs) (srt_sorted ws) ((srt_perm vs).trans (h.trans (srt_perm ws).symm))
theorem dd_mem : ∀ (vs : List Int64) (x : Int64), x ∈ dd vs ↔ x ∈ vs
  | [], x => Iff.rfl
  | y :: ys, x => by
    unfold dd
    split
    · rename_i hy
      rw [dd_mem ys x, List.mem_cons]
      constructor
      · exact Or.inr
      · rintro (e | h)
        · exact e ▸ List.mem_of_mem_head? hy
        · exact h
    · rw [List.mem_cons, List.mem_cons, dd_mem ys x]
theorem lt_of_le_ne64 {x y : Int64} (h : x ≤ y) (hn : x ≠ y) : x < y := by
  rw [Int64.le_iff_toInt_le] at h
  rw [Int64.lt_iff_toInt_lt]
  have : x.toInt ≠ y.toInt := fun e => hn (Int64.toInt_inj.mp e)
  omega
theorem dd_strict : ∀ vs : List Int64, vs.Pairwise (· ≤ ·) → (dd vs).Pairwise (· < ·)
  | [], _ => List.Pairwise.nil
  | y :: ys, h => by
    have h1 := List.pairwise_cons.mp h
    unfold dd
    split
    · exact dd_strict ys h1.2
    · rename_i hy
      refine List.pairwise_cons.mpr ⟨fun z hz => ?_, dd_strict ys h1.2⟩
      rw [dd_mem] at hz
      match ys, hz, hy, h1 with
      | u :: us, hz, hy, h1 =>
        have hyu : y < u := lt_of_le_ne64 (h1.1 u List.mem_cons_self) (fun e => hy (by rw [e]; rfl))
        rcases List.mem_cons.mp hz with e | hz
        · exact e ▸ hyu
        · exact Int64.lt_of_lt_of_le hyu ((List.pairwise_cons.mp h1.2).1 z hz)
theorem strict_ext : ∀ (a b : List Int64), a.Pairwise (· < ·) → b.Pairwise (· < ·) → (∀ x, x ∈ a ↔ x ∈ b) → a = b
  | [], [], _, _, _ => rfl
  | [], y :: ys, _, _, h => by simpa using (h y).mpr List.mem_cons_self
  | x :: xs, [], _, _, h => by simpa using (h x).mp List.mem_cons_self
  | x :: xs, y :: ys, ha, hb, h => by
    have h1 := List.pairwise_cons.mp ha
    have h2 := List.pairwise_cons.mp hb
    have exy : x = y := by
      rcases List.mem_cons.mp ((h x).mp List.mem_cons_self) with e | hx
      · exact e
      rcases List.mem_cons.mp ((h y).mpr List.mem_cons_self) with e | hy
      · exact e.symm
      exact absurd (Int64.lt_trans (h2.1 x hx) (h1.1 y hy)) (Int64.lt_irrefl)
    subst exy
    refine congrArg (x :: ·) (strict_ext xs ys h1.2 h2.2 fun z => ⟨fun hz => ?_, fun hz => ?_⟩)
    · rcases List.mem_cons.mp ((h z).mp (List.mem_cons_of_mem _ hz)) with e | hz'
      · exact absurd (e ▸ h1.1 z hz) (Int64.lt_irrefl)
      · exact hz'
    · rcases List.mem_cons.mp ((h z).mpr (List.mem_cons_of_mem _ hz)) with e | hz'
      · exact absurd (e ▸ h2.1 z hz) (Int64.lt_irrefl)
      · exact hz'
theorem sm64_cons (x : Int64) (vs : List Int64) : sm64 (x :: vs) = x + sm64 vs := rfl
theorem sm64_append : ∀ a b : List Int64, sm64 (a ++ b) = sm64 a + sm64 b
  | [], b => by simp [sm64]
  | x :: a, b => by rw [List.cons_append, sm64_cons, sm64_append a b, sm64_cons, Int64.add_assoc]
theorem sm64_perm {a b : List Int64} (h : a.Perm b) : sm64 a = sm64 b := by
  induction h with
  | nil => rfl
  | cons x _ ih => rw [sm64_cons, sm64_cons, ih]
  | swap x y l => rw [sm64_cons, sm64_cons, sm64_cons, sm64_cons, ← Int64.add_assoc, ← Int64.add_assoc, Int64.add_comm y x]
  | trans _ _ h1 h2 => rw [h1, h2]
theorem ansV_perm {how : Nat} {vs ws : List Int64} (h : vs.Perm ws) : ansV how vs = ansV how ws := by
  unfold ansV
  rw [srt_eq h, sm64_perm h, h.length_eq]
/-- the sum of a window as far as one number tells it -/
def TlOK (how : Nat) (vals : List Int64) (t : Int64) : Prop := vals = [] ∨ (how = 1 → t = sm64 vals) ∧ (how = 2 → t ∈ vals ∧ ∀ x ∈ vals, t ≤ x) ∧ (how = 3 → t ∈ vals ∧ ∀ x ∈ vals, x ≤ t)
def VsOK (how : Nat) (vals vs : List Int64) : Prop := (how = 4 → vs.Pairwise (· < ·) ∧ ∀ x, x ∈ vs ↔ x ∈ vals) ∧ (how = 5 → vs.Pairwise (· ≤ ·) ∧ vs.Perm vals) ∧ (how ≤ 3 → vs = [])
theorem VsOK.sorted {how : Nat} {vals vs : List Int64} (h : VsOK how vals vs) (hh : how ≤ 5) : vs.Pairwise (· ≤ ·) := by
  have : how = 4 ∨ how = 5 ∨ how ≤ 3 := by omega
  rcases this with e | e | e
  · exact (h.1 e).1.imp (fun h => Int64.le_of_lt h)
  · exact (h.2.1 e).1
  · rw [h.2.2 e]
    exact List.Pairwise.nil
theorem TlOK.perm {how : Nat} {a b : List Int64} {t : Int64} (h : TlOK how a t) (p : a.Perm b) : TlOK how b t := by
  rcases h with h | h
  · subst h
    exact Or.inl (List.nil_perm.mp p)
  · refine Or.inr ⟨fun e => (h.1 e).trans (sm64_perm p), fun e => ⟨p.mem_iff.mp (h.2.1 e).1, fun x hx => (h.2.1 e).2 x (p.mem_iff.mpr hx)⟩, fun e => ⟨p.mem_iff.mp (h.2.2 e).1, fun x hx => (h.2.2 e).2 x (p.mem_iff.mpr hx)⟩⟩
theorem VsOK.perm {how : Nat} {a b vs : List Int64} (h : VsOK how a vs) (p : a.Perm b) : VsOK how b vs :=
  ⟨fun e => ⟨(h.1 e).1, fun x => ((h.1 e).2 x).trans p.mem_iff⟩, fun e => ⟨(h.2.1 e).1, (h.2.1 e).2.trans p⟩, h.2.2⟩
theorem head_min {vs : List Int64} {t : Int64} (h : t ∈ vs ∧ ∀ x ∈ vs, t ≤ x) : (srt vs).head?.getD 0 = t := by
  have hm := (srt_perm vs).mem_iff (a := t)
  have hs := srt_sorted vs
  match e : srt vs, hm, hs with
  | [], hm, _ => exact absurd (hm.mpr h.1) (List.not_mem_nil)
  | y :: ys, hm, hs =>
    have h1 := h.2 y ((srt_perm vs).mem_iff.mp (by rw [e]; exact List.mem_cons_self))
    rcases List.mem_cons.mp (hm.mpr h.1) with e | hy
    · exact e.symm
    · exact Int64.le_antisymm ((List.pairwise_cons.mp hs).1 t hy) h1
theorem last_max {vs : List Int64} {t : Int64} (h : t ∈ vs ∧ ∀ x ∈ vs, x ≤ t) : (srt vs).getLast?.getD 0 = t := by
  have hm := (srt_perm vs).mem_iff (a := t)
  have hs := srt_sorted vs
  rcases List.eq_nil_or_concat (srt vs) with e | ⟨ys, y, e⟩
  · rw [e] at hm
    exact absurd (hm.mpr h.1) (List.not_mem_nil)
  · rw [e] at hm hs ⊢
    have h1 := h.2 y ((srt_perm vs).mem_iff.mp (by rw [e]; simp))
    have e2 : (ys.concat y).getLast?.getD 0 = y := by simp
    rw [e2]
    rw [List.concat_eq_append] at hm hs
    rcases List.mem_append.mp (hm.mpr h.1) with hy | hy
    · exact Int64.le_antisymm h1 ((List.pairwise_append.mp hs).2.2 t hy y (by simp))
    · exact (List.mem_singleton.mp hy).symm
theorem ansV_of {how : Nat} {vals vs : List Int64} {t : Int64} (hh : how ≤ 5) (hne : vals ≠ []) (hv : VsOK how vals vs) (ht : TlOK how vals t) : (if how = 0 then lN vals.length else if how = 4 then lN vs.length else if how = 5 then (vs[(vs.length - 1) / 2]?).getD 0 else t) = ansV how vals := by
  have ht := ht.resolve_left hne
  have : how = 0 ∨ how = 1 ∨ how = 2 ∨ how = 3 ∨ how = 4 ∨ how = 5 := by omega
  unfold ansV
  rcases this with e | e | e | e | e | e <;> subst e <;> simp only [Nat.reduceEqDiff, ↓reduceIte]
  · exact ht.1 rfl
  · exact (head_min (ht.2.1 rfl)).symm
  · exact (last_max (ht.2.2 rfl)).symm
  · have h := hv.1 rfl
    rw [strict_ext vs (dd (srt vals)) h.1 (dd_strict _ (srt_sorted _)) fun x => (h.2 x).trans ((srt_perm vals).mem_iff.symm.trans (dd_mem _ x).symm)]
  · have h := hv.2.1 rfl
    rw [sorted_eq h.1 (srt_sorted vals) (h.2.trans (srt_perm vals).symm), (srt_perm vals).length_eq]
theorem InsAt.perm {vs vs' : List Int64} {x : Int64} (h : InsAt vs vs' x 1) : vs'.Perm (x :: vs) := by
  obtain ⟨low, _, _, _, h | h⟩ := h
  · exact absurd h.1 (by decide)
  · rw [h.2]
    exact List.perm_middle.trans (by rw [List.take_append_drop])
theorem InsAt.mem {vs vs' : List Int64} {x : Int64} {again : Int32} (h : InsAt vs vs' x again) (y : Int64) : y ∈ vs' ↔ y = x ∨ y ∈ vs := by
  obtain ⟨low, _, _, _, h | h⟩ := h
  · rw [h.2.2]
    constructor
    · exact Or.inr
    · rintro (e | h1)
      · exact e ▸ List.mem_of_getElem? h.2.1
      · exact h1
  · rw [h.2, List.perm_middle.mem_iff, List.take_append_drop, List.mem_cons]
theorem get_sorted {vs : List Int64} (hs : vs.Pairwise (· < ·)) {i j : Nat} {x y : Int64} (hij : i < j) (hi : vs[i]? = some x) (hj : vs[j]? = some y) : x < y := by
  obtain ⟨h1, e1⟩ := List.getElem?_eq_some_iff.mp hi
  obtain ⟨h2, e2⟩ := List.getElem?_eq_some_iff.mp hj
  exact e1 ▸ e2 ▸ List.pairwise_iff_getElem.mp hs i j h1 h2 hij
theorem InsAt.strict {vs vs' : List Int64} {x : Int64} (h : InsAt vs vs' x 0) (hs : vs.Pairwise (· < ·)) : vs'.Pairwise (· < ·) := by
  obtain ⟨low, hl, h1, h2, h | h⟩ := h
  · exact h.2.2 ▸ hs
  · have hx : ¬ vs[low]? = some x := fun e => h.1 ⟨rfl, e⟩
    have h3 : ∀ z ∈ vs.drop low, x < z := fun z hz => by
      obtain ⟨i, hi⟩ := List.mem_iff_getElem?.mp hz
      rw [List.getElem?_drop] at hi
      have h4 := h2 (low + i) z (Nat.le_add_right _ _) hi
      rcases Nat.eq_zero_or_pos i with e | h0
      · subst e
        exact lt_of_le_ne64 h4 (fun e => hx (e ▸ hi))
      · have hlt : low < vs.length := by
          have := (List.getElem?_eq_some_iff.mp hi).1
          omega
        have h5 := h2 low vs[low] (Nat.le_refl _) (List.getElem?_eq_getElem hlt)
        exact Int64.lt_of_le_of_lt h5 (get_sorted hs (by omega) (List.getElem?_eq_getElem hlt) hi)
    have h4 : ∀ z ∈ vs.take low, z < x := fun z hz => by
      obtain ⟨i, hi⟩ := List.mem_iff_getElem?.mp hz
      rw [List.getElem?_take] at hi
      split at hi
      · rename_i hlt
        exact h1 i z hlt hi
      · cases hi
    rw [h.2]
    refine List.pairwise_append.mpr ⟨hs.sublist (List.take_sublist _ _), List.pairwise_cons.mpr ⟨h3, hs.sublist (List.drop_sublist _ _)⟩, fun a ha b hb => ?_⟩
    rcases List.mem_cons.mp hb with e | hb
    · exact e ▸ h4 a ha
    · exact Int64.lt_trans (h4 a ha) (h3 b hb)
theorem VsOK.add {how : Nat} {vals vs vs' : List Int64} {x : Int64} (h : VsOK how vals vs) (hh : how = 4 ∨ how = 5) (hi : InsAt vs vs' x (if how = 5 then 1 else 0)) : VsOK how (x :: vals) vs' := by
  rcases hh with e | e <;> subst e
  · refine ⟨fun _ => ⟨InsAt.strict hi (h.1 rfl).1, fun y => ?_⟩, fun e => by omega, fun e => by omega⟩
    rw [hi.mem y, (h.1 rfl).2 y, List.mem_cons]
  · exact ⟨fun e => by omega, fun _ => ⟨hi.sorted (h.2.1 rfl).1, (InsAt.perm hi).trans ((h.2.1 rfl).2.cons x)⟩, fun e => by omega⟩
theorem InsAll.len : ∀ (fs vs vs' : List Int64) (again : Int32), InsAll vs fs again vs' → vs'.length ≤ vs.length + fs.length
  | [], vs, vs', _, h => by
    rw [show vs' = vs from h]
    exact Nat.le_refl _
  | x :: fs, vs, vs', again, ⟨v1, h1, h2⟩ => by
    have := InsAll.len fs v1 vs' again h2
    have := h1.len
    simp only [List.length_cons]
    omega
theorem VsOK.addAll {how : Nat} (hh : how = 4 ∨ how = 5) : ∀ (fs vals vs vs' : List Int64), VsOK how vals vs → InsAll vs fs (if how = 5 then 1 else 0) vs' → VsOK how (fs ++ vals) vs'
  | [], vals, vs, vs', h, hi => by
    rw [show vs' = vs from hi]
    exact h
  | x :: fs, vals, vs, vs', h, ⟨v1, h1, h2⟩ => (VsOK.addAll hh fs (x :: vals) v1 vs' (h.add hh h1) h2).perm List.perm_middle
/-- the values of two windows in one -/
theorem VsOK.both {how : Nat} (hh : how = 4 ∨ how = 5) {a b va vb vs' : List Int64} (ha : VsOK how a va) (hb : VsOK how b vb) (hi : InsAll va vb (if how = 5 then 1 else 0) vs') : VsOK how (a ++ b) vs' := by
  have h := VsOK.addAll hh vb a va vs' ha hi
  rcases hh with e | e <;> subst e
  · refine ⟨fun _ => ⟨(h.1 rfl).1, fun x => ?_⟩, fun e => by omega, fun e => by omega⟩
    rw [(h.1 rfl).2 x, List.mem_append, List.mem_append, (hb.1 rfl).2 x, Or.comm]
  · refine h.perm ?_
    exact (List.Perm.append_right a (hb.2.1 rfl).2).trans List.perm_append_comm
theorem TlOK.add {how : Nat} {vals : List Int64} {t x : Int64} (hh : how ≤ 3) (h : TlOK how vals t) : TlOK how (x :: vals) (if vals.length = 0 then x else cmb (nI how) t x) := by
  right
  rcases h with h | h
  · subst h
    refine ⟨fun _ => ?_, fun _ => ⟨by simp, fun y hy => ?_⟩, fun _ => ⟨by simp, fun y hy => ?_⟩⟩
    · simp [sm64]
    · simp only [List.mem_singleton] at hy
      subst hy
      exact Int64.le_refl _
    · simp only [List.mem_singleton] at hy
      subst hy
      exact Int64.le_refl _
  · by_cases h0 : vals.length = 0
    · rw [if_pos h0, List.eq_nil_of_length_eq_zero h0]
      refine ⟨fun _ => by simp [sm64], fun _ => ⟨by simp, fun y hy => ?_⟩, fun _ => ⟨by simp, fun y hy => ?_⟩⟩
      · simp only [List.mem_singleton] at hy
        exact hy ▸ Int64.le_refl _
      · simp only [List.mem_singleton] at hy
        exact hy ▸ Int64.le_refl _
    rw [if_neg h0]
    refine ⟨fun e => ?_, fun e => ?_, fun e => ?_⟩
    · subst e
      rw [sm64_cons, ← h.1 rfl, Int64.add_comm]
      rfl
    · subst e
      have h2 := h.2.1 rfl
      have e : cmb (nI 2) t x = if x < t then x else t := rfl
      rw [e]
      split
      · rename_i hx
        exact ⟨List.mem_cons_self, fun y hy => (List.mem_cons.mp hy).elim (fun e => e ▸ Int64.le_refl _) (fun hy => Int64.le_trans (Int64.le_of_lt hx) (h2.2 y hy))⟩
      · rename_i hx
        exact ⟨List.mem_cons_of_mem _ h2.1, fun y hy => (List.mem_cons.mp hy).elim (fun e => e ▸ Int64.not_lt.mp hx) (h2.2 y)⟩
    · subst e
      have h2 := h.2.2 rfl
      have e : cmb (nI 3) t x = if t < x then x else t := rfl
      rw [e]
      split
      · rename_i hx
        exact ⟨List.mem_cons_self, fun y hy => (List.mem_cons.mp hy).elim (fun e => e ▸ Int64.le_refl _) (fun hy => Int64.le_trans (h2.2 y hy) (Int64.le_of_lt hx))⟩
      · rename_i hx
        exact ⟨List.mem_cons_of_mem _ h2.1, fun y hy => (List.mem_cons.mp hy).elim (fun e => e ▸ Int64.not_lt.mp hx) (h2.2 y)⟩
theorem TlOK.both {how : Nat} {a b : List Int64} {t u : Int64} (ha0 : a ≠ []) (hb0 : b ≠ []) (ha : TlOK how a t) (hb : TlOK how b u) : TlOK how (a ++ b) (cmb (nI how) t u) := by
  have ha := ha.resolve_left ha0
  have hb := hb.resolve_left hb0
  refine Or.inr ⟨fun e => ?_, fun e => ?_, fun e => ?_⟩
  · subst e
    rw [sm64_append, ← ha.1 rfl, ← hb.1 rfl]
    rfl
  · subst e
    have h1 := ha.2.1 rfl
    have h2 := hb.2.1 rfl
    have e : cmb (nI 2) t u = if u < t then u else t := rfl
    rw [e]
    split
    · rename_i hx
      exact ⟨List.mem_append_right _ h2.1, fun y hy => (List.mem_append.mp hy).elim (fun hy => Int64.le_trans (Int64.le_of_lt hx) (h1.2 y hy)) (h2.2 y)⟩
    · rename_i hx
      exact ⟨List.mem_append_left _ h1.1, fun y hy => (List.mem_append.mp hy).elim (h1.2 y) (fun hy => Int64.le_trans (Int64.not_lt.mp hx) (h2.2 y hy))⟩
  · subst e
    have h1 := ha.2.2 rfl
    have h2 := hb.2.2 rfl
    have e : cmb (nI 3) t u = if t < u then u else t := rfl
    rw [e]
    split
    · rename_i hx
      exact ⟨List.mem_append_right _ h2.1, fun y hy => (List.mem_append.mp hy).elim (fun hy => Int64.le_trans (h1.2 y hy) (Int64.le_of_lt hx)) (h2.2 y)⟩
    · rename_i hx
      exact ⟨List.mem_append_left _ h1.1, fun y hy => (List.mem_append.mp hy).elim (h1.2 y) (fun hy => Int64.le_trans (h2.2 y hy) (Int64.not_lt.mp hx))⟩
