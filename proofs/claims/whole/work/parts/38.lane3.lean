/-! 38: windows of a lane: one made, two made one; costs -/
def mnI (x y : Int32) : Int32 := if y < x then y else x
def mxI (x y : Int32) : Int32 := if x < y then y else x
def WsV (h : Hp) (ow : Nat → Nat) (T how k : Nat) (Z : Zw) : Prop := (∀ z ∈ Z, WdV h ow T how k z.1 z.2) ∧ Z.Pairwise (fun y z => y.1 ≠ z.1 ∧ ∀ t, fP h 40 y.1 = some t → fP h 40 z.1 ≠ some t)
section L38
variable {g : Gl} {d : Nat} {h : Hp} {Q : Option Value → Hp → Prop} {ow : Nat → Nat} {T how k p : Nat} {w : Wd}
theorem WsV.same {h' : Hp} {ow' : Nat → Nat} {Z : Zw} (x : WsV h ow T how k Z) (wf : Wf h) (ho : ∀ a, a < hz h → ow' a = ow a) (sz : ∀ z ∈ Z, sameAt h h' z.1) (st : ∀ z ∈ Z, ∀ t, fP h 40 z.1 = some t → sameAt h h' t) : WsV h' ow' T how k Z := by
  refine ⟨fun z hz => (x.1 z hz).same wf ho (sz z hz) (st z hz), x.2.imp_of_mem (fun {y z} hy hz h => ⟨h.1, fun t => ?_⟩)⟩
  rw [(sz y hy).2.2.2.2.1 40, (sz z hz).2.2.2.2.1 40]
  exact h.2 t
theorem WsV.sameK {h' : Hp} {ow' : Nat → Nat} {Z : Zw} (x : WsV h ow T how k Z) (wf : Wf h) (ho : ∀ a, a < hz h → ow' a = ow a) (s : ∀ a, a < hz h → (hK h a = 7 ∨ hK h a = 22) → sameAt h h' a) : WsV h' ow' T how k Z :=
  x.same wf ho (fun z hz => s _ ((x.1 z hz).lt wf) (Or.inl (x.1 z hz).1)) (fun z hz t ht => s t (wf t (by rw [((x.1 z hz).row ht).1]; decide)) (Or.inr ((x.1 z hz).row ht).1))
theorem WdV.perm {w' : Wd} (x : WdV h ow T how k p w) (e1 : wB w' = wB w) (e2 : wE w' = wE w) (e3 : wR w' = wR w) (e4 : (wVs w).Perm (wVs w')) : WdV h ow T how k p w' := by
  obtain ⟨x1, x2, x3, x4, x5, x6, x7, x8, vs, y, x9, x10, o, x11, x12⟩ := x
  refine ⟨x1, x2, x3, x4.trans e1.symm, x5.trans e2.symm, by rw [← e4.length_eq]; exact x6, by rw [e3]; exact x7, x8.perm e4, vs, y, x9.perm e4, by rw [← e4.length_eq]; exact x10, o, x11, fun h4 hn => x12 h4 (fun e => hn ?_)⟩
  rw [e] at e4
  exact List.nil_perm.mp e4
theorem pair_upd {α : Type} {R : α → α → Prop} {A B : List α} {x x' : α} (h : (A ++ x :: B).Pairwise R) (h1 : ∀ y ∈ A, R y x → R y x') (h2 : ∀ y ∈ B, R x y → R x' y) : (A ++ x' :: B).Pairwise R := by
  have h3 := List.pairwise_append.mp h
  have h4 := List.pairwise_cons.mp h3.2.1
  refine List.pairwise_append.mpr ⟨h3.1, List.pairwise_cons.mpr ⟨fun y hy => h2 y hy (h4.1 y hy), h4.2⟩, fun a ha b hb => ?_⟩
  rcases List.mem_cons.mp hb with e | hb
  · exact e ▸ h1 a ha (h3.2.2 a ha x List.mem_cons_self)
  · exact h3.2.2 a ha b (List.mem_cons_of_mem _ hb)
theorem LaneS.ws {la al e : Nat} {Z : Zw} (x : LaneS g h ow T how k la al e Z) : WsV h ow T how k Z := x.2.2.2.2
theorem LaneS.perm {la al e : Nat} {A B : Zw} {w' : Wd} (x : LaneS g h ow T how k la al e (A ++ (p, w) :: B)) (e1 : wB w' = wB w) (e2 : wE w' = wE w) (e3 : wR w' = wR w) (e4 : (wVs w).Perm (wVs w')) : LaneS g h ow T how k la al e (A ++ (p, w') :: B) := by
  obtain ⟨x1, x2, x3, x4, x5, x6⟩ := x
  refine ⟨by rw [List.map_append, List.map_cons] at x1 ⊢; exact x1, x2, x3, x4, fun z hz => ?_, pair_upd x6 (fun y hy h => h) (fun y hy h => h)⟩
  rcases List.mem_append.mp hz with hz | hz
  · exact x5 z (List.mem_append_left _ hz)
  · rcases List.mem_cons.mp hz with e | hz
    · exact e ▸ (x5 (p, w) (List.mem_append_right _ List.mem_cons_self)).perm e1 e2 e3 e4
    · exact x5 z (List.mem_append_right _ (List.mem_cons_of_mem _ hz))
/-- of two windows one is left -/
theorem WsV.two {h' : Hp} {ow' : Nat → Nat} {q : Nat} {A B : Zw} {u w' : Wd} (x : WsV h ow T how k (A ++ (p, w) :: (q, u) :: B)) (wf : Wf h) (s : Smo (fun a => a = p ∨ fP h 40 p = some a ∨ fP h 40 q = some a) h h') (ho : ∀ a, a < hz h → ow' a = ow a)
    (hw : WdV h' ow' T how k p w') (ht : ∀ t, fP h' 40 p = some t → fP h 40 p = some t ∨ fP h 40 q = some t ∨ hz h ≤ t) : WsV h' ow' T how k (A ++ (p, w') :: B) := by
  obtain ⟨x5, x6⟩ := x
  have hp := x5 (p, w) (List.mem_append_right _ List.mem_cons_self)
  have hq := x5 (q, u) (List.mem_append_right _ (List.mem_cons_of_mem _ List.mem_cons_self))
  have hpw := List.pairwise_append.mp x6
  have hB := List.pairwise_cons.mp hpw.2.1
  have hC := List.pairwise_cons.mp hB.2
  have ot : ∀ z, (z ∈ A ∨ z ∈ B) → z ∈ A ++ (p, w) :: (q, u) :: B ∧ z.1 ≠ p ∧ ∀ t, fP h 40 z.1 = some t → fP h 40 p ≠ some t ∧ fP h 40 q ≠ some t := fun z hz => by
    rcases hz with hz | hz
    · exact ⟨List.mem_append_left _ hz, (hpw.2.2 z hz (p, w) List.mem_cons_self).1, fun t h1 => ⟨(hpw.2.2 z hz (p, w) List.mem_cons_self).2 t h1, (hpw.2.2 z hz (q, u) (List.mem_cons_of_mem _ List.mem_cons_self)).2 t h1⟩⟩
    · exact ⟨List.mem_append_right _ (List.mem_cons_of_mem _ (List.mem_cons_of_mem _ hz)), fun e => (hB.1 z (List.mem_cons_of_mem _ hz)).1 e.symm, fun t h1 => ⟨fun h2 => (hB.1 z (List.mem_cons_of_mem _ hz)).2 t h2 h1, fun h2 => (hC.1 z hz).2 t h2 h1⟩⟩
  have sz : ∀ z, (z ∈ A ∨ z ∈ B) → sameAt h h' z.1 := fun z hz => by
    have o := ot z hz
    have hx := x5 z o.1
    refine s.2 _ (hx.lt wf) (fun hh => ?_)
    rcases hh with e | e | e
    · exact o.2.1 e
    · have := (hp.row e).1
      rw [hx.1] at this
      omega
    · have := (hq.row e).1
      rw [hx.1] at this
      omega
  have st : ∀ z, (z ∈ A ∨ z ∈ B) → ∀ t, fP h 40 z.1 = some t → sameAt h h' t ∧ t < hz h := fun z hz t htt => by
    have o := ot z hz
    have hx := (x5 z o.1).row htt
    refine ⟨s.2 _ (wf t (by rw [hx.1]; decide)) (fun hh => ?_), wf t (by rw [hx.1]; decide)⟩
    rcases hh with e | e | e
    · have := hp.1
      rw [← e, hx.1] at this
      omega
    · exact (o.2.2 t htt).1 e
    · exact (o.2.2 t htt).2 e
  have oP : ∀ z, (z ∈ A ∨ z ∈ B) → ∀ t, fP h 40 z.1 = some t → fP h' 40 p ≠ some t := fun z hz t h1 h2 => by
    rcases ht t h2 with h3 | h3 | h3
    · exact ((ot z hz).2.2 t h1).1 h3
    · exact ((ot z hz).2.2 t h1).2 h3
    · have := (st z hz t h1).2
      omega
  have wA : WsV h' ow' T how k A := WsV.same (Z := A) ⟨fun z hz => x5 z (List.mem_append_left _ hz), hpw.1⟩ wf ho (fun z hz => sz z (Or.inl hz)) (fun z hz t ht => (st z (Or.inl hz) t ht).1)
  have wBB : WsV h' ow' T how k B := WsV.same (Z := B) ⟨fun z hz => x5 z (List.mem_append_right _ (List.mem_cons_of_mem _ (List.mem_cons_of_mem _ hz))), hC.2⟩ wf ho (fun z hz => sz z (Or.inr hz)) (fun z hz t ht => (st z (Or.inr hz) t ht).1)
  refine ⟨fun z hz => ?_, List.pairwise_append.mpr ⟨wA.2, List.pairwise_cons.mpr ⟨fun z hz => ⟨(hB.1 z (List.mem_cons_of_mem _ hz)).1, fun t h1 h2 => ?_⟩, wBB.2⟩, fun y hy z hz => ?_⟩⟩
  · rcases List.mem_append.mp hz with hz | hz
    · exact wA.1 z hz
    · rcases List.mem_cons.mp hz with e | hz
      · exact e ▸ hw
      · exact wBB.1 z hz
  · rw [(sz z (Or.inr hz)).2.2.2.2.1 40] at h2
    exact oP z (Or.inr hz) t h2 h1
  · rcases List.mem_cons.mp hz with e | hz
    · subst e
      refine ⟨(ot y (Or.inl hy)).2.1, fun t h1 h2 => ?_⟩
      rw [(sz y (Or.inl hy)).2.2.2.2.1 40] at h1
      exact oP y (Or.inl hy) t h1 h2
    · have h3 := hpw.2.2 y hy z (List.mem_cons_of_mem _ (List.mem_cons_of_mem _ hz))
      refine ⟨h3.1, fun t => ?_⟩
      rw [(sz y (Or.inl hy)).2.2.2.2.1 40, (sz z (Or.inr hz)).2.2.2.2.1 40]
      exact h3.2 t
/-- a window more, which owns no row of values -/
theorem WsV.more {A B : Zw} (x : WsV h ow T how k (A ++ B)) (hw : WdV h ow T how k p w) (hp : ∀ z ∈ A ++ B, z.1 ≠ p) (hn : fP h 40 p = none) : WsV h ow T how k (A ++ (p, w) :: B) := by
  obtain ⟨x5, x6⟩ := x
  have hpw := List.pairwise_append.mp x6
  refine ⟨fun z hz => ?_, List.pairwise_append.mpr ⟨hpw.1, List.pairwise_cons.mpr ⟨fun z hz => ⟨fun e => hp z (List.mem_append_right _ hz) e.symm, fun t h1 => ?_⟩, hpw.2.1⟩, fun y hy z hz => ?_⟩⟩
  · rcases List.mem_append.mp hz with hz | hz
    · exact x5 z (List.mem_append_left _ hz)
    · rcases List.mem_cons.mp hz with e | hz
      · exact e ▸ hw
      · exact x5 z (List.mem_append_right _ hz)
  · rw [hn] at h1
    cases h1
  · rcases List.mem_cons.mp hz with e | hz
    · subst e
      refine ⟨hp y (List.mem_append_left _ hy), fun t h1 h2 => ?_⟩
      rw [hn] at h2
      cases h2
    · exact hpw.2.2 y hy z hz
theorem InsAll.ge : ∀ (fs vs vs' : List Int64) (again : Int32), InsAll vs fs again vs' → vs.length ≤ vs'.length
  | [], vs, vs', _, h => by
    rw [show vs' = vs from h]
    exact Nat.le_refl _
  | x :: fs, vs, vs', again, ⟨v1, h1, h2⟩ => by
    have := InsAll.ge fs v1 vs' again h2
    have := h1.len
    omega
theorem fi_eq (h : Hp) (k a : Nat) (v : Int32) : fI (sFI h k a v) k a = v := if_pos ⟨rfl, rfl⟩
theorem fi_ne (h : Hp) {k k2 : Nat} (a a2 : Nat) (v : Int32) (hk : k2 ≠ k) : fI (sFI h k a v) k2 a2 = fI h k2 a2 := if_neg (fun e => hk e.1)
theorem fi_na (h : Hp) (k k2 : Nat) {a a2 : Nat} (v : Int32) (ha : a2 ≠ a) : fI (sFI h k a v) k2 a2 = fI h k2 a2 := if_neg (fun e => ha e.2)
theorem fl_eq (h : Hp) (k a : Nat) (v : Int64) : fL (sFL h k a v) k a = v := if_pos ⟨rfl, rfl⟩
theorem fl_ne (h : Hp) {k k2 : Nat} (a a2 : Nat) (v : Int64) (hk : k2 ≠ k) : fL (sFL h k a v) k2 a2 = fL h k2 a2 := if_neg (fun e => hk e.1)
theorem fp_eq (h : Hp) (k a : Nat) (v : Option Nat) : fP (sFP h k a v) k a = v := if_pos ⟨rfl, rfl⟩
theorem fp_ne (h : Hp) {k k2 : Nat} (a a2 : Nat) (v : Option Nat) (hk : k2 ≠ k) : fP (sFP h k a v) k2 a2 = fP h k2 a2 := if_neg (fun e => hk e.1)
theorem abF4 (p a : Nat) (b e n : Int32) (t : Int64) : ∀ f, fI (sFI (sFL (sFI (sFI h 35 p b) 36 p e) 39 p t) 37 p n) f p = if f = 37 then n else if f = 36 then e else if f = 35 then b else fI h f p := fun f => by
  simp only [fI_sFI, fI_sFL, and_true]
theorem abFL (p a : Nat) (b e n : Int32) (t : Int64) : fL (sFI (sFL (sFI (sFI h 35 p b) 36 p e) 39 p t) 37 p n) 39 p = t := by
  rw [fL_sFI, fl_eq]
theorem abF {q : Nat} {u : Wd} (x : WdV h ow T how k p w) (y : WdV h ow T how k q u) : fI (abH h p q (nI how)) 34 p = nI k ∧ fI (abH h p q (nI how)) 35 p = mnI (wB w) (wB u) ∧ fI (abH h p q (nI how)) 36 p = mxI (wE w) (wE u) ∧ fI (abH h p q (nI how)) 37 p = nI (wVs w ++ wVs u).length ∧ fI (abH h p q (nI how)) 38 p = rI (wR w) ∧ fL (abH h p q (nI how)) 39 p = cmb (nI how) (fL h 39 p) (fL h 39 q) ∧ fI (abH h p q (nI how)) 41 p = fI h 41 p := by
  obtain ⟨x1, x2, x3, x4, x5, x6, x7, _⟩ := x
  obtain ⟨y1, y2, y3, y4, y5, y6, y7, _⟩ := y
  unfold abH
  refine ⟨?_, ?_, ?_, ?_, ?_, abFL p p _ _ _ _, ?_⟩
  · rw [abF4 p p, if_neg (by decide), if_neg (by decide), if_neg (by decide)]
    exact x3
  · rw [abF4 p p, if_neg (by decide), if_neg (by decide), if_pos rfl, x4, y4]
    rfl
  · rw [abF4 p p, if_neg (by decide), if_pos rfl, x5, y5]
    rfl
  · rw [abF4 p p, if_pos rfl, x6, y6, nI_add, List.length_append]
  · rw [abF4 p p, if_neg (by decide), if_neg (by decide), if_neg (by decide)]
    exact x7
  · rw [abF4 p p, if_neg (by decide), if_neg (by decide), if_neg (by decide)]
theorem k_wAbsT {q : Nat} {u : Wd} (x : WdV h ow T how k p w) (y : WdV h ow T how k q u) (wf : Wf h) (hh : how ≤ 5) (h3 : how ≤ 3) (hpq : q ≠ p) (hrow : ∀ t, fP h 40 p = some t → fP h 40 q ≠ some t) (n1 : wVs w ≠ []) (n2 : wVs u ≠ []) (hl : (wVs w).length + (wVs u).length < 1000000)
    (hQ : ∀ h', WdV h' (owX ow h T) T how k p (mnI (wB w) (wB u), mxI (wE w) (wE u), wR w, wVs w ++ wVs u) → Smo (fun a => a = p ∨ fP h 40 p = some a ∨ fP h 40 q = some a) h h' → Wf h' → (∀ t, fP h' 40 p = some t → fP h 40 p = some t ∨ fP h 40 q = some t ∨ hz h ≤ t) → hs h' + 2 * capO h (fP h 40 p) + 2 * capO h (fP h 40 q) ≤ hs h + 2 * capO h' (fP h' 40 p) + 8 * min (wVs w).length (wVs u).length → hz h' ≤ hz h + min (wVs w).length (wVs u).length → Q none h') :
    Call g mX7_absorb (d + 3) [.ref p, .ref q, .int (nI how)] h Q := by
  have hp := x.lt wf
  have hr := fun t ht => x.row (t := t) ht
  have hrq := fun t ht => y.row (t := t) ht
  have l1 : 0 < (wVs w).length := List.length_pos_iff.mpr n1
  have l2 : 0 < (wVs u).length := List.length_pos_iff.mpr n2
  obtain ⟨f34, f35, f36, f37, f38, f39, f41⟩ := abF x y
  obtain ⟨x1, x2, x3, x4, x5, x6, x7, x8, vs, xv, x9, x10, o, x11, x12⟩ := x
  obtain ⟨y1, y2, y3, y4, y5, y6, y7, y8, us, yv, y9, y10, oy, y11, y12⟩ := y
  have tl : TlOK how (wVs w ++ wVs u) (cmb (nI how) (fL h 39 p) (fL h 39 q)) := TlOK.both n1 n2 x8 y8
  have v1 : vs = [] := x9.2.2 h3
  have v2 : us = [] := y9.2.2 h3
  subst v1 v2
  refine k_absorbT x1 y1 hpq xv.2.1 yv.2.1 (y11 h3) ?_
  have sm : Smo (fun a => a = p ∨ fP h 40 p = some a ∨ fP h 40 q = some a) h (abH h p q (nI how)) := ((((Smo.rf h).andFI (Or.inl (Or.inl rfl))).andFI (Or.inl (Or.inl rfl))).andFL (Or.inl (Or.inl rfl))).andFI (Or.inl (Or.inl rfl))
  have ef : fP (abH h p q (nI how)) 40 p = none := x11 h3
  refine hQ _ ⟨x1, (if_pos hp).trans x2, f34, f35, f36, f37, f38, by rw [f39]; exact tl, [], ⟨x1, ?_, rfl, by simp, Or.inl ⟨ef, rfl⟩⟩, ⟨fun e => by omega, fun e => by omega, fun _ => rfl⟩, Nat.zero_le _, fun t ht => ?_, fun _ => ef, fun h4 => by omega⟩ sm (Wf_same rfl rfl wf) (fun t ht => ?_) ?_ (Nat.le_add_right _ _)
  · exact f41.trans xv.2.1
  · rw [ef] at ht
    cases ht
  · rw [ef] at ht
    cases ht
  · rw [x11 h3, y11 h3, ef]
    show hs h + 2 * 0 + 2 * 0 ≤ hs h + 2 * 0 + _
    omega
theorem k_wAbsV {q : Nat} {u : Wd} (x : WdV h ow T how k p w) (y : WdV h ow T how k q u) (wf : Wf h) (hh : how ≤ 5) (h3 : ¬ how ≤ 3) (hpq : q ≠ p) (hrow : ∀ t, fP h 40 p = some t → fP h 40 q ≠ some t) (n1 : wVs w ≠ []) (n2 : wVs u ≠ []) (hl : (wVs w).length + (wVs u).length < 1000000)
    (hQ : ∀ h', WdV h' (owX ow h T) T how k p (mnI (wB w) (wB u), mxI (wE w) (wE u), wR w, wVs w ++ wVs u) → Smo (fun a => a = p ∨ fP h 40 p = some a ∨ fP h 40 q = some a) h h' → Wf h' → (∀ t, fP h' 40 p = some t → fP h 40 p = some t ∨ fP h 40 q = some t ∨ hz h ≤ t) → hs h' + 2 * capO h (fP h 40 p) + 2 * capO h (fP h 40 q) ≤ hs h + 2 * capO h' (fP h' 40 p) + 8 * min (wVs w).length (wVs u).length → hz h' ≤ hz h + min (wVs w).length (wVs u).length → Q none h') :
    Call g mX7_absorb (d + 3) [.ref p, .ref q, .int (nI how)] h Q := by
  have hp := x.lt wf
  have hr := fun t ht => x.row (t := t) ht
  have hrq := fun t ht => y.row (t := t) ht
  have l1 : 0 < (wVs w).length := List.length_pos_iff.mpr n1
  have l2 : 0 < (wVs u).length := List.length_pos_iff.mpr n2
  obtain ⟨f34, f35, f36, f37, f38, f39, f41⟩ := abF x y
  obtain ⟨x1, x2, x3, x4, x5, x6, x7, x8, vs, xv, x9, x10, o, x11, x12⟩ := x
  obtain ⟨y1, y2, y3, y4, y5, y6, y7, y8, us, yv, y9, y10, oy, y11, y12⟩ := y
  have tl : TlOK how (wVs w ++ wVs u) (cmb (nI how) (fL h 39 p) (fL h 39 q)) := TlOK.both n1 n2 x8 y8
  have h45 : how = 4 ∨ how = 5 := by omega
  obtain ⟨tw, etw⟩ := Option.ne_none_iff_exists'.mp (x12 (by omega) n1)
  obtain ⟨tu, etu⟩ := Option.ne_none_iff_exists'.mp (y12 (by omega) n2)
  rw [etw] at xv
  rw [etu] at yv
  have htt : tw ≠ tu := fun e => hrow tw etw (e ▸ etu)
  have ctw := o tw etw
  have ctu := oy tu etu
  have ztw : tw < hz h := wf tw (by rw [(hr tw etw).1]; decide)
  have ztu : tu < hz h := wf tu (by rw [(hrq tu etu).1]; decide)
  refine k_absorbV xv yv hpq htt h45 (x9.sorted hh) (y9.sorted hh) (by omega) wf (fun h' t' vs' t0 s1 s2 s3 s4 s5 s6 s7 s8 s9 => ?_)
  have e40 : fP h' 40 p = some t' := s2.2.2.1
  have zt0 : t0 < hz h ∧ (fP h 40 p = some t0 ∨ fP h 40 q = some t0) ∧ ow t0 = T := by
    rcases s1 with ⟨_, e, _⟩ | ⟨_, e, _⟩
    · exact e ▸ ⟨ztw, Or.inl etw, ctw.1⟩
    · exact e ▸ ⟨ztu, Or.inr etu, ctu.1⟩
  have lv : vs'.length ≤ (wVs w ++ wVs u).length := by
    rw [List.length_append]
    rcases s1 with ⟨_, _, e⟩ | ⟨_, _, e⟩
    · have := InsAll.len _ _ _ _ e
      omega
    · have := InsAll.len _ _ _ _ e
      omega
  have vo : VsOK how (wVs w ++ wVs u) vs' := by
    rcases s1 with ⟨_, _, e⟩ | ⟨_, _, e⟩
    · exact VsOK.both h45 x9 y9 e
    · exact (VsOK.both h45 y9 x9 e).perm List.perm_append_comm
  have gr : vs.length ≤ vs'.length ∧ us.length ≤ vs'.length := by
    rcases s1 with ⟨e0, _, e⟩ | ⟨e0, _, e⟩
    · have := InsAll.ge _ _ _ _ e
      omega
    · have := InsAll.ge _ _ _ _ e
      omega
  refine hQ h' ⟨s2.1, (if_pos hp).trans x2, (s5.1 34 (by decide)).trans f34, (s5.1 35 (by decide)).trans f35, (s5.1 36 (by decide)).trans f36, (s5.1 37 (by decide)).trans f37, (s5.1 38 (by decide)).trans f38, by rw [s5.2.1 39, f39]; exact tl, vs', by rw [e40]; exact s2, vo, lv, fun t ht => ?_, fun h4 => absurd h4 h3, fun _ _ => by rw [e40]; exact Option.some_ne_none _⟩ (s3.mono (fun a _ ha => ?_)) s4 (fun t ht => ?_) ?_ (by omega)
  · rw [e40] at ht
    cases ht
    have c0 : hN h t0 ≤ max 4 (2 * vs'.length) := by
      rcases s1 with ⟨_, e, _⟩ | ⟨_, e, _⟩
      · rw [e]
        have := ctw.2
        omega
      · rw [e]
        have := ctu.2
        omega
    refine ⟨?_, by omega⟩
    unfold owX
    split
    · rcases s6 with e | e
      · exact e ▸ zt0.2.2
      · omega
    · rfl
  · rcases ha with e | e
    · exact Or.inl e
    · rw [e]
      exact Or.inr zt0.2.1
  · rw [e40] at ht
    cases ht
    rcases s6 with e | e
    · rcases zt0.2.1 with h1 | h1
      · exact Or.inl (e ▸ h1)
      · exact Or.inr (Or.inl (e ▸ h1))
    · exact Or.inr (Or.inr e)
  · rw [etw, etu, e40]
    show hs h' + 2 * hN h tw + 2 * hN h tu ≤ hs h + 2 * hN h' t' + _
    have c1 := ctw.2
    have c2 := ctu.2
    rcases s1 with ⟨e0, e, _⟩ | ⟨e0, e, _⟩
    · subst e
      omega
    · subst e
      omega
theorem k_wAbsorb {q : Nat} {u : Wd} (x : WdV h ow T how k p w) (y : WdV h ow T how k q u) (wf : Wf h) (hh : how ≤ 5) (hpq : q ≠ p) (hrow : ∀ t, fP h 40 p = some t → fP h 40 q ≠ some t) (n1 : wVs w ≠ []) (n2 : wVs u ≠ []) (hl : (wVs w).length + (wVs u).length < 1000000)
    (hQ : ∀ h', WdV h' (owX ow h T) T how k p (mnI (wB w) (wB u), mxI (wE w) (wE u), wR w, wVs w ++ wVs u) → Smo (fun a => a = p ∨ fP h 40 p = some a ∨ fP h 40 q = some a) h h' → Wf h' → (∀ t, fP h' 40 p = some t → fP h 40 p = some t ∨ fP h 40 q = some t ∨ hz h ≤ t) → hs h' + 2 * capO h (fP h 40 p) + 2 * capO h (fP h 40 q) ≤ hs h + 2 * capO h' (fP h' 40 p) + 8 * min (wVs w).length (wVs u).length → hz h' ≤ hz h + min (wVs w).length (wVs u).length → Q none h') :
    Call g mX7_absorb (d + 3) [.ref p, .ref q, .int (nI how)] h Q := by
  by_cases h3 : how ≤ 3
  · exact k_wAbsT x y wf hh h3 hpq hrow n1 n2 hl hQ
  · exact k_wAbsV x y wf hh h3 hpq hrow n1 n2 hl hQ
end L38
