/-! 36: a lane of windows: what the heap says of it, and what stays -/
def rI : Option Nat → Int32
  | none => -1
  | some r => nI r
def lam (n : Nat) : Nat := n * Nat.log2 n
theorem log2_up {a b : Nat} (ha : 0 < a) (h : a ≤ b) : Nat.log2 a ≤ Nat.log2 b :=
  (Nat.le_log2 (by omega)).mpr (Nat.le_trans (Nat.log2_self_le (by omega)) h)
theorem log2_two {a b : Nat} (ha : 0 < a) (h : a ≤ b) : Nat.log2 a + 1 ≤ Nat.log2 (a + b) := by
  refine (Nat.le_log2 (by omega)).mpr ?_
  have := Nat.log2_self_le (n := a) (by omega)
  rw [Nat.pow_succ]
  omega
theorem lam_le {a b : Nat} (ha : 0 < a) (h : a ≤ b) : lam a + lam b + a ≤ lam (a + b) := by
  unfold lam
  have h1 := Nat.mul_le_mul (Nat.le_refl a) (log2_two ha h)
  have h2 := Nat.mul_le_mul (Nat.le_refl b) (log2_up (a := b) (b := a + b) (by omega) (by omega))
  rw [Nat.add_mul a b, Nat.mul_add, Nat.mul_one] at *
  omega
theorem lam_add {a b : Nat} (ha : 0 < a) (hb : 0 < b) : lam a + lam b + min a b ≤ lam (a + b) := by
  rcases Nat.le_total a b with h | h
  · rw [Nat.min_eq_left h]
    exact lam_le ha h
  · rw [Nat.min_eq_right h, Nat.add_comm a b]
    have := lam_le hb h
    omega
theorem lam_mono {a : Nat} : lam a ≤ lam (a + 1) := by
  rcases Nat.eq_zero_or_pos a with e | h
  · subst e
    exact Nat.zero_le _
  · exact Nat.mul_le_mul (Nat.le_succ _) (log2_up h (Nat.le_succ _))
def capO (h : Hp) : Option Nat → Nat
  | none => 0
  | some t => hN h t
def owX (ow : Nat → Nat) (h : Hp) (T : Nat) : Nat → Nat := fun a => if a < hz h then ow a else T
/-- from h to h': cells of tags outside S are the same, owners of old cells are the same -/
def Fr (ow ow' : Nat → Nat) (S : Nat → Prop) (h h' : Hp) : Prop := hz h ≤ hz h' ∧ (∀ a, a < hz h → ow' a = ow a) ∧ ∀ a, a < hz h → ¬ S (ow a) → sameAt h h' a
theorem Fr.rf {ow : Nat → Nat} {S : Nat → Prop} (h : Hp) : Fr ow ow S h h := ⟨Nat.le_refl _, fun _ _ => rfl, fun a _ _ => sameAt.rf h a⟩
theorem Fr.tr {ow ow1 ow2 : Nat → Nat} {S : Nat → Prop} {h h1 h2 : Hp} (x : Fr ow ow1 S h h1) (y : Fr ow1 ow2 S h1 h2) : Fr ow ow2 S h h2 :=
  ⟨Nat.le_trans x.1 y.1, fun a ha => (y.2.1 a (Nat.lt_of_lt_of_le ha x.1)).trans (x.2.1 a ha), fun a ha hn => (x.2.2 a ha hn).tr (y.2.2 a (Nat.lt_of_lt_of_le ha x.1) (by rw [x.2.1 a ha]; exact hn))⟩
theorem Fr.mono {ow ow' : Nat → Nat} {S S1 : Nat → Prop} {h h' : Hp} (x : Fr ow ow' S h h') (hS : ∀ t, S t → S1 t) : Fr ow ow' S1 h h' := ⟨x.1, x.2.1, fun a ha hn => x.2.2 a ha (fun h => hn (hS _ h))⟩
theorem Fr.of {ow : Nat → Nat} {S : Nat → Prop} {P : Nat → Prop} {h h' : Hp} {T : Nat} (x : Smo P h h') (hP : ∀ a, a < hz h → P a → S (ow a)) : Fr ow (owX ow h T) S h h' :=
  ⟨x.1, fun a ha => if_pos ha, fun a ha hn => x.2 a ha (fun h => hn (hP a ha h))⟩
theorem Fr.of0 {ow : Nat → Nat} {S : Nat → Prop} {P : Nat → Prop} {h h' : Hp} (x : Smo P h h') (hP : ∀ a, a < hz h → P a → S (ow a)) : Fr ow ow S h h' :=
  ⟨x.1, fun _ _ => rfl, fun a ha hn => x.2 a ha (fun h => hn (hP a ha h))⟩
/-- the heap is well formed; the library's empty row is nobody's -/
def Gd (g : Gl) (h : Hp) (ow : Nat → Nat) : Prop := Wf h ∧ g.2.2.2.2.1 < hz h ∧ ow g.2.2.2.2.1 = 0 ∧ hK h g.2.2.2.2.1 = 0
theorem Gd.fr {g : Gl} {ow ow' : Nat → Nat} {S : Nat → Prop} {h h' : Hp} (x : Gd g h ow) (f : Fr ow ow' S h h') (h0 : ¬ S 0) (wf : Wf h') : Gd g h' ow' :=
  ⟨wf, Nat.lt_of_lt_of_le x.2.1 f.1, (f.2.1 _ x.2.1).trans x.2.2.1, (f.2.2 _ x.2.1 (x.2.2.1.symm ▸ h0)).1.trans x.2.2.2⟩
def WdV (h : Hp) (ow : Nat → Nat) (T how k p : Nat) (w : Wd) : Prop :=
  hK h p = 7 ∧ ow p = T ∧ fI h 34 p = nI k ∧ fI h 35 p = wB w ∧ fI h 36 p = wE w ∧ fI h 37 p = nI (wVs w).length ∧ fI h 38 p = rI (wR w) ∧ TlOK how (wVs w) (fL h 39 p) ∧
    ∃ vs, Vv h p (fP h 40 p) vs ∧ VsOK how (wVs w) vs ∧ vs.length ≤ (wVs w).length ∧ (∀ t, fP h 40 p = some t → ow t = T ∧ hN h t ≤ max 4 (2 * vs.length)) ∧ (how ≤ 3 → fP h 40 p = none) ∧ (4 ≤ how → wVs w ≠ [] → fP h 40 p ≠ none)
theorem Vrow.lt {h : Hp} {t : Nat} {vs : List Int64} (v : Vrow h t vs) (wf : Wf h) : t < hz h := wf t (by rw [v.1]; decide)
theorem Vrow.same {h h' : Hp} {t : Nat} {vs : List Int64} (v : Vrow h t vs) (s : sameAt h h' t) : Vrow h' t vs := by
  obtain ⟨v1, v2, v3, v4, v5⟩ := v
  refine ⟨s.1.trans v1, by rw [s.2.1]; exact v2, by rw [s.2.1]; exact v3, by rw [s.2.1]; exact v4, fun i hi => ?_⟩
  rw [s.2.2.2.2.2.2.1]
  exact v5 i hi
theorem WdV.lt {h : Hp} {ow : Nat → Nat} {T how k p : Nat} {w : Wd} (x : WdV h ow T how k p w) (wf : Wf h) : p < hz h := wf p (by rw [x.1]; decide)
theorem WdV.row {h : Hp} {ow : Nat → Nat} {T how k p t : Nat} {w : Wd} (x : WdV h ow T how k p w) (ht : fP h 40 p = some t) : hK h t = 22 ∧ ow t = T := by
  obtain ⟨_, _, _, _, _, _, _, _, vs, v, _, _, o, _⟩ := x
  refine ⟨?_, (o t ht).1⟩
  rcases v.2.2.2.2 with e | ⟨t', e, r⟩
  · rw [e.1] at ht
    cases ht
  · rw [ht] at e
    cases e
    exact r.1
theorem WdV.same {h h' : Hp} {ow ow' : Nat → Nat} {T how k p : Nat} {w : Wd} (x : WdV h ow T how k p w) (wf : Wf h) (ho : ∀ a, a < hz h → ow' a = ow a) (sp : sameAt h h' p) (st : ∀ t, fP h 40 p = some t → sameAt h h' t) : WdV h' ow' T how k p w := by
  have hp := x.lt wf
  have hr := fun t ht => x.row (t := t) ht
  obtain ⟨x1, x2, x3, x4, x5, x6, x7, x8, vs, v, x9, x10, o, x11, x12⟩ := x
  obtain ⟨s1, s2, s3, s4, s5, s6, s7, s8⟩ := sp
  refine ⟨s1.trans x1, (ho p hp).trans x2, (s3 34).trans x3, (s3 35).trans x4, (s3 36).trans x5, (s3 37).trans x6, (s3 38).trans x7, by rw [s4 39]; exact x8, vs, ?_, x9, x10, fun t ht => ?_, fun hh => (s5 40).trans (x11 hh), fun h1 h2 => by rw [s5 40]; exact x12 h1 h2⟩
  · obtain ⟨v1, v2, v3, v4, v5⟩ := v
    refine ⟨s1.trans v1, (s3 41).trans v2, rfl, v4, ?_⟩
    rw [s5 40]
    rcases v5 with e | ⟨t, e, r⟩
    · exact Or.inl e
    · exact Or.inr ⟨t, e, r.same (st t e)⟩
  · rw [s5 40] at ht
    rw [(st t ht).2.1, ho t (wf t (by rw [(hr t ht).1]; decide))]
    exact o t ht
abbrev Zw : Type := List (Nat × Wd)
def LaneS (g : Gl) (h : Hp) (ow : Nat → Nat) (T how k la al e : Nat) (Z : Zw) : Prop :=
  LNv g h la al e (Z.map (·.1)) ∧ ow la = T ∧ ow al = T ∧ (hK h e ≠ 0 → ow e = T) ∧ (∀ z ∈ Z, WdV h ow T how k z.1 z.2) ∧ Z.Pairwise (fun y z => y.1 ≠ z.1 ∧ ∀ t, fP h 40 y.1 = some t → fP h 40 z.1 ≠ some t)
theorem ALv.same {g : Gl} {h h' : Hp} {al e : Nat} {l : List Nat} (x : ALv g h al e l) (sa : sameAt h h' al) (se : hK h e = 27 → sameAt h h' e) : ALv g h' al e l := by
  obtain ⟨x1, x2, x3, x4, x5⟩ := x
  refine ⟨sa.1.trans x1, (sa.2.2.1 50).trans x2, (sa.2.2.2.2.1 49).trans x3, x4, ?_⟩
  rcases x5 with x5 | ⟨y1, y2, y3, y4, y5⟩
  · exact Or.inl x5
  · have s := se y1
    refine Or.inr ⟨s.1.trans y1, by rw [s.2.1]; exact y2, by rw [s.2.1]; exact y3, by rw [s.2.1]; exact y4, fun i hi => ?_⟩
    rw [s.2.2.2.2.2.2.2]
    exact y5 i hi
theorem LNv.same {g : Gl} {h h' : Hp} {la al e : Nat} {l : List Nat} (x : LNv g h la al e l) (sl : sameAt h h' la) (sa : sameAt h h' al) (se : sameAt h h' e) (sw : ∀ w ∈ l, hK h' w = hK h w) : LNv g h' la al e l := by
  obtain ⟨x1, x2, x3, x4, x5⟩ := x
  exact ⟨sl.1.trans x1, (sl.2.2.2.2.1 27).trans x2, x3.same sa (fun _ => se), fun w hw => (sw w hw).trans (x4 w hw), by rw [se.1]; exact x5⟩
theorem LNv.e0 {g : Gl} {h : Hp} {la al e : Nat} {l : List Nat} (x : LNv g h la al e l) (he : hK h e = 0) : e = g.2.2.2.2.1 := by
  rcases x.2.2.1.2.2.2.2 with ⟨_, y⟩ | ⟨y, _⟩
  · exact y
  · rw [he] at y
    omega
theorem LaneS.fr {g : Gl} {h h' : Hp} {ow ow' : Nat → Nat} {S : Nat → Prop} {T how k la al e : Nat} {Z : Zw} (x : LaneS g h ow T how k la al e Z) (gd : Gd g h ow) (f : Fr ow ow' S h h') (hT : ¬ S T) (h0 : ¬ S 0) : LaneS g h' ow' T how k la al e Z := by
  obtain ⟨x1, x2, x3, x4, x5, x6⟩ := x
  have sm : ∀ a, a < hz h → ow a = T → sameAt h h' a := fun a ha e => f.2.2 a ha (e ▸ hT)
  have la0 : la < hz h := gd.1 la (by rw [x1.1]; decide)
  have al0 : al < hz h := gd.1 al (by rw [x1.2.2.1.1]; decide)
  have pz : ∀ z ∈ Z, z.1 < hz h := fun z hz => (x5 z hz).lt gd.1
  have se : sameAt h h' e := by
    by_cases he : hK h e = 0
    · rw [x1.e0 he]
      exact f.2.2 _ gd.2.1 (gd.2.2.1.symm ▸ h0)
    · exact sm e (gd.1 e he) (x4 he)
  have sz : ∀ z ∈ Z, sameAt h h' z.1 := fun z hz => sm _ (pz z hz) (x5 z hz).2.1
  refine ⟨x1.same (sm la la0 x2) (sm al al0 x3) se (fun w hw => ?_), (f.2.1 la la0).trans x2, (f.2.1 al al0).trans x3, fun he => ?_, fun z hz => ?_, ?_⟩
  · obtain ⟨z, hz, e⟩ := List.mem_map.mp hw
    exact e ▸ (sz z hz).1
  · rw [se.1] at he
    rw [f.2.1 e (gd.1 e he)]
    exact x4 he
  · exact (x5 z hz).same gd.1 f.2.1 (sz z hz) (fun t ht => by
      have := (x5 z hz).row ht
      exact sm t (gd.1 t (by rw [this.1]; decide)) this.2)
  · refine x6.imp_of_mem (fun {y z} hy hz h => ⟨h.1, fun t => ?_⟩)
    rw [(sz y hy).2.2.2.2.1 40, (sz z hz).2.2.2.2.1 40]
    exact h.2 t
/-- one window has changed, and its values; the row of values may be new -/
theorem LaneS.upd {g : Gl} {h h' : Hp} {ow ow' : Nat → Nat} {T how k la al e p : Nat} {A B : Zw} {w w' : Wd} (x : LaneS g h ow T how k la al e (A ++ (p, w) :: B)) (gd : Gd g h ow) (s : Smo (fun a => a = p ∨ fP h 40 p = some a) h h') (ho : ∀ a, a < hz h → ow' a = ow a)
    (hw : WdV h' ow' T how k p w') (ht : ∀ t, fP h' 40 p = some t → fP h 40 p = some t ∨ hz h ≤ t) : LaneS g h' ow' T how k la al e (A ++ (p, w') :: B) := by
  obtain ⟨x1, x2, x3, x4, x5, x6⟩ := x
  have hp := x5 (p, w) (List.mem_append_right _ List.mem_cons_self)
  have nk : ∀ a, a < hz h → hK h a ≠ 7 → hK h a ≠ 22 → sameAt h h' a := fun a ha n1 n2 => s.2 a ha (fun hh => hh.elim (fun e => n1 (e ▸ hp.1)) (fun e => n2 (hp.row e).1))
  have la0 : la < hz h := gd.1 la (by rw [x1.1]; decide)
  have al0 : al < hz h := gd.1 al (by rw [x1.2.2.1.1]; decide)
  have se : sameAt h h' e := by
    by_cases he : hK h e = 0
    · refine nk e ?_ (by rw [he]; decide) (by rw [he]; decide)
      rw [x1.e0 he]
      exact gd.2.1
    · rcases x1.2.2.2.2 with e1 | e1
      · exact nk e (gd.1 e he) (by rw [e1]; decide) (by rw [e1]; decide)
      · exact absurd e1 he
  have hpw := List.pairwise_append.mp x6
  have hB := List.pairwise_cons.mp hpw.2.1
  have dA : ∀ z ∈ A, z.1 ≠ p ∧ ∀ t, fP h 40 z.1 = some t → fP h 40 p ≠ some t := fun z hz => hpw.2.2 z hz (p, w) List.mem_cons_self
  have dB : ∀ z ∈ B, z.1 ≠ p ∧ ∀ t, fP h 40 z.1 = some t → fP h 40 p ≠ some t := fun z hz => ⟨fun e => (hB.1 z hz).1 e.symm, fun t h1 h2 => (hB.1 z hz).2 t h2 h1⟩
  have ot : ∀ z, (z ∈ A ∨ z ∈ B) → z ∈ A ++ (p, w) :: B ∧ z.1 ≠ p ∧ ∀ t, fP h 40 z.1 = some t → fP h 40 p ≠ some t := fun z hz => hz.elim (fun hz => ⟨List.mem_append_left _ hz, dA z hz⟩) (fun hz => ⟨List.mem_append_right _ (List.mem_cons_of_mem _ hz), dB z hz⟩)
  have sz : ∀ z, (z ∈ A ∨ z ∈ B) → sameAt h h' z.1 ∧ z.1 < hz h := fun z hz => by
    have o := ot z hz
    have hx := x5 z o.1
    refine ⟨s.2 _ (hx.lt gd.1) (fun hh => hh.elim o.2.1 (fun e => ?_)), hx.lt gd.1⟩
    have := (hp.row e).1
    rw [hx.1] at this
    omega
  have st : ∀ z, (z ∈ A ∨ z ∈ B) → ∀ t, fP h 40 z.1 = some t → sameAt h h' t ∧ t < hz h := fun z hz t htt => by
    have o := ot z hz
    have hx := (x5 z o.1).row htt
    refine ⟨s.2 _ (gd.1 t (by rw [hx.1]; decide)) (fun hh => hh.elim (fun e => ?_) (fun e => o.2.2 t htt e)), gd.1 t (by rw [hx.1]; decide)⟩
    have := hp.1
    rw [← e, hx.1] at this
    omega
  have oW : ∀ z, (z ∈ A ∨ z ∈ B) → WdV h' ow' T how k z.1 z.2 := fun z hz => (x5 z (ot z hz).1).same gd.1 ho (sz z hz).1 (fun t htt => (st z hz t htt).1)
  have oP : ∀ z, (z ∈ A ∨ z ∈ B) → ∀ t, fP h 40 z.1 = some t → fP h' 40 p ≠ some t := fun z hz t h1 h2 => by
    rcases ht t h2 with h3 | h3
    · exact (ot z hz).2.2 t h1 h3
    · have := (st z hz t h1).2
      omega
  have x1' : LNv g h la al e ((A ++ (p, w') :: B).map (·.1)) := by
    rw [List.map_append, List.map_cons] at x1 ⊢
    exact x1
  refine ⟨x1'.same (nk la la0 (by rw [x1.1]; decide) (by rw [x1.1]; decide)) (nk al al0 (by rw [x1.2.2.1.1]; decide) (by rw [x1.2.2.1.1]; decide)) se (fun y hy => ?_), (ho la la0).trans x2, (ho al al0).trans x3, fun he => ?_, fun z hz => ?_, ?_⟩
  · obtain ⟨z, hz, e⟩ := List.mem_map.mp hy
    subst e
    rcases List.mem_append.mp hz with hz | hz
    · exact (sz z (Or.inl hz)).1.1
    · rcases List.mem_cons.mp hz with e | hz
      · rw [e, hw.1, hp.1]
      · exact (sz z (Or.inr hz)).1.1
  · rw [se.1] at he
    rw [ho e (gd.1 e he)]
    exact x4 he
  · rcases List.mem_append.mp hz with hz | hz
    · exact oW z (Or.inl hz)
    · rcases List.mem_cons.mp hz with e | hz
      · exact e ▸ hw
      · exact oW z (Or.inr hz)
  · refine List.pairwise_append.mpr ⟨hpw.1.imp_of_mem (fun {y z} hy hz h => ⟨h.1, fun t => ?_⟩), List.pairwise_cons.mpr ⟨fun z hz => ⟨(hB.1 z hz).1, fun t h1 h2 => ?_⟩, hB.2.imp_of_mem (fun {y z} hy hz h => ⟨h.1, fun t => ?_⟩)⟩, fun y hy z hz => ?_⟩
    · rw [(sz y (Or.inl hy)).1.2.2.2.2.1 40, (sz z (Or.inl hz)).1.2.2.2.2.1 40]
      exact h.2 t
    · rw [(sz z (Or.inr hz)).1.2.2.2.2.1 40] at h2
      exact oP z (Or.inr hz) t h2 h1
    · rw [(sz y (Or.inr hy)).1.2.2.2.2.1 40, (sz z (Or.inr hz)).1.2.2.2.2.1 40]
      exact h.2 t
    · rcases List.mem_cons.mp hz with e | hz
      · subst e
        refine ⟨(dA y hy).1, fun t h1 h2 => ?_⟩
        rw [(sz y (Or.inl hy)).1.2.2.2.2.1 40] at h1
        exact oP y (Or.inl hy) t h1 h2
      · have h3 := hpw.2.2 y hy z (List.mem_cons_of_mem _ hz)
        refine ⟨h3.1, fun t => ?_⟩
        rw [(sz y (Or.inl hy)).1.2.2.2.2.1 40, (sz z (Or.inr hz)).1.2.2.2.2.1 40]
        exact h3.2 t
