/-! A1: WindowMill: stage -/
def newS (kd a b : Int32) : Stg := (fun f => if f = 2 then 1 else if f = 3 then kd else if f = 6 then a else if f = 7 then b else 0, 0, fun _ => false, fun _ => [])
def xNew (X : Sg) (kd a b : Int32) : Sg := (xM X + 1, xT X, xR X, xP X, xI X, upR (xS X) (xM X) (newS kd a b))
def doStage (X : Sg) (kd a b : Int32) : Int32 × Sg := if saidB kd a b then (if xM X < 16 then (nI (xM X), xNew X kd a b) else (-6, X)) else (-1, X)
theorem said_w {kd a b : Int32} (h : saidB kd a b = true) (hw : 4 ≤ kd) : (kd = 4 ∨ kd = 5 ∨ kd = 6) ∧ 1 ≤ (spW kd a).toInt ∧ (spW kd a).toInt ≤ 10001 ∧ 1 ≤ (stW kd a b).toInt ∧ (stW kd a b).toInt ≤ 10001 ∧ (spW kd a).toInt ≤ 4 * (stW kd a b).toInt := by
  have k0 : ¬ kd = 0 := fun e => by subst e; revert hw; decide
  have k1 : ¬ kd = 1 := fun e => by subst e; revert hw; decide
  have k2 : ¬ kd = 2 := fun e => by subst e; revert hw; decide
  have k3 : ¬ kd = 3 := fun e => by subst e; revert hw; decide
  have i1 : (1 : Int32).toInt = 1 := by decide
  have i0 : (0 : Int32).toInt = 0 := by decide
  have i4 : (10000 : Int32).toInt = 10000 := by decide
  unfold saidB at h
  rw [if_neg k0, if_neg k1, if_neg k2, if_neg k3] at h
  by_cases h4 : kd = 4
  · subst h4
    rw [if_pos rfl] at h
    have h := of_decide_eq_true h
    have e1 : spW 4 a = a := if_neg (by decide)
    have e2 : stW 4 a b = if 1 < a then a else 1 := by
      unfold stW
      rw [if_neg (show ¬ (4 : Int32) = 5 by decide), e1]
    rw [e1, e2]
    simp only [fa_le, i1, i4] at h
    refine ⟨Or.inl rfl, by omega, by omega, ?_⟩
    split
    · omega
    · rename_i hn
      rw [fa_lt, i1] at hn
      rw [i1]
      omega
  rw [if_neg h4] at h
  by_cases h5 : kd = 5
  · subst h5
    rw [if_pos rfl] at h
    have h := of_decide_eq_true h
    have e1 : spW 5 a = a := if_neg (by decide)
    have e2 : stW 5 a b = if 1 < b then b else 1 := by
      unfold stW
      rw [if_pos rfl]
    rw [e1, e2]
    obtain ⟨ha, hb, hc⟩ := h
    simp only [fa_le, i1, i4] at ha hb
    have em : ((4 : Int32) * b).toInt = 4 * b.toInt := by
      rw [Int32.toInt_mul, show (4 : Int32).toInt = 4 by decide]
      exact Int.bmod_eq_of_le (by omega) (by omega)
    rw [fa_le, em] at hc
    refine ⟨Or.inr (Or.inl rfl), by omega, by omega, ?_⟩
    split
    · omega
    · rename_i hn
      rw [fa_lt, i1] at hn
      rw [i1]
      omega
  rw [if_neg h5] at h
  by_cases h6 : kd = 6
  · subst h6
    rw [if_pos rfl] at h
    have h := of_decide_eq_true h
    simp only [fa_le, i0, i4] at h
    have ea : (a + 1).toInt = a.toInt + 1 := by
      rw [i32_add (by rw [i1]; omega) (by rw [i1]; omega), i1]
    have e1 : spW 6 a = a + 1 := if_pos rfl
    have e2 : stW 6 a b = if 1 < a + 1 then a + 1 else 1 := by
      unfold stW
      rw [if_neg (show ¬ (6 : Int32) = 5 by decide), e1]
    rw [e1, e2]
    refine ⟨Or.inr (Or.inr rfl), by omega, by omega, ?_⟩
    split
    · omega
    · rename_i hn
      rw [fa_lt, i1, ea] at hn
      rw [i1]
      omega
  · rw [if_neg h6] at h
    cases h
section LA1
variable {g : Gl} {d : Nat} {h h1 : Hp} {ow ow1 us uz : Nat → Nat} {c lg SA ST WY : Nat} {po sp : Nat → Nat} {X : Sg} {Q : Option Value → Hp → Prop} {kd a b : Int32}
theorem xNew_st {s : Nat} (hs : s < xM X) : xS (xNew X kd a b) s = xS X s := upR_ne _ _ (by omega)
theorem xNew_new : xS (xNew X kd a b) (xM X) = newS kd a b := upR_at _ _ _
theorem tot_new (f : Stg → Nat) (h0 : f (newS kd a b) = 0) : tot f (xNew X kd a b) = tot f X := by
  show fb_sm _ (xM X + 1) = fb_sm _ (xM X)
  rw [fb_sm_succ, fb_sm_cong (g := fun s => f (xS X s)) (fun s hs => by rw [xNew_st hs])]
  show _ + f (xS (xNew X kd a b) (xM X)) = _
  rw [xNew_new, h0]
  rfl
theorem wz_new : ∀ n f, wz (xNew X kd a b) n f = wz X n f := by
  intro n
  induction n with
  | zero => exact fun _ => rfl
  | succ n ih =>
    intro f
    show fb_sm _ (xM X + 1) = fb_sm _ (xM X)
    rw [fb_sm_succ]
    rw [fb_sm_cong (g := fun s => if gF (xS X s) f then (if isW (xS X s) then 1 else wz X n (8 + s)) else 0) (fun s hs => by rw [xNew_st hs, ih])]
    rw [xNew_new]
    rfl
theorem MI.new (h : MI X) (hs : saidB kd a b = true) (hm : xM X < 16) : MI (xNew X kd a b) := by
  obtain ⟨⟨g1, g2, g3⟩, ⟨b1, b2⟩, h3, h4, h5⟩ := h
  have e1 : entS (newS kd a b) = 0 := by
    unfold entS
    split
    · exact sm_zero _ rfl
    · rfl
  have e2 : camS (newS kd a b) = 0 := by
    unfold camS
    split <;> rfl
  have e3 : potS (newS kd a b) = 0 := by
    unfold potS
    split
    · show sm cR (fun _ => []) + 2 * sm (cD 0) (fun _ => []) = 0
      rw [sm_zero _ rfl, sm_zero _ rfl]
    · rfl
  refine ⟨⟨hm, fun s hs' f hf => ?_, fun s hs' => ?_⟩, ⟨fun s hs' hw => ?_, ?_⟩, ?_, h4, fun p hp => by rw [wz_new]; exact h5 p hp⟩
  · have hs2 : s < xM X + 1 := hs'
    by_cases e : s = xM X
    · subst e
      rw [xNew_new] at hf
      cases hf
    · have hs3 : s < xM X := by omega
      rw [xNew_st hs3] at hf
      have := g2 s hs3 f hf
      refine ⟨this.1, fun h8 => ?_⟩
      rw [xNew_st (by omega)]
      exact this.2 h8
  · have hs2 : s < xM X + 1 := hs'
    by_cases e : s = xM X
    · subst e
      rw [xNew_new]
      exact hs
    · rw [xNew_st (by omega)]
      exact g3 s (by omega)
  · have hs2 : s < xM X + 1 := hs'
    by_cases e : s = xM X
    · subst e
      rw [xNew_new, e1, e2]
      exact ⟨Nat.zero_le _, fun _ => Nat.zero_le _, Nat.le_of_eq rfl, rfl, by decide⟩
    · rw [xNew_st (by omega)] at hw ⊢
      exact b1 s (by omega) hw
  · rw [tot_new _ e1, tot_new _ e3]
    exact b2
  · rw [tot_new _ e2]
    exact h3
/-- new cells alone: the mill stays -/
theorem MV.ext (hM : MV g h ow c lg SA ST WY po sp X us uz) (f : Fr ow ow1 (fun _ => False) h h1) (wf' : Wf h1) : MV g h1 ow1 c lg SA ST WY po sp X us uz := by
  have gd := hM.2.2.2.2.2.2
  have sm : ∀ q, q < hz h → sameAt h h1 q := fun q hq => f.2.2 q hq (fun z => z)
  have zc := hM.lt
  obtain ⟨a1, a2, a3, a4, a5, a6, a7, a8⟩ := hM.1
  obtain ⟨b1, b2, b3, b4, b5, b6, b7, b8, b9⟩ := hM.2.1
  have zSA := gd.1 SA (by rw [b1]; decide)
  have zST := gd.1 ST (by rw [b4]; decide)
  have zWY := gd.1 WY (by rw [b7]; decide)
  have sc := sm c zc.1
  have s1 := sm SA zSA
  have s2 := sm ST zST
  have s3 := sm WY zWY
  refine hM.mill f (fun t z => z.elim) wf' rfl rfl rfl ⟨sc.1.trans a1, (f.2.1 c zc.1).trans a2, (sc.2.2.2.2.1 42).trans a3, (sc.2.2.2.2.1 43).trans a4, (sc.2.2.2.2.1 44).trans a5, (sc.2.2.2.2.1 45).trans a6, (sc.2.2.1 46).trans a7, (sc.2.2.1 47).trans a8⟩ ⟨s1.1.trans b1, s1.2.1.trans b2, (f.2.1 SA zSA).trans b3, s2.1.trans b4, s2.2.1.trans b5, (f.2.1 ST zST).trans b6, s3.1.trans b7, s3.2.1.trans b8, (f.2.1 WY zWY).trans b9⟩ (fun i hi => ?_) (fun s _ => by rw [s1.2.2.2.2.2.2.2, s2.2.2.2.2.2.2.2]; exact ⟨rfl, rfl⟩)
  obtain ⟨p1, p2, p3, p4, p5⟩ := hM.2.2.1 i hi
  have sp0 := sm _ (zc.2 i hi)
  rw [s1.2.2.2.2.2.2.2]
  exact ⟨p1, sp0.1.trans p2, (f.2.1 _ (zc.2 i hi)).trans p3, (sp0.2.2.1 1).trans p4, (sp0.2.2.1 2).trans p5⟩
/-- the new stage comes into the rows -/
theorem MV.put {p US UZ : Nat} {S : Stg} {h2 : Hp} (hM : MV g h ow c lg SA ST WY po sp X us uz) (hV : StV g h ow (xM X) p lg S (xR X) US UZ) (hm : xM X < 16) (f : Fr ow ow (fun t => t = tM) h h2) (wf2 : Wf h2)
    (e46 : fI h2 46 c = nI (xM X + 1)) (ec : hK h2 c = hK h c ∧ fI h2 47 c = fI h 47 c ∧ ∀ k, fP h2 k c = fP h k c) (er : hK h2 SA = hK h SA ∧ hN h2 SA = hN h SA ∧ hK h2 ST = hK h ST ∧ hN h2 ST = hN h ST ∧ hK h2 WY = hK h WY ∧ hN h2 WY = hN h WY)
    (eA : ∀ i, aP h2 SA i = if i = 8 + xM X then some p else aP h SA i) (eT : ∀ i, aP h2 ST i = if i = xM X then some p else aP h ST i) :
    MV g h2 ow c lg SA ST WY po (upR sp (xM X) p) (xM X + 1, xT X, xR X, xP X, xI X, upR (xS X) (xM X) S) (upR us (xM X) US) (upR uz (xM X) UZ) := by
  have lt := hM.lt
  obtain ⟨⟨a1, a2, a3, a4, a5, a6, a7, a8⟩, ⟨b1, b2, b3, b4, b5, b6, b7, b8, b9⟩, hP, hS, h16, hL, gd⟩ := hM
  have n0 : ¬ (0 : Nat) = tM := by unfold tM; omega
  have hL2 : LogV h2 ow lg (xR X) := hL.fr gd.1 f (by unfold tL tM; omega)
  refine ⟨⟨ec.1.trans a1, a2, (ec.2.2 42).trans a3, (ec.2.2 43).trans a4, (ec.2.2 44).trans a5, (ec.2.2 45).trans a6, e46, ec.2.1.trans a8⟩, ⟨er.1.trans b1, er.2.1.trans b2, b3, er.2.2.1.trans b4, er.2.2.2.1.trans b5, b6, er.2.2.2.2.1.trans b7, er.2.2.2.2.2.trans b8, b9⟩, fun i hi => ?_, fun s hs => ?_, hm, hL2, gd.fr f n0 wf2⟩
  · obtain ⟨p1, p2, p3, p4, p5⟩ := hP i hi
    have sp0 : sameAt h h2 (po i) := f.2.2 _ (lt.2 i hi) (by rw [p3]; unfold tO tM; omega)
    rw [eA, if_neg (by omega)]
    exact ⟨p1, sp0.1.trans p2, p3, (sp0.2.2.1 1).trans p4, (sp0.2.2.1 2).trans p5⟩
  · show (s < xM X + 1 → aP h2 ST s = some (upR sp (xM X) p s) ∧ aP h2 SA (8 + s) = some (upR sp (xM X) p s) ∧ StV g h2 ow s (upR sp (xM X) p s) lg (upR (xS X) (xM X) S s) (xR X) (upR us (xM X) US s) (upR uz (xM X) UZ s)) ∧ (xM X + 1 ≤ s → _)
    rw [eA, eT]
    by_cases e : s = xM X
    · subst e
      rw [upR_at, upR_at, upR_at, upR_at, if_pos rfl, if_pos rfl]
      refine ⟨fun _ => ⟨rfl, rfl, hV.other gd.1 f (fun t ht q => ?_) n0 wf2 hL2 ⟨[], (List.append_nil _).symm⟩⟩, fun q => by omega⟩
      unfold tgS at ht
      unfold tM at q
      omega
    · rw [upR_ne _ _ e, upR_ne _ _ e, upR_ne _ _ e, upR_ne _ _ e, if_neg e, if_neg (by omega)]
      refine ⟨fun hm' => ?_, fun hm' => (hS s hs).2 (by omega)⟩
      obtain ⟨r1, r2, r3⟩ := (hS s hs).1 (by omega)
      refine ⟨r1, r2, r3.other gd.1 f (fun t ht q => ?_) n0 wf2 hL2 ⟨[], (List.append_nil _).symm⟩⟩
      unfold tgS at ht
      unfold tM at q
      omega
end LA1
