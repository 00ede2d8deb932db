/-! F0: the class and the model in one heap -/
def tW : Nat := 200000
section LF0
variable {g : Gl} {h h' : Hp} {ow ow' : Nat → Nat} {c lg SA ST WY m : Nat} {po sp us uz : Nat → Nat} {X : Sg} {u v : Mu} {S : Nat → Prop}
/-- cells that are not the mill's have changed -/
theorem MV.far (hM : MV g h ow c lg SA ST WY po sp X us uz) (f : Fr ow ow' S h h') (hS : ∀ t, S t → t = tW) (wf' : Wf h') : MV g h' ow' c lg SA ST WY po sp X us uz := by
  obtain ⟨⟨a1, a2, a3, a4, a5, a6, a7, a8⟩, ⟨b1, b2, b3, b4, b5, b6, b7, b8, b9⟩, hP, hSt, h16, hL, gd⟩ := hM
  have lt : ∀ a, hK h a ≠ 0 → a < hz h := gd.1
  have n0 : ¬ S 0 := fun q => by
    have := hS 0 q
    unfold tW at this
    omega
  have nM : ¬ S tM := fun q => by
    have := hS _ q
    unfold tW tM at this
    omega
  have nO : ∀ f, f < 8 → ¬ S (tO f) := fun f hf q => by
    have := hS _ q
    unfold tW tO at this
    omega
  have nL : ¬ S tL := fun q => by
    have := hS _ q
    unfold tW tL at this
    omega
  have zc := lt c (by rw [a1]; decide)
  have zSA := lt SA (by rw [b1]; decide)
  have zST := lt ST (by rw [b4]; decide)
  have zWY := lt WY (by rw [b7]; decide)
  have zp : ∀ f, f < 8 → po f < hz h := fun f hf => lt _ (by rw [(hP f hf).2.1]; decide)
  have sc := f.2.2 c zc (by rw [a2]; exact nM)
  have sSA := f.2.2 SA zSA (by rw [b3]; exact nM)
  have sST := f.2.2 ST zST (by rw [b6]; exact nM)
  have sWY := f.2.2 WY zWY (by rw [b9]; exact nM)
  have sp1 : ∀ i, i < 8 → sameAt h h' (po i) := fun i hi => f.2.2 _ (zp i hi) (by rw [(hP i hi).2.2.1]; exact nO i hi)
  have hL' : LogV h' ow' lg (xR X) := hL.fr gd.1 f nL
  refine ⟨⟨sc.1.trans a1, (f.2.1 c zc).trans a2, (sc.2.2.2.2.1 42).trans a3, (sc.2.2.2.2.1 43).trans a4, (sc.2.2.2.2.1 44).trans a5, (sc.2.2.2.2.1 45).trans a6, (sc.2.2.1 46).trans a7, (sc.2.2.1 47).trans a8⟩, ⟨sSA.1.trans b1, sSA.2.1.trans b2, (f.2.1 SA zSA).trans b3, sST.1.trans b4, sST.2.1.trans b5, (f.2.1 ST zST).trans b6, sWY.1.trans b7, sWY.2.1.trans b8, (f.2.1 WY zWY).trans b9⟩, fun i hi => ?_, fun j hj => ⟨fun hjm => ?_, fun hjm => ?_⟩, h16, hL', gd.fr f n0 wf'⟩
  · obtain ⟨p1, p2, p3, p4, p5⟩ := hP i hi
    rw [sSA.2.2.2.2.2.2.2]
    exact ⟨p1, (sp1 i hi).1.trans p2, (f.2.1 _ (zp i hi)).trans p3, ((sp1 i hi).2.2.1 1).trans p4, ((sp1 i hi).2.2.1 2).trans p5⟩
  · obtain ⟨q1, q2, q3⟩ := (hSt j hj).1 hjm
    rw [sSA.2.2.2.2.2.2.2, sST.2.2.2.2.2.2.2]
    refine ⟨q1, q2, q3.other gd.1 f (fun t ht hh => ?_) n0 wf' hL' ⟨[], (List.append_nil _).symm⟩⟩
    have := hS t hh
    unfold tgS at ht
    unfold tW at this
    omega
  · rw [sSA.2.2.2.2.2.2.2, sST.2.2.2.2.2.2.2]
    exact (hSt j hj).2 hjm
theorem mh_mh : mh (mh h m u) m v = mh h m v := by
  have e1 : (fun f a => if a = m then mF v f else fI (mh h m u) f a) = fun f a => if a = m then mF v f else fI h f a := funext fun f => funext fun a => by
    by_cases e : a = m
    · rw [if_pos e, if_pos e]
    · rw [if_neg e, if_neg e]
      exact if_neg e
  have e2 : (fun a => if m < a ∧ a ≤ m + 36 then mI v (a - m) else aI (mh h m u) a) = fun a => if m < a ∧ a ≤ m + 36 then mI v (a - m) else aI h a := funext fun a => by
    by_cases e : m < a ∧ a ≤ m + 36
    · rw [if_pos e, if_pos e]
    · rw [if_neg e, if_neg e]
      exact if_neg e
  have e3 : (fun a => if m < a ∧ a ≤ m + 36 then mL v (a - m) else aL (mh h m u) a) = fun a => if m < a ∧ a ≤ m + 36 then mL v (a - m) else aL h a := funext fun a => by
    by_cases e : m < a ∧ a ≤ m + 36
    · rw [if_pos e, if_pos e]
    · rw [if_neg e, if_neg e]
      exact if_neg e
  show (hz h, hs h, hL h, hK h, hN h, (fun f a => if a = m then mF v f else fI (mh h m u) f a), fL h, fP h, (fun a => if m < a ∧ a ≤ m + 36 then mI v (a - m) else aI (mh h m u) a), (fun a => if m < a ∧ a ≤ m + 36 then mL v (a - m) else aL (mh h m u) a), aP h) = _
  rw [e1, e2, e3]
  rfl
/-- the model's cells have their tag -/
def TgW (h : Hp) (ow : Nat → Nat) (m : Nat) : Prop := ∀ a, m ≤ a → a ≤ m + 36 → ow a = tW ∧ a < hz h
theorem mh_fr (ht : TgW h ow m) : Fr ow ow (fun t => t = tW) h (mh h m u) := by
  refine ⟨Nat.le_refl _, fun _ _ => rfl, fun a ha hn => ⟨rfl, rfl, fun f => ?_, fun _ => rfl, fun _ => rfl, ?_, ?_, rfl⟩⟩
  · exact if_neg (fun e => hn (by rw [e]; exact (ht m (Nat.le_refl _) (by omega)).1))
  · exact if_neg (fun e => hn (ht a (by omega) e.2).1)
  · exact if_neg (fun e => hn (ht a (by omega) e.2).1)
theorem MV.model (hM : MV g h ow c lg SA ST WY po sp X us uz) (ht : TgW h ow m) : MV g (mh h m u) ow c lg SA ST WY po sp X us uz := hM.far (mh_fr ht) (fun _ e => e) (Wf_same rfl rfl hM.2.2.2.2.2.2.1)
/-- the class works, the model's cells stay -/
theorem mo_keep (f : Fr ow ow' CS h h') (hm : MK h m) (he : h = mh h m u) (ht : TgW h ow m) : MK h' m ∧ h' = mh h' m u ∧ TgW h' ow' m := by
  have sm : ∀ a, m ≤ a → a ≤ m + 36 → sameAt h h' a := fun a h1 h2 => f.2.2 a (ht a h1 h2).2 (by
    rw [(ht a h1 h2).1]
    unfold CS tW
    omega)
  have s0 := sm m (Nat.le_refl _) (by omega)
  refine ⟨⟨s0.1.trans hm.1, fun j h1 h2 => ?_⟩, ?_, fun a h1 h2 => ⟨(f.2.1 a (ht a h1 h2).2).trans (ht a h1 h2).1, Nat.lt_of_lt_of_le (ht a h1 h2).2 f.1⟩⟩
  · obtain ⟨q1, q2, q3⟩ := hm.2 j h1 h2
    have sj := sm (m + j) (by omega) (by omega)
    exact ⟨(s0.2.2.2.2.1 _).trans q1, sj.1.trans q2, sj.2.1.trans q3⟩
  · have rI : ∀ f, fI h f m = mF u f := fun f => by
      rw [he]
      exact if_pos rfl
    have rA : ∀ a, m < a → a ≤ m + 36 → aI h a = mI u (a - m) := fun a h1 h2 => by
      rw [he]
      exact if_pos ⟨h1, h2⟩
    have rL : ∀ a, m < a → a ≤ m + 36 → aL h a = mL u (a - m) := fun a h1 h2 => by
      rw [he]
      exact if_pos ⟨h1, h2⟩
    have e1 : (fun f a => if a = m then mF u f else fI h' f a) = fI h' := funext fun f => funext fun a => by
      by_cases e : a = m
      · rw [if_pos e, e, s0.2.2.1 f, rI f]
      · rw [if_neg e]
    have e2 : (fun a => if m < a ∧ a ≤ m + 36 then mI u (a - m) else aI h' a) = aI h' := funext fun a => by
      by_cases e : m < a ∧ a ≤ m + 36
      · rw [if_pos e, (sm a (by omega) e.2).2.2.2.2.2.1, rA a e.1 e.2]
      · rw [if_neg e]
    have e3 : (fun a => if m < a ∧ a ≤ m + 36 then mL u (a - m) else aL h' a) = aL h' := funext fun a => by
      by_cases e : m < a ∧ a ≤ m + 36
      · rw [if_pos e, (sm a (by omega) e.2).2.2.2.2.2.2.1, rL a e.1 e.2]
      · rw [if_neg e]
    unfold mh
    rw [e1, e2, e3]
    rfl
end LF0
