/-! 92: WindowMill: carry -/
def cyF (n from_ : Nat) (key m : Int32) (v : Int64) (Y : Sg) (s : Nat) : Sg :=
  if gF (xS Y s) from_ then (if isW (xS Y s) then takeG Y s key m v
    else if passB (xS Y s) v then carryS n (8 + s) (gI (passS (xS Y s) key m v) 9) m (gV (passS (xS Y s) key m v)) (xSet Y s (passS (xS Y s) key m v) (xR Y))
    else xSet Y s (passS (xS Y s) key m v) (xR Y)) else Y
theorem carryS_eq (n from_ : Nat) (key m : Int32) (v : Int64) (X : Sg) : carryS (n + 1) from_ key m v X = (List.range (xM X)).foldl (cyF n from_ key m v) X := rfl
theorem fb_sm_range (f : Nat → Nat) (a : Nat) : ∀ n, fb_sm f (a + n) = fb_sm f a + ((List.range' a n).map f).sum := by
  intro n
  induction n with
  | zero => simp
  | succ n ih => rw [← Nat.add_assoc, fb_sm_succ, ih, List.range'_concat, List.map_append, List.sum_append]; simp [Nat.add_assoc]
/-- tags of the class -/
def CS (t : Nat) : Prop := 1 ≤ t ∧ t ≤ 100030
theorem SS_CS {s t : Nat} (hs : s < 16) (h : SS s t) : CS t := by
  unfold SS tL at h
  unfold CS
  omega
/-- the account of a call -/
def Led (h : Hp) (us uz : Nat → Nat) (X : Sg) (h' : Hp) (us' uz' : Nat → Nat) (X' : Sg) : Prop :=
  hs h' + fb_sm us (xM X) + lgS (xR X).length ≤ hs h + fb_sm us' (xM X) + lgS (xR X').length ∧ hz h' + fb_sm uz (xM X) + lgZ (xR X).length ≤ hz h + fb_sm uz' (xM X) + lgZ (xR X').length
theorem Led.rf (h : Hp) (us uz : Nat → Nat) (X : Sg) : Led h us uz X h us uz X := ⟨Nat.le_refl _, Nat.le_refl _⟩
theorem Led.tr {h h1 h2 : Hp} {us uz us1 uz1 us2 uz2 : Nat → Nat} {X X1 X2 : Sg} (a : Led h us uz X h1 us1 uz1 X1) (b : Led h1 us1 uz1 X1 h2 us2 uz2 X2) (e : xM X1 = xM X) : Led h us uz X h2 us2 uz2 X2 := by
  unfold Led at *
  rw [e] at b
  omega
theorem Led.stage {h h' : Hp} {us uz : Nat → Nat} {X : Sg} {s US' UZ' : Nat} {S : Stg} {rows' : List Rw} (hs' : s < xM X) (a : hs h' + us s + lgS (xR X).length ≤ hs h + US' + lgS rows'.length) (b : hz h' + uz s + lgZ (xR X).length ≤ hz h + UZ' + lgZ rows'.length) : Led h us uz X h' (upR us s US') (upR uz s UZ') (xSet X s S rows') := by
  have h1 := fb_sm_upd us US' hs'
  have h2 := fb_sm_upd uz UZ' hs'
  unfold Led
  show _ ≤ hs h + fb_sm (fun k => if k = s then US' else us k) (xM X) + lgS rows'.length ∧ _ ≤ hz h + fb_sm (fun k => if k = s then UZ' else uz k) (xM X) + lgZ rows'.length
  omega
/-- what carry leaves besides stages' lanes, counts and what they gave -/
def KS (S S' : Stg) : Prop := SGs S S' ∧ gI S' 1 = gI S 1 ∧ gI S' 2 = gI S 2 ∧ gI S' 20 = gI S 20 ∧ gI S' 21 = gI S 21 ∧ gI S' 22 = gI S 22
theorem KS.rf (S : Stg) : KS S S := ⟨SGs.rf S, rfl, rfl, rfl, rfl, rfl⟩
theorem KS.tr {S T U : Stg} (a : KS S T) (b : KS T U) : KS S U := ⟨a.1.tr b.1, b.2.1.trans a.2.1, b.2.2.1.trans a.2.2.1, b.2.2.2.1.trans a.2.2.2.1, b.2.2.2.2.1.trans a.2.2.2.2.1, b.2.2.2.2.2.trans a.2.2.2.2.2⟩
def KX (X X' : Sg) : Prop := xM X' = xM X ∧ xT X' = xT X ∧ xP X' = xP X ∧ xI X' = xI X ∧ (∃ more, xR X' = xR X ++ more) ∧ ∀ s, KS (xS X s) (xS X' s)
theorem KX.rf (X : Sg) : KX X X := ⟨rfl, rfl, rfl, rfl, ⟨[], (List.append_nil _).symm⟩, fun _ => KS.rf _⟩
theorem KX.tr {X Y Z : Sg} (a : KX X Y) (b : KX Y Z) : KX X Z := by
  obtain ⟨a1, a2, a3, a4, ⟨m, a5⟩, a6⟩ := a
  obtain ⟨b1, b2, b3, b4, ⟨n, b5⟩, b6⟩ := b
  exact ⟨b1.trans a1, b2.trans a2, b3.trans a3, b4.trans a4, ⟨m ++ n, by rw [b5, a5, List.append_assoc]⟩, fun s => (a6 s).tr (b6 s)⟩
theorem KX.sg {X Y : Sg} (a : KX X Y) : SG X Y := ⟨a.1, fun s => (a.2.2.2.2.2 s).1⟩
theorem KX.set (X : Sg) (s : Nat) (S : Stg) (r : List Rw) (h1 : KS (xS X s) S) (hr : ∃ more, r = xR X ++ more) : KX X (xSet X s S r) := by
  refine ⟨rfl, rfl, rfl, rfl, hr, fun t => ?_⟩
  show KS _ (upR (xS X) s S t)
  by_cases e : t = s
  · subst e
    rw [upR_at]
    exact h1
  · rw [upR_ne _ _ e]
    exact KS.rf _
theorem KS_stT (S : Stg) (ln' : Nat → List Wd) (dr' : Nat) : KS S (stT S ln' dr') := ⟨⟨rfl, rfl, rfl, rfl⟩, rfl, rfl, rfl, rfl, rfl⟩
theorem KS_pass (S : Stg) (key m : Int32) (v : Int64) : KS S (passS S key m v) := by
  unfold passS
  split <;> exact ⟨⟨rfl, rfl, rfl, rfl⟩, rfl, rfl, rfl, rfl, rfl⟩
theorem givK_bd {kd a b key : Int32} {k : Nat} {v : Int64} (h : saidB kd a b = true) (hk : k < 1000) (hkey : key = nI k) : ∃ k', k' < 1000 ∧ givK kd a key v = nI k' := by
  unfold givK
  by_cases hc : kd = 3 ∧ 0 < a
  · rw [if_pos hc]
    obtain ⟨e3, ha⟩ := hc
    subst e3
    have h1 : 1 ≤ a ∧ a ≤ 1000 := of_decide_eq_true h
    have a1 : 1 ≤ a.toInt := by
      have := h1.1
      rw [fa_le] at this
      exact this
    have a2 : a.toInt ≤ 1000 := by
      have := h1.2
      rw [fa_le] at this
      exact this
    have e1 : a.toInt64.toInt = a.toInt := Int32.toInt_toInt64 a
    have q1 := Int.emod_nonneg v.toInt (show a.toInt ≠ 0 by omega)
    have q2 := Int.emod_lt_of_pos v.toInt (show 0 < a.toInt by omega)
    refine ⟨(v.toInt % a.toInt).toNat, by omega, ?_⟩
    unfold fmL
    rw [e1]
    have : Int64.ofInt (v.toInt % a.toInt) = lN (v.toInt % a.toInt).toNat := by
      rw [fa_eq64, pf_lI (by omega), Int64.toInt_ofInt]
      rw [show (Int64.size : Nat) = 18446744073709551616 from rfl]
      rw [Int.bmod_eq_of_le (by omega) (by omega)]
      omega
    rw [this, lN_i32]
  · rw [if_neg hc]
    exact ⟨k, hk, hkey⟩
theorem ses_begs {ses : Bool} {sp st m : Int32} (hs : ses = true) (h1 : 1 ≤ st.toInt) (h2 : st.toInt ≤ 10001) (m1 : m.toInt ≤ 100000) (m0 : 0 ≤ m.toInt) : (begs 4 (fstB ses sp st m) st m).length ≤ 1 := by
  subst hs
  have e : fstB true sp st m = m := rfl
  rw [e]
  have ha : (m + st).toInt = m.toInt + st.toInt := i32_add (by omega) (by omega)
  have hn : ¬ m + st ≤ m := by
    rw [fa_le, ha]
    omega
  unfold begs
  rw [if_pos (Int32.le_refl m)]
  unfold begs
  rw [if_neg hn]
  exact Nat.le_refl _
