/-! B0: the model's memory -/
/-- rows of ints by number and place, rows of longs, fields -/
abbrev Mu : Type := (Nat → Nat → Int32) × (Nat → Nat → Int64) × (Nat → Int32)
def mI (u : Mu) : Nat → Nat → Int32 := u.1
def mL (u : Mu) : Nat → Nat → Int64 := u.2.1
def mF (u : Mu) : Nat → Int32 := u.2.2
def sI (u : Mu) (j i : Nat) (x : Int32) : Mu := (upR (mI u) j (upR (mI u j) i x), mL u, mF u)
def sL (u : Mu) (j i : Nat) (x : Int64) : Mu := (mI u, upR (mL u) j (upR (mL u j) i x), mF u)
def sF (u : Mu) (f : Nat) (x : Int32) : Mu := (mI u, mL u, upR (mF u) f x)
def mfd (j : Nat) : Nat := if j ≤ 18 then j + 59 else if j ≤ 26 then j + 61 else if j ≤ 28 then j + 62 else if j ≤ 34 then j + 63 else j + 64
/-- kinds and lengths of the rows -/
def mkd : Nat → Nat
  | 2 => 23
  | 7 => 23
  | 8 => 23
  | 15 => 23
  | 18 => 22
  | 23 => 23
  | 27 => 22
  | 34 => 22
  | 35 => 22
  | _ => 21
def mln : Nat → Nat
  | 1 => 8
  | 2 => 8
  | 8 => 384
  | 19 => 48100
  | 20 => 48100
  | 21 => 48100
  | 22 => 48100
  | 23 => 48100
  | 24 => 48100
  | 25 => 48100
  | 26 => 48100
  | 27 => 48100
  | 28 => 48100
  | 29 => 200000
  | 30 => 200000
  | 31 => 200000
  | 32 => 200000
  | 33 => 200000
  | 34 => 200000
  | 35 => 12004
  | 36 => 48100
  | _ => 16
/-- the model at m, its rows behind it -/
def MK (h : Hp) (m : Nat) : Prop := hK h m = 10 ∧ ∀ j, 1 ≤ j → j ≤ 36 → fP h (mfd j) m = some (m + j) ∧ hK h (m + j) = mkd j ∧ hN h (m + j) = mln j
/-- heap h, with the model's memory u -/
def mh (h : Hp) (m : Nat) (u : Mu) : Hp := (hz h, hs h, hL h, hK h, hN h, fun f a => if a = m then mF u f else fI h f a, fL h, fP h, fun a => if m < a ∧ a ≤ m + 36 then mI u (a - m) else aI h a, fun a => if m < a ∧ a ≤ m + 36 then mL u (a - m) else aL h a, aP h)
theorem mln_lt : ∀ j, mln j < 2147483648 := by
  intro j
  unfold mln
  split <;> decide
section LB0
variable {h : Hp} {m : Nat} {u : Mu}
theorem aI_mh {j : Nat} (h1 : 1 ≤ j) (h2 : j ≤ 36) : aI (mh h m u) (m + j) = mI u j := by
  show (if m < m + j ∧ m + j ≤ m + 36 then mI u (m + j - m) else aI h (m + j)) = _
  rw [if_pos (by omega), show m + j - m = j by omega]
theorem aL_mh {j : Nat} (h1 : 1 ≤ j) (h2 : j ≤ 36) : aL (mh h m u) (m + j) = mL u j := by
  show (if m < m + j ∧ m + j ≤ m + 36 then mL u (m + j - m) else aL h (m + j)) = _
  rw [if_pos (by omega), show m + j - m = j by omega]
theorem fI_mh {f : Nat} : fI (mh h m u) f m = mF u f := if_pos rfl
theorem sAI_mh {j : Nat} (h1 : 1 ≤ j) (h2 : j ≤ 36) (r : Nat → Int32) : sAI (mh h m u) (m + j) r = mh h m (upR (mI u) j r, mL u, mF u) := by
  have e : upR (fun a => if m < a ∧ a ≤ m + 36 then mI u (a - m) else aI h a) (m + j) r = fun a => if m < a ∧ a ≤ m + 36 then upR (mI u) j r (a - m) else aI h a := funext fun a => by
    by_cases e : a = m + j
    · subst e
      rw [upR_at, if_pos (by omega), show m + j - m = j by omega, upR_at]
    · rw [upR_ne _ _ e]
      by_cases hc : m < a ∧ a ≤ m + 36
      · rw [if_pos hc, if_pos hc, upR_ne _ _ (by omega)]
      · rw [if_neg hc, if_neg hc]
  show (hz h, hs h, hL h, hK h, hN h, _, fL h, fP h, upR (fun a => if m < a ∧ a ≤ m + 36 then mI u (a - m) else aI h a) (m + j) r, _, aP h) = _
  rw [e]
  rfl
theorem sAL_mh {j : Nat} (h1 : 1 ≤ j) (h2 : j ≤ 36) (r : Nat → Int64) : sAL (mh h m u) (m + j) r = mh h m (mI u, upR (mL u) j r, mF u) := by
  have e : upR (fun a => if m < a ∧ a ≤ m + 36 then mL u (a - m) else aL h a) (m + j) r = fun a => if m < a ∧ a ≤ m + 36 then upR (mL u) j r (a - m) else aL h a := funext fun a => by
    by_cases e : a = m + j
    · subst e
      rw [upR_at, if_pos (by omega), show m + j - m = j by omega, upR_at]
    · rw [upR_ne _ _ e]
      by_cases hc : m < a ∧ a ≤ m + 36
      · rw [if_pos hc, if_pos hc, upR_ne _ _ (by omega)]
      · rw [if_neg hc, if_neg hc]
  show (hz h, hs h, hL h, hK h, hN h, _, fL h, fP h, _, upR (fun a => if m < a ∧ a ≤ m + 36 then mL u (a - m) else aL h a) (m + j) r, aP h) = _
  rw [e]
  rfl
theorem sFI_mh {f : Nat} {x : Int32} : sFI (mh h m u) f m x = mh h m (sF u f x) := by
  have e : up2 (fun f a => if a = m then mF u f else fI h f a) f m x = fun f' a => if a = m then upR (mF u) f x f' else fI h f' a := funext fun f' => funext fun a => by
    show (if f' = f ∧ a = m then x else if a = m then mF u f' else fI h f' a) = _
    by_cases ha : a = m
    · subst ha
      rw [if_pos (rfl : a = a), if_pos (rfl : a = a)]
      by_cases hf : f' = f
      · subst hf
        rw [if_pos ⟨rfl, rfl⟩, upR_at]
      · rw [if_neg (fun z => hf z.1), upR_ne _ _ hf]
    · rw [if_neg (fun z => ha z.2), if_neg ha, if_neg ha]
  show (hz h, hs h, hL h, hK h, hN h, up2 (fun f a => if a = m then mF u f else fI h f a) f m x, fL h, fP h, _, _, aP h) = _
  rw [e]
  rfl
theorem upd_upR (f : Nat → Int32) (i : Nat) (x : Int32) : upd f i x = upR f i x := rfl
theorem updL_upR (f : Nat → Int64) (i : Nat) (x : Int64) : vp_updL f i x = upR f i x := rfl
variable {g : Gl} {Y : Mth} {d pc q : Nat} {ls st : List Value} {Q : Option Value → Hp → Prop}
theorem w_ga {idx j : Nat} (hd : decode Y.2.1 pc = .ok (.getfield idx, 3)) (hq : pc + 3 = q) (hm : MK h m) (hj : 1 ≤ j ∧ j ≤ 36) (hl : GF Y.1.cls idx 9 (mfd j) 2) (k : V g Y d q ls (.ref (m + j) :: st) (mh h m u) Q) : V g Y d pc ls (.ref m :: st) (mh h m u) Q :=
  v_getR hd hq hl hm.1 (hm.2 j hj.1 hj.2).1 k
theorem w_gi {idx f : Nat} (hd : decode Y.2.1 pc = .ok (.getfield idx, 3)) (hq : pc + 3 = q) (hm : MK h m) (hl : GF Y.1.cls idx 9 f 0) (k : V g Y d q ls (.int (mF u f) :: st) (mh h m u) Q) : V g Y d pc ls (.ref m :: st) (mh h m u) Q := by
  refine v_getI hd hq hl hm.1 ?_
  rw [fI_mh]
  exact k
theorem w_iald {i : Int32} {j n t : Nat} (hd : decode Y.2.1 pc = .ok (.iaload, 1)) (hq : pc + 1 = q) (hm : MK h m) (hj : 1 ≤ j ∧ j ≤ 36) (hk : mkd j = 21) (hn : mln j = n) (hi : i = nI t) (ht : t < n) (k : V g Y d q ls (.int (mI u j t) :: st) (mh h m u) Q) : V g Y d pc ls (.int i :: .ref (m + j) :: st) (mh h m u) Q := by
  have hh := hm.2 j hj.1 hj.2
  refine v_iald t hd hq (hh.2.1.trans hk) hi (show t < hN h (m + j) by rw [hh.2.2, hn]; exact ht) (show hN h (m + j) < _ by rw [hh.2.2]; exact mln_lt j) ?_
  rw [aI_mh hj.1 hj.2]
  exact k
theorem w_zald {i : Int32} {j n t : Nat} (hd : decode Y.2.1 pc = .ok (.baload, 1)) (hq : pc + 1 = q) (hm : MK h m) (hj : 1 ≤ j ∧ j ≤ 36) (hk : mkd j = 23) (hn : mln j = n) (hi : i = nI t) (ht : t < n) (k : V g Y d q ls (.int (mI u j t) :: st) (mh h m u) Q) : V g Y d pc ls (.int i :: .ref (m + j) :: st) (mh h m u) Q := by
  have hh := hm.2 j hj.1 hj.2
  refine v_zald t hd hq (hh.2.1.trans hk) hi (show t < hN h (m + j) by rw [hh.2.2, hn]; exact ht) (show hN h (m + j) < _ by rw [hh.2.2]; exact mln_lt j) ?_
  rw [aI_mh hj.1 hj.2]
  exact k
theorem w_lald {i : Int32} {j n t : Nat} (hd : decode Y.2.1 pc = .ok (.laload, 1)) (hq : pc + 1 = q) (hm : MK h m) (hj : 1 ≤ j ∧ j ≤ 36) (hk : mkd j = 22) (hn : mln j = n) (hi : i = nI t) (ht : t < n) (k : V g Y d q ls (.long (mL u j t) :: st) (mh h m u) Q) : V g Y d pc ls (.int i :: .ref (m + j) :: st) (mh h m u) Q := by
  have hh := hm.2 j hj.1 hj.2
  refine v_lald t hd hq (hh.2.1.trans hk) hi (show t < hN h (m + j) by rw [hh.2.2, hn]; exact ht) (show hN h (m + j) < _ by rw [hh.2.2]; exact mln_lt j) ?_
  rw [aL_mh hj.1 hj.2]
  exact k
theorem w_iast {i x : Int32} {j n t : Nat} (hd : decode Y.2.1 pc = .ok (.iastore, 1)) (hq : pc + 1 = q) (hm : MK h m) (hj : 1 ≤ j ∧ j ≤ 36) (hk : mkd j = 21) (hn : mln j = n) (hi : i = nI t) (ht : t < n) (k : V g Y d q ls st (mh h m (sI u j t x)) Q) : V g Y d pc ls (.int x :: .int i :: .ref (m + j) :: st) (mh h m u) Q := by
  have hh := hm.2 j hj.1 hj.2
  refine v_iast t hd hq (hh.2.1.trans hk) hi (show t < hN h (m + j) by rw [hh.2.2, hn]; exact ht) (show hN h (m + j) < _ by rw [hh.2.2]; exact mln_lt j) ?_
  rw [aI_mh hj.1 hj.2, sAI_mh hj.1 hj.2, upd_upR]
  exact k
theorem w_zast {i x : Int32} {j n t : Nat} (hd : decode Y.2.1 pc = .ok (.bastore, 1)) (hq : pc + 1 = q) (hm : MK h m) (hj : 1 ≤ j ∧ j ≤ 36) (hk : mkd j = 23) (hn : mln j = n) (hi : i = nI t) (ht : t < n) (hx : narrow .boolean (.int x) = .int x) (k : V g Y d q ls st (mh h m (sI u j t x)) Q) : V g Y d pc ls (.int x :: .int i :: .ref (m + j) :: st) (mh h m u) Q := by
  have hh := hm.2 j hj.1 hj.2
  refine v_zast t hd hq (hh.2.1.trans hk) hi (show t < hN h (m + j) by rw [hh.2.2, hn]; exact ht) (show hN h (m + j) < _ by rw [hh.2.2]; exact mln_lt j) hx ?_
  rw [aI_mh hj.1 hj.2, sAI_mh hj.1 hj.2, upd_upR]
  exact k
theorem w_last {i : Int32} {x : Int64} {j n t : Nat} (hd : decode Y.2.1 pc = .ok (.lastore, 1)) (hq : pc + 1 = q) (hm : MK h m) (hj : 1 ≤ j ∧ j ≤ 36) (hk : mkd j = 22) (hn : mln j = n) (hi : i = nI t) (ht : t < n) (k : V g Y d q ls st (mh h m (sL u j t x)) Q) : V g Y d pc ls (.long x :: .int i :: .ref (m + j) :: st) (mh h m u) Q := by
  have hh := hm.2 j hj.1 hj.2
  refine v_last t hd hq (hh.2.1.trans hk) hi (show t < hN h (m + j) by rw [hh.2.2, hn]; exact ht) (show hN h (m + j) < _ by rw [hh.2.2]; exact mln_lt j) ?_
  rw [aL_mh hj.1 hj.2, sAL_mh hj.1 hj.2, updL_upR]
  exact k
theorem w_pi {idx f : Nat} {x : Int32} (hd : decode Y.2.1 pc = .ok (.putfield idx, 3)) (hq : pc + 3 = q) (hm : MK h m) (hl : PF Y.1.cls idx 9 f 0 .int) (k : V g Y d q ls st (mh h m (sF u f x)) Q) : V g Y d pc ls (.int x :: .ref m :: st) (mh h m u) Q := by
  refine v_putI hd hq hl hm.1 rfl rfl ?_
  rw [sFI_mh]
  exact k
/-- reads of a changed memory -/
theorem mI_sI (j i : Nat) (x : Int32) (j2 : Nat) : mI (sI u j i x) j2 = if j2 = j then upR (mI u j) i x else mI u j2 := rfl
theorem mI_at (j i : Nat) (x : Int32) : mI (sI u j i x) j i = x := by rw [mI_sI, if_pos rfl, upR_at]
theorem mI_nr {j i j2 : Nat} (x : Int32) (h : j2 ≠ j) : mI (sI u j i x) j2 = mI u j2 := by rw [mI_sI, if_neg h]
theorem mI_ni {j i i2 : Nat} (x : Int32) (h : i2 ≠ i) : mI (sI u j i x) j i2 = mI u j i2 := by rw [mI_sI, if_pos rfl, upR_ne _ _ h]
theorem mL_sI (j i : Nat) (x : Int32) : mL (sI u j i x) = mL u := rfl
theorem mF_sI (j i : Nat) (x : Int32) : mF (sI u j i x) = mF u := rfl
theorem mL_sL (j i : Nat) (x : Int64) (j2 : Nat) : mL (sL u j i x) j2 = if j2 = j then upR (mL u j) i x else mL u j2 := rfl
theorem mI_sL (j i : Nat) (x : Int64) : mI (sL u j i x) = mI u := rfl
theorem mF_sL (j i : Nat) (x : Int64) : mF (sL u j i x) = mF u := rfl
theorem mI_sF (f : Nat) (x : Int32) : mI (sF u f x) = mI u := rfl
theorem mL_sF (f : Nat) (x : Int32) : mL (sF u f x) = mL u := rfl
theorem mF_sF (f : Nat) (x : Int32) (f2 : Nat) : mF (sF u f x) f2 = if f2 = f then x else mF u f2 := rfl
end LB0
