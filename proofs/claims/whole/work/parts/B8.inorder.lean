/-! B8: the model: inOrder -/
/-- all but the row sorted is the same -/
def Sco (u u' : Mu) : Prop := mI u' = mI u ∧ (∀ j, j ≠ 35 → mL u' j = mL u j) ∧ mF u' = mF u
theorem Sco.rf (u : Mu) : Sco u u := ⟨rfl, fun _ _ => rfl, rfl⟩
theorem Sco.so {u u' : Mu} (a : Sco u u') (i : Nat) (x : Int64) : Sco u (sL u' 35 i x) := ⟨a.1, fun j hj => by rw [mL_sL, if_neg hj]; exact a.2.1 j hj, a.2.2⟩
theorem Sco.scr {u u' : Mu} (a : Sco u u') : Scr u u' := ⟨fun j _ => congrFun a.1 j, a.2.1, a.2.2⟩
/-- row 35 begins with a -/
def SR (v : Mu) (a : List Int64) : Prop := ∀ i x, a[i]? = some x → mL v 35 i = x
def aN (a : List Int64) (i : Nat) : Int64 := (a[i]?).getD 0
theorem aN_at {a : List Int64} {i : Nat} (hi : i < a.length) : a[i]? = some (aN a i) := by
  unfold aN
  rw [List.getElem?_eq_getElem hi]
  rfl
theorem ins_sorted {a : List Int64} {x : Int64} {at_ : Nat} (hs : a.Pairwise (· ≤ ·)) (ha : at_ ≤ a.length) (h1 : ∀ j, j < at_ → aN a j ≤ x) (h2 : ∀ j, at_ ≤ j → j < a.length → x < aN a j) : (a.take at_ ++ x :: a.drop at_).Pairwise (· ≤ ·) ∧ (a.take at_ ++ x :: a.drop at_).Perm (x :: a) := by
  have hm : ∀ y ∈ a.take at_, y ≤ x := fun y hy => by
    obtain ⟨i, hi, rfl⟩ := List.mem_iff_getElem.mp hy
    rw [List.length_take] at hi
    rw [List.getElem_take]
    have := h1 i (by omega)
    unfold aN at this
    rw [List.getElem?_eq_getElem (by omega)] at this
    exact this
  have hm2 : ∀ y ∈ a.drop at_, x ≤ y := fun y hy => by
    obtain ⟨i, hi, rfl⟩ := List.mem_iff_getElem.mp hy
    rw [List.length_drop] at hi
    rw [List.getElem_drop]
    have := h2 (at_ + i) (by omega) (by omega)
    unfold aN at this
    rw [List.getElem?_eq_getElem (by omega)] at this
    exact Int64.le_of_lt this
  refine ⟨?_, ?_⟩
  · have hs' : (a.take at_ ++ a.drop at_).Pairwise (· ≤ ·) := by rw [List.take_append_drop]; exact hs
    obtain ⟨p1, p2, p3⟩ := List.pairwise_append.mp hs'
    refine List.pairwise_append.mpr ⟨p1, List.pairwise_cons.mpr ⟨hm2, p2⟩, fun y hy z hz => ?_⟩
    rcases List.mem_cons.mp hz with e | hz
    · exact e ▸ hm y hy
    · exact p3 y hy z hz
  · refine List.perm_middle.trans ?_
    rw [List.take_append_drop]
section LB8
variable {g : Gl} {d : Nat} {h : Hp} {m : Nat} {u : Mu} {Q : Option Value → Hp → Prop}
theorem io_in {w n i : Nat} {a : List Int64} {x : Int64} (hm : MK h m) (hn : n < 12004) (hi : i < 48100) (hx : mL u 27 i = x) (hs : a.Pairwise (· ≤ ·)) (hl : a.length = n) :
    ∀ (t at_ : Nat) (v : Mu), at_ ≤ t → at_ ≤ n → Sco u v → (∀ j, j < at_ → mL v 35 j = aN a j) → (∀ j, at_ < j → j ≤ n → mL v 35 j = aN a (j - 1)) → (∀ j, at_ ≤ j → j < n → x < aN a j) →
      (∀ v' a', Sco u v' → SR v' a' → a'.Pairwise (· ≤ ·) → a'.Perm (x :: a) → V g mX10_inOrder d 75 [.ref m, .int (nI w), .int (nI n), .int (nI i), zz] [] (mh h m v') Q) →
      V g mX10_inOrder d 16 [.ref m, .int (nI w), .int (nI n), .int (nI i), .int (nI at_)] [] (mh h m v) Q := by
  have done : ∀ (at_ : Nat) (v : Mu), at_ ≤ n → Sco u v → (∀ j, j < at_ → mL v 35 j = aN a j) → (∀ j, at_ < j → j ≤ n → mL v 35 j = aN a (j - 1)) → (∀ j, at_ ≤ j → j < n → x < aN a j) → (∀ j, j < at_ → aN a j ≤ x) →
      (∀ v' a', Sco u v' → SR v' a' → a'.Pairwise (· ≤ ·) → a'.Perm (x :: a) → V g mX10_inOrder d 75 [.ref m, .int (nI w), .int (nI n), .int (nI i), zz] [] (mh h m v') Q) →
      V g mX10_inOrder d 62 [.ref m, .int (nI w), .int (nI n), .int (nI i), .int (nI at_)] [] (mh h m v) Q := fun at_ v han hc q1 q2 q3 q4 hQ => by
    refine v_ald0 (q := 63) dX10_inOrder_62 rfl rfl ?_
    refine w_ga (q := 66) (j := 35) dX10_inOrder_63 rfl hm (by decide) gf_X10_116_9 ?_
    refine v_ild4 (q := 68) dX10_inOrder_66 rfl ?_
    refine v_ald0 (q := 69) dX10_inOrder_68 rfl rfl ?_
    refine w_ga (q := 72) (j := 27) dX10_inOrder_69 rfl hm (by decide) gf_X10_91_9 ?_
    refine v_ild3 (q := 73) dX10_inOrder_72 rfl ?_
    refine w_lald (q := 74) (n := 48100) dX10_inOrder_73 rfl hm (by decide) rfl rfl rfl (by omega) ?_
    rw [hc.2.1 27 (by decide), hx]
    refine w_last (q := 75) (n := 12004) dX10_inOrder_74 rfl hm (by decide) rfl rfl rfl (by omega) ?_
    refine v_fg (FG.k (FG.k (FG.k (FG.k (FG.z FG.nil))))) ?_
    obtain ⟨p1, p2⟩ := ins_sorted hs (by omega) q4 (fun j h1 h2 => q3 j h1 (by omega))
    refine hQ _ _ (hc.so _ _) (fun j y hj => ?_) p1 p2
    rw [mL_sL, if_pos rfl]
    have htl : (a.take at_).length = at_ := by rw [List.length_take]; omega
    by_cases e : j = at_
    · subst e
      rw [upR_at]
      rw [List.getElem?_append_right (by omega), htl, Nat.sub_self] at hj
      exact Option.some.inj hj
    · rw [upR_ne _ _ e]
      rcases Nat.lt_or_ge j at_ with b | b
      · rw [List.getElem?_append_left (by omega), List.getElem?_take_of_lt b, aN_at (by omega)] at hj
        rw [q1 j b]
        exact Option.some.inj hj
      · have hjl := (List.getElem?_eq_some_iff.mp hj).1
        rw [List.length_append, List.length_cons, htl, List.length_drop] at hjl
        rw [List.getElem?_append_right (by omega), htl, show j - at_ = (j - at_ - 1) + 1 by omega, List.getElem?_cons_succ, List.getElem?_drop, show at_ + (j - at_ - 1) = j - 1 by omega, aN_at (by omega)] at hj
        rw [q2 j (by omega) (by omega)]
        exact Option.some.inj hj
  intro t
  induction t with
  | zero =>
    intro at_ v ht han hc q1 q2 q3 hQ
    have : at_ = 0 := by omega
    subst this
    refine v_ild4 (q := 18) dX10_inOrder_16 rfl ?_
    refine v_if_le (t := 62) (q := 21) dX10_inOrder_18 (by decide) rfl (fun _ => ?_) (fun z => absurd (show nI 0 ≤ nI 0 from Int32.le_refl _) z)
    exact done 0 v han hc q1 q2 q3 (fun j hj => absurd hj (Nat.not_lt_zero _)) hQ
  | succ t ih =>
    intro at_ v ht han hc q1 q2 q3 hQ
    refine v_ild4 (q := 18) dX10_inOrder_16 rfl ?_
    by_cases h0 : at_ = 0
    · subst h0
      refine v_if_le (t := 62) (q := 21) dX10_inOrder_18 (by decide) rfl (fun _ => ?_) (fun z => absurd (show nI 0 ≤ nI 0 from Int32.le_refl _) z)
      exact done 0 v han hc q1 q2 q3 (fun j hj => absurd hj (Nat.not_lt_zero _)) hQ
    refine v_if_le (t := 62) (q := 21) dX10_inOrder_18 (by decide) rfl (fun z => absurd z (show ¬ nI at_ ≤ nI 0 from nI_ge (by omega) (by omega))) (fun _ => ?_)
    refine v_ald0 (q := 22) dX10_inOrder_21 rfl rfl ?_
    refine w_ga (q := 25) (j := 35) dX10_inOrder_22 rfl hm (by decide) gf_X10_116_9 ?_
    refine v_ild4 (q := 27) dX10_inOrder_25 rfl ?_
    refine v_iconst (q := 28) (v := 1) dX10_inOrder_27 rfl (by decide) ?_
    refine v_isub (q := 29) dX10_inOrder_28 rfl ?_
    rw [show (1 : Int32) = nI 1 from rfl, nI_sub (by omega)]
    refine w_lald (q := 30) (n := 12004) dX10_inOrder_29 rfl hm (by decide) rfl rfl rfl (by omega) ?_
    rw [q1 (at_ - 1) (by omega)]
    refine v_ald0 (q := 31) dX10_inOrder_30 rfl rfl ?_
    refine w_ga (q := 34) (j := 27) dX10_inOrder_31 rfl hm (by decide) gf_X10_91_9 ?_
    refine v_ild3 (q := 35) dX10_inOrder_34 rfl ?_
    refine w_lald (q := 36) (n := 48100) dX10_inOrder_35 rfl hm (by decide) rfl rfl rfl (by omega) ?_
    rw [hc.2.1 27 (by decide), hx]
    refine v_lcmp (q := 37) dX10_inOrder_36 rfl ?_
    by_cases hle : aN a (at_ - 1) ≤ x
    · refine v_if_le (t := 62) (q := 40) dX10_inOrder_37 (by decide) rfl (fun _ => ?_) (fun z => absurd ((lg_cmp_le _ _).mpr hle) z)
      refine done at_ v han hc q1 q2 q3 (fun j hj => ?_) hQ
      by_cases e : j = at_ - 1
      · rw [e]
        exact hle
      · have hp := List.pairwise_iff_getElem.mp hs j (at_ - 1) (by omega) (by omega) (by omega)
        have e1 := aN_at (a := a) (i := j) (by omega)
        have e2 := aN_at (a := a) (i := at_ - 1) (by omega)
        rw [List.getElem?_eq_getElem (by omega)] at e1 e2
        rw [Option.some.inj e1, Option.some.inj e2] at hp
        exact Int64.le_trans hp hle
    · refine v_if_le (t := 62) (q := 40) dX10_inOrder_37 (by decide) rfl (fun z => absurd ((lg_cmp_le _ _).mp z) hle) (fun _ => ?_)
      refine v_ald0 (q := 41) dX10_inOrder_40 rfl rfl ?_
      refine w_ga (q := 44) (j := 35) dX10_inOrder_41 rfl hm (by decide) gf_X10_116_9 ?_
      refine v_ild4 (q := 46) dX10_inOrder_44 rfl ?_
      refine v_ald0 (q := 47) dX10_inOrder_46 rfl rfl ?_
      refine w_ga (q := 50) (j := 35) dX10_inOrder_47 rfl hm (by decide) gf_X10_116_9 ?_
      refine v_ild4 (q := 52) dX10_inOrder_50 rfl ?_
      refine v_iconst (q := 53) (v := 1) dX10_inOrder_52 rfl (by decide) ?_
      refine v_isub (q := 54) dX10_inOrder_53 rfl ?_
      rw [show (1 : Int32) = nI 1 from rfl, nI_sub (by omega)]
      refine w_lald (q := 55) (n := 12004) dX10_inOrder_54 rfl hm (by decide) rfl rfl rfl (by omega) ?_
      rw [q1 (at_ - 1) (by omega)]
      refine w_last (q := 56) (n := 12004) dX10_inOrder_55 rfl hm (by decide) rfl rfl rfl (by omega) ?_
      refine v_inc4 (q := 59) dX10_inOrder_56 rfl (by decide) rfl rfl ?_
      rw [show nI at_ + Int32.ofInt (-1) = nI (at_ - 1) from by
        rw [show Int32.ofInt (-1) = - nI 1 from rfl, ← Int32.sub_eq_add_neg, nI_sub (by omega)]]
      refine v_goto (q := 16) dX10_inOrder_59 (by decide) ?_
      refine ih (at_ - 1) _ (by omega) (by omega) (hc.so _ _) (fun j hj => ?_) (fun j h1 h2 => ?_) (fun j h1 h2 => ?_) hQ
      · rw [mL_sL, if_pos rfl, upR_ne _ _ (by omega)]
        exact q1 j (by omega)
      · rw [mL_sL, if_pos rfl]
        by_cases e : j = at_
        · rw [e, upR_at]
        · rw [upR_ne _ _ e]
          exact q2 j (by omega) h2
      · by_cases e : j = at_ - 1
        · rw [e]
          exact Int64.not_le.mp hle
        · exact q3 j (by omega) h2
theorem io_out {w : Nat} (hm : MK h m) : ∀ (is : List Nat) (n : Nat) (e : Int32) (a : List Int64) (v : Mu), LK (mI u 28) e is → (∀ i ∈ is, i < 48100) → n + is.length ≤ 12000 → a.length = n → a.Pairwise (· ≤ ·) → SR v a → Sco u v →
    (∀ v' a', Sco u v' → SR v' a' → a'.Pairwise (· ≤ ·) → a'.Perm (a ++ is.map (mL u 27)) → Q (some (.int (nI (n + is.length)))) (mh h m v')) →
    V g mX10_inOrder d 9 [.ref m, .int (nI w), .int (nI n), .int e, zz] [] (mh h m v) Q := by
  intro is
  induction is with
  | nil =>
    intro n e a v hL hi hn hl hs hr hc hQ
    have he : e = -1 := hL
    subst he
    refine v_ild3 (q := 10) dX10_inOrder_9 rfl ?_
    refine v_if_lt (t := 88) (q := 13) dX10_inOrder_10 (by decide) rfl (fun _ => ?_) (fun z => absurd (by decide) z)
    refine v_ild2 (q := 89) dX10_inOrder_88 rfl ?_
    refine v_iret dX10_inOrder_89 rfl ?_
    exact hQ v a hc hr hs (by rw [List.map_nil, List.append_nil])
  | cons i is ih =>
    intro n e a v hL hi hn hl hs hr hc hQ
    obtain ⟨he, hL'⟩ := hL
    subst he
    rw [List.length_cons] at hn
    have hi0 := hi i List.mem_cons_self
    refine v_ild3 (q := 10) dX10_inOrder_9 rfl ?_
    refine v_if_lt (t := 88) (q := 13) dX10_inOrder_10 (by decide) rfl (fun z => absurd z (Int32.not_lt.mpr (nI_pos' (by omega)))) (fun _ => ?_)
    refine v_ild2 (q := 14) dX10_inOrder_13 rfl ?_
    refine v_ist4 (q := 16) dX10_inOrder_14 rfl (by decide) rfl ?_
    refine io_in (u := u) hm (by omega) hi0 rfl hs hl n n v (Nat.le_refl _) (Nat.le_refl _) hc (fun j hj => hr j _ (aN_at (by omega))) (fun j h1 h2 => by omega) (fun j h1 h2 => by omega) (fun v' a' c' r' s' p' => ?_)
    refine v_inc2 (q := 78) dX10_inOrder_75 rfl (by decide) rfl rfl ?_
    rw [inc1]
    refine v_ald0 (q := 79) dX10_inOrder_78 rfl rfl ?_
    refine w_ga (q := 82) (j := 28) dX10_inOrder_79 rfl hm (by decide) gf_X10_94_9 ?_
    refine v_ild3 (q := 83) dX10_inOrder_82 rfl ?_
    refine w_iald (q := 84) (n := 48100) dX10_inOrder_83 rfl hm (by decide) rfl rfl rfl (by omega) ?_
    rw [c'.1]
    refine v_ist3 (q := 85) dX10_inOrder_84 rfl (by decide) rfl ?_
    refine v_goto (q := 9) dX10_inOrder_85 (by decide) ?_
    have hl' : a'.length = n + 1 := by rw [p'.length_eq, List.length_cons, hl]
    refine ih (n + 1) _ a' v' hL' (fun j hj => hi j (List.mem_cons_of_mem _ hj)) (by omega) hl' s' r' c' (fun v2 a2 c2 r2 s2 p2 => ?_)
    have := hQ v2 a2 c2 r2 s2 (p2.trans ?_)
    · rw [List.length_cons] at this
      rw [show n + 1 + is.length = n + (is.length + 1) by omega]
      exact this
    · rw [List.map_cons]
      refine (p'.append_right _).trans ?_
      rw [List.cons_append]
      exact List.perm_middle.symm
theorem q_inOrder {w : Nat} {es : List Nat} (hm : MK h m) (hw : w < 48100) (hc0 : Sco u u) (hL : LK (mI u 28) (mI u 25 w) es) (hi : ∀ i ∈ es, i < 48100) (hn : es.length ≤ 12000)
    (hQ : ∀ v', Sco u v' → SR v' (srt (es.map (mL u 27))) → Q (some (.int (nI es.length))) (mh h m v')) : Call g mX10_inOrder d [.ref m, .int (nI w)] (mh h m u) Q := by
  refine Call.of [.ref m, .int (nI w), zz, zz, zz] (by decide) (Nat.le_of_ble_eq_true rfl) rfl ?_
  refine v_iconst (q := 1) (v := 0) dX10_inOrder_0 rfl (by decide) ?_
  refine v_ist2 (q := 2) dX10_inOrder_1 rfl (by decide) rfl ?_
  refine v_ald0 (q := 3) dX10_inOrder_2 rfl rfl ?_
  refine w_ga (q := 6) (j := 25) dX10_inOrder_3 rfl hm (by decide) gf_X10_85_9 ?_
  refine v_ild1 (q := 7) dX10_inOrder_6 rfl ?_
  refine w_iald (q := 8) (n := 48100) dX10_inOrder_7 rfl hm (by decide) rfl rfl rfl (by omega) ?_
  refine v_ist3 (q := 9) dX10_inOrder_8 rfl (by decide) rfl ?_
  refine io_out (u := u) hm es 0 _ [] u hL hi (by omega) rfl List.Pairwise.nil (fun i x hx => by cases hx) (Sco.rf u) (fun v' a' c' r' s' p' => ?_)
  rw [Nat.zero_add]
  refine hQ v' c' ?_
  have : srt (es.map (mL u 27)) = a' := sorted_eq (srt_sorted _) s' ((srt_perm _).trans p'.symm)
  rw [this]
  exact r'
end LB8
