/-! 26: Window.insert: a value into its place -/
theorem insL_get {l : List Int64} {i : Nat} {w : Int64} (hi : i ≤ l.length) (j : Nat) : (l.take i ++ w :: l.drop i)[j]? = if j < i then l[j]? else if j = i then some w else l[j - 1]? := by
  have hl : (l.take i).length = i := by rw [List.length_take]; omega
  by_cases c : j < i
  · rw [if_pos c, List.getElem?_append_left (by omega), List.getElem?_take, if_pos c]
  · rw [if_neg c, List.getElem?_append_right (by omega), hl]
    by_cases c2 : j = i
    · rw [if_pos c2, c2, Nat.sub_self]
      rfl
    · rw [if_neg c2]
      obtain ⟨m, rfl⟩ : ∃ m, j = i + 1 + m := ⟨j - i - 1, by omega⟩
      rw [show i + 1 + m - i = m + 1 by omega, List.getElem?_cons_succ, List.getElem?_drop]
      congr 1
      omega
theorem insL_len {l : List Int64} {i : Nat} {w : Int64} (hi : i ≤ l.length) : (l.take i ++ w :: l.drop i).length = l.length + 1 := by
  rw [List.length_append, List.length_cons, List.length_take, List.length_drop]
  omega
/-- the row t holds the values vs -/
def Vrow (h : Hp) (t : Nat) (vs : List Int64) : Prop := hK h t = 22 ∧ vs.length ≤ hN h t ∧ 4 ≤ hN h t ∧ hN h t < 4000000 ∧ ∀ i, i < vs.length → vs[i]? = some (aL h t i)
section L26
variable {g : Gl} {d : Nat} {h : Hp} {Q : Option Value → Hp → Prop}
theorem ins_loop {w t : Nat} {x : Int64} {again : Int32} {vs : List Int64} (hk : hK h w = 7) (hp : fP h 40 w = some t) (hv : Vrow h t vs) (hs : vs.Pairwise (· ≤ ·))
    (hQ : ∀ (low : Nat) (u v : Value), low ≤ vs.length → u.category = 1 → (∀ (i : Nat) (y : Int64), i < low → vs[i]? = some y → y < x) → (∀ (i : Nat) (y : Int64), low ≤ i → vs[i]? = some y → x ≤ y) → V g mX7_insert (d + 2) 75 [.ref w, .long x, zz, .int again, .int (nI low), u, v] [] h Q) :
    ∀ (m low high : Nat) (v : Value), high - low ≤ m → low ≤ high → high ≤ vs.length → (∀ (i : Nat) (y : Int64), i < low → vs[i]? = some y → y < x) → (∀ (i : Nat) (y : Int64), high ≤ i → vs[i]? = some y → x ≤ y) → V g mX7_insert (d + 2) 31 [.ref w, .long x, zz, .int again, .int (nI low), .int (nI high), v] [] h Q := by
  obtain ⟨v1, v2, v3, v4, v5⟩ := hv
  have sorted : ∀ (i j : Nat) (a b : Int64), i ≤ j → vs[i]? = some a → vs[j]? = some b → a ≤ b := by
    intro i j a b hij ha hb
    obtain ⟨li, ei⟩ := List.getElem?_eq_some_iff.mp ha
    obtain ⟨lj, ej⟩ := List.getElem?_eq_some_iff.mp hb
    by_cases e : i = j
    · subst e
      rw [← ei, ← ej]
      exact Int64.le_refl _
    · rw [← ei, ← ej]
      exact (List.pairwise_iff_getElem.mp hs) i j li lj (by omega)
  intro m
  induction m with
  | zero =>
    intro low high v hm hlh hhl i1 i2
    have : low = high := by omega
    subst this
    refine v_ild4 (q := 33) dX7_insert_31 rfl ?_
    refine v_ild5 (q := 35) dX7_insert_33 rfl ?_
    refine v_icmp_ge (t := 75) (q := 38) dX7_insert_35 (by decide) rfl (fun _ => ?_) (fun hc => absurd (Int32.le_refl _) hc)
    exact hQ low _ _ hhl rfl i1 i2
  | succ m ih =>
    intro low high v hm hlh hhl i1 i2
    by_cases hend : low = high
    · subst hend
      refine v_ild4 (q := 33) dX7_insert_31 rfl ?_
      refine v_ild5 (q := 35) dX7_insert_33 rfl ?_
      refine v_icmp_ge (t := 75) (q := 38) dX7_insert_35 (by decide) rfl (fun _ => ?_) (fun hc => absurd (Int32.le_refl _) hc)
      exact hQ low _ _ hhl rfl i1 i2
    · refine v_ild4 (q := 33) dX7_insert_31 rfl ?_
      refine v_ild5 (q := 35) dX7_insert_33 rfl ?_
      refine v_icmp_ge (t := 75) (q := 38) dX7_insert_35 (by decide) rfl (fun hc => absurd hc (nI_ge (by omega) (by omega))) (fun _ => ?_)
      refine v_ild4 (q := 40) dX7_insert_38 rfl ?_
      refine v_ild5 (q := 42) dX7_insert_40 rfl ?_
      refine v_iadd (q := 43) dX7_insert_42 rfl ?_
      refine v_iconst (q := 44) (v := 2) dX7_insert_43 rfl (by decide) ?_
      refine v_idiv (q := 45) dX7_insert_44 rfl (by decide) ?_
      have em : (nI low + nI high) / 2 = nI ((low + high) / 2) := by
        rw [nI_add]
        exact pk_div (a := low + high) (d := 2) (by omega) (by decide) (by decide)
      rw [em]
      have hmid : (low + high) / 2 < vs.length := by omega
      have hme := v5 _ hmid
      refine v_ist6 (q := 47) dX7_insert_45 rfl (by decide) rfl ?_
      refine v_ald0 (q := 48) dX7_insert_47 rfl rfl ?_
      refine v_getR (q := 51) dX7_insert_48 rfl gf_X7_55_6 (by assumption) (by assumption) ?_
      refine v_ild6 (q := 53) dX7_insert_51 rfl ?_
      refine v_lald (q := 54) _ dX7_insert_53 rfl v1 rfl (by omega) (by omega) ?_
      refine v_lld1 (q := 55) dX7_insert_54 rfl ?_
      refine v_lcmp (q := 56) dX7_insert_55 rfl ?_
      refine v_if_ge (t := 68) (q := 59) dX7_insert_56 (by decide) rfl ?_ ?_
      · intro hc
        have hge := (lg_cmp_ge _ _).mp hc
        refine v_ild6 (q := 70) dX7_insert_68 rfl ?_
        refine v_ist5 (q := 72) dX7_insert_70 rfl (by decide) rfl ?_
        refine v_goto (q := 31) dX7_insert_72 (by decide) ?_
        exact ih low ((low + high) / 2) _ (by omega) (by omega) (by omega) i1 (fun i y hi hy => Int64.le_trans hge (sorted _ _ _ _ hi hme hy))
      · intro hc
        have hlt : aL h t ((low + high) / 2) < x := Int64.not_le.mp (fun e => hc ((lg_cmp_ge _ _).mpr e))
        refine v_ild6 (q := 61) dX7_insert_59 rfl ?_
        refine v_iconst (q := 62) (v := 1) dX7_insert_61 rfl (by decide) ?_
        refine v_iadd (q := 63) dX7_insert_62 rfl ?_
        rw [nI_1]
        refine v_ist4 (q := 65) dX7_insert_63 rfl (by decide) rfl ?_
        refine v_goto (q := 72) dX7_insert_65 (by decide) ?_
        refine v_goto (q := 31) dX7_insert_72 (by decide) ?_
        exact ih ((low + high) / 2 + 1) high _ (by omega) (by omega) hhl (fun i y hi hy => Int64.lt_of_le_of_lt (sorted _ _ _ _ (by omega) hy hme) hlt) i2
/-- from 130 on: the row has room -/
theorem ins_tail {w t low : Nat} {x : Int64} {again : Int32} {vs : List Int64} {u v : Value} (hk : hK h w = 7) (hp : fP h 40 w = some t) (hsz : fI h 41 w = nI vs.length) (v1 : hK h t = 22) (hroom : vs.length < hN h t) (hN2 : hN h t < 4000000) (v5 : ∀ i, i < vs.length → vs[i]? = some (aL h t i)) (hl : low ≤ vs.length)
    (hQ : ∀ r : Nat → Int64, (∀ i, i < vs.length + 1 → (vs.take low ++ x :: vs.drop low)[i]? = some (r i)) → Q none (sFI (sAL h t r) 41 w (nI (vs.length + 1)))) : V g mX7_insert (d + 1) 130 [.ref w, .long x, zz, .int again, .int (nI low), u, v] [] h Q := by
  refine v_ald0 (q := 131) dX7_insert_130 rfl rfl ?_
  refine v_getR (q := 134) dX7_insert_131 rfl gf_X7_55_6 (by assumption) (by assumption) ?_
  refine v_ild4 (q := 136) dX7_insert_134 rfl ?_
  refine v_ald0 (q := 137) dX7_insert_136 rfl rfl ?_
  refine v_getR (q := 140) dX7_insert_137 rfl gf_X7_55_6 (by assumption) (by assumption) ?_
  refine v_ild4 (q := 142) dX7_insert_140 rfl ?_
  refine v_iconst (q := 143) (v := 1) dX7_insert_142 rfl (by decide) ?_
  refine v_iadd (q := 144) dX7_insert_143 rfl ?_
  refine v_ald0 (q := 145) dX7_insert_144 rfl rfl ?_
  refine v_getI (q := 148) dX7_insert_145 rfl gf_X7_52_6 (by assumption) ?_
  rw [hsz]
  refine v_ild4 (q := 150) dX7_insert_148 rfl ?_
  refine v_isub (q := 151) dX7_insert_150 rfl ?_
  have e1 : nI vs.length - nI low = nI (vs.length - low) := pk_sub hl
  refine v_copyL (q := 154) low (low + 1) (vs.length - low) dX7_insert_151 rfl (cpW_of ml_X7_70) (by omega) v1 v1 rfl (nI_1 low) e1 (by omega) (by omega) (by omega) (by omega) (Nat.le_of_ble_eq_true rfl) ?_
  generalize hcp : va_cpy (aL h t) (aL h t) low (low + 1) (vs.length - low) = cp
  refine v_ald0 (q := 155) dX7_insert_154 rfl rfl ?_
  refine v_getR (q := 158) dX7_insert_155 rfl gf_X7_55_6 (by assumption) (by assumption) ?_
  refine v_ild4 (q := 160) dX7_insert_158 rfl ?_
  refine v_lld1 (q := 161) dX7_insert_160 rfl ?_
  refine v_last (q := 162) _ dX7_insert_161 rfl v1 rfl (show low < hN h t by omega) (show hN h t < 2147483648 by omega) ?_
  have hal : aL (sAL h t cp) t = cp := by rw [aL_sAL, if_pos rfl]
  rw [sAL_sAL, hal]
  refine v_ald0 (q := 163) dX7_insert_162 rfl rfl ?_
  refine v_dup (q := 164) dX7_insert_163 rfl rfl ?_
  refine v_getI (q := 167) dX7_insert_164 rfl gf_X7_52_6 (by assumption) ?_
  have hsz2 : fI (sAL h t (vp_updL cp low x)) 41 w = nI vs.length := hsz
  rw [hsz2]
  refine v_iconst (q := 168) (v := 1) dX7_insert_167 rfl (by decide) ?_
  refine v_iadd (q := 169) dX7_insert_168 rfl ?_
  rw [nI_1]
  refine v_putI (q := 172) dX7_insert_169 rfl pf_X7_52_6 (by assumption) rfl rfl ?_
  refine v_vret dX7_insert_172 rfl ?_
  refine hQ _ (fun i hi => ?_)
  rw [insL_get hl]
  by_cases c1 : i = low
  · subst c1
    rw [if_neg (Nat.lt_irrefl _), if_pos rfl, pk_uLs]
  · rw [pk_uLn c1, ← hcp]
    by_cases c2 : i < low
    · rw [if_pos c2, pk_cpy_out (by omega)]
      exact v5 i (by omega)
    · rw [if_neg c2, if_neg c1, pk_cpy_in (by omega) (by omega), show low + (i - (low + 1)) = i - 1 by omega]
      exact v5 (i - 1) (by omega)
end L26
