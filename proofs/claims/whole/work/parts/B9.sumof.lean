/-! B9: the model: sumOf, apart -/
def Lst (ps : List Int64) (l : Int64) : Prop := (ps = [] ∧ l = 9223372036854775807) ∨ (l ∈ ps ∧ ∀ x ∈ ps, l ≤ x)
def Grt (ps : List Int64) (l : Int64) : Prop := (ps = [] ∧ l = -9223372036854775808) ∨ (l ∈ ps ∧ ∀ x ∈ ps, x ≤ l)
theorem le_max64 (x : Int64) : x ≤ 9223372036854775807 := by
  rw [fa_le64, show (9223372036854775807 : Int64).toInt = 9223372036854775807 by decide]
  have := x.toInt_lt
  omega
theorem min_le64 (x : Int64) : -9223372036854775808 ≤ x := by
  rw [fa_le64, show (-9223372036854775808 : Int64).toInt = -9223372036854775808 by decide]
  have := x.le_toInt
  omega
theorem Lst.add {ps : List Int64} {l x : Int64} (h : Lst ps l) : Lst (ps ++ [x]) (if x < l then x else l) := by
  refine Or.inr ?_
  rcases h with ⟨h1, h2⟩ | ⟨h1, h2⟩
  · subst h1
    rw [List.nil_append]
    have : (if x < l then x else l) = x := by
      by_cases hx : x < l
      · rw [if_pos hx]
      · rw [if_neg hx]
        have h3 := Int64.not_lt.mp hx
        have h4 := le_max64 x
        rw [← h2] at h4
        exact Int64.le_antisymm h3 h4
    rw [this]
    exact ⟨List.mem_singleton.mpr rfl, fun y hy => by rw [List.mem_singleton.mp hy]; exact Int64.le_refl _⟩
  · by_cases hx : x < l
    · rw [if_pos hx]
      refine ⟨List.mem_append_right _ (List.mem_singleton.mpr rfl), fun y hy => ?_⟩
      rcases List.mem_append.mp hy with hy | hy
      · exact Int64.le_of_lt (Int64.lt_of_lt_of_le hx (h2 y hy))
      · rw [List.mem_singleton.mp hy]
        exact Int64.le_refl _
    · rw [if_neg hx]
      refine ⟨List.mem_append_left _ h1, fun y hy => ?_⟩
      rcases List.mem_append.mp hy with hy | hy
      · exact h2 y hy
      · rw [List.mem_singleton.mp hy]
        exact Int64.not_lt.mp hx
theorem Grt.add {ps : List Int64} {l x : Int64} (h : Grt ps l) : Grt (ps ++ [x]) (if l < x then x else l) := by
  refine Or.inr ?_
  rcases h with ⟨h1, h2⟩ | ⟨h1, h2⟩
  · subst h1
    rw [List.nil_append]
    have : (if l < x then x else l) = x := by
      by_cases hx : l < x
      · rw [if_pos hx]
      · rw [if_neg hx]
        have h3 := Int64.not_lt.mp hx
        have h4 := min_le64 x
        rw [← h2] at h4
        exact Int64.le_antisymm h4 h3
    rw [this]
    exact ⟨List.mem_singleton.mpr rfl, fun y hy => by rw [List.mem_singleton.mp hy]; exact Int64.le_refl _⟩
  · by_cases hx : l < x
    · rw [if_pos hx]
      refine ⟨List.mem_append_right _ (List.mem_singleton.mpr rfl), fun y hy => ?_⟩
      rcases List.mem_append.mp hy with hy | hy
      · exact Int64.le_of_lt (Int64.lt_of_le_of_lt (h2 y hy) hx)
      · rw [List.mem_singleton.mp hy]
        exact Int64.le_refl _
    · rw [if_neg hx]
      refine ⟨List.mem_append_left _ h1, fun y hy => ?_⟩
      rcases List.mem_append.mp hy with hy | hy
      · exact h2 y hy
      · rw [List.mem_singleton.mp hy]
        exact Int64.not_lt.mp hx
/-- how often the next one is another -/
def dn : List Int64 → Nat
  | x :: y :: r => (if y = x then 0 else 1) + dn (y :: r)
  | _ => 0
theorem dd_dn : ∀ (a : List Int64), a ≠ [] → (dd a).length = 1 + dn a
  | [], h => absurd rfl h
  | [x], _ => rfl
  | x :: y :: r, _ => by
    have ih := dd_dn (y :: r) (by simp)
    unfold dd dn
    by_cases e : y = x
    · rw [if_pos (show (y :: r).head? = some x by rw [e]; rfl), if_pos e, ih]
      omega
    · rw [if_neg (show ¬ (y :: r).head? = some x from fun z => e (Option.some.inj z)), if_neg e, List.length_cons, ih]
      omega
section LB9
variable {g : Gl} {d : Nat} {h : Hp} {m : Nat} {u : Mu} {Q : Option Value → Hp → Prop} {X : Sg} {ws : List (Option Mw)}
theorem so_loop {w : Nat} {hw : Int32} (hm : MK h m) : ∀ (is : List Nat) (e : Int32) (sm l gr : Int64) (ps : List Int64), LK (mI u 28) e is → (∀ i ∈ is, i < 48100) → Lst ps l → Grt ps gr →
    (∀ l' gr', Lst (ps ++ is.map (mL u 27)) l' → Grt (ps ++ is.map (mL u 27)) gr' → V g mX10_sumOf (d + 1) 113 [.ref m, .int (nI w), .int hw, .long (sm + sm64 (is.map (mL u 27))), zz, .long l', zz, .long gr', zz, .int (-1), zz, zz] [] (mh h m u) Q) →
    V g mX10_sumOf (d + 1) 32 [.ref m, .int (nI w), .int hw, .long sm, zz, .long l, zz, .long gr, zz, .int e, zz, zz] [] (mh h m u) Q := by
  intro is
  induction is with
  | nil =>
    intro e sm l gr ps hL hi h1 h2 hQ
    have he : e = -1 := hL
    subst he
    refine v_ild9 (q := 34) dX10_sumOf_32 rfl ?_
    refine v_if_lt (t := 113) (q := 37) dX10_sumOf_34 (by decide) rfl (fun _ => ?_) (fun z => absurd (by decide) z)
    rw [List.map_nil, List.append_nil, show sm + sm64 [] = sm from Int64.add_zero sm] at hQ
    exact hQ l gr h1 h2
  | cons i is ih =>
    intro e sm l gr ps hL hi h1 h2 hQ
    obtain ⟨he, hL'⟩ := hL
    subst he
    have hi0 := hi i List.mem_cons_self
    refine v_ild9 (q := 34) dX10_sumOf_32 rfl ?_
    refine v_if_lt (t := 113) (q := 37) dX10_sumOf_34 (by decide) rfl (fun z => absurd z (Int32.not_lt.mpr (nI_pos' (by omega)))) (fun _ => ?_)
    have fin : V g mX10_sumOf (d + 1) 101 [.ref m, .int (nI w), .int hw, .long (sm + mL u 27 i), zz, .long (if mL u 27 i < l then mL u 27 i else l), zz, .long (if gr < mL u 27 i then mL u 27 i else gr), zz, .int (nI i), zz, zz] [] (mh h m u) Q := by
      refine v_ald0 (q := 102) dX10_sumOf_101 rfl rfl ?_
      refine w_ga (q := 105) (j := 28) dX10_sumOf_102 rfl hm (by decide) gf_X10_94_9 ?_
      refine v_ild9 (q := 107) dX10_sumOf_105 rfl ?_
      refine w_iald (q := 108) (n := 48100) dX10_sumOf_107 rfl hm (by decide) rfl rfl rfl (by omega) ?_
      refine v_ist9 (q := 110) dX10_sumOf_108 rfl (by decide) rfl ?_
      refine v_goto (q := 32) dX10_sumOf_110 (by decide) ?_
      refine ih _ _ _ _ (ps ++ [mL u 27 i]) hL' (fun j hj => hi j (List.mem_cons_of_mem _ hj)) h1.add h2.add (fun l' gr' q1 q2 => ?_)
      rw [List.append_assoc] at q1 q2
      have := hQ l' gr' q1 q2
      rw [List.map_cons, sm64_cons, ← Int64.add_assoc] at this
      exact this
    have mid : V g mX10_sumOf (d + 1) 74 [.ref m, .int (nI w), .int hw, .long (sm + mL u 27 i), zz, .long (if mL u 27 i < l then mL u 27 i else l), zz, .long gr, zz, .int (nI i), zz, zz] [] (mh h m u) Q := by
      refine v_ald0 (q := 75) dX10_sumOf_74 rfl rfl ?_
      refine w_ga (q := 78) (j := 27) dX10_sumOf_75 rfl hm (by decide) gf_X10_91_9 ?_
      refine v_ild9 (q := 80) dX10_sumOf_78 rfl ?_
      refine w_lald (q := 81) (n := 48100) dX10_sumOf_80 rfl hm (by decide) rfl rfl rfl (by omega) ?_
      refine v_lld7 (q := 83) dX10_sumOf_81 rfl ?_
      refine v_lcmp (q := 84) dX10_sumOf_83 rfl ?_
      by_cases hx : gr < mL u 27 i
      · rw [if_pos hx] at fin
        refine v_if_le (t := 97) (q := 87) dX10_sumOf_84 (by decide) rfl (fun z => absurd ((lg_cmp_le _ _).mp z) (Int64.not_le.mpr hx)) (fun _ => ?_)
        refine v_ald0 (q := 88) dX10_sumOf_87 rfl rfl ?_
        refine w_ga (q := 91) (j := 27) dX10_sumOf_88 rfl hm (by decide) gf_X10_91_9 ?_
        refine v_ild9 (q := 93) dX10_sumOf_91 rfl ?_
        refine w_lald (q := 94) (n := 48100) dX10_sumOf_93 rfl hm (by decide) rfl rfl rfl (by omega) ?_
        refine v_goto (q := 99) dX10_sumOf_94 (by decide) ?_
        refine v_lst7 (q := 101) dX10_sumOf_99 rfl (by decide) rfl ?_
        exact fin
      · rw [if_neg hx] at fin
        refine v_if_le (t := 97) (q := 87) dX10_sumOf_84 (by decide) rfl (fun _ => ?_) (fun z => absurd ((lg_cmp_le _ _).mpr (Int64.not_lt.mp hx)) z)
        refine v_lld7 (q := 99) dX10_sumOf_97 rfl ?_
        refine v_lst7 (q := 101) dX10_sumOf_99 rfl (by decide) rfl ?_
        exact fin
    refine v_lld3 (q := 38) dX10_sumOf_37 rfl ?_
    refine v_ald0 (q := 39) dX10_sumOf_38 rfl rfl ?_
    refine w_ga (q := 42) (j := 27) dX10_sumOf_39 rfl hm (by decide) gf_X10_91_9 ?_
    refine v_ild9 (q := 44) dX10_sumOf_42 rfl ?_
    refine w_lald (q := 45) (n := 48100) dX10_sumOf_44 rfl hm (by decide) rfl rfl rfl (by omega) ?_
    refine v_ladd (q := 46) dX10_sumOf_45 rfl ?_
    refine v_lst3 (q := 47) dX10_sumOf_46 rfl (by decide) rfl ?_
    refine v_ald0 (q := 48) dX10_sumOf_47 rfl rfl ?_
    refine w_ga (q := 51) (j := 27) dX10_sumOf_48 rfl hm (by decide) gf_X10_91_9 ?_
    refine v_ild9 (q := 53) dX10_sumOf_51 rfl ?_
    refine w_lald (q := 54) (n := 48100) dX10_sumOf_53 rfl hm (by decide) rfl rfl rfl (by omega) ?_
    refine v_lld5 (q := 56) dX10_sumOf_54 rfl ?_
    refine v_lcmp (q := 57) dX10_sumOf_56 rfl ?_
    by_cases hx : mL u 27 i < l
    · rw [if_pos hx] at mid
      refine v_if_ge (t := 70) (q := 60) dX10_sumOf_57 (by decide) rfl (fun z => absurd ((lg_cmp_ge _ _).mp z) (Int64.not_le.mpr hx)) (fun _ => ?_)
      refine v_ald0 (q := 61) dX10_sumOf_60 rfl rfl ?_
      refine w_ga (q := 64) (j := 27) dX10_sumOf_61 rfl hm (by decide) gf_X10_91_9 ?_
      refine v_ild9 (q := 66) dX10_sumOf_64 rfl ?_
      refine w_lald (q := 67) (n := 48100) dX10_sumOf_66 rfl hm (by decide) rfl rfl rfl (by omega) ?_
      refine v_goto (q := 72) dX10_sumOf_67 (by decide) ?_
      refine v_lst5 (q := 74) dX10_sumOf_72 rfl (by decide) rfl ?_
      exact mid
    · rw [if_neg hx] at mid
      refine v_if_ge (t := 70) (q := 60) dX10_sumOf_57 (by decide) rfl (fun _ => ?_) (fun z => absurd ((lg_cmp_ge _ _).mpr (Int64.not_lt.mp hx)) z)
      refine v_lld5 (q := 72) dX10_sumOf_70 rfl ?_
      refine v_lst5 (q := 74) dX10_sumOf_72 rfl (by decide) rfl ?_
      exact mid
theorem so_diff {w n : Nat} {hw : Int32} {s1 s2 s3 : Int64} {v : Mu} {a : List Int64} (hm : MK h m) (hr : SR v a) (hn : a.length = n) (hn2 : n ≤ 12000) : ∀ (t k acc : Nat), k + t = n → 1 ≤ k →
    Q (some (.long (nI (acc + dn (a.drop (k - 1)))).toInt64)) (mh h m v) → V g mX10_sumOf (d + 1) 186 [.ref m, .int (nI w), .int hw, .long s1, zz, .long s2, zz, .long s3, zz, .int (nI n), .int (nI acc), .int (nI k)] [] (mh h m v) Q := by
  intro t
  induction t with
  | zero =>
    intro k acc hk h1 hQ
    have : k = n := by omega
    subst this
    have ed : dn (a.drop (k - 1)) = 0 := by
      rw [List.drop_eq_getElem_cons (show k - 1 < a.length by omega), List.drop_eq_nil_of_le (by omega)]
      rfl
    rw [ed] at hQ
    refine v_ild11 (q := 188) dX10_sumOf_186 rfl ?_
    refine v_ild9 (q := 190) dX10_sumOf_188 rfl ?_
    refine v_icmp_ge (t := 229) (q := 193) dX10_sumOf_190 (by decide) rfl (fun _ => ?_) (fun z => absurd (Int32.le_refl _) z)
    refine v_ild10 (q := 231) dX10_sumOf_229 rfl ?_
    refine v_i2l (q := 232) dX10_sumOf_231 rfl ?_
    refine v_lret dX10_sumOf_232 rfl ?_
    exact hQ
  | succ t ih =>
    intro k acc hk h1 hQ
    have e1 := aN_at (a := a) (i := k) (by omega)
    have e2 := aN_at (a := a) (i := k - 1) (by omega)
    have g1 := e1
    have g2 := e2
    rw [List.getElem?_eq_getElem (by omega)] at g1 g2
    have ed : dn (a.drop (k - 1)) = (if aN a k = aN a (k - 1) then 0 else 1) + dn (a.drop k) := by
      rw [List.drop_eq_getElem_cons (show k - 1 < a.length by omega), show k - 1 + 1 = k by omega, List.drop_eq_getElem_cons (show k < a.length by omega), Option.some.inj g1, Option.some.inj g2]
      rfl
    rw [ed, ← Nat.add_assoc] at hQ
    refine v_ild11 (q := 188) dX10_sumOf_186 rfl ?_
    refine v_ild9 (q := 190) dX10_sumOf_188 rfl ?_
    refine v_icmp_ge (t := 229) (q := 193) dX10_sumOf_190 (by decide) rfl (fun z => absurd z (nI_ge (by omega) (by omega))) (fun _ => ?_)
    have rest : ∀ x, x = (if aN a k = aN a (k - 1) then 0 else 1) → V g mX10_sumOf (d + 1) 220 [.ref m, .int (nI w), .int hw, .long s1, zz, .long s2, zz, .long s3, zz, .int (nI n), .int (nI acc), .int (nI k)] [.int (nI x), .int (nI acc)] (mh h m v) Q := fun x hx => by
      subst hx
      refine v_iadd (q := 221) dX10_sumOf_220 rfl ?_
      rw [nI_add]
      refine v_ist10 (q := 223) dX10_sumOf_221 rfl (by decide) rfl ?_
      refine v_inc11 (q := 226) dX10_sumOf_223 rfl (by decide) rfl rfl ?_
      rw [inc1]
      refine v_goto (q := 186) dX10_sumOf_226 (by decide) ?_
      refine ih (k + 1) _ (by omega) (by omega) ?_
      rw [show k + 1 - 1 = k by omega]
      exact hQ
    refine v_ild10 (q := 195) dX10_sumOf_193 rfl ?_
    refine v_ald0 (q := 196) dX10_sumOf_195 rfl rfl ?_
    refine w_ga (q := 199) (j := 35) dX10_sumOf_196 rfl hm (by decide) gf_X10_116_9 ?_
    refine v_ild11 (q := 201) dX10_sumOf_199 rfl ?_
    refine w_lald (q := 202) (n := 12004) dX10_sumOf_201 rfl hm (by decide) rfl rfl rfl (by omega) ?_
    rw [hr k _ e1]
    refine v_ald0 (q := 203) dX10_sumOf_202 rfl rfl ?_
    refine w_ga (q := 206) (j := 35) dX10_sumOf_203 rfl hm (by decide) gf_X10_116_9 ?_
    refine v_ild11 (q := 208) dX10_sumOf_206 rfl ?_
    refine v_iconst (q := 209) (v := 1) dX10_sumOf_208 rfl (by decide) ?_
    refine v_isub (q := 210) dX10_sumOf_209 rfl ?_
    rw [show (1 : Int32) = nI 1 from rfl, nI_sub (by omega)]
    refine w_lald (q := 211) (n := 12004) dX10_sumOf_210 rfl hm (by decide) rfl rfl rfl (by omega) ?_
    rw [hr (k - 1) _ e2]
    refine v_lcmp (q := 212) dX10_sumOf_211 rfl ?_
    by_cases e : aN a k = aN a (k - 1)
    · rw [if_pos e] at rest
      refine v_if_eq (t := 219) (q := 215) dX10_sumOf_212 (by decide) rfl (fun _ => ?_) (fun z => absurd ((lg_cmp_eq _ _).mpr e) z)
      refine v_iconst (q := 220) (v := 0) dX10_sumOf_219 rfl (by decide) ?_
      exact rest 0 rfl
    · rw [if_neg e] at rest
      refine v_if_eq (t := 219) (q := 215) dX10_sumOf_212 (by decide) rfl (fun z => absurd ((lg_cmp_eq _ _).mp z) e) (fun _ => ?_)
      refine v_iconst (q := 216) (v := 1) dX10_sumOf_215 rfl (by decide) ?_
      refine v_goto (q := 220) dX10_sumOf_216 (by decide) ?_
      exact rest 1 rfl
theorem q_sumOf {k s ky : Nat} {w : Wd} {es : List Nat} (hm : MK h m) (hk : k < 48100) (hs : s < 16) (hW : MWk u X k (some (s, ky, w, es))) (hh : mI u 12 s = nI (sHow (xS X s))) (hh5 : sHow (xS X s) ≤ 5) (hi : ∀ i ∈ es, i < 48100) (hn : es.length ≤ 12000) (hne : wVs w ≠ [])
    (hQ : ∀ v', Scr u v' → mI v' 36 = mI u 36 → Q (some (.long (ansV (sHow (xS X s)) (wVs w)))) (mh h m v')) : Call g mX10_sumOf (d + 1) [.ref m, .int (nI k)] (mh h m u) Q := by
  obtain ⟨w1, w2, w3, w4, w5, w6, w7, w8, w9⟩ := hW
  rw [← ansV_perm w9] at hQ
  have hne' : es.map (mL u 27) ≠ [] := fun e => hne (by rw [e] at w9; exact List.nil_perm.mp w9)
  have hel : 1 ≤ es.length := by
    rw [← List.length_map (f := mL u 27)]
    exact List.length_pos_iff.mpr hne'
  generalize sHow (xS X s) = how at *
  refine Call.of [.ref m, .int (nI k), zz, zz, zz, zz, zz, zz, zz, zz, zz, zz] (by decide) (Nat.le_of_ble_eq_true rfl) rfl ?_
  refine v_ald0 (q := 1) dX10_sumOf_0 rfl rfl ?_
  refine w_ga (q := 4) (j := 12) dX10_sumOf_1 rfl hm (by decide) gf_X10_44_9 ?_
  refine v_ald0 (q := 5) dX10_sumOf_4 rfl rfl ?_
  refine w_ga (q := 8) (j := 19) dX10_sumOf_5 rfl hm (by decide) gf_X10_67_9 ?_
  refine v_ild1 (q := 9) dX10_sumOf_8 rfl ?_
  refine w_iald (q := 10) (n := 48100) dX10_sumOf_9 rfl hm (by decide) rfl rfl rfl (by omega) ?_
  rw [w1]
  refine w_iald (q := 11) (n := 16) dX10_sumOf_10 rfl hm (by decide) rfl rfl rfl (by omega) ?_
  rw [hh]
  refine v_ist2 (q := 12) dX10_sumOf_11 rfl (by decide) rfl ?_
  refine v_lconst (q := 13) (v := 0) dX10_sumOf_12 rfl (by decide) ?_
  refine v_lst3 (q := 14) dX10_sumOf_13 rfl (by decide) rfl ?_
  refine v_ldc2 (q := 17) dX10_sumOf_14 rfl kc_X10_147 ?_
  refine v_lst5 (q := 19) dX10_sumOf_17 rfl (by decide) rfl ?_
  refine v_ldc2 (q := 22) dX10_sumOf_19 rfl kc_X10_149 ?_
  refine v_lst7 (q := 24) dX10_sumOf_22 rfl (by decide) rfl ?_
  refine v_ald0 (q := 25) dX10_sumOf_24 rfl rfl ?_
  refine w_ga (q := 28) (j := 25) dX10_sumOf_25 rfl hm (by decide) gf_X10_85_9 ?_
  refine v_ild1 (q := 29) dX10_sumOf_28 rfl ?_
  refine w_iald (q := 30) (n := 48100) dX10_sumOf_29 rfl hm (by decide) rfl rfl rfl (by omega) ?_
  refine v_ist9 (q := 32) dX10_sumOf_30 rfl (by decide) rfl ?_
  refine so_loop (d := d) hm es _ 0 _ _ [] w8 hi (Or.inl ⟨rfl, rfl⟩) (Or.inl ⟨rfl, rfl⟩) (fun l gr q1 q2 => ?_)
  rw [List.nil_append] at q1 q2
  rw [show (0 : Int64) + sm64 (es.map (mL u 27)) = sm64 (es.map (mL u 27)) from Int64.zero_add _]
  have q1 := q1.resolve_left (fun z => hne' z.1)
  have q2 := q2.resolve_left (fun z => hne' z.1)
  unfold ansV at hQ
  refine v_ild2 (q := 114) dX10_sumOf_113 rfl ?_
  refine v_iconst (q := 115) (v := 4) dX10_sumOf_114 rfl (by decide) ?_
  by_cases h4 : how < 4
  · refine v_icmp_ge (t := 154) (q := 118) dX10_sumOf_115 (by decide) rfl (fun z => absurd z (show ¬ nI 4 ≤ nI how from nI_ge h4 (by decide))) (fun _ => ?_)
    have hQ := hQ u (Scr.rf u) rfl
    refine v_ild2 (q := 119) dX10_sumOf_118 rfl ?_
    by_cases e0 : how = 0
    · subst e0
      rw [if_pos rfl, List.length_map] at hQ
      refine v_if_ne (t := 132) (q := 122) dX10_sumOf_119 (by decide) rfl (fun z => absurd rfl z) (fun _ => ?_)
      refine v_ald0 (q := 123) dX10_sumOf_122 rfl rfl ?_
      refine w_ga (q := 126) (j := 26) dX10_sumOf_123 rfl hm (by decide) gf_X10_88_9 ?_
      refine v_ild1 (q := 127) dX10_sumOf_126 rfl ?_
      refine w_iald (q := 128) (n := 48100) dX10_sumOf_127 rfl hm (by decide) rfl rfl rfl (by omega) ?_
      rw [w7]
      refine v_i2l (q := 129) dX10_sumOf_128 rfl ?_
      refine v_goto (q := 153) dX10_sumOf_129 (by decide) ?_
      refine v_lret dX10_sumOf_153 rfl ?_
      rw [nI_l (by omega)]
      exact hQ
    rw [if_neg e0] at hQ
    refine v_if_ne (t := 132) (q := 122) dX10_sumOf_119 (by decide) rfl (fun _ => ?_) (fun z => absurd ((nI_eq (a := how) (b := 0) (by omega) (by decide)).mp z) e0)
    refine v_ild2 (q := 133) dX10_sumOf_132 rfl ?_
    refine v_iconst (q := 134) (v := 1) dX10_sumOf_133 rfl (by decide) ?_
    by_cases e1 : how = 1
    · subst e1
      rw [if_pos rfl] at hQ
      refine v_icmp_ne (t := 141) (q := 137) dX10_sumOf_134 (by decide) rfl (fun z => absurd rfl z) (fun _ => ?_)
      refine v_lld3 (q := 138) dX10_sumOf_137 rfl ?_
      refine v_goto (q := 153) dX10_sumOf_138 (by decide) ?_
      refine v_lret dX10_sumOf_153 rfl ?_
      exact hQ
    rw [if_neg e1] at hQ
    refine v_icmp_ne (t := 141) (q := 137) dX10_sumOf_134 (by decide) rfl (fun _ => ?_) (fun z => absurd ((nI_eq (a := how) (b := 1) (by omega) (by decide)).mp z) e1)
    refine v_ild2 (q := 142) dX10_sumOf_141 rfl ?_
    refine v_iconst (q := 143) (v := 2) dX10_sumOf_142 rfl (by decide) ?_
    by_cases e2 : how = 2
    · subst e2
      rw [if_pos rfl, head_min q1] at hQ
      refine v_icmp_ne (t := 151) (q := 146) dX10_sumOf_143 (by decide) rfl (fun z => absurd rfl z) (fun _ => ?_)
      refine v_lld5 (q := 148) dX10_sumOf_146 rfl ?_
      refine v_goto (q := 153) dX10_sumOf_148 (by decide) ?_
      refine v_lret dX10_sumOf_153 rfl ?_
      exact hQ
    rw [if_neg e2] at hQ
    refine v_icmp_ne (t := 151) (q := 146) dX10_sumOf_143 (by decide) rfl (fun _ => ?_) (fun z => absurd ((nI_eq (a := how) (b := 2) (by omega) (by decide)).mp z) e2)
    have e3 : how = 3 := by omega
    rw [if_pos e3, last_max q2] at hQ
    refine v_lld7 (q := 153) dX10_sumOf_151 rfl ?_
    refine v_lret dX10_sumOf_153 rfl ?_
    exact hQ
  · refine v_icmp_ge (t := 154) (q := 118) dX10_sumOf_115 (by decide) rfl (fun _ => ?_) (fun z => absurd (show nI 4 ≤ nI how from nI_le (by omega) (by omega)) z)
    rw [if_neg (by omega), if_neg (by omega), if_neg (by omega), if_neg (by omega)] at hQ
    refine v_ald0 (q := 155) dX10_sumOf_154 rfl rfl ?_
    refine v_ild1 (q := 156) dX10_sumOf_155 rfl ?_
    refine v_callV (q := 159) (d' := d) (av := [.int (nI k)]) dX10_sumOf_156 rfl ok_X10_inOrder CL9 ml_X10_151 im_X10_inOrder se_X10_inOrder hm.1 (by omega) rfl rfl (Nat.le_of_ble_eq_true rfl) ?_
    refine q_inOrder hm hk (Sco.rf u) w8 hi hn (fun v hv hr => ?_)
    have hlen : (srt (es.map (mL u 27))).length = es.length := by rw [(srt_perm _).length_eq, List.length_map]
    have hQ := hQ v hv.scr (by rw [hv.1])
    rw [List.length_map] at hQ
    refine v_ist9 (q := 161) dX10_sumOf_159 rfl (by decide) rfl ?_
    refine v_ild2 (q := 162) dX10_sumOf_161 rfl ?_
    refine v_iconst (q := 163) (v := 5) dX10_sumOf_162 rfl (by decide) ?_
    by_cases e5 : how = 5
    · subst e5
      rw [if_neg (by decide)] at hQ
      refine v_icmp_ne (t := 180) (q := 166) dX10_sumOf_163 (by decide) rfl (fun z => absurd rfl z) (fun _ => ?_)
      refine v_ald0 (q := 167) dX10_sumOf_166 rfl rfl ?_
      refine w_ga (q := 170) (j := 35) dX10_sumOf_167 rfl hm (by decide) gf_X10_116_9 ?_
      refine v_ild9 (q := 172) dX10_sumOf_170 rfl ?_
      refine v_iconst (q := 173) (v := 1) dX10_sumOf_172 rfl (by decide) ?_
      refine v_iadd (q := 174) dX10_sumOf_173 rfl ?_
      refine v_iconst (q := 175) (v := 2) dX10_sumOf_174 rfl (by decide) ?_
      rw [nI_1]
      refine v_idiv (q := 176) dX10_sumOf_175 rfl (by decide) ?_
      rw [show nI (es.length + 1) / 2 = nI ((es.length + 1) / 2) from pk_div (d := 2) (by omega) (by decide) (by decide)]
      refine v_iconst (q := 177) (v := 1) dX10_sumOf_176 rfl (by decide) ?_
      refine v_isub (q := 178) dX10_sumOf_177 rfl ?_
      rw [show (1 : Int32) = nI 1 from rfl, nI_sub (by omega)]
      have eidx : (es.length + 1) / 2 - 1 = (es.length - 1) / 2 := by omega
      rw [eidx]
      refine w_lald (q := 179) (n := 12004) dX10_sumOf_178 rfl hm (by decide) rfl rfl rfl (by omega) ?_
      have e1 := aN_at (a := srt (es.map (mL u 27))) (i := (es.length - 1) / 2) (by omega)
      rw [hr _ _ e1]
      rw [e1] at hQ
      refine v_lret dX10_sumOf_179 rfl ?_
      exact hQ
    · have e4 : how = 4 := by omega
      rw [if_pos e4] at hQ
      refine v_icmp_ne (t := 180) (q := 166) dX10_sumOf_163 (by decide) rfl (fun _ => ?_) (fun z => absurd ((nI_eq (a := how) (b := 5) (by omega) (by decide)).mp z) e5)
      refine v_iconst (q := 181) (v := 1) dX10_sumOf_180 rfl (by decide) ?_
      refine v_ist10 (q := 183) dX10_sumOf_181 rfl (by decide) rfl ?_
      refine v_iconst (q := 184) (v := 1) dX10_sumOf_183 rfl (by decide) ?_
      refine v_ist11 (q := 186) dX10_sumOf_184 rfl (by decide) rfl ?_
      refine so_diff (d := d) (n := es.length) hm hr hlen hn (es.length - 1) 1 1 (by omega) (Nat.le_refl _) ?_
      have hsne : srt (es.map (mL u 27)) ≠ [] := fun z => by rw [z] at hlen; exact absurd hlen (by show ¬ 0 = _; omega)
      rw [show 1 - 1 = 0 from rfl, List.drop_zero, ← dd_dn _ hsne]
      have hddl : (dd (srt (es.map (mL u 27)))).length < 2147483648 := by
        have key : ∀ b : List Int64, (dd b).length ≤ b.length := by
          intro b
          induction b with
          | nil => exact Nat.le_refl _
          | cons y b ih =>
            unfold dd
            split
            · rw [List.length_cons]; omega
            · rw [List.length_cons, List.length_cons]; omega
        have := key (srt (es.map (mL u 27)))
        omega
      rw [nI_l hddl]
      exact hQ
end LB9
