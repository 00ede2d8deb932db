/-! 49: Windowed: join, whole -/
section L49
variable {g : Gl} {d : Nat} {h : Hp} {Q : Option Value → Hp → Prop} {ow : Nat → Nat} {s p lg A q1 q2 how c k la al e : Nat} {sl ce : Nat} {rows : List Rw}
theorem jnR_noR (x : Wd) (R : Zw) : wR (jnR (noR x) R) = none := by
  have : ∀ (R : Zw) (x : Wd), wR x = none → wR (jnR x R) = none := fun R => by
    induction R with
    | nil => exact fun x hx => hx
    | cons z R ih => exact fun x hx => ih (jn1 x z.2) rfl
  exact this R (noR x) rfl
theorem jnR_len (R : Zw) : ∀ x : Wd, (wVs (jnR x R)).length = (wVs x).length + zN R := by
  induction R with
  | nil => exact fun x => rfl
  | cons z R ih =>
    intro x
    show (wVs (jnR (jn1 x z.2) R)).length = _
    rw [ih]
    simp only [jn1, wVs, zN, List.length_append, List.map_cons, List.sum_cons]
    omega
/-- from where the first window's row is taken back -/
theorem jn34 {Z1 Zb R : Zw} {w s1 c1 b1 s2 c2 b2 : Nat} {x : Wd} {b e0 wb we took mk : Int32} {D1 D2 : List Int64} (hF : LnF g h ow s p lg A q1 q2 how c k la al e (Z1 ++ (w, x) :: (R ++ Zb)) sl ce rows) (hs6 : s < 16) (hk : k < 1000) (hc : c = 1) (hh : how ≤ 5) (hl : (Z1 ++ (w, x) :: (R ++ Zb)).length < 1000000) (hb : ∀ z, Zb.head? = some z → ¬ wB z.2 < e0) (hr : wR x = none) (n1 : wVs x ≠ [])
    (hR : ∀ z ∈ R, wVs z.2 ≠ [] ∧ RowOK s k rows z.2 ∧ wB z.2 < e0) (hN : (wVs x).length + zN R < 1000000) (hrl : rows.length + R.length < 192512) (ht : took = 0 ∨ took = 1) (fm : fI h 1 p = mk) (hD1 : HpL h ow (tD s) q1 D1 s1 c1 b1) (hD2 : HpL h ow (tQ s) q2 D2 s2 c2 b2) (hb1 : b1 < 400000) (hb2 : b2 < 400000)
    (hQ : ∀ h' ow' sl' ce' s1' c1' s2' c2', LnF g h' ow' s p lg A q1 q2 how c k la al e (Z1 ++ (w, (mnI (wB (jnR x R)) b, mxI (wE (jnR x R)) e0, none, wVs (jnR x R))) :: Zb) sl' ce' (rows ++ bks s k rows R) → HpL h' ow' (tD s) q1 (dueA (¬ (mnI (wB (jnR x R)) b = wb ∧ mxI (wE (jnR x R)) e0 = we)) mk k (mnI (wB (jnR x R)) b) (mxI (wE (jnR x R)) e0) D1) s1' c1' (b1 + 1) → HpL h' ow' (tQ s) q2 (pasA (¬ (mnI (wB (jnR x R)) b = wb ∧ mxI (wE (jnR x R)) e0 = we)) mk k (mnI (wB (jnR x R)) b) (mxI (wE (jnR x R)) e0) D2) s2' c2' (b2 + 1) → Fr ow ow' (S5 s k) h h' → PFl [24, 26] p h h' → fI h' 24 p = fI h 24 p - nI R.length → fI h' 26 p = fI h 26 p - nI (bks s k rows R).length → hs h' + sl + s1 + s2 + lgS rows.length ≤ hs h + sl' + s1' + s2' + lgS (rows ++ bks s k rows R).length → hz h' + ce + c1 + c2 + lgZ rows.length ≤ hz h + ce' + c1' + c2' + lgZ (rows ++ bks s k rows R).length → Q (some (.int (tkB took (bks s k rows R)))) h') :
    V g mX8_join (d + 8) 34 [.ref p, .ref la, .int (nI Z1.length), .int b, .int e0, .ref w, .int wb, .int we, zz, zz, zz] [.int took] h Q := by
  obtain ⟨k1, k2, k3, k4, hla, kl, klg, k5, k6, k7, wf⟩ := hF.kd
  have hA := hF.2.2.2.1.1.2.2.1
  have kal : hK h al = 1 := hA.1
  have fla : fP h 27 la = some al := hF.2.2.2.1.1.2.1
  simp only [List.length_append, List.length_cons] at hl
  refine v_ist8 (q := 36) dX8_join_34 rfl (by decide) rfl ?_
  refine v_ald1 (q := 37) dX8_join_36 rfl rfl ?_
  refine v_ild2 (q := 38) dX8_join_37 rfl ?_
  refine v_iconst (q := 39) (v := 1) dX8_join_38 rfl (by decide) ?_
  refine v_iadd (q := 40) dX8_join_39 rfl ?_
  rw [show nI Z1.length + 1 = nI (Z1.length + 1) from nI_1 _]
  refine v_callV (q := 43) (d' := d + 7) (av := [.int (nI (Z1.length + 1))]) dX8_join_40 rfl ok_X1_at CL1 ml_X8_124 im_X1_at se_X1_at (by assumption) (by omega) rfl rfl (Nat.le_of_ble_eq_true rfl) ?_
  refine k_at (d := d + 4) hF.2.2.2.1.1 (by omega) ?_
  rw [at_two]
  refine v_ast9 (q := 45) dX8_join_43 rfl (by decide) rfl (isRf_rf _) ?_
  refine v_ald1 (q := 46) dX8_join_45 rfl rfl ?_
  refine v_getR (q := 49) dX8_join_46 rfl gf_X8_115_1 (by assumption) (by assumption) ?_
  refine v_callV (q := 52) (d' := d + 7) (av := []) dX8_join_49 rfl ok_Jx4a65c_size_8abf5 CL0 ml_X8_119 im_Jx4a65c_size_8abf5 se_Jx4a65c_size_8abf5 (by assumption) (by omega) rfl rfl (Nat.le_of_ble_eq_true rfl) ?_
  refine k_alSize kal ?_
  rw [hA.2.1]
  refine v_ist10 (q := 54) dX8_join_52 rfl (by decide) (cat_rf _) ?_
  have hlen : ((Z1 ++ (w, x) :: (R ++ Zb)).map (·.1)).length = Z1.length + (R.length + Zb.length + 1) := by simp
  rw [hlen]
  refine jn_loop (d := d) hs6 hk hc hh (by omega) hb R h ow rows sl ce x took _ hF hr n1 hR (by omega) (by omega) hN hrl ht (fun h1 ow1 sl1 ce1 r1 nn F1 f1 p1 o1 l1 y1 y2 => ?_)
  have nD : ¬ S3 s k (tD s) := fun hh => by
    unfold S3 tD tg tP tL at hh
    omega
  have nQ : ¬ S3 s k (tQ s) := fun hh => by
    unfold S3 tQ tg tP tL at hh
    omega
  have er : wR (jnR x R) = none := by
    have ex : x = noR x := by
      unfold noR
      rw [← hr]
      rfl
    rw [ex]
    exact jnR_noR x R
  refine jn128 (d := d) F1 hs6 hk (tkB01 _ _) ((p1.2.1 1 (by decide)).trans fm) (hD1.fr wf f1 nD) (hD2.fr wf f1 nQ) hb1 hb2 (cat_rf _) (fun h2 ow2 s1' c1' s2' c2' F2 G1 G2 f2 sp2 y3 y4 => ?_)
  rw [er] at F2
  refine hQ h2 ow2 sl1 ce1 s1' c1' s2' c2' F2 G1 G2 ((f1.mono (fun t e => ?_)).tr f2) (p1.tr (PFl.of sp2) (fun _ h => h) (fun _ h => absurd h List.not_mem_nil)) ((sp2.2.2.1 24).trans o1) ((sp2.2.2.1 26).trans l1) (by omega) (by omega)
  unfold S3 at e
  unfold S5
  rcases e with e | e | e
  · exact Or.inl e
  · exact Or.inr (Or.inl e)
  · exact Or.inr (Or.inr (Or.inl e))
theorem k_join {Z1 Zb R : Zw} {w s1 c1 b1 s2 c2 b2 : Nat} {x : Wd} {b e0 mk : Int32} {D1 D2 : List Int64} (hF : LnF g h ow s p lg A q1 q2 how c k la al e (Z1 ++ (w, x) :: (R ++ Zb)) sl ce rows) (hs6 : s < 16) (hk : k < 1000) (hc : c = 1) (hh : how ≤ 5) (hl : (Z1 ++ (w, x) :: (R ++ Zb)).length < 1000000) (hb : ∀ z, Zb.head? = some z → ¬ wB z.2 < e0) (hr : RowOK s k rows x) (n1 : wVs x ≠ [])
    (hR : ∀ z ∈ R, wVs z.2 ≠ [] ∧ RowOK s k rows z.2 ∧ wB z.2 < e0) (hN : (wVs x).length + zN R < 1000000) (hrl : rows.length + R.length + 1 < 192512) (fm : fI h 1 p = mk) (hD1 : HpL h ow (tD s) q1 D1 s1 c1 b1) (hD2 : HpL h ow (tQ s) q2 D2 s2 c2 b2) (hb1 : b1 < 400000) (hb2 : b2 < 400000)
    (hQ : ∀ h' ow' sl' ce' s1' c1' s2' c2' bb ee, bb = mnI (wB (jnR (noR x) R)) b → ee = mxI (wE (jnR (noR x) R)) e0 → LnF g h' ow' s p lg A q1 q2 how c k la al e (Z1 ++ (w, (bb, ee, none, wVs (jnR (noR x) R))) :: Zb) sl' ce' (rows ++ bks s k rows ((w, x) :: R)) → HpL h' ow' (tD s) q1 (dueA (¬ (bb = wB x ∧ ee = wE x)) mk k bb ee D1) s1' c1' (b1 + 1) → HpL h' ow' (tQ s) q2 (pasA (¬ (bb = wB x ∧ ee = wE x)) mk k bb ee D2) s2' c2' (b2 + 1) → Fr ow ow' (S5 s k) h h' → PFl [24, 26] p h h' → fI h' 24 p = fI h 24 p - nI R.length → fI h' 26 p = fI h 26 p - nI (bks s k rows ((w, x) :: R)).length → hs h' + sl + s1 + s2 + lgS rows.length ≤ hs h + sl' + s1' + s2' + lgS (rows ++ bks s k rows ((w, x) :: R)).length → hz h' + ce + c1 + c2 + lgZ rows.length ≤ hz h + ce' + c1' + c2' + lgZ (rows ++ bks s k rows ((w, x) :: R)).length → Q (some (.int (tkB 0 (bks s k rows ((w, x) :: R))))) h') :
    Call g mX8_join (d + 8) [.ref p, .ref la, .int (nI Z1.length), .int b, .int e0] h Q := by
  obtain ⟨k1, k2, k3, k4, hla, kl, klg, k5, k6, k7, wf⟩ := hF.kd
  have hx := hF.2.2.2.1.2.2.2.2.1 (w, x) (by simp)
  have kw : hK h w = 7 := hx.1
  have hl2 := hl
  simp only [List.length_append, List.length_cons] at hl2
  refine Call.of [.ref p, .ref la, .int (nI Z1.length), .int b, .int e0, zz, zz, zz, zz, zz, zz] (by decide) (Nat.le_of_ble_eq_true rfl) rfl ?_
  refine v_ald1 (q := 1) dX8_join_0 rfl rfl ?_
  refine v_ild2 (q := 2) dX8_join_1 rfl ?_
  refine v_callV (q := 5) (d' := d + 7) (av := [.int (nI Z1.length)]) dX8_join_2 rfl ok_X1_at CL1 ml_X8_124 im_X1_at se_X1_at (by assumption) (by omega) rfl rfl (Nat.le_of_ble_eq_true rfl) ?_
  refine k_at (d := d + 4) hF.2.2.2.1.1 (by omega) ?_
  have e0' : ((Z1 ++ (w, x) :: (R ++ Zb)).map (·.1))[Z1.length]? = some w := by
    rw [List.getElem?_map, List.getElem?_append_right (Nat.le_refl _), Nat.sub_self]
    rfl
  rw [e0']
  refine v_ast5 (q := 7) dX8_join_5 rfl (by decide) rfl rfl ?_
  refine v_ald5 (q := 9) dX8_join_7 rfl rfl ?_
  refine v_ifnonnull (r := some w) (t := 14) (q := 12) dX8_join_9 (by decide) rfl (fun _ _ => ?_) (fun hc => by cases hc)
  refine v_ald5 (q := 16) dX8_join_14 rfl rfl ?_
  refine v_getI (q := 19) dX8_join_16 rfl gf_X8_156_6 (by assumption) ?_
  refine v_ist6 (q := 21) dX8_join_19 rfl (by decide) rfl ?_
  refine v_ald5 (q := 23) dX8_join_21 rfl rfl ?_
  refine v_getI (q := 26) dX8_join_23 rfl gf_X8_128_6 (by assumption) ?_
  refine v_ist7 (q := 28) dX8_join_26 rfl (by decide) rfl ?_
  refine v_ald0 (q := 29) dX8_join_28 rfl rfl ?_
  refine v_ald5 (q := 31) dX8_join_29 rfl rfl ?_
  rw [hx.2.2.2.1, hx.2.2.2.2.1]
  refine v_callV (q := 34) (d' := d + 7) (av := [.ref w]) dX8_join_31 rfl ok_X8_takeBack CL7 ml_X8_179 im_X8_takeBack se_X8_takeBack (by assumption) (by omega) rfl rfl (Nat.le_of_ble_eq_true rfl) ?_
  refine k_takeBack (d := d) hF hs6 hk hr (by omega) (fun hro => ?_) (fun r v h1 ow1 hro hy F1 f1 p1 l1 c1' c2' => ?_)
  · have eb : bks s k rows ((w, x) :: R) = bks s k rows R := by
      unfold bks
      rw [List.flatMap_cons, backOf_none hro, List.nil_append]
    have ex : noR x = x := by
      unfold noR
      rw [← hro]
      rfl
    rw [eb, ex] at hQ
    exact jn34 (d := d) hF hs6 hk hc hh hl hb hro n1 hR hN (by omega) (Or.inl rfl) fm hD1 hD2 hb1 hb2 (fun h2 ow2 sl2 ce2 s1' c1' s2' c2' F2 G1 G2 f2 p2 o2 l2 y1 y2 => hQ h2 ow2 sl2 ce2 s1' c1' s2' c2' _ _ rfl rfl F2 G1 G2 f2 p2 o2 l2 y1 y2)
  · have eb : bks s k rows ((w, x) :: R) = (true, s, k, wB x, wE x, v) :: bks s k rows R := by
      unfold bks
      rw [List.flatMap_cons, backOf_some hro hy]
      rfl
    rw [eb] at hQ
    have ebk : bks s k (rows ++ [(true, s, k, wB x, wE x, v)]) R = bks s k rows R := bks_app (fun z hz => (hR z hz).2.1)
    have nD : ¬ S3 s k (tD s) := fun hh => by
      unfold S3 tD tg tP tL at hh
      omega
    have nQ : ¬ S3 s k (tQ s) := fun hh => by
      unfold S3 tQ tg tP tL at hh
      omega
    refine jn34 (d := d) (x := noR x) F1 hs6 hk hc hh (by rw [List.length_append, List.length_cons, List.length_append]; omega) hb rfl n1 (fun z hz => ⟨(hR z hz).1, (hR z hz).2.1.app, (hR z hz).2.2⟩) hN (by rw [List.length_append, List.length_singleton]; omega) (Or.inr rfl) ((p1.2.1 1 (by decide)).trans fm) (hD1.fr wf f1 nD) (hD2.fr wf f1 nQ) hb1 hb2 (fun h2 ow2 sl2 ce2 s1' c1' s2' c2' F2 G1 G2 f2 p2 o2 l2 y1 y2 => ?_)
    rw [ebk] at F2 l2 y1 y2
    have et : tkB 1 (bks s k (rows ++ [(true, s, k, wB x, wE x, v)]) R) = tkB 0 ((true, s, k, wB x, wE x, v) :: bks s k rows R) := by
      unfold tkB
      rw [if_pos (Or.inl rfl), if_pos (Or.inr (List.cons_ne_nil _ _))]
    rw [et]
    rw [List.append_assoc, List.singleton_append] at F2 y1 y2
    rw [List.length_append, List.length_singleton] at y1 y2
    refine hQ h2 ow2 sl2 ce2 s1' c1' s2' c2' _ _ rfl rfl F2 G1 G2 ((f1.mono (fun t e => ?_)).tr f2) ((p1.mono (fun f hf => by simp at hf; simp [hf])).tr p2 (fun _ h => h) (fun _ h => h)) (by rw [o2, p1.2.1 24 (by decide)]) ?_ (by omega) (by omega)
    · unfold S3 at e
      unfold S5
      rcases e with e | e | e
      · exact Or.inl e
      · exact Or.inr (Or.inl e)
      · exact Or.inr (Or.inr (Or.inl e))
    · rw [l2, l1, List.length_cons]
      exact sub_suc _ _
end L49
