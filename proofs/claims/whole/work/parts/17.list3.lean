/-! 17: the library's list: add at a place, remove at a place -/
def Wf (h : Hp) : Prop := ∀ a, hK h a ≠ 0 → a < hz h
theorem ins_get {l : List Nat} {i w : Nat} (hi : i ≤ l.length) (j : Nat) : (l.take i ++ w :: l.drop i)[j]? = if j < i then l[j]? else if j = i then some w else l[j - 1]? := by
  have hl : (l.take i).length = i := by rw [List.length_take]; omega
  by_cases c : j < i
  · rw [if_pos c, List.getElem?_append_left (by omega), List.getElem?_take, if_pos c]
  · rw [if_neg c, List.getElem?_append_right (by omega), hl]
    by_cases c2 : j = i
    · rw [if_pos c2, c2, Nat.sub_self]
      rfl
    · rw [if_neg c2]
      obtain ⟨m, rfl⟩ : ∃ m, j = i + 1 + m := ⟨j - i - 1, by omega⟩
      rw [show i + 1 + m - i = m + 1 by omega, List.getElem?_cons_succ, List.getElem?_drop]
      congr 1
      omega
theorem ins_len {l : List Nat} {i w : Nat} (hi : i ≤ l.length) : (l.take i ++ w :: l.drop i).length = l.length + 1 := by
  rw [List.length_append, List.length_cons, List.length_take, List.length_drop]
  omega
theorem ins_mem {l : List Nat} {i w y : Nat} (hy : y ∈ l.take i ++ w :: l.drop i) : y = w ∨ y ∈ l := by
  rcases List.mem_append.mp hy with h | h
  · exact Or.inr (List.mem_of_mem_take h)
  · rcases List.mem_cons.mp h with h | h
    · exact Or.inl h
    · exact Or.inr (List.mem_of_mem_drop h)
theorem del_get {l : List Nat} {i : Nat} (hi : i < l.length) (j : Nat) : (l.take i ++ l.drop (i + 1))[j]? = if j < i then l[j]? else l[j + 1]? := by
  have hl : (l.take i).length = i := by rw [List.length_take]; omega
  by_cases c : j < i
  · rw [if_pos c, List.getElem?_append_left (by omega), List.getElem?_take, if_pos c]
  · rw [if_neg c, List.getElem?_append_right (by omega), hl, List.getElem?_drop]
    congr 1
    omega
theorem del_len {l : List Nat} {i : Nat} (hi : i < l.length) : (l.take i ++ l.drop (i + 1)).length = l.length - 1 := by
  rw [List.length_append, List.length_take, List.length_drop]
  omega
section L17
variable {g : Gl} {d : Nat} {h : Hp} {Q : Option Value → Hp → Prop}
theorem Wf_same {h1 : Hp} (e1 : hz h1 = hz h) (e2 : hK h1 = hK h) (w : Wf h) : Wf h1 := fun a ha => by rw [e1]; rw [e2] at ha; exact w a ha
theorem Wf_nArr {k n : Nat} (w : Wf h) : Wf (nArr h k n) := fun a ha => by
  rw [hK_nArr] at ha
  show a < hz h + 1
  by_cases c : a = hz h
  · omega
  · rw [if_neg c] at ha
    have := w a ha
    omega
theorem Wf_nObj {k n : Nat} (w : Wf h) : Wf (nObj h k n) := fun a ha => by
  rw [hK_nObj] at ha
  show a < hz h + 1
  by_cases c : a = hz h
  · omega
  · rw [if_neg c] at ha
    have := w a ha
    omega
theorem k_range {al i n : Nat} (hk : hK h al = 1) (hs : fI h 50 al = nI n) (hi : i ≤ n) (hn : n < 1000000) (hQ : Q none h) : Call g mJx4a65c_rangeCheckForAdd_d00df d [.ref al, .int (nI i)] h Q := by
  refine Call.of [.ref al, .int (nI i)] (by decide) (Nat.le_of_ble_eq_true rfl) rfl ?_
  refine v_ild1 (q := 1) dJx4a65c_rangeCheckForAdd_d00df_0 rfl ?_
  refine v_ald0 (q := 2) dJx4a65c_rangeCheckForAdd_d00df_1 rfl rfl ?_
  refine v_getI (q := 5) dJx4a65c_rangeCheckForAdd_d00df_2 rfl gf_Jx4a65c_48_0 (by assumption) ?_
  rw [hs]
  refine v_icmp_gt (t := 12) (q := 8) dJx4a65c_rangeCheckForAdd_d00df_5 (by decide) rfl (fun hc => absurd hc (nI_nlt hi (by omega))) (fun _ => ?_)
  refine v_ild1 (q := 9) dJx4a65c_rangeCheckForAdd_d00df_8 rfl ?_
  refine v_if_ge (t := 25) (q := 12) dJx4a65c_rangeCheckForAdd_d00df_9 (by decide) rfl (fun _ => ?_) (fun hc => absurd (nI_pos' (by omega)) hc)
  refine v_vret dJx4a65c_rangeCheckForAdd_d00df_25 rfl ?_
  exact hQ
theorem k_grow {al n : Nat} (hk : hK h al = 1) (hs : fI h 50 al = nI n) (k : Call g mJx4a65c_grow_92f84 d [.ref al, .int (nI (n + 1))] h (fun v h1 => isRf (v.getD .null) = true ∧ v ≠ none ∧ Q v h1)) : Call g mJx4a65c_grow_d5877 (d + 1) [.ref al] h Q := by
  refine Call.of [.ref al] (by decide) (Nat.le_of_ble_eq_true rfl) rfl ?_
  refine v_ald0 (q := 1) dJx4a65c_grow_d5877_0 rfl rfl ?_
  refine v_ald0 (q := 2) dJx4a65c_grow_d5877_1 rfl rfl ?_
  refine v_getI (q := 5) dJx4a65c_grow_d5877_2 rfl gf_Jx4a65c_48_0 (by assumption) ?_
  rw [hs]
  refine v_iconst (q := 6) (v := 1) dJx4a65c_grow_d5877_5 rfl (by decide) ?_
  refine v_iadd (q := 7) dJx4a65c_grow_d5877_6 rfl ?_
  rw [nI_1]
  refine v_callV (q := 10) (d' := d) (av := [.int (nI (n + 1))]) dJx4a65c_grow_d5877_7 rfl ok_Jx4a65c_grow_92f84 CL0 ml_Jx4a65c_69 im_Jx4a65c_grow_92f84 se_Jx4a65c_grow_92f84 (by assumption) (by omega) rfl rfl (Nat.le_of_ble_eq_true rfl) ?_
  refine k.mono (fun v h1 hv => ?_)
  obtain ⟨h1, h2, h3⟩ := hv
  cases v with
  | none => exact absurd rfl h2
  | some x =>
    refine v_aret dJx4a65c_grow_d5877_10 rfl (Or.inr ⟨_, rfl⟩) h1 ?_
    exact h3
/-- the end of add: the row has room -/
theorem add_tail {al e i w : Nat} {l : List Nat} (hk : hK h al = 1) (he : hK h e = 27) (hi : i ≤ l.length) (hn : l.length < hN h e) (hN2 : hN h e < 4000000) (hr : ∀ j, j < l.length → aP h e j = l[j]?) (hw : hK h w = 7) (hel : ∀ y ∈ l, hK h y = 7)
    (hQ : Q none (sFI (sAP (sAP h e (va_cpy (aP h e) (aP h e) i (i + 1) (l.length - i))) e (va_up (va_cpy (aP h e) (aP h e) i (i + 1) (l.length - i)) i (some w))) 50 al (nI (l.length + 1)))) :
    V g mJx4a65c_add_7a177 (d + 1) 38 [.ref al, .int (nI i), .ref w, .int (nI l.length), .ref e] [] h Q := by
  refine v_ald4 (q := 40) dJx4a65c_add_7a177_38 rfl rfl ?_
  refine v_ild1 (q := 41) dJx4a65c_add_7a177_40 rfl ?_
  refine v_ald4 (q := 43) dJx4a65c_add_7a177_41 rfl rfl ?_
  refine v_ild1 (q := 44) dJx4a65c_add_7a177_43 rfl ?_
  refine v_iconst (q := 45) (v := 1) dJx4a65c_add_7a177_44 rfl (by decide) ?_
  refine v_iadd (q := 46) dJx4a65c_add_7a177_45 rfl ?_
  refine v_ild3 (q := 47) dJx4a65c_add_7a177_46 rfl ?_
  refine v_ild1 (q := 48) dJx4a65c_add_7a177_47 rfl ?_
  refine v_isub (q := 49) dJx4a65c_add_7a177_48 rfl ?_
  have e1 : nI l.length - nI i = nI (l.length - i) := pk_sub hi
  have hel2 : ∀ x, x < l.length - i → ∀ y, aP h e (i + x) = some y → hK h y = 6 + 1 := fun x hx y hy => by
    rw [hr _ (by omega)] at hy
    exact hel y (List.mem_of_getElem? hy)
  refine v_copyP (q := 52) i (i + 1) (l.length - i) dJx4a65c_add_7a177_49 rfl (cpW_of ml_Jx4a65c_112) (by omega) he he rfl (nI_1 i) e1 (by omega) (by omega) (by omega) (by omega) CL6 ca_X7_Object hel2 (Nat.le_of_ble_eq_true rfl) ?_
  have he2 : hK (sAP h e (va_cpy (aP h e) (aP h e) i (i + 1) (l.length - i))) e = 27 := he
  have hw2 : hK (sAP h e (va_cpy (aP h e) (aP h e) i (i + 1) (l.length - i))) w = 6 + 1 := hw
  refine v_ald4 (q := 54) dJx4a65c_add_7a177_52 rfl rfl ?_
  refine v_ild1 (q := 55) dJx4a65c_add_7a177_54 rfl ?_
  refine v_ald2 (q := 56) dJx4a65c_add_7a177_55 rfl rfl ?_
  refine v_aast (q := 57) i dJx4a65c_add_7a177_56 rfl he2 ⟨_, _, _, _, "java/lang/Object", CL6, rfl, by decide, by decide, Or.inr ca_X7_Object⟩ hw2 rfl (show i < hN h e by omega) (show hN h e < 2147483648 by omega) ?_
  refine v_ald0 (q := 58) dJx4a65c_add_7a177_57 rfl rfl ?_
  refine v_ild3 (q := 59) dJx4a65c_add_7a177_58 rfl ?_
  refine v_iconst (q := 60) (v := 1) dJx4a65c_add_7a177_59 rfl (by decide) ?_
  refine v_iadd (q := 61) dJx4a65c_add_7a177_60 rfl ?_
  rw [nI_1]
  refine v_putI (q := 64) dJx4a65c_add_7a177_61 rfl pf_Jx4a65c_48_0 (by assumption) rfl rfl ?_
  refine v_vret dJx4a65c_add_7a177_64 rfl ?_
  rw [aP_sAP, if_pos rfl]
  exact hQ
/-- add(i, w): the list is l with w at place i; its row is the same, or a new one -/
theorem k_alAdd {al e i w : Nat} {l : List Nat} (hA : ALv g h al e l) (wf : Wf h) (hi : i ≤ l.length) (hw : hK h w = 7) (hel : ∀ y ∈ l, hK h y = 7) (hl : l.length + 1 < 1000000)
    (hQ : ∀ h' e', ALv g h' al e' (l.take i ++ w :: l.drop i) → Smo (fun a => a = al ∨ a = e ∧ hK h e = 27) h h' → Wf h' → (e' = e ∧ hz h' = hz h ∧ hs h' = hs h ∧ hN h' e' = hN h e ∨ e' = hz h ∧ hz h' = hz h + 1 ∧ (l = [] ∧ e = g.2.2.2.2.1 ∧ hs h' = hs h + 10 ∧ hN h' e' = 10 ∨ hN h e = l.length ∧ hs h' = hs h + (l.length + l.length / 2) ∧ hN h' e' = l.length + l.length / 2)) → (∀ a, hz h ≤ a → hK h' a ≠ 0 → a = e') → Q none h') :
    Call g mJx4a65c_add_7a177 (d + 5) [.ref al, .int (nI i), .ref w] h Q := by
  obtain ⟨a1, a2, a3, a4, a5⟩ := hA
  have hal : al < hz h := wf al (by omega)
  refine Call.of [.ref al, .int (nI i), .ref w, zz, zz] (by decide) (Nat.le_of_ble_eq_true rfl) rfl ?_
  refine v_ald0 (q := 1) dJx4a65c_add_7a177_0 rfl rfl ?_
  refine v_ild1 (q := 2) dJx4a65c_add_7a177_1 rfl ?_
  refine v_callV (q := 5) (d' := d) (av := [.int (nI i)]) dJx4a65c_add_7a177_2 rfl ok_Jx4a65c_rangeCheckForAdd_d00df CL0 ml_Jx4a65c_135 im_Jx4a65c_rangeCheckForAdd_d00df se_Jx4a65c_rangeCheckForAdd_d00df (by assumption) (by omega) rfl rfl (Nat.le_of_ble_eq_true rfl) ?_
  refine k_range a1 a2 hi a4 ?_
  refine v_ald0 (q := 6) dJx4a65c_add_7a177_5 rfl rfl ?_
  refine v_dup (q := 7) dJx4a65c_add_7a177_6 rfl rfl ?_
  refine v_getI (q := 10) dJx4a65c_add_7a177_7 rfl gf_Jx4a65c_63_0 (by assumption) ?_
  refine v_iconst (q := 11) (v := 1) dJx4a65c_add_7a177_10 rfl (by decide) ?_
  refine v_iadd (q := 12) dJx4a65c_add_7a177_11 rfl ?_
  refine v_putI (q := 15) dJx4a65c_add_7a177_12 rfl pf_Jx4a65c_63_0 (by assumption) rfl rfl ?_
  generalize hv : fI h 48 al + 1 = v
  have b1 : hK (sFI h 48 al v) al = 1 := a1
  have b3 : fP (sFI h 48 al v) 49 al = some e := a3
  have b2 : fI (sFI h 48 al v) 50 al = nI l.length := by rw [fI_sFI, if_neg (by omega)]; exact a2
  refine v_ald0 (q := 16) dJx4a65c_add_7a177_15 rfl rfl ?_
  refine v_getI (q := 19) dJx4a65c_add_7a177_16 rfl gf_Jx4a65c_48_0 (by assumption) ?_
  rw [b2]
  refine v_dup (q := 20) dJx4a65c_add_7a177_19 rfl rfl ?_
  refine v_ist3 (q := 21) dJx4a65c_add_7a177_20 rfl (by decide) rfl ?_
  refine v_ald0 (q := 22) dJx4a65c_add_7a177_21 rfl rfl ?_
  refine v_getR (q := 25) dJx4a65c_add_7a177_22 rfl gf_Jx4a65c_9_0 (by assumption) (by assumption) ?_
  refine v_dup (q := 26) dJx4a65c_add_7a177_25 rfl rfl ?_
  refine v_ast4 (q := 28) dJx4a65c_add_7a177_26 rfl (by decide) rfl rfl ?_
  rcases a5 with ⟨rfl, rfl⟩ | ⟨c1, c2, c3, c4, c5⟩
  · -- the first of all
    have hi0 : i = 0 := Nat.le_zero.mp hi
    subst hi0
    refine v_alenE (q := 29) dJx4a65c_add_7a177_28 rfl ?_
    refine v_icmp_ne (t := 38) (q := 32) dJx4a65c_add_7a177_29 (by decide) rfl (fun hc => absurd rfl hc) (fun _ => ?_)
    refine v_ald0 (q := 33) dJx4a65c_add_7a177_32 rfl rfl ?_
    refine v_callV (q := 36) (d' := d + 4) (av := []) dJx4a65c_add_7a177_33 rfl ok_Jx4a65c_grow_d5877 CL0 ml_Jx4a65c_129 im_Jx4a65c_grow_d5877 se_Jx4a65c_grow_d5877 (by assumption) (by omega) rfl rfl (Nat.le_of_ble_eq_true rfl) ?_
    refine k_grow (d := d + 3) b1 b2 ?_
    refine k_grow0 (d := d + 2) b1 b3 hal ⟨rfl, Option.some_ne_none _, ?_⟩
    refine v_ast4 (q := 38) dJx4a65c_add_7a177_36 rfl (by decide) rfl rfl ?_
    have hne : al ≠ hz (sFI h 48 al v) := Nat.ne_of_lt hal
    have hwl : w ≠ hz (sFI h 48 al v) := Nat.ne_of_lt (wf w (by omega))
    refine add_tail (d := d + 4) (l := []) (h := sFP (nArr (sFI h 48 al v) 27 10) 49 al (some (hz (sFI h 48 al v)))) ?_ ?_ (Nat.le_refl _) ?_ ?_ (fun j hj => absurd hj (Nat.not_lt_zero _)) ?_ (fun y hy => by cases hy) ?_
    · rw [hK_sFP, hK_nArr, if_neg hne]
      exact b1
    · rw [hK_sFP, hK_nArr, if_pos rfl]
    · rw [hN_sFP, hN_nArr, if_pos rfl]
      decide
    · rw [hN_sFP, hN_nArr, if_pos rfl]
      decide
    · rw [hK_sFP, hK_nArr, if_neg hwl]
      exact hw
    · refine hQ _ (hz h) ⟨?_, ?_, ?_, by simp, Or.inr ⟨?_, ?_, ?_, ?_, ?_⟩⟩ ?_ ?_ (Or.inr ⟨rfl, rfl, Or.inl ⟨rfl, rfl, rfl, ?_⟩⟩) ?_
      · simp only [hK_sFI, hK_sAP, hK_sFP, hK_nArr]
        rw [if_neg hne]
        exact a1
      · rw [fI_sFI, if_pos ⟨rfl, rfl⟩]
        rfl
      · simp [fP_sFI, fP_sAP, fP_sFP, hz_sFI]
      · simp [hK_sFI, hK_sAP, hK_sFP, hK_nArr, hz_sFI]
      · simp [hN_sFI, hN_sAP, hN_sFP, hN_nArr, hz_sFI]
      · simp [hN_sFI, hN_sAP, hN_sFP, hN_nArr, hz_sFI]
      · simp [hN_sFI, hN_sAP, hN_sFP, hN_nArr, hz_sFI]
      · intro j hj
        have hj0 : j = 0 := by simp at hj; omega
        subst hj0
        simp [aP_sFI, aP_sAP, va_up, hz_sFI]
      · exact ((((Smo_sFI (Or.inl rfl)).andArr.andFP (Or.inl (Or.inl rfl))).andAP (Or.inr (Nat.le_refl _))).andAP (Or.inr (Nat.le_refl _))).andFI (Or.inl (Or.inl rfl))
      · exact Wf_same rfl rfl (Wf_nArr (k := 27) (n := 10) (Wf_same (h := h) (h1 := sFI h 48 al v) rfl rfl wf))
      · simp [hN_sFI, hN_sAP, hN_sFP, hN_nArr, hz_sFI]
      · intro a ha hka
        simp only [hK_sFI, hK_sAP, hK_sFP, hK_nArr] at hka
        by_cases c : a = hz (sFI h 48 al v)
        · exact c
        · rw [if_neg c] at hka
          have := wf a hka
          omega
  · have el : e < hz h := wf e (by omega)
    have k27 : hK (sFI h 48 al v) e = 27 := c1
    refine v_alen (q := 29) dJx4a65c_add_7a177_28 rfl ⟨k27, by decide, by decide⟩ ?_
    have hne : al ≠ hz (sFI h 48 al v) := Nat.ne_of_lt hal
    have hwl : w ≠ hz (sFI h 48 al v) := Nat.ne_of_lt (wf w (by omega))
    have hale : al ≠ e := fun x => by rw [x, c1] at a1; cases a1
    by_cases hfull : l.length = hN h e
    · refine v_icmp_ne (t := 38) (q := 32) dJx4a65c_add_7a177_29 (by decide) rfl (fun hc => absurd (congrArg nI hfull) hc) (fun _ => ?_)
      refine v_ald0 (q := 33) dJx4a65c_add_7a177_32 rfl rfl ?_
      refine v_callV (q := 36) (d' := d + 4) (av := []) dJx4a65c_add_7a177_33 rfl ok_Jx4a65c_grow_d5877 CL0 ml_Jx4a65c_129 im_Jx4a65c_grow_d5877 se_Jx4a65c_grow_d5877 (by assumption) (by omega) rfl rfl (Nat.le_of_ble_eq_true rfl) ?_
      refine k_grow (d := d + 3) b1 b2 ?_
      have hel2 : ∀ x, x < hN (sFI h 48 al v) e → ∀ y, aP (sFI h 48 al v) e x = some y → hK (sFI h 48 al v) y = 7 := fun x hx y hy => by
        have hx' : x < l.length := by rw [hfull]; exact hx
        have : aP h e x = some y := hy
        rw [c5 x hx'] at this
        exact hel y (List.mem_of_getElem? this)
      refine k_grow1 (d := d) (n := l.length) b1 b3 k27 hfull.symm (by omega) (by omega) el hel2 (fun y hy => wf y (by have : hK h y = 7 := hy; omega)) hal ⟨rfl, Option.some_ne_none _, ?_⟩
      generalize hcap : l.length + l.length / 2 = cap
      refine v_ast4 (q := 38) dJx4a65c_add_7a177_36 rfl (by decide) rfl rfl ?_
      refine add_tail (d := d + 4) (h := sFP (sAP (nArr (sFI h 48 al v) 27 cap) (hz (sFI h 48 al v)) (va_cpy (aP (sFI h 48 al v) e) (fun _ => none) 0 0 l.length)) 49 al (some (hz (sFI h 48 al v)))) ?_ ?_ hi ?_ ?_ ?_ ?_ ?_ ?_
      · simp only [hK_sFP, hK_sAP, hK_nArr]
        rw [if_neg hne]
        exact b1
      · simp [hK_sFP, hK_sAP, hK_nArr]
      · simp [hN_sFP, hN_sAP, hN_nArr]
        omega
      · simp [hN_sFP, hN_sAP, hN_nArr]
        omega
      · intro j hj
        simp only [aP_sFP, aP_sAP, ↓reduceIte]
        rw [pk_cpy_in (by omega) (by omega), show 0 + (j - 0) = j by omega]
        exact c5 j hj
      · simp only [hK_sFP, hK_sAP, hK_nArr]
        rw [if_neg hwl]
        exact hw
      · intro y hy
        have hy2 := hel y hy
        have := wf y (by omega)
        simp only [hK_sFP, hK_sAP, hK_nArr]
        rw [if_neg (show y ≠ hz (sFI h 48 al v) from Nat.ne_of_lt this)]
        exact hy2
      · refine hQ _ (hz h) ⟨?_, ?_, ?_, by rw [ins_len hi]; omega, Or.inr ⟨?_, ?_, ?_, ?_, ?_⟩⟩ ?_ ?_ (Or.inr ⟨rfl, rfl, Or.inr ⟨hfull.symm, by rw [hcap]; rfl, ?_⟩⟩) ?_
        · simp only [hK_sFI, hK_sAP, hK_sFP, hK_nArr]
          rw [if_neg hne]
          exact a1
        · rw [fI_sFI, if_pos ⟨rfl, rfl⟩, ins_len hi]
        · simp [fP_sFI, fP_sAP, fP_sFP, hz_sFI]
        · simp [hK_sFI, hK_sAP, hK_sFP, hK_nArr, hz_sFI]
        · rw [ins_len hi]
          simp [hN_sFI, hN_sAP, hN_sFP, hN_nArr, hz_sFI]
          omega
        · simp [hN_sFI, hN_sAP, hN_sFP, hN_nArr, hz_sFI]
          omega
        · simp [hN_sFI, hN_sAP, hN_sFP, hN_nArr, hz_sFI]
          omega
        · intro j hj
          rw [ins_len hi] at hj
          rw [ins_get hi]
          simp only [aP_sFI, aP_sAP, aP_sFP, hz_sFI, ↓reduceIte]
          by_cases x1 : j = i
          · subst x1
            simp [va_up]
          · rw [va_up_ne _ _ x1]
            by_cases x2 : j < i
            · rw [if_pos x2, pk_cpy_out (by omega), pk_cpy_in (by omega) (by omega), show 0 + (j - 0) = j by omega]
              exact c5 j (by omega)
            · rw [if_neg x2, if_neg x1, pk_cpy_in (by omega) (by omega), pk_cpy_in (by omega) (by omega), show 0 + (i + (j - (i + 1)) - 0) = j - 1 by omega]
              exact c5 (j - 1) (by omega)
        · exact (((((Smo_sFI (Or.inl rfl)).andArr.andAP (Or.inr (Nat.le_refl _))).andFP (Or.inl (Or.inl rfl))).andAP (Or.inr (Nat.le_refl _))).andAP (Or.inr (Nat.le_refl _))).andFI (Or.inl (Or.inl rfl))
        · exact Wf_same rfl rfl (Wf_nArr (k := 27) (n := cap) (Wf_same (h := h) (h1 := sFI h 48 al v) rfl rfl wf))
        · simp [hN_sFI, hN_sAP, hN_sFP, hN_nArr, hz_sFI, hcap]
        · intro a ha hka
          simp only [hK_sFI, hK_sAP, hK_sFP, hK_nArr] at hka
          by_cases c : a = hz (sFI h 48 al v)
          · exact c
          · rw [if_neg c] at hka
            have := wf a hka
            omega
    · refine v_icmp_ne (t := 38) (q := 32) dJx4a65c_add_7a177_29 (by decide) rfl (fun _ => ?_) (fun hc => absurd ((nI_eq (by omega) (by show hN h e < _; omega)).mp hc) hfull)
      refine add_tail (d := d + 4) (h := sFI h 48 al v) b1 k27 hi (show l.length < hN h e by omega) (show hN h e < 4000000 by omega) c5 hw hel ?_
      refine hQ _ e ⟨a1, ?_, a3, by rw [ins_len hi]; omega, Or.inr ⟨c1, ?_, c3, c4, ?_⟩⟩ ?_ (Wf_same rfl rfl wf) (Or.inl ⟨rfl, rfl, rfl, rfl⟩) ?_
      · rw [fI_sFI, if_pos ⟨rfl, rfl⟩, ins_len hi]
      · rw [ins_len hi]
        show l.length + 1 ≤ hN h e
        omega
      · intro j hj
        rw [ins_len hi] at hj
        rw [ins_get hi]
        simp only [aP_sFI, aP_sAP, ↓reduceIte]
        by_cases x1 : j = i
        · subst x1
          simp [va_up]
        · rw [va_up_ne _ _ x1]
          by_cases x2 : j < i
          · rw [if_pos x2, pk_cpy_out (by omega)]
            exact c5 j (by omega)
          · rw [if_neg x2, if_neg x1, pk_cpy_in (by omega) (by omega), show i + (j - (i + 1)) = j - 1 by omega]
            exact c5 (j - 1) (by omega)
      · exact (((Smo_sFI (Or.inl rfl)).andAP (Or.inl (Or.inr ⟨rfl, c1⟩))).andAP (Or.inl (Or.inr ⟨rfl, c1⟩))).andFI (Or.inl (Or.inl rfl))
      · intro a ha hka
        have : hK h a ≠ 0 := hka
        have := wf a this
        omega
end L17
