/-! 96: WindowMill: settleMarks, the loop over what feeds a stage -/
section L96
variable {g : Gl} {d : Nat} {h : Hp} {ow us uz : Nat → Nat} {c lg SA ST WY s : Nat} {po sp : Nat → Nat} {X : Sg} {Q : Option Value → Hp → Prop}
theorem sm53 {a : Nat} {ls st : List Value} (hk : hK h a = 6 ∨ hK h a = 5 ∨ hK h a = 8) (k : V g mX9_settleMarks d 56 ls (.int (fI h 2 a) :: st) h Q) : V g mX9_settleMarks d 53 ls (.ref a :: st) h Q := by
  rcases hk with e | e | e
  · exact v_getI (q := 56) dX9_settleMarks_53 rfl gf_X9_117_5 e k
  · exact v_getI (q := 56) dX9_settleMarks_53 rfl gf_X9_117_4 e k
  · exact v_getI (q := 56) dX9_settleMarks_53 rfl gf_X9_117_7 e k
theorem sm72 {a : Nat} {ls st : List Value} (hk : hK h a = 6 ∨ hK h a = 5 ∨ hK h a = 8) (k : V g mX9_settleMarks d 75 ls (.int (fI h 1 a) :: st) h Q) : V g mX9_settleMarks d 72 ls (.ref a :: st) h Q := by
  rcases hk with e | e | e
  · exact v_getI (q := 75) dX9_settleMarks_72 rfl gf_X9_114_5 e k
  · exact v_getI (q := 75) dX9_settleMarks_72 rfl gf_X9_114_4 e k
  · exact v_getI (q := 75) dX9_settleMarks_72 rfl gf_X9_114_7 e k
theorem sm86 {a : Nat} {ls st : List Value} (hk : hK h a = 5 ∨ hK h a = 8) (k : V g mX9_settleMarks d 89 ls (.int (fI h 2 a) :: st) h Q) : V g mX9_settleMarks d 86 ls (.ref a :: st) h Q := by
  rcases hk with e | e
  · exact v_getI (q := 89) dX9_settleMarks_86 rfl gf_X9_173_4 e k
  · exact v_getI (q := 89) dX9_settleMarks_86 rfl gf_X9_173_7 e k
theorem sm94 {a : Nat} {ls st : List Value} (hk : hK h a = 5 ∨ hK h a = 8) (k : V g mX9_settleMarks d 97 ls (.int (fI h 1 a) :: st) h Q) : V g mX9_settleMarks d 94 ls (.ref a :: st) h Q := by
  rcases hk with e | e
  · exact v_getI (q := 97) dX9_settleMarks_94 rfl gf_X9_163_4 e k
  · exact v_getI (q := 97) dX9_settleMarks_94 rfl gf_X9_163_7 e k
theorem sm19 {a : Nat} {ls st : List Value} (hk : hK h a = 5 ∨ hK h a = 8) (k : V g mX9_settleMarks d 22 ls st (sFI h 2 a 1) Q) : V g mX9_settleMarks d 19 ls (.int 1 :: .ref a :: st) h Q := by
  rcases hk with e | e
  · exact v_putI (q := 22) dX9_settleMarks_19 rfl pf_X9_173_4 e rfl rfl k
  · exact v_putI (q := 22) dX9_settleMarks_19 rfl pf_X9_173_7 e rfl rfl k
theorem sm61 {a : Nat} {ls st : List Value} (hk : hK h a = 5 ∨ hK h a = 8) (k : V g mX9_settleMarks d 64 ls st (sFI h 2 a 0) Q) : V g mX9_settleMarks d 61 ls (.int 0 :: .ref a :: st) h Q := by
  rcases hk with e | e
  · exact v_putI (q := 64) dX9_settleMarks_61 rfl pf_X9_173_4 e rfl rfl k
  · exact v_putI (q := 64) dX9_settleMarks_61 rfl pf_X9_173_7 e rfl rfl k
theorem upR_up {α : Type} (f : Nat → α) (i : Nat) (u v : α) : upR (upR f i u) i v = upR f i v := funext fun j => by
  unfold upR
  split <;> rfl
theorem xSet_set (X : Sg) (s : Nat) (S S' : Stg) (r r' : List Rw) : xSet (xSet X s S r) s S' r' = xSet X s S' r' := by
  show (xM X, xT X, r', xP X, xI X, upR (upR (xS X) s S) s S') = _
  rw [upR_up]
  rfl
theorem sgI_sgI (S : Stg) (f : Nat) (u v : Int32) : sgI (sgI S f u) f v = sgI S f v := by
  show (upR (upR (gI S) f u) f v, gV S, gF S, gL S) = _
  rw [upR_up]
  rfl
theorem src_set {S : Stg} {r : List Rw} {f : Nat} (hf : f < 8 + s) : srcM (xSet X s S r) f = srcM X f ∧ srcI (xSet X s S r) f = srcI X f := by
  unfold srcM srcI
  by_cases h8 : f < 8
  · rw [if_pos h8, if_pos h8, if_pos h8, if_pos h8]
    exact ⟨rfl, rfl⟩
  · rw [if_neg h8, if_neg h8, if_neg h8, if_neg h8, xS_set_ne X S r (show f - 8 ≠ s by omega)]
    exact ⟨rfl, rfl⟩
theorem se_in (hG : GO X) (hs' : s < xM X) : ∀ (t j : Nat) (h : Hp) (Q : Option Value → Hp → Prop), j + t = 8 + s → MV g h ow c lg SA ST WY po sp (xSet X s (sgI (xS X s) 2 (idl X s j)) (xR X)) us uz →
    (∀ h', MV g h' ow c lg SA ST WY po sp (xSet X s (sgI (xS X s) 2 (idl X s (8 + s))) (xR X)) us uz → Fr ow ow CS h h' → hs h' = hs h → hz h' = hz h → V g mX9_settleMarks (d + 11) 85 [.ref c, .int (nI s), .ref (sp s), .int (lst X s (8 + s)), .int (nI (8 + s))] [] h' Q) →
    V g mX9_settleMarks (d + 11) 28 [.ref c, .int (nI s), .ref (sp s), .int (lst X s j), .int (nI j)] [] h Q := by
  have h16 := hG.1
  intro t
  induction t with
  | zero =>
    intro j h Q hj hM hQ
    have : j = 8 + s := by omega
    subst this
    refine v_ild4 (q := 30) dX9_settleMarks_28 rfl ?_
    refine v_bipush (q := 32) (v := 8) dX9_settleMarks_30 rfl (by decide) ?_
    refine v_ild1 (q := 33) dX9_settleMarks_32 rfl ?_
    refine v_iadd (q := 34) dX9_settleMarks_33 rfl ?_
    rw [show (8 : Int32) = nI 8 from rfl, nI_add]
    refine v_icmp_ge (t := 85) (q := 37) dX9_settleMarks_34 (by decide) rfl (fun _ => ?_) (fun hc => absurd (Int32.le_refl _) hc)
    exact hQ h hM (Fr.rf h) rfl rfl
  | succ t ih =>
    intro j h Q hj hM hQ
    have hMs : s < xM (xSet X s (sgI (xS X s) 2 (idl X s j)) (xR X)) := hs'
    have a1 : hK h c = 9 := hM.1.1
    have a3 : fP h 42 c = some SA := hM.1.2.2.1
    have b1 : hK h SA = 25 := hM.2.1.1
    have b2 : hN h SA = 24 := hM.2.1.2.1
    have hS := hM.st hMs
    have kk := hS.tag.2
    have f5 := hS.1.2.2.2.2
    rw [xS_set] at f5
    have f5' : fI h 5 (sp s) = nI (mskN (gF (xS X s)) 24) := f5
    obtain ⟨a, sa1, sa2, sa3, sa4⟩ := hM.src (f := j) (show j < 8 + xM X by omega)
    have hsrc := src_set (X := X) (S := sgI (xS X s) 2 (idl X s j)) (r := xR X) (show j < 8 + s by omega)
    rw [hsrc.1] at sa3
    rw [hsrc.2] at sa4
    -- on to the next one
    have rest : ∀ (h1 : Hp) (l : Int32), l = lst X s (j + 1) → MV g h1 ow c lg SA ST WY po sp (xSet X s (sgI (xS X s) 2 (idl X s (j + 1))) (xR X)) us uz → Fr ow ow CS h h1 → hs h1 = hs h → hz h1 = hz h → V g mX9_settleMarks (d + 11) 79 [.ref c, .int (nI s), .ref (sp s), .int l, .int (nI j)] [] h1 Q := fun h1 l el hM1 hF1 y1 y2 => by
      subst el
      refine v_inc4 (q := 82) dX9_settleMarks_79 rfl (by decide) rfl rfl ?_
      rw [inc1]
      refine v_goto (q := 28) dX9_settleMarks_82 (by decide) ?_
      refine ih (j + 1) h1 Q (by omega) hM1 (fun h2 hM2 hF2 z1 z2 => ?_)
      exact hQ h2 hM2 (hF1.tr hF2) (z1.trans y1) (z2.trans y2)
    have stay : wkP X s j = false → V g mX9_settleMarks (d + 11) 79 [.ref c, .int (nI s), .ref (sp s), .int (lst X s j), .int (nI j)] [] h Q := fun hw => by
      have e : wkL X s (j + 1) = wkL X s j := by
        rw [wkL_succ, hw]
        simp
      refine rest h _ ?_ ?_ (Fr.rf h) rfl rfl
      · unfold lst
        rw [e]
      · have : idl X s (j + 1) = idl X s j := by
          unfold idl
          rw [e]
        rw [this]
        exact hM
    refine v_ild4 (q := 30) dX9_settleMarks_28 rfl ?_
    refine v_bipush (q := 32) (v := 8) dX9_settleMarks_30 rfl (by decide) ?_
    refine v_ild1 (q := 33) dX9_settleMarks_32 rfl ?_
    refine v_iadd (q := 34) dX9_settleMarks_33 rfl ?_
    rw [show (8 : Int32) = nI 8 from rfl, nI_add]
    refine v_icmp_ge (t := 85) (q := 37) dX9_settleMarks_34 (by decide) rfl (fun hc => absurd hc (nI_ge (by omega) (by omega))) (fun _ => ?_)
    have after : V g mX9_settleMarks (d + 11) 43 [.ref c, .int (nI s), .ref (sp s), .int (lst X s j), .int (nI j)] [.int (if gF (xS X s) j then 1 else 0)] h Q := by
      by_cases hf : gF (xS X s) j = true
      · rw [if_pos hf]
        refine v_if_eq (t := 79) (q := 46) dX9_settleMarks_43 (by decide) rfl (fun hc => absurd hc (by decide)) (fun _ => ?_)
        refine v_ald0 (q := 47) dX9_settleMarks_46 rfl rfl ?_
        refine v_getR (q := 50) dX9_settleMarks_47 rfl gf_X9_11_8 (by assumption) (by assumption) ?_
        refine v_ild4 (q := 52) dX9_settleMarks_50 rfl ?_
        refine v_aald (q := 53) _ dX9_settleMarks_52 rfl ⟨b1, by decide, by decide⟩ rfl (by rw [b2]; omega) (by rw [b2]; decide) ?_
        rw [sa1]
        refine sm53 sa2 ?_
        rw [sa4]
        by_cases hi : srcI X j = 0
        · refine v_if_ne (t := 79) (q := 59) dX9_settleMarks_56 (by decide) rfl (fun hc => absurd hi hc) (fun _ => ?_)
          have hw : wkP X s j = true := by
            unfold wkP
            rw [hf, decide_eq_true hi]
            rfl
          refine v_ald2 (q := 60) dX9_settleMarks_59 rfl rfl ?_
          refine v_iconst (q := 61) (v := 0) dX9_settleMarks_60 rfl (by decide) ?_
          refine sm61 kk ?_
          obtain ⟨hM1, hF1⟩ := hM.set2 (u := 0) hMs
          rw [xSet_set, xS_set, sgI_sgI] at hM1
          change MV _ _ _ _ _ _ _ _ _ _ (xSet X s (sgI (xS X s) 2 0) (xR X)) _ _ at hM1
          have z1 : hs (sFI h 2 (sp s) 0) = hs h := rfl
          have z2 : hz (sFI h 2 (sp s) 0) = hz h := rfl
          generalize sFI h 2 (sp s) 0 = h1 at *
          have a1' : hK h1 c = 9 := hM1.1.1
          have a3' : fP h1 42 c = some SA := hM1.1.2.2.1
          have b1' : hK h1 SA = 25 := hM1.2.1.1
          have b2' : hN h1 SA = 24 := hM1.2.1.2.1
          obtain ⟨a', ta1, ta2, ta3, ta4⟩ := hM1.src (f := j) (show j < 8 + xM X by omega)
          have hsrc' := src_set (X := X) (S := sgI (xS X s) 2 0) (r := xR X) (show j < 8 + s by omega)
          rw [hsrc'.1] at ta3
          refine v_ild3 (q := 65) dX9_settleMarks_64 rfl ?_
          refine v_ald0 (q := 66) dX9_settleMarks_65 rfl rfl ?_
          refine v_getR (q := 69) dX9_settleMarks_66 rfl gf_X9_11_8 (by assumption) (by assumption) ?_
          refine v_ild4 (q := 71) dX9_settleMarks_69 rfl ?_
          refine v_aald (q := 72) _ dX9_settleMarks_71 rfl ⟨b1', by decide, by decide⟩ rfl (by rw [b2']; omega) (by rw [b2']; decide) ?_
          rw [ta1]
          refine sm72 ta2 ?_
          rw [ta3]
          refine v_callS (q := 78) (d' := d) (av := [.int (lst X s j), .int (srcM X j)]) dX9_settleMarks_75 rfl ok_J9_min_7cf53 ml_X9_214 st_J9_min_7cf53 (by omega) rfl rfl (Nat.le_of_ble_eq_true rfl) ?_
          refine k_minI ?_
          refine v_ist3 (q := 79) dX9_settleMarks_78 rfl (by decide) rfl ?_
          have e : wkL X s (j + 1) = wkL X s j ++ [j] := by
            rw [wkL_succ, if_pos hw]
          refine rest h1 _ ?_ ?_ hF1 z1 z2
          · unfold lst
            rw [e, List.foldl_append]
            rfl
          · have : idl X s (j + 1) = 0 := by
              unfold idl
              rw [e]
              exact if_neg (by simp)
            rw [this]
            exact hM1
        · refine v_if_ne (t := 79) (q := 59) dX9_settleMarks_56 (by decide) rfl (fun _ => ?_) (fun hc => absurd hc hi)
          refine stay ?_
          unfold wkP
          rw [decide_eq_false hi, Bool.and_false]
      · rw [if_neg hf]
        refine v_if_eq (t := 79) (q := 46) dX9_settleMarks_43 (by decide) rfl (fun _ => ?_) (fun hc => absurd rfl hc)
        refine stay ?_
        unfold wkP
        rw [Bool.eq_false_iff.mpr hf, Bool.false_and]
    rcases kk with k5 | k8
    · refine v_ald2 (q := 38) dX9_settleMarks_37 rfl rfl ?_
      refine v_ild4 (q := 40) dX9_settleMarks_38 rfl ?_
      refine v_callV (q := 43) (d' := d) (av := [.int (nI j)]) dX9_settleMarks_40 rfl ok_X6_isFedBy CL4 ml_X9_59 im_X6_isFedBy se_X6_isFedBy_X4 (by assumption) (by omega) rfl rfl (Nat.le_of_ble_eq_true rfl) ?_
      exact k_fed (Or.inl k5) f5' (by omega) after
    · refine v_ald2 (q := 38) dX9_settleMarks_37 rfl rfl ?_
      refine v_ild4 (q := 40) dX9_settleMarks_38 rfl ?_
      refine v_callV (q := 43) (d' := d) (av := [.int (nI j)]) dX9_settleMarks_40 rfl ok_X6_isFedBy CL7 ml_X9_59 im_X6_isFedBy se_X6_isFedBy_X8 (by assumption) (by omega) rfl rfl (Nat.le_of_ble_eq_true rfl) ?_
      exact k_fed (Or.inr k8) f5' (by omega) after
end L96
