/-! 74: Windowed: wrongRows -/
section L74
variable {g : Gl} {d : Nat} {h : Hp} {Q : Option Value → Hp → Prop} {ow : Nat → Nat} {s p lg A q1 q2 how c k la al e : Nat} {ln : Nat → List Wd} {rows : List Rw} {mk : Int32}
theorem wr_in {Z : Zw} {u3 u4 : Int32} {T : Nat} (k1 : hK h p = 8) (f16 : fP h 16 p = some lg) (f20 : fI h 20 p = nI how) (fm : fI h 1 p = mk) (hh : how ≤ 5) (hLog : LogV h ow lg rows) (hS : LaneS g h ow T how k la al e Z) (hZ : ∀ z ∈ Z, wVs z.2 ≠ [] ∧ RowOK s k rows z.2 ∧ (wVs z.2).length < 1000000) :
    ∀ (m i w : Nat) (u8 : Value), i + m = Z.length → w + m < 2147483648 → (∀ u8 : Value, V g mX8_wrongRows (d + 4) 123 [.ref p, .int (nI (w + ((Z.map (·.2)).drop i).countP (wrg how mk rows))), .ref A, .int u3, .int u4, .ref la, .int (nI Z.length), .int (nI Z.length), u8] [] h Q) → V g mX8_wrongRows (d + 4) 47 [.ref p, .int (nI w), .ref A, .int u3, .int u4, .ref la, .int (nI Z.length), .int (nI i), u8] [] h Q := by
  have klg : hK h lg = 4 := hLog.kd.1
  have kl : hK h la = 2 := hS.1.1
  have hZl : Z.length < 1000000 := by
    have h2 := hS.1.2.2.1.2.2.2.1
    rw [List.length_map] at h2
    exact h2
  intro m
  induction m with
  | zero =>
    intro i w u8 hi hw hQ
    have : i = Z.length := by omega
    subst this
    have hq := hQ u8
    rw [List.drop_eq_nil_of_le (by rw [List.length_map]; omega)] at hq
    refine v_ild7 (q := 49) dX8_wrongRows_47 rfl ?_
    refine v_ild6 (q := 51) dX8_wrongRows_49 rfl ?_
    exact v_icmp_ge (t := 123) (q := 54) dX8_wrongRows_51 (by decide) rfl (fun _ => hq) (fun hc => absurd (Int32.le_refl _) hc)
  | succ m ih =>
    intro i w u8 hi hw hQ
    have hil : i < Z.length := by omega
    have hzi : Z[i]? = some Z[i] := List.getElem?_eq_getElem hil
    generalize hz0 : Z[i] = z at hzi
    obtain ⟨pw, x⟩ := z
    have hzm := List.mem_of_getElem? hzi
    have hx := hS.2.2.2.2.1 (pw, x) hzm
    have hxo := hZ (pw, x) hzm
    have kw : hK h pw = 7 := hx.1
    have hdr : (Z.map (·.2)).drop i = x :: (Z.map (·.2)).drop (i + 1) := by
      have hl2 : i < (Z.map (·.2)).length := by rw [List.length_map]; exact hil
      rw [List.drop_eq_getElem_cons hl2, List.getElem_map, hz0]
    rw [hdr, List.countP_cons] at hQ
    have next : ∀ w' : Nat, w' = w + (if wrg how mk rows x = true then 1 else 0) → V g mX8_wrongRows (d + 4) 117 [.ref p, .int (nI w'), .ref A, .int u3, .int u4, .ref la, .int (nI Z.length), .int (nI i), .ref pw] [] h Q := fun w' hw' => by
      refine v_inc7 (q := 120) dX8_wrongRows_117 rfl (by decide) rfl rfl ?_
      rw [inc1]
      refine v_goto (q := 47) dX8_wrongRows_120 (by decide) ?_
      refine ih (i + 1) w' _ (by omega) (by split at hw' <;> omega) (fun u8 => ?_)
      have hq := hQ u8
      rw [show w + (((Z.map (·.2)).drop (i + 1)).countP (wrg how mk rows) + if wrg how mk rows x = true then 1 else 0) = w' + ((Z.map (·.2)).drop (i + 1)).countP (wrg how mk rows) by omega] at hq
      exact hq
    have yes : wrg how mk rows x = true → V g mX8_wrongRows (d + 4) 114 [.ref p, .int (nI w), .ref A, .int u3, .int u4, .ref la, .int (nI Z.length), .int (nI i), .ref pw] [] h Q := fun hg => by
      refine v_inc1 (q := 117) dX8_wrongRows_114 rfl (by decide) rfl rfl ?_
      rw [inc1]
      exact next (w + 1) (by rw [if_pos hg])
    have no : wrg how mk rows x = false → V g mX8_wrongRows (d + 4) 117 [.ref p, .int (nI w), .ref A, .int u3, .int u4, .ref la, .int (nI Z.length), .int (nI i), .ref pw] [] h Q := fun hg => next w (by rw [hg, if_neg (by decide)]; rfl)
    refine v_ild7 (q := 49) dX8_wrongRows_47 rfl ?_
    refine v_ild6 (q := 51) dX8_wrongRows_49 rfl ?_
    refine v_icmp_ge (t := 123) (q := 54) dX8_wrongRows_51 (by decide) rfl (fun hc => absurd hc (nI_ge hil (by omega))) (fun _ => ?_)
    refine v_ald5 (q := 56) dX8_wrongRows_54 rfl rfl ?_
    refine v_ild7 (q := 58) dX8_wrongRows_56 rfl ?_
    refine v_callV (q := 61) (d' := d + 3) (av := [.int (nI i)]) dX8_wrongRows_58 rfl ok_X1_at CL1 ml_X8_124 im_X1_at se_X1_at (by assumption) (by omega) rfl rfl (Nat.le_of_ble_eq_true rfl) ?_
    refine k_at (d := d) hS.1 (by omega) ?_
    rw [show (Z.map (·.1))[i]? = some pw by rw [List.getElem?_map, hzi]; rfl]
    refine v_ast8 (q := 63) dX8_wrongRows_61 rfl (by decide) rfl rfl ?_
    refine v_ald8 (q := 65) dX8_wrongRows_63 rfl rfl ?_
    refine v_ifnull (r := some pw) (t := 117) (q := 68) dX8_wrongRows_65 (by decide) rfl (fun ha => by cases ha) (fun _ _ => ?_)
    refine v_ald8 (q := 70) dX8_wrongRows_68 rfl rfl ?_
    refine v_getI (q := 73) dX8_wrongRows_70 rfl gf_X8_128_6 (by assumption) ?_
    refine v_ald0 (q := 74) dX8_wrongRows_73 rfl rfl ?_
    refine v_getI (q := 77) dX8_wrongRows_74 rfl gf_X8_63_7 (by assumption) ?_
    rw [hx.2.2.2.2.1, fm]
    by_cases hm : wE x ≤ mk
    · refine v_icmp_gt (t := 117) (q := 80) dX8_wrongRows_77 (by decide) rfl (fun hc => absurd hm (Int32.not_le.mpr hc)) (fun _ => ?_)
      refine v_ald8 (q := 82) dX8_wrongRows_80 rfl rfl ?_
      refine v_getI (q := 85) dX8_wrongRows_82 rfl gf_X8_131_6 (by assumption) ?_
      refine v_iconst (q := 86) (v := -1) dX8_wrongRows_85 rfl (by decide) ?_
      rw [hx.2.2.2.2.2.2.1]
      match hro : wR x with
      | none =>
        have hg : wrg how mk rows x = true := by
          unfold wrg
          rw [hro, decide_eq_true hm]
          rfl
        refine v_icmp_eq (t := 114) (q := 89) dX8_wrongRows_86 (by decide) rfl (fun _ => yes hg) (fun hc => absurd rfl hc)
      | some r =>
        obtain ⟨v, hv⟩ := hxo.2.1 r hro
        have hrl := (List.getElem?_eq_some_iff.mp hv).1
        have hrl2 := hLog.kd.2.2.2
        refine v_icmp_eq (t := 114) (q := 89) dX8_wrongRows_86 (by decide) rfl (fun hc => absurd hc (rI_some (by omega))) (fun _ => ?_)
        refine v_ald0 (q := 90) dX8_wrongRows_89 rfl rfl ?_
        refine v_getR (q := 93) dX8_wrongRows_90 rfl gf_X8_49_7 (by assumption) (by assumption) ?_
        refine v_ald8 (q := 95) dX8_wrongRows_93 rfl rfl ?_
        refine v_getI (q := 98) dX8_wrongRows_95 rfl gf_X8_131_6 (by assumption) ?_
        rw [hx.2.2.2.2.2.2.1, hro]
        refine v_callV (q := 101) (d' := d + 3) (av := [.int (nI r)]) dX8_wrongRows_98 rfl ok_X3_sumAt CL3 ml_X8_134 im_X3_sumAt se_X3_sumAt (by assumption) (by omega) rfl rfl (Nat.le_of_ble_eq_true rfl) ?_
        refine k_sumV (d := d + 2) hLog hv ?_
        refine v_ald8 (q := 103) dX8_wrongRows_101 rfl rfl ?_
        refine v_ald0 (q := 104) dX8_wrongRows_103 rfl rfl ?_
        refine v_getI (q := 107) dX8_wrongRows_104 rfl gf_X8_140_7 (by assumption) ?_
        rw [f20]
        refine v_callV (q := 110) (d' := d + 3) (av := [.int (nI how)]) dX8_wrongRows_107 rfl ok_X7_answer CL6 ml_X8_143 im_X7_answer se_X7_answer (by assumption) (by omega) rfl rfl (Nat.le_of_ble_eq_true rfl) ?_
        refine k_wAnswer hx hh hxo.1 hxo.2.2 ?_
        refine v_lcmp (q := 111) dX8_wrongRows_110 rfl ?_
        have hg : wrg how mk rows x = !decide (v = ansV how (wVs x)) := by
          unfold wrg
          rw [hro, decide_eq_true hm, Bool.true_and]
          show (!decide ((rows[r]?).map rSum = some (ansV how (wVs x)))) = _
          rw [hv]
          show (!decide (some v = some (ansV how (wVs x)))) = _
          congr 1
          exact decide_eq_decide.mpr (Option.some_inj)
        refine v_if_eq (t := 117) (q := 114) dX8_wrongRows_111 (by decide) rfl (fun hc => no ?_) (fun hc => yes ?_)
        · have : v = ansV how (wVs x) := (lg_cmp_eq _ _).mp hc
          rw [hg, decide_eq_true this]
          rfl
        · have : ¬ v = ansV how (wVs x) := fun q => hc ((lg_cmp_eq _ _).mpr q)
          rw [hg, decide_eq_false this]
          rfl
    · refine v_icmp_gt (t := 117) (q := 80) dX8_wrongRows_77 (by decide) rfl (fun _ => no ?_) (fun hc => absurd (Int32.not_le.mp hm) hc)
      unfold wrg
      rw [decide_eq_false hm]
      rfl
theorem wr_out {ac : Nat → Nat × Nat} (k1 : hK h p = 8) (f16 : fP h 16 p = some lg) (f20 : fI h 20 p = nI how) (fm : fI h 1 p = mk) (k3 : hK h A = 24) (k4 : hN h A = 1000) (hh : how ≤ 5) (hLog : LogV h ow lg rows) (hL : WgL g h ow s A how c ln ac) (hx : ∀ k, k < 1000 → ∀ x ∈ ln k, wVs x ≠ [] ∧ RowOK s k rows x ∧ (wVs x).length < 1000000) (hsz : ∀ k, k < 1000 → (ln k).length < 100000) :
    ∀ (m k w : Nat) (u5 u6 u7 u8 : Value), k + m = 1000 → w ≤ 100000 * k → Q (some (.int (nI (w + fb_sm (fun j => (ln (k + j)).countP (wrg how mk rows)) m)))) h → V g mX8_wrongRows (d + 4) 13 [.ref p, .int (nI w), .ref A, .int (nI 1000), .int (nI k), u5, u6, u7, u8] [] h Q := by
  intro m
  induction m with
  | zero =>
    intro k w u5 u6 u7 u8 hk hw hQ
    have : k = 1000 := by omega
    subst this
    refine v_ild4 (q := 15) dX8_wrongRows_13 rfl ?_
    refine v_ild3 (q := 16) dX8_wrongRows_15 rfl ?_
    refine v_icmp_ge (t := 129) (q := 19) dX8_wrongRows_16 (by decide) rfl (fun _ => ?_) (fun hc => absurd (Int32.le_refl _) hc)
    refine v_ild1 (q := 130) dX8_wrongRows_129 rfl ?_
    refine v_iret dX8_wrongRows_130 rfl ?_
    exact hQ
  | succ m ih =>
    intro k w u5 u6 u7 u8 hk hw hQ
    have hk1 : k < 1000 := by omega
    have hs1 := hsz k hk1
    have hcl : (ln k).countP (wrg how mk rows) ≤ (ln k).length := List.countP_le_length
    have hsum : fb_sm (fun j => (ln (k + j)).countP (wrg how mk rows)) (m + 1) = (ln k).countP (wrg how mk rows) + fb_sm (fun j => (ln (k + 1 + j)).countP (wrg how mk rows)) m := by
      rw [Nat.add_comm m 1, fb_sm_split]
      congr 1
      · show 0 + (ln (k + 0)).countP (wrg how mk rows) = _
        rw [Nat.zero_add, Nat.add_zero]
      · refine fb_sm_cong (fun j _ => ?_)
        rw [show k + (1 + j) = k + 1 + j by omega]
    rw [hsum] at hQ
    have next : ∀ (r : Option Nat) (u6 u7 u8 : Value), V g mX8_wrongRows (d + 4) 123 [.ref p, .int (nI (w + (ln k).countP (wrg how mk rows))), .ref A, .int (nI 1000), .int (nI k), va_rf r, u6, u7, u8] [] h Q := fun r u6 u7 u8 => by
      refine v_inc4 (q := 126) dX8_wrongRows_123 rfl (by decide) rfl rfl ?_
      rw [inc1]
      refine v_goto (q := 13) dX8_wrongRows_126 (by decide) ?_
      refine ih (k + 1) _ _ _ _ _ (by omega) (by omega) ?_
      rw [Nat.add_assoc]
      exact hQ
    refine v_ild4 (q := 15) dX8_wrongRows_13 rfl ?_
    refine v_ild3 (q := 16) dX8_wrongRows_15 rfl ?_
    refine v_icmp_ge (t := 129) (q := 19) dX8_wrongRows_16 (by decide) rfl (fun hc => absurd hc (nI_ge hk1 (by omega))) (fun _ => ?_)
    refine v_ald2 (q := 20) dX8_wrongRows_19 rfl rfl ?_
    refine v_ild4 (q := 22) dX8_wrongRows_20 rfl ?_
    refine v_aald (q := 23) _ dX8_wrongRows_22 rfl ⟨k3, by decide, by decide⟩ rfl (by omega) (by omega) ?_
    refine v_ast5 (q := 25) dX8_wrongRows_23 rfl (by decide) rfl (isRf_rf _) ?_
    rcases hL k hk1 with ⟨o1, o2, _⟩ | ⟨la, al, e, Z, o1, o2, o3, o4, o5⟩
    · rw [o1]
      refine v_ald5 (q := 27) dX8_wrongRows_25 rfl rfl ?_
      refine v_ifnonnull (r := none) (t := 34) (q := 30) dX8_wrongRows_27 (by decide) rfl (fun a ha => by cases ha) (fun _ => ?_)
      refine v_iconst (q := 31) (v := 0) dX8_wrongRows_30 rfl (by decide) ?_
      refine v_goto (q := 42) dX8_wrongRows_31 (by decide) ?_
      refine v_ist6 (q := 44) dX8_wrongRows_42 rfl (by decide) rfl ?_
      refine v_iconst (q := 45) (v := 0) dX8_wrongRows_44 rfl (by decide) ?_
      refine v_ist7 (q := 47) dX8_wrongRows_45 rfl (by decide) rfl ?_
      refine v_ild7 (q := 49) dX8_wrongRows_47 rfl ?_
      refine v_ild6 (q := 51) dX8_wrongRows_49 rfl ?_
      refine v_icmp_ge (t := 123) (q := 54) dX8_wrongRows_51 (by decide) rfl (fun _ => ?_) (fun hc => absurd (Int32.le_refl _) hc)
      have := next none (.int 0) (.int 0) u8
      rw [o2] at this
      exact this
    · have kl : hK h la = 2 := o2.1.1
      have fla : fP h 27 la = some al := o2.1.2.1
      have kal : hK h al = 1 := o2.1.2.2.1.1
      have hlz : Z.length = (ln k).length := by rw [o3, List.length_map]
      rw [o1]
      refine v_ald5 (q := 27) dX8_wrongRows_25 rfl rfl ?_
      refine v_ifnonnull (r := some la) (t := 34) (q := 30) dX8_wrongRows_27 (by decide) rfl (fun _ _ => ?_) (fun ha => by cases ha)
      refine v_ald5 (q := 36) dX8_wrongRows_34 rfl rfl ?_
      refine v_getR (q := 39) dX8_wrongRows_36 rfl gf_X8_115_1 (by assumption) (by assumption) ?_
      refine v_callV (q := 42) (d' := d + 3) (av := []) dX8_wrongRows_39 rfl ok_Jx4a65c_size_8abf5 CL0 ml_X8_119 im_Jx4a65c_size_8abf5 se_Jx4a65c_size_8abf5 (by assumption) (by omega) rfl rfl (Nat.le_of_ble_eq_true rfl) ?_
      refine k_alSize kal ?_
      rw [o2.1.2.2.1.2.1, List.length_map]
      refine v_ist6 (q := 44) dX8_wrongRows_42 rfl (by decide) rfl ?_
      refine v_iconst (q := 45) (v := 0) dX8_wrongRows_44 rfl (by decide) ?_
      refine v_ist7 (q := 47) dX8_wrongRows_45 rfl (by decide) rfl ?_
      refine wr_in (d := d) (how := how) (mk := mk) (rows := rows) (s := s) k1 f16 f20 fm hh hLog o2 (fun z hz => hx k hk1 z.2 (by rw [o3]; exact List.mem_map_of_mem hz)) Z.length 0 w _ (by omega) (by omega) (fun v8 => ?_)
      rw [List.drop_zero, ← o3]
      exact next (some la) _ _ _
theorem k_wrongRows {ac : Nat → Nat × Nat} {D1 D2 : List Int64} {s1 c1 b1 s2 c2 b2 : Nat} (hW : WG g h ow s p lg A q1 q2 how c ln ac rows D1 D2 s1 c1 b1 s2 c2 b2) (hh : how ≤ 5) (fm : fI h 1 p = mk) (hx : ∀ k, k < 1000 → ∀ x ∈ ln k, wVs x ≠ [] ∧ RowOK s k rows x ∧ (wVs x).length < 1000000) (hsz : ∀ k, k < 1000 → (ln k).length < 100000)
    (hQ : Q (some (.int (nI (wrgs how mk rows ln 1000)))) h) : Call g mX8_wrongRows (d + 4) [.ref p] h Q := by
  obtain ⟨hC, h20, hL, hLog, hD1, hD2, gd⟩ := hW
  have k1 : hK h p = 8 := hC.1
  have f17 : fP h 17 p = some A := hC.2.2.2.2.1
  have k3 : hK h A = 24 := hC.2.2.2.2.2.2.2.1
  have k4 : hN h A = 1000 := hC.2.2.2.2.2.2.2.2.1
  refine Call.of [.ref p, zz, zz, zz, zz, zz, zz, zz, zz] (by decide) (Nat.le_of_ble_eq_true rfl) rfl ?_
  refine v_iconst (q := 1) (v := 0) dX8_wrongRows_0 rfl (by decide) ?_
  refine v_ist1 (q := 2) dX8_wrongRows_1 rfl (by decide) rfl ?_
  refine v_ald0 (q := 3) dX8_wrongRows_2 rfl rfl ?_
  refine v_getR (q := 6) dX8_wrongRows_3 rfl gf_X8_11_7 (by assumption) (by assumption) ?_
  refine v_ast2 (q := 7) dX8_wrongRows_6 rfl (by decide) rfl rfl ?_
  refine v_ald2 (q := 8) dX8_wrongRows_7 rfl rfl ?_
  refine v_alen (q := 9) dX8_wrongRows_8 rfl ⟨k3, by decide, by decide⟩ ?_
  rw [k4]
  refine v_ist3 (q := 10) dX8_wrongRows_9 rfl (by decide) rfl ?_
  refine v_iconst (q := 11) (v := 0) dX8_wrongRows_10 rfl (by decide) ?_
  refine v_ist4 (q := 13) dX8_wrongRows_11 rfl (by decide) rfl ?_
  refine wr_out (d := d) k1 hC.2.2.2.1 h20 fm k3 k4 hh hLog hL hx hsz 1000 0 0 _ _ _ _ rfl (Nat.zero_le _) ?_
  have e : (0 + fb_sm (fun j => (ln (0 + j)).countP (wrg how mk rows)) 1000) = wrgs how mk rows ln 1000 := by
    rw [Nat.zero_add]
    unfold wrgs
    refine fb_sm_cong (fun j _ => ?_)
    rw [Nat.zero_add]
  rw [e]
  exact hQ
end L74
