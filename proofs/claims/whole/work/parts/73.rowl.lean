/-! 73: Windowed: rowLeft, wrongRows -/
def lrw (L : List Wd) : List Nat := L.filterMap wR
def lefts (ln : Nat → List Wd) (k m : Nat) : List Nat := (List.range' k m).flatMap (fun j => lrw (ln j))
def wrg (how : Nat) (mk : Int32) (rows : List Rw) (x : Wd) : Bool := decide (wE x ≤ mk) && (match wR x with | none => true | some r => !decide ((rows[r]?).map rSum = some (ansV how (wVs x))))
def wrgs (how : Nat) (mk : Int32) (rows : List Rw) (ln : Nat → List Wd) (n : Nat) : Nat := fb_sm (fun k => (ln k).countP (wrg how mk rows)) n
section L73
variable {g : Gl} {d : Nat} {h : Hp} {Q : Option Value → Hp → Prop} {ow : Nat → Nat} {s p lg A q1 q2 how c k la al e : Nat} {ln : Nat → List Wd} {rows : List Rw} {mk : Int32}
theorem lrw_len (Z : Zw) : (lrw (Z.map (·.2))).length = cntR Z := by
  unfold lrw cntR
  induction Z with
  | nil => rfl
  | cons z Z ih =>
    rw [List.map_cons, List.filterMap_cons, List.countP_cons]
    match hz : wR z.2 with
    | none => simpa using ih
    | some r => simpa using ih
theorem rwl_eq {T : Nat} {Z : Zw} (hL : ∀ z ∈ Z, WdV h ow T how k z.1 z.2) (hr : ∀ z ∈ Z, ∀ r, wR z.2 = some r → r < 192512) : rwl h (Z.map (·.1)) = (lrw (Z.map (·.2))).map nI := by
  unfold rwl lrw
  induction Z with
  | nil => rfl
  | cons z Z ih =>
    have i := ih (fun y hy => hL y (List.mem_cons_of_mem _ hy)) (fun y hy => hr y (List.mem_cons_of_mem _ hy))
    rw [List.map_cons, List.map_cons, List.map_cons, List.filterMap_cons, List.filter_cons, (hL z List.mem_cons_self).2.2.2.2.2.2.1]
    match hz : wR z.2 with
    | none =>
      rw [if_neg (show ¬ decide (rI none ≠ -1) = true from fun q => absurd rfl (of_decide_eq_true q)), i]
    | some r =>
      rw [if_pos (decide_eq_true (rI_some (hr z List.mem_cons_self r hz))), i, List.map_cons]
      rfl
theorem lefts_succ (k m : Nat) : lefts ln k (m + 1) = lrw (ln k) ++ lefts ln (k + 1) m := by
  unfold lefts
  rw [List.range'_succ, List.flatMap_cons]
theorem rl8_loop {ac : Nat → Nat × Nat} {i0 : Int32} (k1 : hK h p = 8) (k3 : hK h A = 24) (k4 : hN h A = 1000) (hL : WgL g h ow s A how c ln ac) (hrow : ∀ k, k < 1000 → ∀ x ∈ ln k, ∀ r, wR x = some r → r < 192512) :
    ∀ (m k a : Nat) (u6 u7 : Value), k + m = 1000 → a < 2147483648 → Q (some (.int (((lefts ln k m)[a]?.map nI).getD (-1)))) h → V g mX8_rowLeft (d + 4) 20 [.ref p, .int i0, .int (nI a), .ref A, .int (nI 1000), .int (nI k), u6, u7] [] h Q := by
  intro m
  induction m with
  | zero =>
    intro k a u6 u7 hk ha hQ
    have : k = 1000 := by omega
    subst this
    refine v_ild5 (q := 22) dX8_rowLeft_20 rfl ?_
    refine v_ild4 (q := 24) dX8_rowLeft_22 rfl ?_
    refine v_icmp_ge (t := 73) (q := 27) dX8_rowLeft_24 (by decide) rfl (fun _ => ?_) (fun hc => absurd (Int32.le_refl _) hc)
    refine v_iconst (q := 74) (v := -1) dX8_rowLeft_73 rfl (by decide) ?_
    refine v_iret dX8_rowLeft_74 rfl ?_
    exact hQ
  | succ m ih =>
    intro k a u6 u7 hk ha hQ
    have hk1 : k < 1000 := by omega
    rw [lefts_succ] at hQ
    refine v_ild5 (q := 22) dX8_rowLeft_20 rfl ?_
    refine v_ild4 (q := 24) dX8_rowLeft_22 rfl ?_
    refine v_icmp_ge (t := 73) (q := 27) dX8_rowLeft_24 (by decide) rfl (fun hc => absurd hc (nI_ge hk1 (by omega))) (fun _ => ?_)
    refine v_ald3 (q := 28) dX8_rowLeft_27 rfl rfl ?_
    refine v_ild5 (q := 30) dX8_rowLeft_28 rfl ?_
    refine v_aald (q := 31) _ dX8_rowLeft_30 rfl ⟨k3, by decide, by decide⟩ rfl (by omega) (by omega) ?_
    refine v_ast6 (q := 33) dX8_rowLeft_31 rfl (by decide) rfl (isRf_rf _) ?_
    have step : ∀ (n : Nat) (r : Option Nat), n = (lrw (ln k)).length → n ≤ a → V g mX8_rowLeft (d + 4) 62 [.ref p, .int i0, .int (nI a), .ref A, .int (nI 1000), .int (nI k), va_rf r, .int (nI n)] [] h Q := fun n r hn hle => by
      refine v_ild2 (q := 63) dX8_rowLeft_62 rfl ?_
      refine v_ild7 (q := 65) dX8_rowLeft_63 rfl ?_
      refine v_isub (q := 66) dX8_rowLeft_65 rfl ?_
      rw [nI_sub hle]
      refine v_ist2 (q := 67) dX8_rowLeft_66 rfl (by decide) rfl ?_
      refine v_inc5 (q := 70) dX8_rowLeft_67 rfl (by decide) rfl rfl ?_
      rw [inc1]
      refine v_goto (q := 20) dX8_rowLeft_70 (by decide) ?_
      refine ih (k + 1) (a - n) _ _ (by omega) (by omega) ?_
      rw [List.getElem?_append_right (by omega), ← hn] at hQ
      exact hQ
    rcases hL k hk1 with ⟨o1, o2, _⟩ | ⟨la, al, e, Z, o1, o2, o3, o4, o5⟩
    · rw [o1]
      refine v_ald6 (q := 35) dX8_rowLeft_33 rfl rfl ?_
      refine v_ifnonnull (r := none) (t := 42) (q := 38) dX8_rowLeft_35 (by decide) rfl (fun a ha => by cases ha) (fun _ => ?_)
      refine v_iconst (q := 39) (v := 0) dX8_rowLeft_38 rfl (by decide) ?_
      refine v_goto (q := 47) dX8_rowLeft_39 (by decide) ?_
      refine v_ist7 (q := 49) dX8_rowLeft_47 rfl (by decide) rfl ?_
      refine v_ild2 (q := 50) dX8_rowLeft_49 rfl ?_
      refine v_ild7 (q := 52) dX8_rowLeft_50 rfl ?_
      refine v_icmp_ge (t := 62) (q := 55) dX8_rowLeft_52 (by decide) rfl (fun _ => ?_) (fun hc => absurd (nI_pos' ha) hc)
      exact step 0 none (by rw [o2]; rfl) (Nat.zero_le _)
    · have kl : hK h la = 2 := o2.1.1
      have hl := lrw_len Z
      rw [← o3] at hl
      have hlt : cntR Z < 2147483648 := by
        have h1 : cntR Z ≤ Z.length := List.countP_le_length
        have h2 := o2.1.2.2.1.2.2.2.1
        rw [List.length_map] at h2
        omega
      rw [o1]
      refine v_ald6 (q := 35) dX8_rowLeft_33 rfl rfl ?_
      refine v_ifnonnull (r := some la) (t := 42) (q := 38) dX8_rowLeft_35 (by decide) rfl (fun _ _ => ?_) (fun ha => by cases ha)
      refine v_ald6 (q := 44) dX8_rowLeft_42 rfl rfl ?_
      refine v_getI (q := 47) dX8_rowLeft_44 rfl gf_X8_108_1 (by assumption) ?_
      rw [o4]
      refine v_ist7 (q := 49) dX8_rowLeft_47 rfl (by decide) rfl ?_
      refine v_ild2 (q := 50) dX8_rowLeft_49 rfl ?_
      refine v_ild7 (q := 52) dX8_rowLeft_50 rfl ?_
      by_cases hc : a < cntR Z
      · refine v_icmp_ge (t := 62) (q := 55) dX8_rowLeft_52 (by decide) rfl (fun hg => absurd hg (nI_ge hc hlt)) (fun _ => ?_)
        refine v_ald6 (q := 57) dX8_rowLeft_55 rfl rfl ?_
        refine v_ild2 (q := 58) dX8_rowLeft_57 rfl ?_
        refine v_callV (q := 61) (d' := d + 3) (av := [.int (nI a)]) dX8_rowLeft_58 rfl ok_X1_rowLeft CL1 ml_X8_111 im_X1_rowLeft se_X1_rowLeft (by assumption) (by omega) rfl rfl (Nat.le_of_ble_eq_true rfl) ?_
        refine k_laneRowLeft (d := d) o2.1 ha ?_
        refine v_iret dX8_rowLeft_61 rfl ?_
        rw [rwl_eq o2.2.2.2.2.1 (fun z hz r hr => hrow k hk1 z.2 (by rw [o3]; exact List.mem_map_of_mem hz) r hr), List.getElem?_map, ← o3]
        rw [List.getElem?_append_left (by omega)] at hQ
        exact hQ
      · refine v_icmp_ge (t := 62) (q := 55) dX8_rowLeft_52 (by decide) rfl (fun _ => ?_) (fun hg => absurd (nI_le (by omega) ha) hg)
        exact step (cntR Z) (some la) hl.symm (by omega)
theorem k_rowLeft {ac : Nat → Nat × Nat} {D1 D2 : List Int64} {s1 c1 b1 s2 c2 b2 : Nat} {i : Int32} (hW : WG g h ow s p lg A q1 q2 how c ln ac rows D1 D2 s1 c1 b1 s2 c2 b2) (hrow : ∀ k, k < 1000 → ∀ x ∈ ln k, ∀ r, wR x = some r → r < 192512)
    (hQ : Q (some (.int (if i < 0 then -1 else ((lefts ln 0 1000)[i.toNatClampNeg]?.map nI).getD (-1)))) h) : Call g mX8_rowLeft (d + 4) [.ref p, .int i] h Q := by
  obtain ⟨hC, h20, hL, hLog, hD1, hD2, gd⟩ := hW
  have k1 : hK h p = 8 := hC.1
  have f17 : fP h 17 p = some A := hC.2.2.2.2.1
  have k3 : hK h A = 24 := hC.2.2.2.2.2.2.2.1
  have k4 : hN h A = 1000 := hC.2.2.2.2.2.2.2.2.1
  refine Call.of [.ref p, .int i, zz, zz, zz, zz, zz, zz] (by decide) (Nat.le_of_ble_eq_true rfl) rfl ?_
  refine v_ild1 (q := 1) dX8_rowLeft_0 rfl ?_
  by_cases h0 : i < 0
  · rw [if_pos h0] at hQ
    refine v_if_ge (t := 6) (q := 4) dX8_rowLeft_1 (by decide) rfl (fun hc => absurd h0 (Int32.not_lt.mpr hc)) (fun _ => ?_)
    refine v_iconst (q := 5) (v := -1) dX8_rowLeft_4 rfl (by decide) ?_
    refine v_iret dX8_rowLeft_5 rfl ?_
    exact hQ
  · rw [if_neg h0] at hQ
    refine v_if_ge (t := 6) (q := 4) dX8_rowLeft_1 (by decide) rfl (fun _ => ?_) (fun hc => absurd (Int32.not_lt.mp h0) hc)
    obtain ⟨a, ha, rfl⟩ := nI_of h0
    rw [nI_clamp (by omega)] at hQ
    refine v_ild1 (q := 7) dX8_rowLeft_6 rfl ?_
    refine v_ist2 (q := 8) dX8_rowLeft_7 rfl (by decide) rfl ?_
    refine v_ald0 (q := 9) dX8_rowLeft_8 rfl rfl ?_
    refine v_getR (q := 12) dX8_rowLeft_9 rfl gf_X8_11_7 (by assumption) (by assumption) ?_
    refine v_ast3 (q := 13) dX8_rowLeft_12 rfl (by decide) rfl rfl ?_
    refine v_ald3 (q := 14) dX8_rowLeft_13 rfl rfl ?_
    refine v_alen (q := 15) dX8_rowLeft_14 rfl ⟨k3, by decide, by decide⟩ ?_
    rw [k4]
    refine v_ist4 (q := 17) dX8_rowLeft_15 rfl (by decide) rfl ?_
    refine v_iconst (q := 18) (v := 0) dX8_rowLeft_17 rfl (by decide) ?_
    refine v_ist5 (q := 20) dX8_rowLeft_18 rfl (by decide) rfl ?_
    exact rl8_loop (d := d) k1 k3 k4 hL hrow 1000 0 a _ _ rfl (by omega) hQ
end L73
