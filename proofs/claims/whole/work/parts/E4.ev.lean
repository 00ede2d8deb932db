/-! E4: the model: goOn, event, burst -/
section LE4
variable {g : Gl} {d : Nat} {h : Hp} {m : Nat} {Q : Option Value → Hp → Prop} {X : Sg} {ws : List (Option Mw)} {s k n f : Nat} {u : Mu} {mi : Int32} {v : Int64}
theorem go_loop (hm : MK h m) (IH : GoOK g d h m n) (hf24 : f < 24) (hfu : (f < 8 ∧ 17 ≤ n + 1) ∨ 24 ≤ n + 1 + f) (hk : k < 1000) (m0 : 0 ≤ mi.toInt) (m1 : mi.toInt ≤ 100000) :
    ∀ (t s : Nat) (u : Mu) (X : Sg) (ws : List (Option Mw)), s + t = xM X → MR u X ws → GO X → BI X → SI X → tot camS X + cyS X n f s t ≤ 12000 →
      (∀ (u' : Mu) (ws' : List (Option Mw)) (X' : Sg), X' = (List.range' s t).foldl (cyF n f (nI k) mi v) X → MR u' X' ws' → KX X X' → BI X' → SI X' → tot camS X' ≤ tot camS X + cyS X n f s t → Q none (mh h m u')) →
      V g mX10_goOn (d + 3 * n + 10) 3 [.ref m, .int (nI f), .int (nI k), .int mi, .long v, zz, .int (nI s)] [] (mh h m u) Q := by
  intro t
  induction t with
  | zero =>
    intro s u X ws hs hR hG hB hS hC hQ
    have : s = xM X := by omega
    subst this
    refine v_ild6 (q := 5) dX10_goOn_3 rfl ?_
    refine v_ald0 (q := 6) dX10_goOn_5 rfl rfl ?_
    refine w_gi (q := 9) dX10_goOn_6 rfl hm gf_X10_122_9 ?_
    rw [hR.1.1.1]
    refine v_icmp_ge (t := 43) (q := 12) dX10_goOn_9 (by decide) rfl (fun _ => ?_) (fun z => absurd (Int32.le_refl _) z)
    refine v_vret dX10_goOn_43 rfl ?_
    exact hQ u ws X rfl hR (KX.rf X) hB hS (Nat.le_add_right _ _)
  | succ t ih =>
    intro s u X ws hs hR hG hB hS hC hQ
    have h16 := hG.1
    have hsm : s < xM X := by omega
    rw [cyS_succ] at hC hQ
    rw [List.range'_succ, List.foldl_cons] at hQ
    have hi : (24 : Int32) * nI s + nI f = nI (24 * s + f) := by rw [show (24 : Int32) = nI 24 from rfl, pk_mul, nI_add]
    have rest : ∀ (u1 : Mu) (ws1 : List (Option Mw)) (X1 : Sg), X1 = cyF n f (nI k) mi v X s → MR u1 X1 ws1 → KX X X1 → BI X1 → SI X1 → tot camS X1 ≤ tot camS X + cyW X n f s → V g mX10_goOn (d + 3 * n + 10) 37 [.ref m, .int (nI f), .int (nI k), .int mi, .long v, zz, .int (nI s)] [] (mh h m u1) Q := fun u1 ws1 X1 e1 hR1 hX1 hB1 hS1 hC1 => by
      refine v_inc6 (q := 40) dX10_goOn_37 rfl (by decide) rfl rfl ?_
      rw [inc1]
      refine v_goto (q := 3) dX10_goOn_40 (by decide) ?_
      have eS := cyS_same hX1.sg n f (s + 1) t
      refine ih (s + 1) u1 X1 ws1 (by rw [hX1.1]; omega) hR1 (hG.same hX1.sg) hB1 hS1 (by rw [eS]; omega) (fun u2 ws2 X2 e2 hR2 hX2 hB2 hS2 hC2 => ?_)
      rw [eS] at hC2
      rw [e1] at e2
      exact hQ u2 ws2 X2 e2 hR2 (hX1.tr hX2) hB2 hS2 (by omega)
    refine v_ild6 (q := 5) dX10_goOn_3 rfl ?_
    refine v_ald0 (q := 6) dX10_goOn_5 rfl rfl ?_
    refine w_gi (q := 9) dX10_goOn_6 rfl hm gf_X10_122_9 ?_
    rw [hR.1.1.1]
    refine v_icmp_ge (t := 43) (q := 12) dX10_goOn_9 (by decide) rfl (fun z => absurd z (nI_ge hsm (by omega))) (fun _ => ?_)
    refine v_ald0 (q := 13) dX10_goOn_12 rfl rfl ?_
    refine w_ga (q := 16) (j := 8) dX10_goOn_13 rfl hm (by decide) gf_X10_32_9 ?_
    refine v_bipush (q := 18) (v := 24) dX10_goOn_16 rfl (by decide) ?_
    refine v_ild6 (q := 20) dX10_goOn_18 rfl ?_
    refine v_imul (q := 21) dX10_goOn_20 rfl ?_
    refine v_ild1 (q := 22) dX10_goOn_21 rfl ?_
    refine v_iadd (q := 23) dX10_goOn_22 rfl ?_
    refine w_zald (q := 24) (n := 384) dX10_goOn_23 rfl hm (by decide) rfl rfl hi (by omega) ?_
    rw [(hR.1.2.2.1 s hsm).2.1 f hf24]
    by_cases hf : gF (xS X s) f = true
    · rw [if_pos hf]
      have hfs := (hG.2.1 s hsm f hf).1
      refine v_if_eq (t := 37) (q := 27) dX10_goOn_24 (by decide) rfl (fun z => absurd z (by decide)) (fun _ => ?_)
      refine v_ald0 (q := 28) dX10_goOn_27 rfl rfl ?_
      refine v_ild6 (q := 30) dX10_goOn_28 rfl ?_
      refine v_ild2 (q := 31) dX10_goOn_30 rfl ?_
      refine v_ild3 (q := 32) dX10_goOn_31 rfl ?_
      refine v_lld4 (q := 34) dX10_goOn_32 rfl ?_
      refine v_callV (q := 37) (d' := d + 3 * n + 9) (av := [.int (nI s), .int (nI k), .int mi, .long v]) dX10_goOn_34 rfl ok_X10_come CL9 ml_X10_215 im_X10_come se_X10_come hm.1 (by omega) rfl rfl (Nat.le_of_ble_eq_true rfl) ?_
      exact q_come hm IH hR hG hB hS hsm hf (by omega) hk m0 m1 (by omega) rest
    · rw [if_neg hf]
      refine v_if_eq (t := 37) (q := 27) dX10_goOn_24 (by decide) rfl (fun _ => ?_) (fun z => absurd rfl z)
      refine rest u ws X ?_ hR (KX.rf X) hB hS (Nat.le_add_right _ _)
      unfold cyF
      rw [if_neg hf]
theorem q_goOn (hm : MK h m) : ∀ n, GoOK g d h m n := by
  intro n
  induction n with
  | zero =>
    intro u X ws f k mi v Q hR hG hB hS hf hfu hk m0 m1 hC hQ
    have := hG.1
    omega
  | succ n ih =>
    intro u X ws f k mi v Q hR hG hB hS hf hfu hk m0 m1 hC hQ
    have h16 := hG.1
    rw [show d + 3 * (n + 1) + 7 = d + 3 * n + 10 by omega]
    refine Call.of [.ref m, .int (nI f), .int (nI k), .int mi, .long v, zz, zz] (by decide) (Nat.le_of_ble_eq_true rfl) rfl ?_
    refine v_iconst (q := 1) (v := 0) dX10_goOn_0 rfl (by decide) ?_
    refine v_ist6 (q := 3) dX10_goOn_1 rfl (by decide) rfl ?_
    have eW : wz X (n + 1) f = cyS X n f 0 (xM X) := by
      have := fb_sm_range (cyW X n f) 0 (xM X)
      rw [Nat.zero_add] at this
      show fb_sm (cyW X n f) (xM X) = _
      rw [this]
      exact Nat.zero_add _
    rw [eW] at hC hQ
    refine go_loop (d := d) hm ih (by omega) (by omega) hk m0 m1 (xM X) 0 u X ws (Nat.zero_add _) hR hG hB hS hC (fun u' ws' X' e1 e2 e3 e4 e5 e6 => hQ u' ws' X' ?_ e2 e3 e4 e5 e6)
    rw [carryS_eq, List.range_eq_range']
    exact e1
/-- the model has answered r, and is at X' -/
def MoQ (h : Hp) (m : Nat) (Q : Option Value → Hp → Prop) (r : Int32) (X' : Sg) : Prop := ∀ u' ws', MR u' X' ws' → SI X' → Q (some (.int r)) (mh h m u')
theorem mr_told {n : Nat} (hR : MR u X ws) : MR (sF u 79 (nI n)) (xTold X n) ws := by
  obtain ⟨⟨⟨a, b⟩, c⟩, r, w⟩ := hR
  exact ⟨⟨⟨a, rfl⟩, c⟩, r, w⟩
theorem q_isEvent {H : Hp} {ky : Int32} (hQ : Q (some (.int (b01 ((0 ≤ ky ∧ ky ≤ 999) ∧ (0 ≤ mi ∧ mi ≤ 100000))))) H) : Call g mX10_isEvent d [.int ky, .int mi] H Q := by
  refine Call.of [.int ky, .int mi] (by decide) (Nat.le_of_ble_eq_true rfl) rfl ?_
  have no : ¬ ((0 ≤ ky ∧ ky ≤ 999) ∧ (0 ≤ mi ∧ mi ≤ 100000)) → V g mX10_isEvent d 25 [.int ky, .int mi] [] H Q := fun hn => by
    rw [b01_f hn] at hQ
    refine v_iconst (q := 26) (v := 0) dX10_isEvent_25 rfl (by decide) ?_
    refine v_zret dX10_isEvent_26 rfl rfl ?_
    exact hQ
  have e8 : ky < 1000 ↔ ky ≤ 999 := by
    rw [fa_lt, fa_le, show (1000 : Int32).toInt = 1000 by decide, show (999 : Int32).toInt = 999 by decide]
    omega
  refine v_ild0 (q := 1) dX10_isEvent_0 rfl ?_
  by_cases h1 : ky < 0
  · exact v_if_lt (t := 25) (q := 4) dX10_isEvent_1 (by decide) rfl (fun _ => no (fun q => absurd h1 (Int32.not_lt.mpr q.1.1))) (fun z => absurd h1 z)
  refine v_if_lt (t := 25) (q := 4) dX10_isEvent_1 (by decide) rfl (fun z => absurd z h1) (fun _ => ?_)
  refine v_ild0 (q := 5) dX10_isEvent_4 rfl ?_
  refine v_sipush (q := 8) (v := 1000) dX10_isEvent_5 rfl (by decide) ?_
  by_cases h2 : ¬ ky < 1000
  · exact v_icmp_ge (t := 25) (q := 11) dX10_isEvent_8 (by decide) rfl (fun _ => no (fun q => h2 (e8.mpr q.1.2))) (fun z => absurd (Int32.not_lt.mp h2) z)
  have h2 := Classical.not_not.mp h2
  refine v_icmp_ge (t := 25) (q := 11) dX10_isEvent_8 (by decide) rfl (fun z => absurd h2 (Int32.not_lt.mpr z)) (fun _ => ?_)
  refine v_ild1 (q := 12) dX10_isEvent_11 rfl ?_
  by_cases h3 : mi < 0
  · exact v_if_lt (t := 25) (q := 15) dX10_isEvent_12 (by decide) rfl (fun _ => no (fun q => absurd h3 (Int32.not_lt.mpr q.2.1))) (fun z => absurd h3 z)
  refine v_if_lt (t := 25) (q := 15) dX10_isEvent_12 (by decide) rfl (fun z => absurd z h3) (fun _ => ?_)
  refine v_ild1 (q := 16) dX10_isEvent_15 rfl ?_
  refine v_ldc (q := 18) dX10_isEvent_16 rfl kc_X10_144 ?_
  by_cases h4 : 100000 < mi
  · exact v_icmp_gt (t := 25) (q := 21) dX10_isEvent_18 (by decide) rfl (fun _ => no (fun q => absurd h4 (Int32.not_lt.mpr q.2.2))) (fun z => absurd h4 z)
  refine v_icmp_gt (t := 25) (q := 21) dX10_isEvent_18 (by decide) rfl (fun z => absurd z h4) (fun _ => ?_)
  rw [b01_t ⟨⟨Int32.not_lt.mp h1, e8.mp h2⟩, Int32.not_lt.mp h3, Int32.not_lt.mp h4⟩] at hQ
  refine v_iconst (q := 22) (v := 1) dX10_isEvent_21 rfl (by decide) ?_
  refine v_goto (q := 26) dX10_isEvent_22 (by decide) ?_
  refine v_zret dX10_isEvent_26 rfl rfl ?_
  exact hQ
/-- told grows, and an event goes on -/
theorem go_told {p : Nat} (hm : MK h m) (hR : MR u X ws) (hI : MI X) (hS : SI X) (hp : p < 8) (hk : k < 1000) (m0 : 0 ≤ mi.toInt) (m1 : mi.toInt ≤ 100000) (h3 : xT X < 3000) (hQ : ∀ u' ws', MR u' (evS X p (nI k) mi v) ws' → SI (evS X p (nI k) mi v) → MI (evS X p (nI k) mi v) → Q none (mh h m u')) :
    Call g mX10_goOn (d + 58) [.ref m, .int (nI p), .int (nI k), .int mi, .long v] (mh h m (sF u 79 (nI (xT X + 1)))) Q := by
  have sg1 : SG X (xTold X (xT X + 1)) := ⟨rfl, fun s => SGs.rf _⟩
  have hC : tot camS (xTold X (xT X + 1)) + wz (xTold X (xT X + 1)) 17 p ≤ 12000 := by
    rw [wz_same sg1]
    have := hI.2.2.1
    have := hI.2.2.2.2 p hp
    have : tot camS (xTold X (xT X + 1)) = tot camS X := rfl
    omega
  refine q_goOn (d := d) hm 17 _ (xTold X (xT X + 1)) ws p k mi v Q (mr_told hR) (hI.1.same sg1) hI.2.1 hS (by omega) (Or.inl ⟨hp, Nat.le_refl _⟩) hk m0 m1 hC (fun u' ws' X' e1 e2 e3 e4 e5 e6 => ?_)
  subst e1
  exact hQ u' ws' e2 e5 (hI.ev hp e3 e4 e6 h3)
theorem q_event {p ky mi va : Int32} (hm : MK h m) (hR : MR u X ws) (hI : MI X) (hS : SI X) (hQ : MoQ h m Q (doEvent X p ky mi va).1 (doEvent X p ky mi va).2) : Call g mX10_event (d + 59) [.ref m, .int p, .int ky, .int mi, .int va] (mh h m u) Q := by
  have hT := hI.2.2.2.1
  refine Call.of [.ref m, .int p, .int ky, .int mi, .int va] (by decide) (Nat.le_of_ble_eq_true rfl) rfl ?_
  have no : ¬ evB p ky mi → V g mX10_event (d + 59) 15 [.ref m, .int p, .int ky, .int mi, .int va] [] (mh h m u) Q := fun hn => by
    have e : doEvent X p ky mi va = (-1, X) := if_neg hn
    rw [e] at hQ
    refine v_iconst (q := 16) (v := -1) dX10_event_15 rfl (by decide) ?_
    refine v_iret dX10_event_16 rfl ?_
    exact hQ u ws hR hS
  refine v_ild1 (q := 1) dX10_event_0 rfl ?_
  refine v_callS (q := 4) (d' := d + 58) (av := [.int p]) dX10_event_1 rfl ok_X10_isPort ml_X10_235 st_X10_isPort (by omega) rfl rfl (Nat.le_of_ble_eq_true rfl) ?_
  refine q_isPort ?_
  by_cases h1 : 0 ≤ p ∧ p ≤ 7
  · rw [b01_t h1]
    refine v_if_eq (t := 15) (q := 7) dX10_event_4 (by decide) rfl (fun z => absurd z (by decide)) (fun _ => ?_)
    refine v_ild2 (q := 8) dX10_event_7 rfl ?_
    refine v_ild3 (q := 9) dX10_event_8 rfl ?_
    refine v_callS (q := 12) (d' := d + 58) (av := [.int ky, .int mi]) dX10_event_9 rfl ok_X10_isEvent ml_X10_238 st_X10_isEvent (by omega) rfl rfl (Nat.le_of_ble_eq_true rfl) ?_
    refine q_isEvent ?_
    by_cases h2 : (0 ≤ ky ∧ ky ≤ 999) ∧ (0 ≤ mi ∧ mi ≤ 100000)
    · rw [b01_t h2]
      refine v_if_ne (t := 17) (q := 15) dX10_event_12 (by decide) rfl (fun _ => ?_) (fun z => absurd z (by decide))
      have hb : evB p ky mi := ⟨h1, h2.1, h2.2⟩
      unfold doEvent at hQ
      rw [if_pos hb] at hQ
      refine v_ald0 (q := 18) dX10_event_17 rfl rfl ?_
      refine w_gi (q := 21) dX10_event_18 rfl hm gf_X10_241_9 ?_
      rw [hR.1.1.2]
      refine v_sipush (q := 24) (v := 3000) dX10_event_21 rfl (by decide) ?_
      by_cases h3 : 3000 ≤ xT X
      · rw [if_pos h3] at hQ
        have e : nI (xT X) = 3000 := by rw [show xT X = 3000 by omega]; rfl
        rw [e]
        refine v_icmp_ne (t := 30) (q := 27) dX10_event_24 (by decide) rfl (fun z => absurd rfl z) (fun _ => ?_)
        refine v_bipush (q := 29) (v := -6) dX10_event_27 rfl (by decide) ?_
        refine v_iret dX10_event_29 rfl ?_
        exact hQ u ws hR hS
      · rw [if_neg h3] at hQ
        refine v_icmp_ne (t := 30) (q := 27) dX10_event_24 (by decide) rfl (fun _ => ?_) (fun z => absurd ((nI_eq (by omega) (by omega)).mp (show nI (xT X) = nI 3000 from z)) (by omega))
        obtain ⟨pn, hpn, rfl⟩ := nI_of (Int32.not_lt.mpr h1.1)
        obtain ⟨kn, hkn, rfl⟩ := nI_of (Int32.not_lt.mpr h2.1.1)
        have hp8 : pn < 8 := Classical.byContradiction fun q => absurd h1.2 (show ¬ nI pn ≤ nI 7 from nI_ge (by omega) hpn)
        have hk9 : kn < 1000 := Classical.byContradiction fun q => absurd h2.1.2 (show ¬ nI kn ≤ nI 999 from nI_ge (by omega) hkn)
        have m0 := h2.2.1
        have m1 := h2.2.2
        rw [fa_le] at m0 m1
        rw [nI_clamp hpn] at hQ
        refine v_ald0 (q := 31) dX10_event_30 rfl rfl ?_
        refine v_dup (q := 32) dX10_event_31 rfl rfl ?_
        refine w_gi (q := 35) dX10_event_32 rfl hm gf_X10_241_9 ?_
        rw [hR.1.1.2]
        refine v_iconst (q := 36) (v := 1) dX10_event_35 rfl (by decide) ?_
        refine v_iadd (q := 37) dX10_event_36 rfl ?_
        rw [nI_1]
        refine w_pi (q := 40) dX10_event_37 rfl hm pf_X10_241_9 ?_
        refine v_ald0 (q := 41) dX10_event_40 rfl rfl ?_
        refine v_ild1 (q := 42) dX10_event_41 rfl ?_
        refine v_ild2 (q := 43) dX10_event_42 rfl ?_
        refine v_ild3 (q := 44) dX10_event_43 rfl ?_
        refine v_ild4 (q := 46) dX10_event_44 rfl ?_
        refine v_i2l (q := 47) dX10_event_46 rfl ?_
        refine v_callV (q := 50) (d' := d + 58) (av := [.int (nI pn), .int (nI kn), .int mi, .long va.toInt64]) dX10_event_47 rfl ok_X10_goOn CL9 ml_X10_232 im_X10_goOn se_X10_goOn hm.1 (by omega) rfl rfl (Nat.le_of_ble_eq_true rfl) ?_
        refine go_told (d := d) hm hR hI hS hp8 hk9 m0 m1 (by omega) (fun u' ws' hR' hS' _ => ?_)
        refine v_ald0 (q := 51) dX10_event_50 rfl rfl ?_
        refine w_gi (q := 54) dX10_event_51 rfl hm gf_X10_155_9 ?_
        rw [hR'.2.1.1]
        refine v_iret dX10_event_54 rfl ?_
        exact hQ u' ws' hR' hS'
    · rw [b01_f h2]
      refine v_if_ne (t := 17) (q := 15) dX10_event_12 (by decide) rfl (fun z => absurd rfl z) (fun _ => no (fun q => h2 q.2))
  · rw [b01_f h1]
    refine v_if_eq (t := 15) (q := 7) dX10_event_4 (by decide) rfl (fun _ => no (fun q => h1 q.1)) (fun z => absurd rfl z)
theorem bu_next {i : Nat} (mi st : Int32) (hi : i < 100000) : mi.toInt64 + (nI i).toInt64 * st.toInt64 + st.toInt64 = mi.toInt64 + (nI (i + 1)).toInt64 * st.toInt64 := by
  have e : (nI (i + 1)).toInt64 = (nI i).toInt64 + 1 := by
    rw [nI_l (by omega), nI_l (by omega), fa_eq64, pf_lI (by omega), Int64.toInt_add, pf_lI (by omega), show (1 : Int64).toInt = 1 by decide]
    rw [Int.bmod_eq_of_le (by omega) (by omega)]
    omega
  rw [e, Int64.add_mul, Int64.one_mul, Int64.add_assoc]
theorem qb_loop {p k n : Nat} {ks mi st va : Int32} (hm : MK h m) (hp : p < 8) (hk : k < 1000) (hks : ks - ks / 1000 * 1000 = nI k) (hn : n ≤ 200) :
    ∀ (t i : Nat) (X : Sg) (u : Mu) (ws : List (Option Mw)), i + t = n → MR u X ws → MI X → SI X → MoQ h m Q (nI (burS p k st va t i (mi.toInt64 + (nI i).toInt64 * st.toInt64) X).1) (burS p k st va t i (mi.toInt64 + (nI i).toInt64 * st.toInt64) X).2 →
      V g mX10_burst (d + 59) 37 [.ref m, .int (nI p), .int ks, .int mi, .int st, .int va, .int (nI n), .int (nI i), zz, zz] [] (mh h m u) Q := by
  intro t
  induction t with
  | zero =>
    intro i X u ws hi hR hI hS hQ
    have : i = n := by omega
    subst this
    refine v_ild7 (q := 39) dX10_burst_37 rfl ?_
    refine v_ild6 (q := 41) dX10_burst_39 rfl ?_
    refine v_icmp_ge (t := 121) (q := 44) dX10_burst_41 (by decide) rfl (fun _ => ?_) (fun z => absurd (Int32.le_refl _) z)
    refine v_ild7 (q := 123) dX10_burst_121 rfl ?_
    refine v_iret dX10_burst_123 rfl ?_
    exact hQ u ws hR hS
  | succ t ih =>
    intro i X u ws hi hR hI hS hQ
    have hT := hI.2.2.2.1
    have hnx := bu_next (i := i) mi st (by omega)
    refine v_ild7 (q := 39) dX10_burst_37 rfl ?_
    refine v_ild6 (q := 41) dX10_burst_39 rfl ?_
    refine v_icmp_ge (t := 121) (q := 44) dX10_burst_41 (by decide) rfl (fun z => absurd z (nI_ge (by omega) (by omega))) (fun _ => ?_)
    refine v_ild3 (q := 45) dX10_burst_44 rfl ?_
    refine v_i2l (q := 46) dX10_burst_45 rfl ?_
    refine v_ild7 (q := 48) dX10_burst_46 rfl ?_
    refine v_i2l (q := 49) dX10_burst_48 rfl ?_
    refine v_ild4 (q := 51) dX10_burst_49 rfl ?_
    refine v_i2l (q := 52) dX10_burst_51 rfl ?_
    refine v_lmul (q := 53) dX10_burst_52 rfl ?_
    refine v_ladd (q := 54) dX10_burst_53 rfl ?_
    generalize mi.toInt64 + (nI i).toInt64 * st.toInt64 = a at *
    have out : (a < 0 ∨ 100000 < a ∨ 3000 ≤ xT X) → ∀ w8 : Value, V g mX10_burst (d + 59) 82 [.ref m, .int (nI p), .int ks, .int mi, .int st, .int va, .int (nI n), .int (nI i), w8, zz] [] (mh h m u) Q := fun hc w8 => by
      have e : burS p k st va (t + 1) i a X = (i, X) := if_pos hc
      rw [e] at hQ
      refine v_ild7 (q := 84) dX10_burst_82 rfl ?_
      refine v_iret dX10_burst_84 rfl ?_
      exact hQ u ws hR hS
    refine v_lst8 (q := 56) dX10_burst_54 rfl (by decide) rfl ?_
    refine v_lld8 (q := 58) dX10_burst_56 rfl ?_
    refine v_lconst (q := 59) (v := 0) dX10_burst_58 rfl (by decide) ?_
    refine v_lcmp (q := 60) dX10_burst_59 rfl ?_
    by_cases h0 : a < 0
    · exact v_if_lt (t := 82) (q := 63) dX10_burst_60 (by decide) rfl (fun _ => out (Or.inl h0) _) (fun z => absurd ((lg_cmp_lt _ _).mpr h0) z)
    refine v_if_lt (t := 82) (q := 63) dX10_burst_60 (by decide) rfl (fun z => absurd ((lg_cmp_lt _ _).mp z) h0) (fun _ => ?_)
    refine v_lld8 (q := 65) dX10_burst_63 rfl ?_
    refine v_ldc2 (q := 68) dX10_burst_65 rfl kc_X10_244 ?_
    refine v_lcmp (q := 69) dX10_burst_68 rfl ?_
    by_cases h1 : 100000 < a
    · exact v_if_gt (t := 82) (q := 72) dX10_burst_69 (by decide) rfl (fun _ => out (Or.inr (Or.inl h1)) _) (fun z => absurd ((lg_cmp_gt _ _).mpr h1) z)
    refine v_if_gt (t := 82) (q := 72) dX10_burst_69 (by decide) rfl (fun z => absurd ((lg_cmp_gt _ _).mp z) h1) (fun _ => ?_)
    refine v_ald0 (q := 73) dX10_burst_72 rfl rfl ?_
    refine w_gi (q := 76) dX10_burst_73 rfl hm gf_X10_241_9 ?_
    rw [hR.1.1.2]
    refine v_sipush (q := 79) (v := 3000) dX10_burst_76 rfl (by decide) ?_
    by_cases h3 : 3000 ≤ xT X
    · have e : nI (xT X) = 3000 := by rw [show xT X = 3000 by omega]; rfl
      rw [e]
      exact v_icmp_ne (t := 85) (q := 82) dX10_burst_79 (by decide) rfl (fun z => absurd rfl z) (fun _ => out (Or.inr (Or.inr h3)) _)
    refine v_icmp_ne (t := 85) (q := 82) dX10_burst_79 (by decide) rfl (fun _ => ?_) (fun z => absurd ((nI_eq (by omega) (by omega)).mp (show nI (xT X) = nI 3000 from z)) (by omega))
    have e : burS p k st va (t + 1) i a X = burS p k st va t (i + 1) (a + st.toInt64) (evS X p (nI k) a.toInt32 (va.toInt64 + (nI i).toInt64)) := if_neg (by
      rintro (q | q | q)
      · exact h0 q
      · exact h1 q
      · exact h3 q)
    rw [e, hnx] at hQ
    obtain ⟨m0, m1, _⟩ := l2i_small h0 h1
    refine v_ald0 (q := 86) dX10_burst_85 rfl rfl ?_
    refine v_dup (q := 87) dX10_burst_86 rfl rfl ?_
    refine w_gi (q := 90) dX10_burst_87 rfl hm gf_X10_241_9 ?_
    rw [hR.1.1.2]
    refine v_iconst (q := 91) (v := 1) dX10_burst_90 rfl (by decide) ?_
    refine v_iadd (q := 92) dX10_burst_91 rfl ?_
    rw [nI_1]
    refine w_pi (q := 95) dX10_burst_92 rfl hm pf_X10_241_9 ?_
    refine v_ald0 (q := 96) dX10_burst_95 rfl rfl ?_
    refine v_ild1 (q := 97) dX10_burst_96 rfl ?_
    refine v_ild2 (q := 98) dX10_burst_97 rfl ?_
    refine v_sipush (q := 101) (v := 1000) dX10_burst_98 rfl (by decide) ?_
    refine v_irem (q := 102) dX10_burst_101 rfl (by decide) ?_
    rw [hks]
    refine v_lld8 (q := 104) dX10_burst_102 rfl ?_
    refine v_l2i (q := 105) dX10_burst_104 rfl ?_
    refine v_ild5 (q := 107) dX10_burst_105 rfl ?_
    refine v_i2l (q := 108) dX10_burst_107 rfl ?_
    refine v_ild7 (q := 110) dX10_burst_108 rfl ?_
    refine v_i2l (q := 111) dX10_burst_110 rfl ?_
    refine v_ladd (q := 112) dX10_burst_111 rfl ?_
    refine v_callV (q := 115) (d' := d + 58) (av := [.int (nI p), .int (nI k), .int a.toInt32, .long (va.toInt64 + (nI i).toInt64)]) dX10_burst_112 rfl ok_X10_goOn CL9 ml_X10_232 im_X10_goOn se_X10_goOn hm.1 (by omega) rfl rfl (Nat.le_of_ble_eq_true rfl) ?_
    refine go_told (d := d) hm hR hI hS hp hk m0 m1 (by omega) (fun u' ws' hR' hS' hI' => ?_)
    refine v_inc7 (q := 118) dX10_burst_115 rfl (by decide) rfl rfl ?_
    rw [inc1]
    refine v_goto (q := 37) dX10_burst_118 (by decide) ?_
    refine v_fg (FG.k (FG.k (FG.k (FG.k (FG.k (FG.k (FG.k (FG.k (FG.z (FG.z FG.nil)))))))))) ?_
    exact ih (i + 1) _ u' ws' (by omega) hR' hI' hS' hQ
theorem q_burst {p ks mi st va : Int32} (hm : MK h m) (hR : MR u X ws) (hI : MI X) (hS : SI X) (hQ : MoQ h m Q (doBurst X p ks mi st va).1 (doBurst X p ks mi st va).2) : Call g mX10_burst (d + 59) [.ref m, .int p, .int ks, .int mi, .int st, .int va] (mh h m u) Q := by
  refine Call.of [.ref m, .int p, .int ks, .int mi, .int st, .int va, zz, zz, zz, zz] (by decide) (Nat.le_of_ble_eq_true rfl) rfl ?_
  have no : ¬ burB p ks → V g mX10_burst (d + 59) 32 [.ref m, .int p, .int ks, .int mi, .int st, .int va, .int (ks / 1000), zz, zz, zz] [] (mh h m u) Q := fun hn => by
    have e : doBurst X p ks mi st va = (-1, X) := if_neg hn
    rw [e] at hQ
    refine v_iconst (q := 33) (v := -1) dX10_burst_32 rfl (by decide) ?_
    refine v_iret dX10_burst_33 rfl ?_
    exact hQ u ws hR hS
  refine v_ild2 (q := 1) dX10_burst_0 rfl ?_
  refine v_sipush (q := 4) (v := 1000) dX10_burst_1 rfl (by decide) ?_
  refine v_idiv (q := 5) dX10_burst_4 rfl (by decide) ?_
  refine v_ist6 (q := 7) dX10_burst_5 rfl (by decide) rfl ?_
  refine v_ild1 (q := 8) dX10_burst_7 rfl ?_
  refine v_callS (q := 11) (d' := d + 58) (av := [.int p]) dX10_burst_8 rfl ok_X10_isPort ml_X10_235 st_X10_isPort (by omega) rfl rfl (Nat.le_of_ble_eq_true rfl) ?_
  refine q_isPort ?_
  by_cases h1 : 0 ≤ p ∧ p ≤ 7
  · rw [b01_t h1]
    refine v_if_eq (t := 32) (q := 14) dX10_burst_11 (by decide) rfl (fun z => absurd z (by decide)) (fun _ => ?_)
    refine v_ild2 (q := 15) dX10_burst_14 rfl ?_
    by_cases h2 : ks < 0
    · exact v_if_lt (t := 32) (q := 18) dX10_burst_15 (by decide) rfl (fun _ => no (fun q => absurd h2 (Int32.not_lt.mpr q.2.1))) (fun z => absurd h2 z)
    refine v_if_lt (t := 32) (q := 18) dX10_burst_15 (by decide) rfl (fun z => absurd z h2) (fun _ => ?_)
    refine v_ild6 (q := 20) dX10_burst_18 rfl ?_
    refine v_iconst (q := 21) (v := 1) dX10_burst_20 rfl (by decide) ?_
    by_cases h3 : ks / 1000 < 1
    · exact v_icmp_lt (t := 32) (q := 24) dX10_burst_21 (by decide) rfl (fun _ => no (fun q => absurd h3 (Int32.not_lt.mpr q.2.2.1))) (fun z => absurd h3 z)
    refine v_icmp_lt (t := 32) (q := 24) dX10_burst_21 (by decide) rfl (fun z => absurd z h3) (fun _ => ?_)
    refine v_ild6 (q := 26) dX10_burst_24 rfl ?_
    refine v_sipush (q := 29) (v := 200) dX10_burst_26 rfl (by decide) ?_
    by_cases h4 : ¬ ks / 1000 ≤ 200
    · exact v_icmp_le (t := 34) (q := 32) dX10_burst_29 (by decide) rfl (fun z => absurd z h4) (fun _ => no (fun q => h4 q.2.2.2))
    have h4 := Classical.not_not.mp h4
    refine v_icmp_le (t := 34) (q := 32) dX10_burst_29 (by decide) rfl (fun _ => ?_) (fun z => absurd h4 z)
    have hb : burB p ks := ⟨h1, Int32.not_lt.mp h2, Int32.not_lt.mp h3, h4⟩
    obtain ⟨pn, hpn, rfl⟩ := nI_of (Int32.not_lt.mpr h1.1)
    obtain ⟨kn, hkn, rfl⟩ := nI_of h2
    have hp8 : pn < 8 := Classical.byContradiction fun q => absurd h1.2 (show ¬ nI pn ≤ nI 7 from nI_ge (by omega) hpn)
    have e1 : nI kn / 1000 = nI (kn / 1000) := pk_div (d := 1000) hkn (by decide) (by decide)
    have hn2 : kn / 1000 ≤ 200 := by
      have := h4
      rw [e1] at this
      exact Classical.byContradiction fun q => absurd this (show ¬ nI (kn / 1000) ≤ nI 200 from nI_ge (by omega) (by omega))
    have hks : nI kn - nI kn / 1000 * 1000 = nI (kn % 1000) := pk_rem (d := 1000) hkn (by decide) (by decide)
    unfold doBurst at hQ
    rw [if_pos hb] at hQ
    unfold burR at hQ
    rw [nI_clamp hpn, nI_clamp hkn] at hQ
    refine v_iconst (q := 35) (v := 0) dX10_burst_34 rfl (by decide) ?_
    refine v_ist7 (q := 37) dX10_burst_35 rfl (by decide) rfl ?_
    rw [e1]
    refine qb_loop (d := d) hm hp8 (Nat.mod_lt _ (by decide)) hks hn2 (kn / 1000) 0 X u ws (Nat.zero_add _) hR hI hS ?_
    rw [show mi.toInt64 + (nI 0).toInt64 * st.toInt64 = mi.toInt64 by rw [show (nI 0).toInt64 = 0 from rfl, Int64.zero_mul, Int64.add_zero]]
    exact hQ
  · rw [b01_f h1]
    exact v_if_eq (t := 32) (q := 14) dX10_burst_11 (by decide) rfl (fun _ => no (fun q => h1 q.1)) (fun z => absurd rfl z)
end LE4
