/-! 99: WindowMill: burst, mark, idle -/
def burS (p k : Nat) (st v : Int32) : Nat → Nat → Int64 → Sg → Nat × Sg
  | 0, i, _, X => (i, X)
  | t + 1, i, a, X => if a < 0 ∨ 100000 < a ∨ 3000 ≤ xT X then (i, X) else burS p k st v t (i + 1) (a + st.toInt64) (evS X p (nI k) a.toInt32 (v.toInt64 + (nI i).toInt64))
abbrev burB (p ks : Int32) : Prop := (0 ≤ p ∧ p ≤ 7) ∧ 0 ≤ ks ∧ 1 ≤ ks / 1000 ∧ ks / 1000 ≤ 200
def burR (X : Sg) (p ks m st v : Int32) : Nat × Sg := burS p.toNatClampNeg (ks.toNatClampNeg % 1000) st v (ks.toNatClampNeg / 1000) 0 m.toInt64 X
def doBurst (X : Sg) (p ks m st v : Int32) : Int32 × Sg := if burB p ks then (nI (burR X p ks m st v).1, (burR X p ks m st v).2) else (-1, X)
def xMk (X : Sg) (p : Nat) (m : Int32) : Sg := (xM X, xT X, xR X, upR (xP X) p m, xI X, xS X)
def xId (X : Sg) (p : Nat) (m : Int32) : Sg := (xM X, xT X, xR X, xP X, upR (xI X) p m, xS X)
def doMark (X : Sg) (p m : Int32) : Int32 × Sg := if (0 ≤ p ∧ p ≤ 7) ∧ (0 ≤ m ∧ m ≤ 200000) then (if m < xP X p.toNatClampNeg then (-5, X) else (nI (xR (settleS (xMk X p.toNatClampNeg m))).length, settleS (xMk X p.toNatClampNeg m))) else (-1, X)
def doIdle (X : Sg) (p b : Int32) : Int32 × Sg := if (0 ≤ p ∧ p ≤ 7) ∧ (0 ≤ b ∧ b ≤ 1) then (if xI X p.toNatClampNeg = 0 then 0 else 1, settleS (xId X p.toNatClampNeg (if b = 1 then 1 else 0))) else (-1, X)
section L99
variable {g : Gl} {d : Nat} {h : Hp} {ow us uz : Nat → Nat} {c lg SA ST WY : Nat} {po sp : Nat → Nat} {X : Sg} {Q : Option Value → Hp → Prop}
theorem l2i_small {a : Int64} (h0 : ¬ a < 0) (h1 : ¬ 100000 < a) : 0 ≤ a.toInt32.toInt ∧ a.toInt32.toInt ≤ 100000 ∧ a.toInt32.toInt = a.toInt := by
  rw [fa_lt64] at h0 h1
  have e0 : (0 : Int64).toInt = 0 := by decide
  have e1 : (100000 : Int64).toInt = 100000 := by decide
  rw [e0] at h0
  rw [e1] at h1
  have : a.toInt32.toInt = a.toInt := by
    rw [Int64.toInt_toInt32]
    exact Int.bmod_eq_of_le (by omega) (by omega)
  omega
theorem Led.toLg_tr {h h1 h2 : Hp} {us uz us1 uz1 us2 uz2 : Nat → Nat} {X X1 X2 : Sg} (a : Led h us uz X h1 us1 uz1 X1) (e : xM X1 = xM X) (b : Lg h1 us1 uz1 X1 h2 us2 uz2 X2) : Lg h us uz X h2 us2 uz2 X2 := (a.lg e).tr b
theorem bu_loop {p k n : Nat} {ks m st v : Int32} (hp : p < 8) (hk : k < 1000) (hn : n ≤ 200) : ∀ (t i : Nat) (a : Int64) (h : Hp) (ow us uz : Nat → Nat) (X : Sg), i + t = n → MV g h ow c lg SA ST WY po sp X us uz → MI X →
    CQ g c lg SA ST WY po h ow us uz X Q (nI (burS p k st v t i a X).1) (burS p k st v t i a X).2 →
    V g mX9_burst (d + 29) 46 [.ref c, .int (nI p), .int ks, .int m, .int st, .int v, .int (nI n), .int (nI k), .long a, zz, .int (nI i)] [] h Q := by
  intro t
  induction t with
  | zero =>
    intro i a h ow us uz X hi hM hI hQ
    have : i = n := by omega
    subst this
    refine v_ild10 (q := 48) dX9_burst_46 rfl ?_
    refine v_ild6 (q := 50) dX9_burst_48 rfl ?_
    refine v_icmp_ge (t := 123) (q := 53) dX9_burst_50 (by decide) rfl (fun _ => ?_) (fun hc => absurd (Int32.le_refl _) hc)
    refine v_ild6 (q := 125) dX9_burst_123 rfl ?_
    refine v_iret dX9_burst_125 rfl ?_
    exact hQ h ow us uz sp hM hI (Fr.rf h) (Lg.rf h us uz X)
  | succ t ih =>
    intro i a h ow us uz X hi hM hI hQ
    have a1 : hK h c = 9 := hM.1.1
    have a8 : fI h 47 c = nI (xT X) := hM.1.2.2.2.2.2.2.2
    have hT := hI.2.2.2.1
    have out : (a < 0 ∨ 100000 < a ∨ 3000 ≤ xT X) → V g mX9_burst (d + 29) 79 [.ref c, .int (nI p), .int ks, .int m, .int st, .int v, .int (nI n), .int (nI k), .long a, zz, .int (nI i)] [] h Q := fun hc => by
      have e : burS p k st v (t + 1) i a X = (i, X) := if_pos hc
      rw [e] at hQ
      refine v_ild10 (q := 81) dX9_burst_79 rfl ?_
      refine v_iret dX9_burst_81 rfl ?_
      exact hQ h ow us uz sp hM hI (Fr.rf h) (Lg.rf h us uz X)
    refine v_ild10 (q := 48) dX9_burst_46 rfl ?_
    refine v_ild6 (q := 50) dX9_burst_48 rfl ?_
    refine v_icmp_ge (t := 123) (q := 53) dX9_burst_50 (by decide) rfl (fun hc => absurd hc (nI_ge (by omega) (by omega))) (fun _ => ?_)
    refine v_lld8 (q := 55) dX9_burst_53 rfl ?_
    refine v_lconst (q := 56) (v := 0) dX9_burst_55 rfl (by decide) ?_
    refine v_lcmp (q := 57) dX9_burst_56 rfl ?_
    by_cases h0 : a < 0
    · refine v_if_lt (t := 79) (q := 60) dX9_burst_57 (by decide) rfl (fun _ => out (Or.inl h0)) (fun hc => absurd ((lg_cmp_lt _ _).mpr h0) hc)
    refine v_if_lt (t := 79) (q := 60) dX9_burst_57 (by decide) rfl (fun hc => absurd ((lg_cmp_lt _ _).mp hc) h0) (fun _ => ?_)
    refine v_lld8 (q := 62) dX9_burst_60 rfl ?_
    refine v_ldc2 (q := 65) dX9_burst_62 rfl kc_X9_108 ?_
    refine v_lcmp (q := 66) dX9_burst_65 rfl ?_
    by_cases h1 : 100000 < a
    · refine v_if_gt (t := 79) (q := 69) dX9_burst_66 (by decide) rfl (fun _ => out (Or.inr (Or.inl h1))) (fun hc => absurd ((lg_cmp_gt _ _).mpr h1) hc)
    refine v_if_gt (t := 79) (q := 69) dX9_burst_66 (by decide) rfl (fun hc => absurd ((lg_cmp_gt _ _).mp hc) h1) (fun _ => ?_)
    refine v_ald0 (q := 70) dX9_burst_69 rfl rfl ?_
    refine v_getI (q := 73) dX9_burst_70 rfl gf_X9_98_8 (by assumption) ?_
    rw [a8]
    refine v_sipush (q := 76) (v := 3000) dX9_burst_73 rfl (by decide) ?_
    by_cases h4 : 3000 ≤ xT X
    · refine v_icmp_lt (t := 82) (q := 79) dX9_burst_76 (by decide) rfl (fun hc => absurd hc (show ¬ nI (xT X) < nI 3000 from nI_nlt h4 (by omega))) (fun _ => out (Or.inr (Or.inr h4)))
    refine v_icmp_lt (t := 82) (q := 79) dX9_burst_76 (by decide) rfl (fun _ => ?_) (fun hc => absurd (show nI (xT X) < nI 3000 from nI_lt (by omega) (by omega)) hc)
    have e : burS p k st v (t + 1) i a X = burS p k st v t (i + 1) (a + st.toInt64) (evS X p (nI k) a.toInt32 (v.toInt64 + (nI i).toInt64)) := if_neg (by
      rintro (q | q | q)
      · exact h0 q
      · exact h1 q
      · exact h4 q)
    rw [e] at hQ
    obtain ⟨m0, m1, _⟩ := l2i_small h0 h1
    refine v_ald0 (q := 83) dX9_burst_82 rfl rfl ?_
    refine v_dup (q := 84) dX9_burst_83 rfl rfl ?_
    refine v_getI (q := 87) dX9_burst_84 rfl gf_X9_98_8 (by assumption) ?_
    refine v_iconst (q := 88) (v := 1) dX9_burst_87 rfl (by decide) ?_
    rw [a8]
    refine v_iadd (q := 89) dX9_burst_88 rfl ?_
    rw [nI_1]
    refine v_putI (q := 92) dX9_burst_89 rfl pf_X9_98_8 (by assumption) rfl rfl ?_
    refine v_ald0 (q := 93) dX9_burst_92 rfl rfl ?_
    refine v_ild1 (q := 94) dX9_burst_93 rfl ?_
    refine v_ild7 (q := 96) dX9_burst_94 rfl ?_
    refine v_lld8 (q := 98) dX9_burst_96 rfl ?_
    refine v_l2i (q := 99) dX9_burst_98 rfl ?_
    refine v_ild5 (q := 101) dX9_burst_99 rfl ?_
    refine v_i2l (q := 102) dX9_burst_101 rfl ?_
    refine v_ild10 (q := 104) dX9_burst_102 rfl ?_
    refine v_i2l (q := 105) dX9_burst_104 rfl ?_
    refine v_ladd (q := 106) dX9_burst_105 rfl ?_
    refine v_callV (q := 109) (d' := d + 28) (av := [.int (nI p), .int (nI k), .int a.toInt32, .long (v.toInt64 + (nI i).toInt64)]) dX9_burst_106 rfl ok_X9_carry CL8 ml_X9_101 im_X9_carry se_X9_carry (by assumption) (by omega) rfl rfl (Nat.le_of_ble_eq_true rfl) ?_
    refine cy_told (d := d) hM hI hp hk m0 m1 (by omega) (fun h' ow' us' uz' X' eX hM' hI' hF hL eM eT => ?_)
    subst eX
    refine v_lld8 (q := 111) dX9_burst_109 rfl ?_
    refine v_ild4 (q := 113) dX9_burst_111 rfl ?_
    refine v_i2l (q := 114) dX9_burst_113 rfl ?_
    refine v_ladd (q := 115) dX9_burst_114 rfl ?_
    refine v_lst8 (q := 117) dX9_burst_115 rfl (by decide) rfl ?_
    refine v_inc10 (q := 120) dX9_burst_117 rfl (by decide) rfl rfl ?_
    rw [inc1]
    refine v_goto (q := 46) dX9_burst_120 (by decide) ?_
    refine ih (i + 1) (a + st.toInt64) h' ow' us' uz' _ (by omega) hM' hI' (fun h2 ow2 us2 uz2 sp2 hM2 hI2 hF2 hL2 => ?_)
    exact hQ h2 ow2 us2 uz2 sp2 hM2 hI2 (hF.tr hF2) (hL.toLg_tr eM hL2)
theorem k_burst {p ks m st v : Int32} (hM : MV g h ow c lg SA ST WY po sp X us uz) (hI : MI X) (hQ : CQ g c lg SA ST WY po h ow us uz X Q (doBurst X p ks m st v).1 (doBurst X p ks m st v).2) : Call g mX9_burst (d + 29) [.ref c, .int p, .int ks, .int m, .int st, .int v] h Q := by
  refine Call.of [.ref c, .int p, .int ks, .int m, .int st, .int v, zz, zz, zz, zz, zz] (by decide) (Nat.le_of_ble_eq_true rfl) rfl ?_
  have no : ¬ burB p ks → V g mX9_burst (d + 29) 30 [.ref c, .int p, .int ks, .int m, .int st, .int v, .int (ks / 1000), zz, zz, zz, zz] [] h Q := fun hn => by
    have e : doBurst X p ks m st v = (-1, X) := if_neg hn
    rw [e] at hQ
    refine v_iconst (q := 31) (v := -1) dX9_burst_30 rfl (by decide) ?_
    refine v_iret dX9_burst_31 rfl ?_
    exact hQ h ow us uz sp hM hI (Fr.rf h) (Lg.rf h us uz X)
  refine v_ild2 (q := 1) dX9_burst_0 rfl ?_
  refine v_sipush (q := 4) (v := 1000) dX9_burst_1 rfl (by decide) ?_
  refine v_idiv (q := 5) dX9_burst_4 rfl (by decide) ?_
  refine v_ist6 (q := 7) dX9_burst_5 rfl (by decide) rfl ?_
  refine v_ild1 (q := 8) dX9_burst_7 rfl ?_
  refine v_callS (q := 11) (d' := d + 28) (av := [.int p]) dX9_burst_8 rfl ok_X9_isPort ml_X9_95 st_X9_isPort (by omega) rfl rfl (Nat.le_of_ble_eq_true rfl) ?_
  refine k_isPort (d := d + 27) ?_
  by_cases h1 : 0 ≤ p ∧ p ≤ 7
  · rw [b01_t h1]
    refine v_if_eq (t := 30) (q := 14) dX9_burst_11 (by decide) rfl (fun hc => absurd hc (by decide)) (fun _ => ?_)
    refine v_ild2 (q := 15) dX9_burst_14 rfl ?_
    by_cases h2 : ks < 0
    · refine v_if_lt (t := 30) (q := 18) dX9_burst_15 (by decide) rfl (fun _ => no (fun q => absurd h2 (Int32.not_lt.mpr q.2.1))) (fun hc => absurd h2 hc)
    · refine v_if_lt (t := 30) (q := 18) dX9_burst_15 (by decide) rfl (fun hc => absurd hc h2) (fun _ => ?_)
      refine v_ild6 (q := 20) dX9_burst_18 rfl ?_
      refine v_iconst (q := 21) (v := 1) dX9_burst_20 rfl (by decide) ?_
      refine v_sipush (q := 24) (v := 200) dX9_burst_21 rfl (by decide) ?_
      refine v_callS (q := 27) (d' := d + 28) (av := [.int (ks / 1000), .int 1, .int 200]) dX9_burst_24 rfl ok_X9_isWithin ml_X9_82 st_X9_isWithin (by omega) rfl rfl (Nat.le_of_ble_eq_true rfl) ?_
      refine k_isWithin ?_
      by_cases h3 : 1 ≤ ks / 1000 ∧ ks / 1000 ≤ 200
      · rw [b01_t h3]
        refine v_if_ne (t := 32) (q := 30) dX9_burst_27 (by decide) rfl (fun _ => ?_) (fun hc => absurd hc (by decide))
        have hb : burB p ks := ⟨h1, Int32.not_lt.mp h2, h3⟩
        obtain ⟨pn, hpn, rfl⟩ := nI_of (Int32.not_lt.mpr h1.1)
        obtain ⟨kn, hkn, rfl⟩ := nI_of h2
        have hp8 : pn < 8 := Classical.byContradiction fun q => absurd h1.2 (show ¬ nI pn ≤ nI 7 from nI_ge (by omega) hpn)
        have e1 : nI kn / 1000 = nI (kn / 1000) := pk_div (d := 1000) hkn (by decide) (by decide)
        have hn2 : kn / 1000 ≤ 200 := by
          have := h3.2
          rw [e1] at this
          exact Classical.byContradiction fun q => absurd this (show ¬ nI (kn / 1000) ≤ nI 200 from nI_ge (by omega) (by omega))
        refine v_ild2 (q := 33) dX9_burst_32 rfl ?_
        refine v_sipush (q := 36) (v := 1000) dX9_burst_33 rfl (by decide) ?_
        refine v_irem (q := 37) dX9_burst_36 rfl (by decide) ?_
        rw [show nI kn - nI kn / 1000 * 1000 = nI (kn % 1000) from pk_rem (d := 1000) hkn (by decide) (by decide), e1]
        refine v_ist7 (q := 39) dX9_burst_37 rfl (by decide) rfl ?_
        refine v_ild3 (q := 40) dX9_burst_39 rfl ?_
        refine v_i2l (q := 41) dX9_burst_40 rfl ?_
        refine v_lst8 (q := 43) dX9_burst_41 rfl (by decide) rfl ?_
        refine v_iconst (q := 44) (v := 0) dX9_burst_43 rfl (by decide) ?_
        refine v_ist10 (q := 46) dX9_burst_44 rfl (by decide) rfl ?_
        refine bu_loop (d := d) (Q := Q) (ks := nI kn) (m := m) (st := st) (v := v) hp8 (Nat.mod_lt _ (by decide)) hn2 (kn / 1000) 0 m.toInt64 h ow us uz X (Nat.zero_add _) hM hI ?_
        have e : doBurst X (nI pn) (nI kn) m st v = (nI (burR X (nI pn) (nI kn) m st v).1, (burR X (nI pn) (nI kn) m st v).2) := if_pos hb
        rw [e] at hQ
        unfold burR at hQ
        rw [nI_clamp hpn, nI_clamp hkn] at hQ
        exact hQ
      · rw [b01_f h3]
        refine v_if_ne (t := 32) (q := 30) dX9_burst_27 (by decide) rfl (fun hc => absurd rfl hc) (fun _ => ?_)
        exact no (fun q => h3 q.2.2)
  · rw [b01_f h1]
    refine v_if_eq (t := 30) (q := 14) dX9_burst_11 (by decide) rfl (fun _ => ?_) (fun hc => absurd rfl hc)
    exact no (fun q => h1 q.1)
theorem po_ne (hM : MV g h ow c lg SA ST WY po sp X us uz) {f p : Nat} (hf : f < 8) (hp : p < 8) (e : f ≠ p) : po f ≠ po p := fun q => by
  have h1 := (hM.2.2.1 f hf).2.2.1
  have h2 := (hM.2.2.1 p hp).2.2.1
  rw [q, h2] at h1
  unfold tO at h1
  omega
theorem po_c (hM : MV g h ow c lg SA ST WY po sp X us uz) {p : Nat} (hp : p < 8) : c ≠ po p := fun q => by
  have h1 := (hM.2.2.1 p hp).2.1
  have h2 := hM.1.1
  rw [← q, h2] at h1
  cases h1
theorem MV.mark {p : Nat} {m : Int32} (hM : MV g h ow c lg SA ST WY po sp X us uz) (hp : p < 8) : MV g (sFI h 1 (po p) m) ow c lg SA ST WY po sp (xMk X p m) us uz ∧ Fr ow ow CS h (sFI h 1 (po p) m) := by
  have gd := hM.2.2.2.2.2.2
  obtain ⟨a1, a2, a3, a4, a5, a6, a7, a8⟩ := hM.1
  obtain ⟨p1, p2, p3, p4, p5⟩ := hM.2.2.1 p hp
  have fr : Fr ow ow (fun t => t = tO p) h (sFI h 1 (po p) m) := Fr.of0 (P := fun a => a = po p) (Smo_sFI rfl) (fun a _ e => by rw [e]; exact p3)
  refine ⟨hM.mill fr (fun t e => Or.inr (by rw [e]; unfold tO; omega)) (Wf_same rfl rfl gd.1) rfl rfl rfl ⟨a1, a2, a3, a4, a5, a6, (fi_ne _ _ _ _ (by decide)).trans a7, (fi_ne _ _ _ _ (by decide)).trans a8⟩ hM.2.1 (fun f hf => ?_) (fun _ _ => ⟨rfl, rfl⟩), fr.mono (fun t e => by rw [e]; unfold CS tO; omega)⟩
  obtain ⟨r1, r2, r3, r4, r5⟩ := hM.2.2.1 f hf
  refine ⟨r1, r2, r3, ?_, (fi_ne _ _ _ _ (by decide)).trans r5⟩
  show _ = upR (xP X) p m f
  by_cases e : f = p
  · subst e
    rw [upR_at]
    exact fi_eq _ _ _ _
  · rw [upR_ne _ _ e, fI_sFI, if_neg (fun q => po_ne hM hf hp e q.2)]
    exact r4
theorem MV.idle {p : Nat} {m : Int32} (hM : MV g h ow c lg SA ST WY po sp X us uz) (hp : p < 8) : MV g (sFI h 2 (po p) m) ow c lg SA ST WY po sp (xId X p m) us uz ∧ Fr ow ow CS h (sFI h 2 (po p) m) := by
  have gd := hM.2.2.2.2.2.2
  obtain ⟨a1, a2, a3, a4, a5, a6, a7, a8⟩ := hM.1
  obtain ⟨p1, p2, p3, p4, p5⟩ := hM.2.2.1 p hp
  have fr : Fr ow ow (fun t => t = tO p) h (sFI h 2 (po p) m) := Fr.of0 (P := fun a => a = po p) (Smo_sFI rfl) (fun a _ e => by rw [e]; exact p3)
  refine ⟨hM.mill fr (fun t e => Or.inr (by rw [e]; unfold tO; omega)) (Wf_same rfl rfl gd.1) rfl rfl rfl ⟨a1, a2, a3, a4, a5, a6, (fi_ne _ _ _ _ (by decide)).trans a7, (fi_ne _ _ _ _ (by decide)).trans a8⟩ hM.2.1 (fun f hf => ?_) (fun _ _ => ⟨rfl, rfl⟩), fr.mono (fun t e => by rw [e]; unfold CS tO; omega)⟩
  obtain ⟨r1, r2, r3, r4, r5⟩ := hM.2.2.1 f hf
  refine ⟨r1, r2, r3, (fi_ne _ _ _ _ (by decide)).trans r4, ?_⟩
  show _ = upR (xI X) p m f
  by_cases e : f = p
  · subst e
    rw [upR_at]
    exact fi_eq _ _ _ _
  · rw [upR_ne _ _ e, fI_sFI, if_neg (fun q => po_ne hM hf hp e q.2)]
    exact r5
theorem MI.same {X X' : Sg} (h : MI X) (a : SG X X') (hT : xT X' = xT X) (hB : BI X') (hC : tot camS X' = tot camS X) : MI X' := by
  obtain ⟨h1, h2, h4, h5, h6⟩ := h
  exact ⟨h1.same a, hB, by rw [hC, hT]; exact h4, by rw [hT]; exact h5, fun q hq => by rw [wz_same a]; exact h6 q hq⟩
/-- settleMarks behind a change of ports -/
theorem se_ports {h1 : Hp} {X1 : Sg} (hI : MI X) (hM1 : MV g h1 ow c lg SA ST WY po sp X1 us uz) (eM : xM X1 = xM X) (eT : xT X1 = xT X) (eR : xR X1 = xR X) (eS : xS X1 = xS X) (hF1 : Fr ow ow CS h h1) (z1 : hs h1 = hs h) (z2 : hz h1 = hz h)
    (hQ : ∀ (h' : Hp) (ow' us' uz' : Nat → Nat), MV g h' ow' c lg SA ST WY po sp (settleS X1) us' uz' → MI (settleS X1) → Fr ow ow' CS h h' → Lg h us uz X h' us' uz' (settleS X1) → Q none h') : Call g mX9_settleMarks (d + 11) [.ref c] h1 Q := by
  have sg : SG X X1 := ⟨eM, fun s => by rw [eS]; exact SGs.rf _⟩
  have eB : BI X1 := by
    have hB := hI.2.1
    unfold BI tot at hB ⊢
    rw [eM, eS, eR]
    exact hB
  have eC : tot camS X1 = tot camS X := by
    unfold tot
    rw [eM, eS]
  have hI1 := hI.same sg eT eB eC
  have hC := hI.2.2.1
  have hT := hI.2.2.2.1
  refine k_settle (d := d) hM1 hI1.1 eB (by omega) (fun h' ow' us' uz' X' e hM' hX hB hC' hF hL => ?_)
  subst e
  refine hQ h' ow' us' uz' hM' (hI1.same hX.2.2.2.2 hX.1 hB hC') (hF1.tr hF) ?_
  have := hL.lg hX.2.2.2.2.1
  unfold Lg at this ⊢
  rw [eM, eR] at this
  omega
theorem k_mark {p m : Int32} (hM : MV g h ow c lg SA ST WY po sp X us uz) (hI : MI X) (hQ : CQ g c lg SA ST WY po h ow us uz X Q (doMark X p m).1 (doMark X p m).2) : Call g mX9_mark (d + 12) [.ref c, .int p, .int m] h Q := by
  have a1 : hK h c = 9 := hM.1.1
  refine Call.of [.ref c, .int p, .int m, zz] (by decide) (Nat.le_of_ble_eq_true rfl) rfl ?_
  have no : ∀ u : Value, ¬ ((0 ≤ p ∧ p ≤ 7) ∧ (0 ≤ m ∧ m ≤ 200000)) → V g mX9_mark (d + 12) 20 [.ref c, .int p, .int m, u] [] h Q := fun u hn => by
    have e : doMark X p m = (-1, X) := if_neg hn
    rw [e] at hQ
    refine v_iconst (q := 21) (v := -1) dX9_mark_20 rfl (by decide) ?_
    refine v_iret dX9_mark_21 rfl ?_
    exact hQ h ow us uz sp hM hI (Fr.rf h) (Lg.rf h us uz X)
  refine v_ald0 (q := 1) dX9_mark_0 rfl rfl ?_
  refine v_ild1 (q := 2) dX9_mark_1 rfl ?_
  refine v_callV (q := 5) (d' := d + 11) (av := [.int p]) dX9_mark_2 rfl ok_X9_portAt CL8 ml_X9_110 im_X9_portAt se_X9_portAt (by assumption) (by omega) rfl rfl (Nat.le_of_ble_eq_true rfl) ?_
  refine mv_portAt (d := d + 9) hM (fun j hj j8 => ?_) (fun hn => ?_)
  · subst hj
    obtain ⟨p1, p2, p3, p4, p5⟩ := hM.2.2.1 j j8
    refine v_ast3 (q := 6) dX9_mark_5 rfl (by decide) rfl rfl ?_
    refine v_ald3 (q := 7) dX9_mark_6 rfl rfl ?_
    refine v_ifnull (r := some (po j)) (t := 20) (q := 10) dX9_mark_7 (by decide) rfl (fun hc => by cases hc) (fun _ _ => ?_)
    refine v_ild2 (q := 11) dX9_mark_10 rfl ?_
    refine v_iconst (q := 12) (v := 0) dX9_mark_11 rfl (by decide) ?_
    refine v_ldc (q := 14) dX9_mark_12 rfl kc_X9_113 ?_
    refine v_callS (q := 17) (d' := d + 11) (av := [.int m, .int 0, .int 200000]) dX9_mark_14 rfl ok_X9_isWithin ml_X9_82 st_X9_isWithin (by omega) rfl rfl (Nat.le_of_ble_eq_true rfl) ?_
    refine k_isWithin ?_
    by_cases h3 : 0 ≤ m ∧ m ≤ 200000
    · rw [b01_t h3]
      refine v_if_ne (t := 22) (q := 20) dX9_mark_17 (by decide) rfl (fun _ => ?_) (fun hc => absurd hc (by decide))
      have hb : (0 ≤ nI j ∧ nI j ≤ 7) ∧ (0 ≤ m ∧ m ≤ 200000) := ⟨⟨nI_pos' (by omega), show nI j ≤ nI 7 from nI_le (by omega) (by decide)⟩, h3⟩
      have e : doMark X (nI j) m = if m < xP X j then (-5, X) else (nI (xR (settleS (xMk X j m))).length, settleS (xMk X j m)) := by
        unfold doMark
        rw [if_pos hb, nI_clamp (by omega)]
      rw [e] at hQ
      refine v_ild2 (q := 23) dX9_mark_22 rfl ?_
      refine v_ald3 (q := 24) dX9_mark_23 rfl rfl ?_
      refine v_getI (q := 27) dX9_mark_24 rfl gf_X9_114_5 (by assumption) ?_
      rw [p4]
      by_cases hl : m < xP X j
      · rw [if_pos hl] at hQ
        refine v_icmp_ge (t := 33) (q := 30) dX9_mark_27 (by decide) rfl (fun hc => absurd hl (Int32.not_lt.mpr hc)) (fun _ => ?_)
        refine v_bipush (q := 32) (v := -5) dX9_mark_30 rfl (by decide) ?_
        refine v_iret dX9_mark_32 rfl ?_
        exact hQ h ow us uz sp hM hI (Fr.rf h) (Lg.rf h us uz X)
      · rw [if_neg hl] at hQ
        refine v_icmp_ge (t := 33) (q := 30) dX9_mark_27 (by decide) rfl (fun _ => ?_) (fun hc => absurd (Int32.not_lt.mp hl) hc)
        refine v_ald3 (q := 34) dX9_mark_33 rfl rfl ?_
        refine v_ild2 (q := 35) dX9_mark_34 rfl ?_
        refine v_putI (q := 38) dX9_mark_35 rfl pf_X9_114_5 (by assumption) rfl rfl ?_
        obtain ⟨hM1, hF1⟩ := hM.mark (m := m) j8
        have z1 : hs (sFI h 1 (po j) m) = hs h := rfl
        have z2 : hz (sFI h 1 (po j) m) = hz h := rfl
        generalize sFI h 1 (po j) m = h1 at *
        have c1 : hK h1 c = 9 := hM1.1.1
        refine v_ald0 (q := 39) dX9_mark_38 rfl rfl ?_
        refine v_callV (q := 42) (d' := d + 11) (av := []) dX9_mark_39 rfl ok_X9_settleMarks CL8 ml_X9_73 im_X9_settleMarks se_X9_settleMarks (by assumption) (by omega) rfl rfl (Nat.le_of_ble_eq_true rfl) ?_
        refine se_ports (d := d) hI hM1 rfl rfl rfl rfl hF1 z1 z2 (fun h' ow' us' uz' hM' hI' hF hL => ?_)
        have kl := hM'.2.2.2.2.2.1.kd
        have k4 : hK h' lg = 4 := kl.1
        have c9 : hK h' c = 9 := hM'.1.1
        have c45 : fP h' 45 c = some lg := hM'.1.2.2.2.2.2.1
        refine v_ald0 (q := 43) dX9_mark_42 rfl rfl ?_
        refine v_getR (q := 46) dX9_mark_43 rfl gf_X9_28_8 (by assumption) (by assumption) ?_
        refine v_getI (q := 49) dX9_mark_46 rfl gf_X9_105_3 (by assumption) ?_
        rw [kl.2.1]
        refine v_iret dX9_mark_49 rfl ?_
        exact hQ h' ow' us' uz' sp hM' hI' hF hL
    · rw [b01_f h3]
      refine v_if_ne (t := 22) (q := 20) dX9_mark_17 (by decide) rfl (fun hc => absurd rfl hc) (fun _ => ?_)
      exact no _ (fun q => h3 q.2)
  · refine v_ast3 (q := 6) dX9_mark_5 rfl (by decide) rfl rfl ?_
    refine v_ald3 (q := 7) dX9_mark_6 rfl rfl ?_
    refine v_ifnull (r := none) (t := 20) (q := 10) dX9_mark_7 (by decide) rfl (fun _ => ?_) (fun a ha => by cases ha)
    exact no _ (fun q => hn q.1)
theorem k_idle {p b : Int32} (hM : MV g h ow c lg SA ST WY po sp X us uz) (hI : MI X) (hQ : CQ g c lg SA ST WY po h ow us uz X Q (doIdle X p b).1 (doIdle X p b).2) : Call g mX9_idle (d + 12) [.ref c, .int p, .int b] h Q := by
  have a1 : hK h c = 9 := hM.1.1
  refine Call.of [.ref c, .int p, .int b, zz, zz] (by decide) (Nat.le_of_ble_eq_true rfl) rfl ?_
  have no : ∀ u : Value, ¬ ((0 ≤ p ∧ p ≤ 7) ∧ (0 ≤ b ∧ b ≤ 1)) → V g mX9_idle (d + 12) 19 [.ref c, .int p, .int b, u, zz] [] h Q := fun u hn => by
    have e : doIdle X p b = (-1, X) := if_neg hn
    rw [e] at hQ
    refine v_iconst (q := 20) (v := -1) dX9_idle_19 rfl (by decide) ?_
    refine v_iret dX9_idle_20 rfl ?_
    exact hQ h ow us uz sp hM hI (Fr.rf h) (Lg.rf h us uz X)
  refine v_ald0 (q := 1) dX9_idle_0 rfl rfl ?_
  refine v_ild1 (q := 2) dX9_idle_1 rfl ?_
  refine v_callV (q := 5) (d' := d + 11) (av := [.int p]) dX9_idle_2 rfl ok_X9_portAt CL8 ml_X9_110 im_X9_portAt se_X9_portAt (by assumption) (by omega) rfl rfl (Nat.le_of_ble_eq_true rfl) ?_
  refine mv_portAt (d := d + 9) hM (fun j hj j8 => ?_) (fun hn => ?_)
  · subst hj
    obtain ⟨p1, p2, p3, p4, p5⟩ := hM.2.2.1 j j8
    refine v_ast3 (q := 6) dX9_idle_5 rfl (by decide) rfl rfl ?_
    refine v_ald3 (q := 7) dX9_idle_6 rfl rfl ?_
    refine v_ifnull (r := some (po j)) (t := 19) (q := 10) dX9_idle_7 (by decide) rfl (fun hc => by cases hc) (fun _ _ => ?_)
    refine v_ild2 (q := 11) dX9_idle_10 rfl ?_
    refine v_iconst (q := 12) (v := 0) dX9_idle_11 rfl (by decide) ?_
    refine v_iconst (q := 13) (v := 1) dX9_idle_12 rfl (by decide) ?_
    refine v_callS (q := 16) (d' := d + 11) (av := [.int b, .int 0, .int 1]) dX9_idle_13 rfl ok_X9_isWithin ml_X9_82 st_X9_isWithin (by omega) rfl rfl (Nat.le_of_ble_eq_true rfl) ?_
    refine k_isWithin ?_
    by_cases h3 : 0 ≤ b ∧ b ≤ 1
    · rw [b01_t h3]
      refine v_if_ne (t := 21) (q := 19) dX9_idle_16 (by decide) rfl (fun _ => ?_) (fun hc => absurd hc (by decide))
      have hb : (0 ≤ nI j ∧ nI j ≤ 7) ∧ (0 ≤ b ∧ b ≤ 1) := ⟨⟨nI_pos' (by omega), show nI j ≤ nI 7 from nI_le (by omega) (by decide)⟩, h3⟩
      have e : doIdle X (nI j) b = (if xI X j = 0 then 0 else 1, settleS (xId X j (if b = 1 then 1 else 0))) := by
        unfold doIdle
        rw [if_pos hb, nI_clamp (by omega)]
      rw [e] at hQ
      have rest : ∀ w : Int32, w = (if xI X j = 0 then 0 else 1) → V g mX9_idle (d + 12) 33 [.ref c, .int (nI j), .int b, .ref (po j), zz] [.int w] h Q := fun w hw => by
        subst hw
        have fin : ∀ (n : Int32), n = (if b = 1 then 1 else 0) → narrow .boolean (.int n) = .int n → fits .boolean (.int n) = true → V g mX9_idle (d + 12) 46 [.ref c, .int (nI j), .int b, .ref (po j), .int (if xI X j = 0 then 0 else 1)] [.int n, .ref (po j)] h Q := fun n hn hnar hfit => by
          subst hn
          refine v_putI (q := 49) dX9_idle_46 rfl pf_X9_117_5 (by assumption) hnar hfit ?_
          obtain ⟨hM1, hF1⟩ := hM.idle (m := if b = 1 then 1 else 0) j8
          have z1 : hs (sFI h 2 (po j) (if b = 1 then 1 else 0)) = hs h := rfl
          have z2 : hz (sFI h 2 (po j) (if b = 1 then 1 else 0)) = hz h := rfl
          generalize sFI h 2 (po j) (if b = 1 then 1 else 0) = h1 at *
          have c1 : hK h1 c = 9 := hM1.1.1
          refine v_ald0 (q := 50) dX9_idle_49 rfl rfl ?_
          refine v_callV (q := 53) (d' := d + 11) (av := []) dX9_idle_50 rfl ok_X9_settleMarks CL8 ml_X9_73 im_X9_settleMarks se_X9_settleMarks (by assumption) (by omega) rfl rfl (Nat.le_of_ble_eq_true rfl) ?_
          refine se_ports (d := d) hI hM1 rfl rfl rfl rfl hF1 z1 z2 (fun h' ow' us' uz' hM' hI' hF hL => ?_)
          refine v_ild4 (q := 55) dX9_idle_53 rfl ?_
          refine v_iret dX9_idle_55 rfl ?_
          exact hQ h' ow' us' uz' sp hM' hI' hF hL
        refine v_ist4 (q := 35) dX9_idle_33 rfl (by decide) rfl ?_
        refine v_ald3 (q := 36) dX9_idle_35 rfl rfl ?_
        refine v_ild2 (q := 37) dX9_idle_36 rfl ?_
        refine v_iconst (q := 38) (v := 1) dX9_idle_37 rfl (by decide) ?_
        by_cases h1 : b = 1
        · refine v_icmp_ne (t := 45) (q := 41) dX9_idle_38 (by decide) rfl (fun hc => absurd h1 hc) (fun _ => ?_)
          refine v_iconst (q := 42) (v := 1) dX9_idle_41 rfl (by decide) ?_
          refine v_goto (q := 46) dX9_idle_42 (by decide) ?_
          exact fin 1 (if_pos h1).symm rfl rfl
        · refine v_icmp_ne (t := 45) (q := 41) dX9_idle_38 (by decide) rfl (fun _ => ?_) (fun hc => absurd hc h1)
          refine v_iconst (q := 46) (v := 0) dX9_idle_45 rfl (by decide) ?_
          exact fin 0 (if_neg h1).symm rfl rfl
      refine v_ald3 (q := 22) dX9_idle_21 rfl rfl ?_
      refine v_getI (q := 25) dX9_idle_22 rfl gf_X9_117_5 (by assumption) ?_
      rw [p5]
      by_cases hz : xI X j = 0
      · refine v_if_eq (t := 32) (q := 28) dX9_idle_25 (by decide) rfl (fun _ => ?_) (fun hc => absurd hz hc)
        refine v_iconst (q := 33) (v := 0) dX9_idle_32 rfl (by decide) ?_
        exact rest 0 (if_pos hz).symm
      · refine v_if_eq (t := 32) (q := 28) dX9_idle_25 (by decide) rfl (fun hc => absurd hc hz) (fun _ => ?_)
        refine v_iconst (q := 29) (v := 1) dX9_idle_28 rfl (by decide) ?_
        refine v_goto (q := 33) dX9_idle_29 (by decide) ?_
        exact rest 1 (if_neg hz).symm
    · rw [b01_f h3]
      refine v_if_ne (t := 21) (q := 19) dX9_idle_16 (by decide) rfl (fun hc => absurd rfl hc) (fun _ => ?_)
      exact no _ (fun q => h3 q.2)
  · refine v_ast3 (q := 6) dX9_idle_5 rfl (by decide) rfl rfl ?_
    refine v_ald3 (q := 7) dX9_idle_6 rfl rfl ?_
    refine v_ifnull (r := none) (t := 19) (q := 10) dX9_idle_7 (by decide) rfl (fun _ => ?_) (fun a ha => by cases ha)
    exact no _ (fun q => hn q.1)
end L99
