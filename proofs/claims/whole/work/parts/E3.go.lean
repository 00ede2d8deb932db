/-! E3: the model: an event goes on -/
theorem begs_ses {st m : Int32} (h1 : 1 ≤ st.toInt) (h2 : st.toInt ≤ 10001) (m1 : m.toInt ≤ 100000) (m0 : 0 ≤ m.toInt) : begs 4 m st m = [m] := by
  have ha : (m + st).toInt = m.toInt + st.toInt := i32_add (by omega) (by omega)
  have hn : ¬ m + st ≤ m := by
    rw [fa_le, ha]
    omega
  unfold begs
  rw [if_pos (Int32.le_refl m)]
  unfold begs
  rw [if_neg hn]
theorem BI.pass {X : Sg} {s : Nat} {key m : Int32} {v : Int64} (hB : BI X) (hs : s < xM X) (w1 : isW (xS X s) = false) : BI (xSet X s (passS (xS X s) key m v) (xR X)) ∧ tot camS (xSet X s (passS (xS X s) key m v) (xR X)) = tot camS X := by
  have w' : isW (passS (xS X s) key m v) = false := by rw [(KS_pass (xS X s) key m v).1.w]; exact w1
  have z1 : entS (passS (xS X s) key m v) = entS (xS X s) := (if_neg (by rw [w']; decide)).trans (if_neg (by rw [w1]; decide)).symm
  have z2 : camS (passS (xS X s) key m v) = camS (xS X s) := (if_neg (by rw [w']; decide)).trans (if_neg (by rw [w1]; decide)).symm
  have z3 : potS (passS (xS X s) key m v) = potS (xS X s) := (if_neg (by rw [w']; decide)).trans (if_neg (by rw [w1]; decide)).symm
  have z4 : sSes (passS (xS X s) key m v) = sSes (xS X s) := by
    unfold sSes
    rw [(KS_pass (xS X s) key m v).1.2.1]
  exact hB.set (S := passS (xS X s) key m v) (rows' := xR X) hs (by rw [w', w1]) z1 z2 (by omega) z4 (fun q => by rw [w'] at q; cases q)
def GoOK (g : Gl) (d : Nat) (h : Hp) (m : Nat) (n : Nat) : Prop :=
  ∀ (u : Mu) (X : Sg) (ws : List (Option Mw)) (f k : Nat) (mi : Int32) (v : Int64) (Q : Option Value → Hp → Prop), MR u X ws → GO X → BI X → SI X → f < 8 + xM X → ((f < 8 ∧ 17 ≤ n) ∨ 24 ≤ n + f) → k < 1000 → 0 ≤ mi.toInt → mi.toInt ≤ 100000 → tot camS X + wz X n f ≤ 12000 →
    (∀ (u' : Mu) (ws' : List (Option Mw)) (X' : Sg), X' = carryS n f (nI k) mi v X → MR u' X' ws' → KX X X' → BI X' → SI X' → tot camS X' ≤ tot camS X + wz X n f → Q none (mh h m u')) →
    Call g mX10_goOn (d + 3 * n + 7) [.ref m, .int (nI f), .int (nI k), .int mi, .long v] (mh h m u) Q
section LE3
variable {g : Gl} {d : Nat} {h : Hp} {m : Nat} {Q : Option Value → Hp → Prop} {X : Sg} {ws : List (Option Mw)} {s k n : Nat} {u : Mu} {mi : Int32} {v : Int64}
theorem q_giveOn {k' : Nat} {v' : Int64} {X1 : Sg} (hm : MK h m) (IH : GoOK g d h m n) (hs : s < 16) (hR1 : MR (sL (sI (sI (sI u 15 s 1) 16 s (nI k')) 17 s mi) 18 s v') X1 ws) (hG : GO X1) (hB : BI X1) (hS : SI X1) (hf : 8 + s < 8 + xM X1) (hfu : 24 ≤ n + (8 + s)) (hk : k' < 1000) (m0 : 0 ≤ mi.toInt) (m1 : mi.toInt ≤ 100000) (hC : tot camS X1 + wz X1 n (8 + s) ≤ 12000)
    (hQ : ∀ (u' : Mu) (ws' : List (Option Mw)) (X' : Sg), X' = carryS n (8 + s) (nI k') mi v' X1 → MR u' X' ws' → KX X1 X' → BI X' → SI X' → tot camS X' ≤ tot camS X1 + wz X1 n (8 + s) → Q none (mh h m u')) :
    Call g mX10_giveOn (d + 3 * n + 8) [.ref m, .int (nI s), .int (nI k'), .int mi, .long v'] (mh h m u) Q := by
  refine Call.of [.ref m, .int (nI s), .int (nI k'), .int mi, .long v', zz] (by decide) (Nat.le_of_ble_eq_true rfl) rfl ?_
  refine v_ald0 (q := 1) dX10_giveOn_0 rfl rfl ?_
  refine w_ga (q := 4) (j := 15) dX10_giveOn_1 rfl hm (by decide) gf_X10_53_9 ?_
  refine v_ild1 (q := 5) dX10_giveOn_4 rfl ?_
  refine v_iconst (q := 6) (v := 1) dX10_giveOn_5 rfl (by decide) ?_
  refine w_zast (q := 7) (n := 16) dX10_giveOn_6 rfl hm (by decide) rfl rfl rfl (by omega) rfl ?_
  refine v_ald0 (q := 8) dX10_giveOn_7 rfl rfl ?_
  refine w_ga (q := 11) (j := 16) dX10_giveOn_8 rfl hm (by decide) gf_X10_56_9 ?_
  refine v_ild1 (q := 12) dX10_giveOn_11 rfl ?_
  refine v_ild2 (q := 13) dX10_giveOn_12 rfl ?_
  refine w_iast (q := 14) (n := 16) dX10_giveOn_13 rfl hm (by decide) rfl rfl rfl (by omega) ?_
  refine v_ald0 (q := 15) dX10_giveOn_14 rfl rfl ?_
  refine w_ga (q := 18) (j := 17) dX10_giveOn_15 rfl hm (by decide) gf_X10_59_9 ?_
  refine v_ild1 (q := 19) dX10_giveOn_18 rfl ?_
  refine v_ild3 (q := 20) dX10_giveOn_19 rfl ?_
  refine w_iast (q := 21) (n := 16) dX10_giveOn_20 rfl hm (by decide) rfl rfl rfl (by omega) ?_
  refine v_ald0 (q := 22) dX10_giveOn_21 rfl rfl ?_
  refine w_ga (q := 25) (j := 18) dX10_giveOn_22 rfl hm (by decide) gf_X10_62_9 ?_
  refine v_ild1 (q := 26) dX10_giveOn_25 rfl ?_
  refine v_lld4 (q := 28) dX10_giveOn_26 rfl ?_
  refine w_last (q := 29) (n := 16) dX10_giveOn_28 rfl hm (by decide) rfl rfl rfl (by omega) ?_
  refine v_ald0 (q := 30) dX10_giveOn_29 rfl rfl ?_
  refine v_bipush (q := 32) (v := 8) dX10_giveOn_30 rfl (by decide) ?_
  refine v_ild1 (q := 33) dX10_giveOn_32 rfl ?_
  refine v_iadd (q := 34) dX10_giveOn_33 rfl ?_
  rw [show (8 : Int32) = nI 8 from rfl, nI_add]
  refine v_ild2 (q := 35) dX10_giveOn_34 rfl ?_
  refine v_ild3 (q := 36) dX10_giveOn_35 rfl ?_
  refine v_lld4 (q := 38) dX10_giveOn_36 rfl ?_
  refine v_callV (q := 41) (d' := d + 3 * n + 7) (av := [.int (nI (8 + s)), .int (nI k'), .int mi, .long v']) dX10_giveOn_38 rfl ok_X10_goOn CL9 ml_X10_232 im_X10_goOn se_X10_goOn hm.1 (by omega) rfl rfl (Nat.le_of_ble_eq_true rfl) ?_
  refine IH _ X1 ws (8 + s) k' mi v' _ hR1 hG hB hS hf (Or.inr hfu) hk m0 m1 hC (fun u' ws' X' e1 e2 e3 e4 e5 e6 => ?_)
  refine v_vret dX10_giveOn_41 rfl ?_
  exact hQ u' ws' X' e1 e2 e3 e4 e5 e6
theorem mr_came (hR : MR u X ws) (hs : s < xM X) (hw : isW (xS X s) = true) (hO : stOK s (xS X s)) : MR (sI u 10 s (gI (xS X s) 4 + 1)) (zS X s (gL (xS X s), xR X, sDr (xS X s))) ws := by
  obtain ⟨⟨a1, a2, a3, a4, a5⟩, b, c, ⟨d1, d2, d3, d4, d5⟩, e⟩ := hR.1.2.2.1 s hs
  have o23 := hO.2.2.2.1
  unfold zS
  refine ⟨hR.1.set ⟨rfl, rfl⟩ (fun j h1 h2 h3 i hi => ?_) (fun _ _ _ _ => rfl) (fun _ _ => rfl) rfl rfl hs ⟨⟨a1, a2, a3, a4, a5⟩, b, c, ⟨mI_at _ _ _, d2.trans o23, d3, d4, d5⟩, e⟩, hR.2.1.same (fun j h1 h2 => mI_nr _ (by omega)) rfl rfl, hR.2.2.cfg hs (fun j h1 h2 => mI_nr _ (by omega)) rfl rfl rfl rfl ⟨rfl, rfl⟩ rfl⟩
  by_cases e7 : j = 10
  · subst e7
    exact mI_ni _ hi
  · rw [mI_nr _ e7]
theorem mr_pass0 (hR : MR u X ws) (hs : s < xM X) (hw : isW (xS X s) = false) : MR (sI u 10 s (gI (xS X s) 4 + 1)) (xSet X s (sgI (xS X s) 4 (gI (xS X s) 4 + 1)) (xR X)) ws := by
  obtain ⟨⟨a1, a2, a3, a4, a5⟩, b, c, ⟨d1, d2, d3, d4, d5⟩, e⟩ := hR.1.2.2.1 s hs
  refine ⟨hR.1.set ⟨rfl, rfl⟩ (fun j h1 h2 h3 i hi => ?_) (fun _ _ _ _ => rfl) (fun _ _ => rfl) rfl rfl hs ⟨⟨a1, a2, a3, a4, a5⟩, b, c, ⟨mI_at _ _ _, d2, d3, d4, d5⟩, e⟩, hR.2.1.same (fun j h1 h2 => mI_nr _ (by omega)) rfl rfl, hR.2.2.plain hs (fun j h1 h2 => mI_nr _ (by omega)) rfl rfl rfl hw hw⟩
  by_cases e7 : j = 10
  · subst e7
    exact mI_ni _ hi
  · rw [mI_nr _ e7]
theorem mr_pass1 {kk : Int32} {vv : Int64} (hR : MR u X ws) (hs : s < xM X) (hw : isW (xS X s) = false) : MR (sL (sI (sI (sI (sI u 10 s (gI (xS X s) 4 + 1)) 15 s 1) 16 s kk) 17 s mi) 18 s vv) (xSet X s (upR (upR (upR (upR (gI (xS X s)) 4 (gI (xS X s) 4 + 1)) 8 1) 9 kk) 10 mi, vv, gF (xS X s), gL (xS X s)) (xR X)) ws := by
  obtain ⟨⟨a1, a2, a3, a4, a5⟩, b, c, ⟨d1, d2, d3, d4, d5⟩, e⟩ := hR.1.2.2.1 s hs
  refine ⟨hR.1.set ⟨rfl, rfl⟩ (fun j h1 h2 h3 i hi => ?_) (fun _ _ _ _ => rfl) (fun i hi => ?_) rfl rfl hs ⟨⟨a1, a2, a3, a4, a5⟩, b, c, ⟨(by rw [mI_sL, mI_nr _ (by decide), mI_nr _ (by decide), mI_nr _ (by decide), mI_at] <;> rfl), d2, d3, d4, d5⟩, (by rw [mI_sL, mI_nr _ (by decide), mI_nr _ (by decide), mI_at] <;> rfl), (by rw [mI_sL, mI_nr _ (by decide), mI_at] <;> rfl), (by rw [mI_sL, mI_at] <;> rfl), ?_⟩, hR.2.1.same (fun j h1 h2 => ?_) rfl rfl, hR.2.2.plain hs (fun j h1 h2 => ?_) rfl rfl rfl hw hw⟩
  · rw [mI_sL]
    by_cases e17 : j = 17
    · subst e17
      rw [mI_ni _ hi, mI_nr _ (by decide), mI_nr _ (by decide), mI_nr _ (by decide)]
    rw [mI_nr _ e17]
    by_cases e16 : j = 16
    · subst e16
      rw [mI_ni _ hi, mI_nr _ (by decide), mI_nr _ (by decide)]
    rw [mI_nr _ e16]
    by_cases e15 : j = 15
    · subst e15
      rw [mI_ni _ hi, mI_nr _ (by decide)]
    rw [mI_nr _ e15]
    by_cases e7 : j = 10
    · subst e7
      exact mI_ni _ hi
    · rw [mI_nr _ e7]
  · rw [mL_sL, if_pos rfl, upR_ne _ _ hi]
    rfl
  · rw [mL_sL, if_pos rfl, upR_at]
    rfl
  · rw [mI_sL, mI_nr _ (by omega), mI_nr _ (by omega), mI_nr _ (by omega), mI_nr _ (by omega)]
  · rw [mI_sL, mI_nr _ (by omega), mI_nr _ (by omega), mI_nr _ (by omega), mI_nr _ (by omega)]
theorem zS_ent (hs : s < xM X) (hw : isW (xS X s) = true) : tot entS (zS X s (gL (xS X s), xR X, sDr (xS X s))) = tot entS X := by
  have t := tot_set entS X hs (stT (xS X s) (gL (xS X s)) (sDr (xS X s))) (xR X)
  have e1 : entS (xS X s) = sm vN (gL (xS X s)) := if_pos hw
  have e2 : entS (stT (xS X s) (gL (xS X s)) (sDr (xS X s))) = sm vN (gL (xS X s)) := if_pos hw
  show tot entS (xSet X s (stT (xS X s) (gL (xS X s)) (sDr (xS X s))) (xR X)) = _
  omega
theorem q_come {f : Nat} (hm : MK h m) (IH : GoOK g d h m n) (hR : MR u X ws) (hG : GO X) (hB : BI X) (hS : SI X) (hs : s < xM X) (hf : gF (xS X s) f = true) (hfu : 24 ≤ n + (8 + s)) (hk : k < 1000) (m0 : 0 ≤ mi.toInt) (m1 : mi.toInt ≤ 100000) (hC : tot camS X + cyW X n f s ≤ 12000)
    (hQ : ∀ (u' : Mu) (ws' : List (Option Mw)) (X' : Sg), X' = cyF n f (nI k) mi v X s → MR u' X' ws' → KX X X' → BI X' → SI X' → tot camS X' ≤ tot camS X + cyW X n f s → Q none (mh h m u')) :
    Call g mX10_come (d + 3 * n + 9) [.ref m, .int (nI s), .int (nI k), .int mi, .long v] (mh h m u) Q := by
  have h16 := hG.1
  have hsd := hG.2.2 s hs
  have rs := hR.1.2.2.1 s hs
  have r3 : mI u 3 s = gI (xS X s) 3 := rs.1.1
  have r4 : mI u 4 s = gI (xS X s) 6 := rs.1.2.1
  have r5 : mI u 5 s = gI (xS X s) 7 := rs.1.2.2.1
  have r10 : mI u 10 s = gI (xS X s) 4 := rs.2.2.2.1.1
  refine Call.of [.ref m, .int (nI s), .int (nI k), .int mi, .long v, zz] (by decide) (Nat.le_of_ble_eq_true rfl) rfl ?_
  refine v_ald0 (q := 1) dX10_come_0 rfl rfl ?_
  refine w_ga (q := 4) (j := 10) dX10_come_1 rfl hm (by decide) gf_X10_38_9 ?_
  refine v_ild1 (q := 5) dX10_come_4 rfl ?_
  refine v_dup2 (q := 6) dX10_come_5 rfl rfl rfl ?_
  refine w_iald (q := 7) (n := 16) dX10_come_6 rfl hm (by decide) rfl rfl rfl (by omega) ?_
  rw [r10]
  refine v_iconst (q := 8) (v := 1) dX10_come_7 rfl (by decide) ?_
  refine v_iadd (q := 9) dX10_come_8 rfl ?_
  refine w_iast (q := 10) (n := 16) dX10_come_9 rfl hm (by decide) rfl rfl rfl (by omega) ?_
  refine v_ald0 (q := 11) dX10_come_10 rfl rfl ?_
  refine w_ga (q := 14) (j := 3) dX10_come_11 rfl hm (by decide) gf_X10_17_9 ?_
  refine v_ild1 (q := 15) dX10_come_14 rfl ?_
  refine w_iald (q := 16) (n := 16) dX10_come_15 rfl hm (by decide) rfl rfl rfl (by omega) ?_
  rw [mI_nr _ (show (3 : Nat) ≠ 10 by decide), r3]
  refine v_bipush (q := 18) (v := 6) dX10_come_16 rfl (by decide) ?_
  by_cases hw : isW (xS X s) = true
  · have eW : cyW X n f s = 1 := by
      unfold cyW
      rw [if_pos hf, if_pos hw]
    obtain ⟨hO, hI, h8, hl⟩ := (hS.one hs).1 hw
    have hRz := mr_came hR hs hw hO
    have hb := hB.1 s hs hw
    have hcs := tot_le camS X hs
    have hps := tot_le potS X hs
    have hes := hB.ent
    have ee : entS (xS X s) = sm vN (gL (xS X s)) := if_pos hw
    have ep : potS (xS X s) = sm cR (gL (xS X s)) + 2 * sm (cD (gI (xS X s) 1)) (gL (xS X s)) := if_pos hw
    have hPE := hB.2
    have hez := zS_ent hs hw
    have hrk := sm_le cR (gL (xS X s)) hk
    have hvk := sm_le vN (gL (xS X s)) hk
    obtain ⟨n1, n2, n3, n4⟩ := SI.take (v := v) hB hS hs hw hk m0 m1 (by omega)
    have eF : cyF n f (nI k) mi v X s = takeG X s (nI k) mi v := by
      unfold cyF
      rw [if_pos hf, if_pos hw]
    have fin : ∀ (u' : Mu) (ws' : List (Option Mw)) (T' : (Nat → List Wd) × List Rw × Nat), T' = tkS (sSes (xS X s)) s (sHow (xS X s)) (sEa (xS X s)) (sSp (xS X s)) (sSt (xS X s)) (gI (xS X s) 21) (gI (xS X s) 1) k mi v (gL (xS X s), xR X, sDr (xS X s)) → MR u' (zS X s T') ws' → V g mX10_come (d + 3 * n + 9) 188 [.ref m, .int (nI s), .int (nI k), .int mi, .long v, zz] [] (mh h m u') Q := fun u' ws' T' eT hR' => by
      have e1 : takeG X s (nI k) mi v = zS X s T' := by
        obtain ⟨ln', rows', dr'⟩ := T'
        exact takeG_eq X s (nI k) mi v ln' rows' dr' (by rw [nI_clamp (by omega)]; exact eT)
      refine v_vret dX10_come_188 rfl ?_
      refine hQ u' ws' _ rfl ?_ ?_ ?_ ?_ ?_
      · rw [eF, e1]
        exact hR'
      · rw [eF]
        exact n4
      · rw [eF]
        exact n2
      · rw [eF]
        exact n1
      · rw [eF, n3, eW]
        exact Nat.le_refl _
    obtain ⟨B1, B2, B3, B4, B5, B6, B7, B8, B9, B10, B11, B12⟩ := id hO.1
    by_cases h6 : gI (xS X s) 3 = 6
    · have hses : sSes (xS X s) = true := decide_eq_true h6
      rw [hses] at fin hI
      have hb2 := hb.2.1 hses
      refine v_icmp_ne (t := 33) (q := 21) dX10_come_18 (by decide) rfl (fun z => absurd h6 z) (fun _ => ?_)
      refine v_ald0 (q := 22) dX10_come_21 rfl rfl ?_
      refine v_ild1 (q := 23) dX10_come_22 rfl ?_
      refine v_ild2 (q := 24) dX10_come_23 rfl ?_
      refine v_ild3 (q := 25) dX10_come_24 rfl ?_
      refine v_lld4 (q := 27) dX10_come_25 rfl ?_
      refine v_callV (q := 30) (d' := d + 3 * n + 8) (av := [.int (nI s), .int (nI k), .int mi, .long v]) dX10_come_27 rfl ok_X10_comeSession CL9 ml_X10_219 im_X10_comeSession se_X10_comeSession hm.1 (by omega) rfl rfl (Nat.le_of_ble_eq_true rfl) ?_
      refine q_comeSession (d := d + 3 * n + 4) (T := (gL (xS X s), xR X, sDr (xS X s))) hm hRz h16 hs hw hses hO hk m0 m1 (hI k hk) (by omega) (show (xR X).length + cR (gL (xS X s) k) + 1 < 200000 by omega) (show vN (gL (xS X s) k) + 1 ≤ 12000 by omega) (fun u' ws' hR' => ?_)
      refine v_goto (q := 188) dX10_come_30 (by decide) ?_
      refine fin u' ws' _ ?_ hR'
      unfold tkS
      rw [show fstB true (sSp (xS X s)) (sSt (xS X s)) mi = mi from rfl, begs_ses B6 B7 m1 m0]
      rfl
    · have hses : sSes (xS X s) = false := decide_eq_false h6
      rw [hses] at fin hI
      refine v_icmp_ne (t := 33) (q := 21) dX10_come_18 (by decide) rfl (fun _ => ?_) (fun z => absurd z h6)
      refine v_ald0 (q := 34) dX10_come_33 rfl rfl ?_
      refine v_ild1 (q := 35) dX10_come_34 rfl ?_
      refine v_callV (q := 38) (d' := d + 3 * n + 8) (av := [.int (nI s)]) dX10_come_35 rfl ok_X10_isWindowed CL9 ml_X10_130 im_X10_isWindowed se_X10_isWindowed hm.1 (by omega) rfl rfl (Nat.le_of_ble_eq_true rfl) ?_
      refine q_isW hm hRz.1 h16 hs ?_
      rw [zS_s]
      show V g mX10_come (d + 3 * n + 9) 38 _ [.int (if isW (xS X s) then 1 else 0)] _ Q
      rw [if_pos hw]
      refine v_if_eq (t := 53) (q := 41) dX10_come_38 (by decide) rfl (fun z => absurd z (by decide)) (fun _ => ?_)
      refine v_ald0 (q := 42) dX10_come_41 rfl rfl ?_
      refine v_ild1 (q := 43) dX10_come_42 rfl ?_
      refine v_ild2 (q := 44) dX10_come_43 rfl ?_
      refine v_ild3 (q := 45) dX10_come_44 rfl ?_
      refine v_lld4 (q := 47) dX10_come_45 rfl ?_
      refine v_callV (q := 50) (d' := d + 3 * n + 8) (av := [.int (nI s), .int (nI k), .int mi, .long v]) dX10_come_47 rfl ok_X10_comeFixed CL9 ml_X10_222 im_X10_comeFixed se_X10_comeFixed hm.1 (by omega) rfl rfl (Nat.le_of_ble_eq_true rfl) ?_
      refine q_comeFixed (d := d + 3 * n + 4) (T := (gL (xS X s), xR X, sDr (xS X s))) hm h16 hs hw hses hsd hO hk m0 m1 hRz (hI k hk) (by omega) (show (xR X).length + 10 < 200000 by omega) (fun x hx => ?_) (fun u' ws' hR' => ?_)
      · have := hl k hk x hx
        omega
      refine v_goto (q := 188) dX10_come_50 (by decide) ?_
      exact fin u' ws' _ rfl hR'
  · have w1 := Bool.eq_false_iff.mpr hw
    have h6 : ¬ gI (xS X s) 3 = 6 := fun z => hw (decide_eq_true (by rw [z]; decide))
    have hK1 := KX.set X s (passS (xS X s) (nI k) mi v) (xR X) (KS_pass _ _ _ _) ⟨[], (List.append_nil _).symm⟩
    obtain ⟨hB1, hC1⟩ := hB.pass (key := nI k) (m := mi) (v := v) hs w1
    have hS1 := hS.pass (key := nI k) (m := mi) (v := v) hs w1
    have eW : cyW X n f s = wz X n (8 + s) := by
      unfold cyW
      rw [if_pos hf, if_neg hw]
    obtain ⟨k', hk', ek'⟩ := givK_bd (key := nI k) (v := v) hsd hk rfl
    have eZ := wz_same hK1.sg n (8 + s)
    -- it is kept
    have on : passB (xS X s) v = true → ∀ (kk : Int32) (vv : Int64) (Q1 : Option Value → Hp → Prop), kk = givK (gI (xS X s) 3) (gI (xS X s) 6) (nI k) v → vv = givV (gI (xS X s) 3) (gI (xS X s) 6) (gI (xS X s) 7) v → (∀ h', Q none h' → Q1 none h') → Call g mX10_giveOn (d + 3 * n + 8) [.ref m, .int (nI s), .int kk, .int mi, .long vv] (mh h m (sI u 10 s (gI (xS X s) 4 + 1))) Q1 := fun hpb kk vv Q1 ekk evv hQ1 => by
      have eP : passS (xS X s) (nI k) mi v = (upR (upR (upR (upR (gI (xS X s)) 4 (gI (xS X s) 4 + 1)) 8 1) 9 kk) 10 mi, vv, gF (xS X s), gL (xS X s)) := by
        unfold passS
        rw [if_pos hpb, ekk, evv]
      have e9 : gI (passS (xS X s) (nI k) mi v) 9 = nI k' := by
        rw [eP, ← ek', ← ekk]
        rfl
      have eV : gV (passS (xS X s) (nI k) mi v) = vv := by
        rw [eP]
        rfl
      have hR2 := mr_pass1 (kk := kk) (vv := vv) (mi := mi) hR hs w1
      rw [← eP] at hR2
      have ekk' : kk = nI k' := ekk.trans ek'
      rw [ekk'] at hR2 ⊢
      refine q_giveOn hm IH (by omega) hR2 (hG.same hK1.sg) hB1 hS1 (show 8 + s < 8 + xM X by omega) hfu hk' m0 m1 (by rw [eZ]; omega) (fun u' ws' X' e1 e2 e3 e4 e5 e6 => hQ1 _ ?_)
      rw [eZ] at e6
      refine hQ u' ws' X' ?_ e2 (hK1.tr e3) e4 e5 (by omega)
      rw [e1]
      unfold cyF
      rw [if_pos hf, if_neg hw, if_pos hpb, e9, eV]
    have off : passB (xS X s) v = false → Q none (mh h m (sI u 10 s (gI (xS X s) 4 + 1))) := fun hpb => by
      have eP : passS (xS X s) (nI k) mi v = sgI (xS X s) 4 (gI (xS X s) 4 + 1) := by
        unfold passS
        rw [hpb]
        rfl
      have hR2 := mr_pass0 hR hs w1
      rw [← eP] at hR2
      refine hQ _ ws _ ?_ hR2 hK1 hB1 hS1 (by omega)
      unfold cyF
      rw [if_pos hf, if_neg hw, hpb]
      rfl
    refine v_icmp_ne (t := 33) (q := 21) dX10_come_18 (by decide) rfl (fun _ => ?_) (fun z => absurd z h6)
    have hRp := mr_pass0 hR hs w1
    refine v_ald0 (q := 34) dX10_come_33 rfl rfl ?_
    refine v_ild1 (q := 35) dX10_come_34 rfl ?_
    refine v_callV (q := 38) (d' := d + 3 * n + 8) (av := [.int (nI s)]) dX10_come_35 rfl ok_X10_isWindowed CL9 ml_X10_130 im_X10_isWindowed se_X10_isWindowed hm.1 (by omega) rfl rfl (Nat.le_of_ble_eq_true rfl) ?_
    refine q_isW hm hRp.1 h16 hs ?_
    rw [xS_set]
    show V g mX10_come (d + 3 * n + 9) 38 _ [.int (if isW (xS X s) then 1 else 0)] _ Q
    rw [if_neg hw]
    refine v_if_eq (t := 53) (q := 41) dX10_come_38 (by decide) rfl (fun _ => ?_) (fun z => absurd rfl z)
    have p3 : mI (sI u 10 s (gI (xS X s) 4 + 1)) 3 s = gI (xS X s) 3 := r3
    have p4 : mI (sI u 10 s (gI (xS X s) 4 + 1)) 4 s = gI (xS X s) 6 := r4
    have p5 : mI (sI u 10 s (gI (xS X s) 4 + 1)) 5 s = gI (xS X s) 7 := r5
    generalize sI u 10 s (gI (xS X s) 4 + 1) = u1 at *
    refine v_ald0 (q := 54) dX10_come_53 rfl rfl ?_
    refine w_ga (q := 57) (j := 3) dX10_come_54 rfl hm (by decide) gf_X10_17_9 ?_
    refine v_ild1 (q := 58) dX10_come_57 rfl ?_
    refine w_iald (q := 59) (n := 16) dX10_come_58 rfl hm (by decide) rfl rfl rfl (by omega) ?_
    rw [p3]
    by_cases k0 : gI (xS X s) 3 = 0
    · refine v_if_ne (t := 122) (q := 62) dX10_come_59 (by decide) rfl (fun z => absurd k0 z) (fun _ => ?_)
      have sb : 0 ≤ gI (xS X s) 7 ∧ gI (xS X s) 7 ≤ 1000 := by
        have := hsd
        unfold saidB at this
        rw [if_pos k0] at this
        exact of_decide_eq_true this
      have kept : passB (xS X s) v = true → V g mX10_come (d + 3 * n + 9) 110 [.ref m, .int (nI s), .int (nI k), .int mi, .long v, zz] [] (mh h m u1) Q := fun hpb => by
        refine v_ald0 (q := 111) dX10_come_110 rfl rfl ?_
        refine v_ild1 (q := 112) dX10_come_111 rfl ?_
        refine v_ild2 (q := 113) dX10_come_112 rfl ?_
        refine v_ild3 (q := 114) dX10_come_113 rfl ?_
        refine v_lld4 (q := 116) dX10_come_114 rfl ?_
        refine v_callV (q := 119) (d' := d + 3 * n + 8) (av := [.int (nI s), .int (nI k), .int mi, .long v]) dX10_come_116 rfl ok_X10_giveOn CL9 ml_X10_229 im_X10_giveOn se_X10_giveOn hm.1 (by omega) rfl rfl (Nat.le_of_ble_eq_true rfl) ?_
        refine on hpb (nI k) v _ ?_ ?_ (fun h' hq => ?_)
        · unfold givK
          rw [if_neg (fun z => by rw [k0] at z; exact absurd z.1 (by decide))]
        · unfold givV
          rw [if_neg (by rw [k0]; decide)]
        · refine v_goto (q := 188) dX10_come_119 (by decide) ?_
          refine v_vret dX10_come_188 rfl ?_
          exact hq
      have lost : passB (xS X s) v = false → V g mX10_come (d + 3 * n + 9) 188 [.ref m, .int (nI s), .int (nI k), .int mi, .long v, zz] [] (mh h m u1) Q := fun hpb => by
        refine v_vret dX10_come_188 rfl ?_
        exact off hpb
      refine v_ald0 (q := 63) dX10_come_62 rfl rfl ?_
      refine w_ga (q := 66) (j := 5) dX10_come_63 rfl hm (by decide) gf_X10_23_9 ?_
      refine v_ild1 (q := 67) dX10_come_66 rfl ?_
      refine w_iald (q := 68) (n := 16) dX10_come_67 rfl hm (by decide) rfl rfl rfl (by omega) ?_
      rw [p5]
      by_cases b0 : gI (xS X s) 7 = 0
      · refine v_if_ne (t := 87) (q := 71) dX10_come_68 (by decide) rfl (fun z => absurd b0 z) (fun _ => ?_)
        have eB : passB (xS X s) v = decide ((gI (xS X s) 6).toInt64 ≤ v) := by
          have nb : ¬ 0 < gI (xS X s) 7 := by
            rw [b0]
            decide
          unfold passB
          refine decide_eq_decide.mpr ⟨fun z => ?_, fun z _ => ?_⟩
          · have z := z k0
            rw [if_neg nb] at z
            exact z
          · rw [if_neg nb]
            exact z
        refine v_lld4 (q := 73) dX10_come_71 rfl ?_
        refine v_ald0 (q := 74) dX10_come_73 rfl rfl ?_
        refine w_ga (q := 77) (j := 4) dX10_come_74 rfl hm (by decide) gf_X10_20_9 ?_
        refine v_ild1 (q := 78) dX10_come_77 rfl ?_
        refine w_iald (q := 79) (n := 16) dX10_come_78 rfl hm (by decide) rfl rfl rfl (by omega) ?_
        rw [p4]
        refine v_i2l (q := 80) dX10_come_79 rfl ?_
        refine v_lcmp (q := 81) dX10_come_80 rfl ?_
        by_cases hlt : v < (gI (xS X s) 6).toInt64
        · refine v_if_lt (t := 188) (q := 84) dX10_come_81 (by decide) rfl (fun _ => lost ?_) (fun z => absurd ((lg_cmp_lt _ _).mpr hlt) z)
          rw [eB]
          exact decide_eq_false (Int64.not_le.mpr hlt)
        · refine v_if_lt (t := 188) (q := 84) dX10_come_81 (by decide) rfl (fun z => absurd ((lg_cmp_lt _ _).mp z) hlt) (fun _ => ?_)
          refine v_goto (q := 110) dX10_come_84 (by decide) ?_
          refine kept ?_
          rw [eB]
          exact decide_eq_true (Int64.not_lt.mp hlt)
      · refine v_if_ne (t := 87) (q := 71) dX10_come_68 (by decide) rfl (fun _ => ?_) (fun z => absurd z b0)
        have bp : 0 < gI (xS X s) 7 := by
          have := sb.1
          rw [fa_le] at this
          rw [fa_eq] at b0
          rw [fa_lt]
          omega
        have eB : passB (xS X s) v = decide (fmL v (gI (xS X s) 7).toInt64 = (gI (xS X s) 6).toInt64) := by
          unfold passB
          refine decide_eq_decide.mpr ⟨fun z => ?_, fun z _ => ?_⟩
          · have z := z k0
            rw [if_pos bp] at z
            exact z
          · rw [if_pos bp]
            exact z
        refine v_lld4 (q := 89) dX10_come_87 rfl ?_
        refine v_ald0 (q := 90) dX10_come_89 rfl rfl ?_
        refine w_ga (q := 93) (j := 5) dX10_come_90 rfl hm (by decide) gf_X10_23_9 ?_
        refine v_ild1 (q := 94) dX10_come_93 rfl ?_
        refine w_iald (q := 95) (n := 16) dX10_come_94 rfl hm (by decide) rfl rfl rfl (by omega) ?_
        rw [p5]
        refine v_i2l (q := 96) dX10_come_95 rfl ?_
        refine v_callS (q := 99) (d' := d + 3 * n + 8) (av := [.long v, .long (gI (xS X s) 7).toInt64]) dX10_come_96 rfl ok_J9_floorMod_f86c9 ml_X10_225 st_J9_floorMod_f86c9 (by omega) rfl rfl (Nat.le_of_ble_eq_true rfl) ?_
        refine k_floorModL ((fa_wide_lt 0 (gI (xS X s) 7)).mpr bp) (fun r hr => ?_)
        rw [fmL_of hr]
        refine v_ald0 (q := 100) dX10_come_99 rfl rfl ?_
        refine w_ga (q := 103) (j := 4) dX10_come_100 rfl hm (by decide) gf_X10_20_9 ?_
        refine v_ild1 (q := 104) dX10_come_103 rfl ?_
        refine w_iald (q := 105) (n := 16) dX10_come_104 rfl hm (by decide) rfl rfl rfl (by omega) ?_
        rw [p4]
        refine v_i2l (q := 106) dX10_come_105 rfl ?_
        refine v_lcmp (q := 107) dX10_come_106 rfl ?_
        by_cases he : fmL v (gI (xS X s) 7).toInt64 = (gI (xS X s) 6).toInt64
        · refine v_if_ne (t := 188) (q := 110) dX10_come_107 (by decide) rfl (fun z => absurd ((lg_cmp_eq _ _).mpr he) z) (fun _ => kept ?_)
          rw [eB]
          exact decide_eq_true he
        · refine v_if_ne (t := 188) (q := 110) dX10_come_107 (by decide) rfl (fun _ => lost ?_) (fun z => absurd ((lg_cmp_eq _ _).mp z) he)
          rw [eB]
          exact decide_eq_false he
    · refine v_if_ne (t := 122) (q := 62) dX10_come_59 (by decide) rfl (fun _ => ?_) (fun z => absurd z k0)
      have hpb : passB (xS X s) v = true := decide_eq_true (fun z => absurd z k0)
      have last : ∀ (kk : Int32) (vv : Int64), kk = givK (gI (xS X s) 3) (gI (xS X s) 6) (nI k) v → vv = givV (gI (xS X s) 3) (gI (xS X s) 6) (gI (xS X s) 7) v → V g mX10_come (d + 3 * n + 9) 185 [.ref m, .int (nI s), .int (nI k), .int mi, .long v, zz] [.long vv, .int mi, .int kk, .int (nI s), .ref m] (mh h m u1) Q := fun kk vv e1 e2 => by
        refine v_callV (q := 188) (d' := d + 3 * n + 8) (av := [.int (nI s), .int kk, .int mi, .long vv]) dX10_come_185 rfl ok_X10_giveOn CL9 ml_X10_229 im_X10_giveOn se_X10_giveOn hm.1 (by omega) rfl rfl (Nat.le_of_ble_eq_true rfl) ?_
        refine on hpb kk vv _ e1 e2 (fun h' hq => ?_)
        refine v_vret dX10_come_188 rfl ?_
        exact hq
      have val : ∀ kk : Int32, kk = givK (gI (xS X s) 3) (gI (xS X s) 6) (nI k) v → V g mX10_come (d + 3 * n + 9) 151 [.ref m, .int (nI s), .int (nI k), .int mi, .long v, zz] [.int kk, .int (nI s), .ref m] (mh h m u1) Q := fun kk e1 => by
        refine v_ild3 (q := 152) dX10_come_151 rfl ?_
        refine v_ald0 (q := 153) dX10_come_152 rfl rfl ?_
        refine w_ga (q := 156) (j := 3) dX10_come_153 rfl hm (by decide) gf_X10_17_9 ?_
        refine v_ild1 (q := 157) dX10_come_156 rfl ?_
        refine w_iald (q := 158) (n := 16) dX10_come_157 rfl hm (by decide) rfl rfl rfl (by omega) ?_
        rw [p3]
        refine v_iconst (q := 159) (v := 1) dX10_come_158 rfl (by decide) ?_
        by_cases k1 : gI (xS X s) 3 = 1
        · refine v_icmp_ne (t := 183) (q := 162) dX10_come_159 (by decide) rfl (fun z => absurd k1 z) (fun _ => ?_)
          refine v_lld4 (q := 164) dX10_come_162 rfl ?_
          refine v_ald0 (q := 165) dX10_come_164 rfl rfl ?_
          refine w_ga (q := 168) (j := 4) dX10_come_165 rfl hm (by decide) gf_X10_20_9 ?_
          refine v_ild1 (q := 169) dX10_come_168 rfl ?_
          refine w_iald (q := 170) (n := 16) dX10_come_169 rfl hm (by decide) rfl rfl rfl (by omega) ?_
          rw [p4]
          refine v_i2l (q := 171) dX10_come_170 rfl ?_
          refine v_lmul (q := 172) dX10_come_171 rfl ?_
          refine v_ald0 (q := 173) dX10_come_172 rfl rfl ?_
          refine w_ga (q := 176) (j := 5) dX10_come_173 rfl hm (by decide) gf_X10_23_9 ?_
          refine v_ild1 (q := 177) dX10_come_176 rfl ?_
          refine w_iald (q := 178) (n := 16) dX10_come_177 rfl hm (by decide) rfl rfl rfl (by omega) ?_
          rw [p5]
          refine v_i2l (q := 179) dX10_come_178 rfl ?_
          refine v_ladd (q := 180) dX10_come_179 rfl ?_
          refine v_goto (q := 185) dX10_come_180 (by decide) ?_
          refine last kk _ e1 ?_
          unfold givV
          rw [if_pos k1]
        · refine v_icmp_ne (t := 183) (q := 162) dX10_come_159 (by decide) rfl (fun _ => ?_) (fun z => absurd z k1)
          refine v_lld4 (q := 185) dX10_come_183 rfl ?_
          refine last kk _ e1 ?_
          unfold givV
          rw [if_neg k1]
      refine v_ald0 (q := 123) dX10_come_122 rfl rfl ?_
      refine v_ild1 (q := 124) dX10_come_123 rfl ?_
      refine v_ald0 (q := 125) dX10_come_124 rfl rfl ?_
      refine w_ga (q := 128) (j := 3) dX10_come_125 rfl hm (by decide) gf_X10_17_9 ?_
      refine v_ild1 (q := 129) dX10_come_128 rfl ?_
      refine w_iald (q := 130) (n := 16) dX10_come_129 rfl hm (by decide) rfl rfl rfl (by omega) ?_
      rw [p3]
      refine v_iconst (q := 131) (v := 3) dX10_come_130 rfl (by decide) ?_
      by_cases k3 : gI (xS X s) 3 = 3
      · refine v_icmp_ne (t := 150) (q := 134) dX10_come_131 (by decide) rfl (fun z => absurd k3 z) (fun _ => ?_)
        have sa : 1 ≤ gI (xS X s) 6 ∧ gI (xS X s) 6 ≤ 1000 := by
          have := hsd
          unfold saidB at this
          rw [k3] at this
          exact of_decide_eq_true this
        have ap : 0 < gI (xS X s) 6 := by
          have := sa.1
          rw [fa_le] at this
          rw [fa_lt]
          have e : (1 : Int32).toInt = 1 := by decide
          have e0 : (0 : Int32).toInt = 0 := by decide
          omega
        refine v_lld4 (q := 136) dX10_come_134 rfl ?_
        refine v_ald0 (q := 137) dX10_come_136 rfl rfl ?_
        refine w_ga (q := 140) (j := 4) dX10_come_137 rfl hm (by decide) gf_X10_20_9 ?_
        refine v_ild1 (q := 141) dX10_come_140 rfl ?_
        refine w_iald (q := 142) (n := 16) dX10_come_141 rfl hm (by decide) rfl rfl rfl (by omega) ?_
        rw [p4]
        refine v_i2l (q := 143) dX10_come_142 rfl ?_
        refine v_callS (q := 146) (d' := d + 3 * n + 8) (av := [.long v, .long (gI (xS X s) 6).toInt64]) dX10_come_143 rfl ok_J9_floorMod_f86c9 ml_X10_225 st_J9_floorMod_f86c9 (by omega) rfl rfl (Nat.le_of_ble_eq_true rfl) ?_
        refine k_floorModL ((fa_wide_lt 0 (gI (xS X s) 6)).mpr ap) (fun r hr => ?_)
        rw [fmL_of hr]
        refine v_l2i (q := 147) dX10_come_146 rfl ?_
        refine v_goto (q := 151) dX10_come_147 (by decide) ?_
        refine val _ ?_
        unfold givK
        rw [if_pos ⟨k3, ap⟩]
      · refine v_icmp_ne (t := 150) (q := 134) dX10_come_131 (by decide) rfl (fun _ => ?_) (fun z => absurd z k3)
        refine v_ild2 (q := 151) dX10_come_150 rfl ?_
        refine val _ ?_
        unfold givK
        rw [if_neg (fun z => k3 z.1)]
end LE3
