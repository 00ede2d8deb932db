/-! 69: Windowed: rise, the second loop -/
/-- the windows at a slot: one or none -/
def atS (ln : Nat → List Wd) (x : Int64) : List Wd := (ln (cKey x).toNatClampNeg).filter (isAt (cBegin x) (cEnd x))
section L69
variable {g : Gl} {d : Nat} {h : Hp} {Q : Option Value → Hp → Prop} {ow : Nat → Nat} {s p lg A q1 q2 how c k : Nat} {ses : Bool} {sp mk to : Int32} {rows : List Rw} {ln : Nat → List Wd}
theorem WG.set {ac : Nat → Nat × Nat} {D1 D2 : List Int64} {s1 c1 b1 s2 c2 b2 f : Nat} {u : Int32} (hW : WG g h ow s p lg A q1 q2 how c ln ac rows D1 D2 s1 c1 b1 s2 c2 b2) (hs6 : s < 16) (f1 : 12 ≠ f) (f2 : 20 ≠ f) : WG g (sFI h f p u) ow s p lg A q1 q2 how c ln ac rows D1 D2 s1 c1 b1 s2 c2 b2 ∧ Fr ow ow (fun t => t = tP s) h (sFI h f p u) ∧ PFl [f] p h (sFI h f p u) := by
  obtain ⟨hC, h20, hL, hLog, hD1, hD2, gd⟩ := hW
  have frP : Fr ow ow (fun t => t = tP s) h (sFI h f p u) := Fr.of0 (P := fun a => a = p) (Smo_sFI rfl) (fun a _ e => e ▸ hC.2.1)
  have pf : PFl [f] p h (sFI h f p u) := ⟨rfl, fun f' hf => fi_ne _ _ _ _ (fun e => hf (by rw [e]; exact List.mem_singleton.mpr rfl)), fun _ => rfl⟩
  have n0 : ¬ (0 : Nat) = tP s := by unfold tP; omega
  exact ⟨⟨hC.on pf (fun e => f1 (List.mem_singleton.mp e)) rfl rfl rfl rfl, (fi_ne _ _ _ _ f2).trans h20, hL.fr gd frP (fun j hj => by unfold tP tg; omega) n0 rfl, hLog.fr gd.1 frP (by unfold tL tP; omega), hD1.fr gd.1 frP (by unfold tD tP; omega), hD2.fr gd.1 frP (by unfold tQ tP; omega), ⟨Wf_same rfl rfl gd.1, gd.2⟩⟩, frP, pf⟩
theorem atS_slot {b e : Int32} (hv : VB b e) (hk : k < 1000) : atS ln (cSlot (nI k) b e) = (ln k).filter (isAt b e) := by
  obtain ⟨d1, d2, d3⟩ := slot_dec hv hk
  unfold atS
  rw [d1, d2, d3, nI_clamp (by omega)]
theorem atS_hit {b e : Int32} {x : Int64} {y : Wd} {B C : List Wd} (hx : x = cSlot (nI k) b e) (hv : VB b e) (hk : k < 1000) (hL : ln k = B ++ y :: C) (hI : LnI ses s k sp mk rows (ln k)) (h1 : wB y = b) (h2 : wE y = e) : atS ln x = [y] := by
  rw [hx, atS_slot hv hk, hL, List.filter_append, List.filter_cons, if_pos (show isAt b e y = true from decide_eq_true ⟨h1, h2⟩)]
  rw [hL] at hI
  have hp := List.pairwise_append.mp hI.2
  have e1 : B.filter (isAt b e) = [] := List.filter_eq_nil_iff.mpr (fun z hz hh => by
    have := (hp.2.2 z hz y List.mem_cons_self).1
    rw [(of_decide_eq_true hh).1, h1] at this
    omega)
  have e2 : C.filter (isAt b e) = [] := List.filter_eq_nil_iff.mpr (fun z hz hh => by
    have := ((List.pairwise_cons.mp hp.2.1).1 z hz).1
    rw [(of_decide_eq_true hh).1, h1] at this
    omega)
  rw [e1, e2, List.nil_append]
theorem atS_miss {b e : Int32} {x : Int64} (hx : x = cSlot (nI k) b e) (hv : VB b e) (hk : k < 1000) (hn : ∀ y ∈ ln k, ¬ (wB y = b ∧ wE y = e)) : atS ln x = [] := by
  rw [hx, atS_slot hv hk]
  exact List.filter_eq_nil_iff.mpr (fun z hz hh => hn z hz (of_decide_eq_true hh))
theorem sub_add (a : Int32) (m n : Nat) : a - nI m - nI n = a - nI (m + n) := by
  rw [← nI_add]
  apply Int32.toBitVec_inj.mp
  simp only [Int32.toBitVec_sub, Int32.toBitVec_add]
  generalize (nI n).toBitVec = y
  generalize (nI m).toBitVec = z
  generalize a.toBitVec = x
  bv_omega
theorem rs_loop2 {R2 : List Int64} {ac : Nat → Nat × Nat} {s1 c1 b1 : Nat} {D1 : List Int64} {stI : Int32} {P : Int → Prop} (hs6 : s < 16) (h1s : 1 ≤ sp.toInt) (hI : ∀ j, j < 1000 → LnI ses s j sp mk rows (ln j)) (hv : sm vN ln < 1000000) (hRe : ∀ y ∈ R2, ¬ cEnd y + stI ≤ to) :
    ∀ (U : List Int64) (h : Hp) (s2 c2 b2 : Nat) (u4 u5 : Value), WG g h ow s p lg A q1 q2 how c ln ac rows D1 (U ++ R2) s1 c1 b1 s2 c2 b2 → (∀ x ∈ U, InW ln x P) → (U ++ R2).Pairwise (· < ·) → (∀ x ∈ U, cEnd x + stI ≤ to) → (U ++ R2).length < 1000000 →
      (∀ h', WG g h' ow s p lg A q1 q2 how c ln ac rows D1 R2 s1 c1 b1 s2 c2 b2 → Fr ow ow (SS s) h h' → PFl [24, 25] p h h' → fI h' 24 p = fI h 24 p - nI (U.map (fun x => (atS ln x).length)).sum → fI h' 25 p = fI h 25 p - nI (U.map (fun x => vN (atS ln x))).sum → hs h' = hs h → hz h' = hz h → Q none h') →
      V g mX8_rise (d + 9) 105 [.ref p, .int to, .int stI, .int (nI (U ++ R2).length), u4, u5] [] h Q := by
  intro U
  induction U with
  | nil =>
    intro h s2 c2 b2 u4 u5 hW hin hpw hUe hlen hQ
    have done : Q none h := hQ h hW (Fr.rf h) (PFl.rf _ _ _) (by rw [show nI (([] : List Int64).map (fun x => (atS ln x).length)).sum = (0 : Int32) from rfl, Int32.sub_zero]) (by rw [show nI (([] : List Int64).map (fun x => vN (atS ln x))).sum = (0 : Int32) from rfl, Int32.sub_zero]) rfl rfl
    rw [List.nil_append] at hpw hlen hW ⊢
    obtain ⟨hC, h20, hL, hLog, hD1, hD2, gd⟩ := hW
    have k1 : hK h p = 8 := hC.1
    have f19 : fP h 19 p = some q2 := hC.2.2.2.2.2.2.1
    have kq2 : hK h q2 = 3 := by
      obtain ⟨t, ht, _⟩ := hD2
      exact ht.1.1
    refine v_ild3 (q := 106) dX8_rise_105 rfl ?_
    refine v_if_le (t := 173) (q := 109) dX8_rise_106 (by decide) rfl (fun _ => ?_) (fun hn => ?_)
    · refine v_vret dX8_rise_173 rfl ?_
      exact done
    match hR : R2 with
    | [] => exact absurd (by decide) hn
    | y :: R =>
      have hRe' : ¬ cEnd y + stI ≤ to := hRe y (by first | exact List.mem_cons_self | (rw [hR]; exact List.mem_cons_self))
      refine v_ald0 (q := 110) dX8_rise_109 rfl rfl ?_
      refine v_getR (q := 113) dX8_rise_110 rfl gf_X8_26_7 (by assumption) (by assumption) ?_
      refine v_callV (q := 116) (d' := d + 8) (av := []) dX8_rise_113 rfl ok_X2_least CL2 ml_X8_69 im_X2_least se_X2_least (by assumption) (by omega) rfl rfl (Nat.le_of_ble_eq_true rfl) ?_
      refine k_hpLeast hD2 (fun z hz => Int64.le_of_lt ((List.pairwise_cons.mp hpw).1 z hz)) ?_
      refine v_callS (q := 119) (d' := d + 8) (av := [.long y]) dX8_rise_116 rfl ok_X0_endOf ml_X8_73 st_X0_endOf (by omega) rfl rfl (Nat.le_of_ble_eq_true rfl) ?_
      refine k_endOf ?_
      refine v_ild2 (q := 120) dX8_rise_119 rfl ?_
      refine v_iadd (q := 121) dX8_rise_120 rfl ?_
      refine v_ild1 (q := 122) dX8_rise_121 rfl ?_
      refine v_icmp_gt (t := 173) (q := 125) dX8_rise_122 (by decide) rfl (fun _ => ?_) (fun hc => absurd (Int32.not_lt.mp hc) hRe')
      refine v_vret dX8_rise_173 rfl ?_
      exact done
  | cons x U ih =>
    intro h s2 c2 b2 u4 u5 hW hin hpw hUe hlen hQ
    obtain ⟨hC, h20, hL, hLog, hD1, hD2, gd⟩ := hW
    rw [List.cons_append] at hpw hD2 hlen ⊢
    have k1 : hK h p = 8 := hC.1
    have f19 : fP h 19 p = some q2 := hC.2.2.2.2.2.2.1
    have kq2 : hK h q2 = 3 := by
      obtain ⟨t, ht, _⟩ := hD2
      exact ht.1.1
    have hmin : ∀ z ∈ U ++ R2, x ≤ z := fun z hz => Int64.le_of_lt ((List.pairwise_cons.mp hpw).1 z hz)
    rw [List.length_cons] at hlen ⊢
    refine v_ild3 (q := 106) dX8_rise_105 rfl ?_
    refine v_if_le (t := 173) (q := 109) dX8_rise_106 (by decide) rfl (fun hc => absurd hc (nI_nle (by omega) (by omega))) (fun hn => ?_)
    refine v_ald0 (q := 110) dX8_rise_109 rfl rfl ?_
    refine v_getR (q := 113) dX8_rise_110 rfl gf_X8_26_7 (by assumption) (by assumption) ?_
    refine v_callV (q := 116) (d' := d + 8) (av := []) dX8_rise_113 rfl ok_X2_least CL2 ml_X8_69 im_X2_least se_X2_least (by assumption) (by omega) rfl rfl (Nat.le_of_ble_eq_true rfl) ?_
    refine k_hpLeast hD2 hmin ?_
    refine v_callS (q := 119) (d' := d + 8) (av := [.long x]) dX8_rise_116 rfl ok_X0_endOf ml_X8_73 st_X0_endOf (by omega) rfl rfl (Nat.le_of_ble_eq_true rfl) ?_
    refine k_endOf ?_
    refine v_ild2 (q := 120) dX8_rise_119 rfl ?_
    refine v_iadd (q := 121) dX8_rise_120 rfl ?_
    refine v_ild1 (q := 122) dX8_rise_121 rfl ?_
    refine v_icmp_gt (t := 173) (q := 125) dX8_rise_122 (by decide) rfl (fun hc => absurd (hUe x List.mem_cons_self) (Int32.not_le.mpr hc)) (fun _ => ?_)
    refine v_ald0 (q := 126) dX8_rise_125 rfl rfl ?_
    refine v_ald0 (q := 127) dX8_rise_126 rfl rfl ?_
    refine v_getR (q := 130) dX8_rise_127 rfl gf_X8_26_7 (by assumption) (by assumption) ?_
    refine v_callV (q := 133) (d' := d + 8) (av := []) dX8_rise_130 rfl ok_X2_takeLeast CL2 ml_X8_79 im_X2_takeLeast se_X2_takeLeast (by assumption) (by omega) rfl rfl (Nat.le_of_ble_eq_true rfl) ?_
    refine k_hpTake (d := d + 7) hD2 gd.1 hmin (fun h1 G1 g1 wf1 z1 z2 => ?_)
    have m1 : ∀ j, j < 1000 → ¬ tg s j = tQ s := fun j hj => by unfold tQ tg; omega
    have m2 : ¬ tP s = tQ s := by unfold tP tQ; omega
    have m3 : ¬ tA s = tQ s := by unfold tA tQ; omega
    have m4 : ¬ tL = tQ s := by unfold tL tQ; omega
    have m0 : ¬ 0 = tQ s := by unfold tQ; omega
    have m5 : ¬ tD s = tQ s := by unfold tD tQ; omega
    have lt0 := hC.lt gd.1
    have sp1 : sameAt h h1 p := g1.2.2 p lt0.1 (by rw [hC.2.1]; exact m2)
    have sA1 : sameAt h h1 A := g1.2.2 A lt0.2 (by rw [hC.2.2.2.2.2.2.2.2.2]; exact m3)
    have W1 : WG g h1 ow s p lg A q1 q2 how c ln ac rows D1 (U ++ R2) s1 c1 b1 s2 c2 b2 := ⟨hC.on (PFl.of sp1) (by decide) rfl rfl sA1.1 sA1.2.1, (sp1.2.2.1 20).trans h20, hL.fr gd g1 m1 m0 sA1.2.2.2.2.2.2.2, hLog.fr gd.1 g1 m4, hD1.fr gd.1 g1 m5, G1, gd.fr g1 m0 wf1⟩
    have frS1 : Fr ow ow (SS s) h h1 := g1.mono (fun t e => by rw [e]; unfold SS tQ; omega)
    obtain ⟨k, b, e0, w0, i1, i2, i3, i4, i5, i6, i7⟩ := hin x List.mem_cons_self
    obtain ⟨la, al, e, Z, hZ, F1⟩ := W1.lane i1 i4
    have hIk := hI k i1
    have hE := hIk.ends h1s
    rw [hZ] at hE
    have hvk := sm_le vN ln i1
    have hlZ : Z.length ≤ vN (ln k) := by
      have := vN_len (ln k) (fun y hy => (hIk.1 y hy).1)
      rw [hZ, List.length_map] at this
      rw [hZ]
      exact this
    obtain ⟨kk1, kk2, kk3, kk4, kla, _⟩ := F1.kd
    refine v_callV (q := 136) (d' := d + 8) (av := [.long x]) dX8_rise_133 rfl ok_X8_windowAt CL7 ml_X8_82 im_X8_windowAt se_X8_windowAt (by assumption) (by omega) rfl rfl (Nat.le_of_ble_eq_true rfl) ?_
    refine k_windowAt (d := d + 2) kk1 kk2 kk3 kk4 kla F1.2.2.2.1 hE i2 i3 i1 (by omega) (fun r r1 r2 => ?_)
    have s1' : ((x :: U).map (fun x => (atS ln x).length)).sum = (atS ln x).length + (U.map (fun x => (atS ln x).length)).sum := by rw [List.map_cons, List.sum_cons]
    have s2' : ((x :: U).map (fun x => vN (atS ln x))).sum = vN (atS ln x) + (U.map (fun x => vN (atS ln x))).sum := by rw [List.map_cons, List.sum_cons]
    rw [s1', s2'] at hQ
    by_cases hcur : ∃ z ∈ Z, wB z.2 = b ∧ wE z.2 = e0
    · obtain ⟨⟨w, y⟩, hzm, hz1, hz2⟩ := hcur
      have hz1 : wB y = b := hz1
      have hz2 : wE y = e0 := hz2
      have er := r1 (w, y) hzm hz1 hz2
      subst er
      have hw := F1.2.2.2.1.2.2.2.2.1 (w, y) hzm
      have kw : hK h1 w = 7 := hw.1
      have f37 : fI h1 37 w = nI (wVs y).length := hw.2.2.2.2.2.1
      obtain ⟨Z1, Z2, hsp⟩ := List.append_of_mem hzm
      subst hsp
      have hLk : ln k = Z1.map (·.2) ++ y :: Z2.map (·.2) := by rw [hZ, List.map_append, List.map_cons]
      have ea := atS_hit i2 i3 i1 hLk hIk hz1 hz2
      rw [ea] at hQ
      obtain ⟨W2, f2, p2⟩ := W1.set (f := 24) (u := fI h1 24 p - 1) hs6 (by decide) (by decide)
      have npw : w ≠ p := fun e => by
        rw [e, kk1] at kw
        omega
      refine v_ast4 (q := 138) dX8_rise_136 rfl (by decide) rfl rfl ?_
      refine v_ald4 (q := 140) dX8_rise_138 rfl rfl ?_
      refine v_ifnull (r := some w) (t := 167) (q := 143) dX8_rise_140 (by decide) rfl (fun ha => by cases ha) (fun _ _ => ?_)
      refine v_ald0 (q := 144) dX8_rise_143 rfl rfl ?_
      refine v_dup (q := 145) dX8_rise_144 rfl rfl ?_
      refine v_getI (q := 148) dX8_rise_145 rfl gf_X8_97_7 (by assumption) ?_
      refine v_iconst (q := 149) (v := 1) dX8_rise_148 rfl (by decide) ?_
      refine v_isub (q := 150) dX8_rise_149 rfl ?_
      refine v_putI (q := 153) dX8_rise_150 rfl pf_X8_97_7 (by assumption) rfl rfl ?_
      have e24 : fI (sFI h1 24 p (fI h1 24 p - 1)) 24 p = fI h 24 p - nI 1 := by
        rw [fi_eq, sp1.2.2.1 24]
        rfl
      have e37 : fI (sFI h1 24 p (fI h1 24 p - 1)) 37 w = nI (wVs y).length := (fi_ne _ _ _ _ (by decide)).trans f37
      have e25 : fI (sFI h1 24 p (fI h1 24 p - 1)) 25 p = fI h 25 p := (fi_ne _ _ _ _ (by decide)).trans (sp1.2.2.1 25)
      have z3 : hs (sFI h1 24 p (fI h1 24 p - 1)) = hs h1 := rfl
      have z4 : hz (sFI h1 24 p (fI h1 24 p - 1)) = hz h1 := rfl
      have kw2 : hK (sFI h1 24 p (fI h1 24 p - 1)) w = 7 := kw
      have kp2 : hK (sFI h1 24 p (fI h1 24 p - 1)) p = 8 := kk1
      generalize sFI h1 24 p (fI h1 24 p - 1) = h2 at *
      obtain ⟨W3, f3, p3⟩ := W2.set (f := 25) (u := fI h2 25 p - nI (wVs y).length) hs6 (by decide) (by decide)
      refine v_ald0 (q := 154) dX8_rise_153 rfl rfl ?_
      refine v_dup (q := 155) dX8_rise_154 rfl rfl ?_
      refine v_getI (q := 158) dX8_rise_155 rfl gf_X8_100_7 (by assumption) ?_
      refine v_ald4 (q := 160) dX8_rise_158 rfl rfl ?_
      refine v_getI (q := 163) dX8_rise_160 rfl gf_X8_103_6 (by assumption) ?_
      rw [e37]
      refine v_isub (q := 164) dX8_rise_163 rfl ?_
      refine v_putI (q := 167) dX8_rise_164 rfl pf_X8_100_7 (by assumption) rfl rfl ?_
      have e25' : fI (sFI h2 25 p (fI h2 25 p - nI (wVs y).length)) 25 p = fI h 25 p - nI (wVs y).length := by rw [fi_eq, e25]
      have e24' : fI (sFI h2 25 p (fI h2 25 p - nI (wVs y).length)) 24 p = fI h 24 p - nI 1 := (fi_ne _ _ _ _ (by decide)).trans e24
      have z5 : hs (sFI h2 25 p (fI h2 25 p - nI (wVs y).length)) = hs h2 := rfl
      have z6 : hz (sFI h2 25 p (fI h2 25 p - nI (wVs y).length)) = hz h2 := rfl
      generalize sFI h2 25 p (fI h2 25 p - nI (wVs y).length) = h3 at *
      refine v_inc3 (q := 170) dX8_rise_167 rfl (by decide) rfl rfl ?_
      rw [dec1]
      refine v_goto (q := 105) dX8_rise_170 (by decide) ?_
      refine ih h3 s2 c2 b2 _ _ W3 (fun z hz => hin z (List.mem_cons_of_mem _ hz)) (List.pairwise_cons.mp hpw).2 (fun z hz => hUe z (List.mem_cons_of_mem _ hz)) (by omega) (fun h4 W4 f4 p4 l24 l25 z7 z8 => ?_)
      have frP : ∀ {a b : Hp}, Fr ow ow (fun t => t = tP s) a b → Fr ow ow (SS s) a b := fun f => f.mono (fun t e => by rw [e]; unfold SS tP; omega)
      refine hQ h4 W4 (frS1.tr ((frP f2).tr ((frP f3).tr f4))) ((((PFl.of sp1).mono (fun _ h => absurd h List.not_mem_nil)).tr ((p2.mono (fun f hf => by simp at hf; simp [hf])).tr ((p3.mono (fun f hf => by simp at hf; simp [hf])).tr p4 (fun _ h => h) (fun _ h => h)) (fun _ h => h) (fun _ h => h)) (fun _ h => h) (fun _ h => h))) ?_ ?_ (by omega) (by omega)
      · rw [l24, e24', sub_add]
        rfl
      · rw [l25, e25', sub_add]
        rfl
    · have hno : ∀ z ∈ Z, ¬ (wB z.2 = b ∧ wE z.2 = e0) := fun z hz hh => hcur ⟨z, hz, hh⟩
      have er := r2 hno
      subst er
      have ea : atS ln x = [] := atS_miss i2 i3 i1 (fun y hy hh => by
        rw [hZ] at hy
        obtain ⟨z, hz, ez⟩ := List.mem_map.mp hy
        exact hno z hz (by rw [ez]; exact hh))
      rw [ea] at hQ
      refine v_ast4 (q := 138) dX8_rise_136 rfl (by decide) rfl rfl ?_
      refine v_ald4 (q := 140) dX8_rise_138 rfl rfl ?_
      refine v_ifnull (r := none) (t := 167) (q := 143) dX8_rise_140 (by decide) rfl (fun _ => ?_) (fun a ha => by cases ha)
      refine v_inc3 (q := 170) dX8_rise_167 rfl (by decide) rfl rfl ?_
      rw [dec1]
      refine v_goto (q := 105) dX8_rise_170 (by decide) ?_
      refine ih h1 s2 c2 b2 _ _ W1 (fun z hz => hin z (List.mem_cons_of_mem _ hz)) (List.pairwise_cons.mp hpw).2 (fun z hz => hUe z (List.mem_cons_of_mem _ hz)) (by omega) (fun h4 W4 f4 p4 l24 l25 z7 z8 => ?_)
      refine hQ h4 W4 (frS1.tr f4) (((PFl.of sp1).mono (fun _ h => absurd h List.not_mem_nil)).tr p4 (fun _ h => h) (fun _ h => h)) ?_ ?_ (by omega) (by omega)
      · rw [l24, sp1.2.2.1 24, show ([] : List Wd).length + (U.map (fun x => (atS ln x).length)).sum = (U.map (fun x => (atS ln x).length)).sum from Nat.zero_add _]
      · rw [l25, sp1.2.2.1 25, show vN [] + (U.map (fun x => vN (atS ln x))).sum = (U.map (fun x => vN (atS ln x))).sum from Nat.zero_add _]
end L69
