/-! 24: Log.add -/
theorem bk_A {b n : Nat} (h0 : n % 1024 ≠ 0) (h : b * 1024 < n + 1) : b * 1024 < n := by omega
theorem bk_B {b n : Nat} (h0 : n % 1024 = 0) (h : b * 1024 < n + 1) (hne : b ≠ n / 1024) : b * 1024 < n := by omega
theorem bk_C {b n : Nat} (h : b * 1024 < n) (h0 : n % 1024 = 0) : b ≠ n / 1024 := by omega
theorem bk_D {n : Nat} (h0 : n % 1024 ≠ 0) : n / 1024 * 1024 < n := by omega
theorem bk_E {n : Nat} : n / 1024 * 1024 < n + 1 := by omega
theorem bk_F {i n : Nat} (h : i < n) (h0 : n % 1024 = 0) : i / 1024 ≠ n / 1024 := by omega
theorem bk_G {i n : Nat} (h : i < n) : i / 1024 * 1024 < n := by omega
theorem bk_H {b n : Nat} (h : ¬ b * 1024 < n) (hne : b ≠ n / 1024) : ¬ b * 1024 < n + 1 := by omega
theorem bk_I {b n : Nat} (h : b * 1024 < n) (hn : n < 192512) : b < 188 := by omega
theorem bk_J {b n : Nat} (h : b * 1024 < n) : b * 1024 < n + 1 := by omega
theorem bk_K {b n : Nat} (h0 : n % 1024 ≠ 0) (h : ¬ b * 1024 < n) : ¬ b * 1024 < n + 1 := by omega
theorem bk_L {n : Nat} (h0 : n % 1024 = 0) : ¬ n / 1024 * 1024 < n := by omega
section L24
variable {g : Gl} {d : Nat} {h : Hp} {Q : Option Value → Hp → Prop}
/-- the cells of a log -/
def LGc (lg C S n : Nat) (cb sb : Nat → Nat) (a : Nat) : Prop := a = lg ∨ a = C ∨ a = S ∨ ∃ b, b * 1024 < n ∧ (a = cb b ∨ a = sb b)
theorem k_logAdd {lg C S n : Nat} {cb sb : Nat → Nat} {x y : Int64} (hL : LGv h lg C S n cb sb) (wf : Wf h) (hn : n < 192512)
    (hQ : ∀ h' cb' sb', LGv h' lg C S (n + 1) cb' sb' → (∀ i, i < n → lgR h' cb' i = lgR h cb i ∧ lgR h' sb' i = lgR h sb i) → lgR h' cb' n = x → lgR h' sb' n = y → Smo (LGc lg C S n cb sb) h h' → Wf h' → (∀ b, b * 1024 < n → cb' b = cb b ∧ sb' b = sb b) → (n % 1024 ≠ 0 ∧ hz h' = hz h ∧ hs h' = hs h ∨ n % 1024 = 0 ∧ hz h' = hz h + 2 ∧ hs h' = hs h + 2048 ∧ cb' (n / 1024) = hz h ∧ sb' (n / 1024) = hz h + 1) → Q (some (.int (nI n))) h') : Call g mX3_add (d + 1) [.ref lg, .long x, .long y] h Q := by
  obtain ⟨l1, l2, l3, l4, l5, l6, l7, l8, l9, l10, l11, l12⟩ := hL
  have wlg := wf lg (by omega)
  have wC := wf C (by omega)
  have wS := wf S (by omega)
  have hlC : lg ≠ C := fun e => by rw [e, l4] at l1; cases l1
  have hlS : lg ≠ S := fun e => by rw [e, l6] at l1; cases l1
  refine Call.of [.ref lg, .long x, zz, .long y, zz, zz] (by decide) (Nat.le_of_ble_eq_true rfl) rfl ?_
  refine v_ald0 (q := 1) dX3_add_0 rfl rfl ?_
  refine v_getI (q := 4) dX3_add_1 rfl gf_X3_20_3 (by assumption) ?_
  rw [l9]
  refine v_bipush (q := 6) (v := 10) dX3_add_4 rfl (by decide) ?_
  refine v_ishr (q := 7) dX3_add_6 rfl ?_
  rw [blk_of (by omega)]
  refine v_ist5 (q := 9) dX3_add_7 rfl (by decide) rfl ?_
  refine v_ild5 (q := 11) dX3_add_9 rfl ?_
  refine v_sipush (q := 14) (v := 188) dX3_add_11 rfl (by decide) ?_
  refine v_icmp_lt (t := 19) (q := 17) dX3_add_14 (by decide) rfl (fun _ => ?_) (fun hc => absurd (show nI (n / 1024) < nI 188 from nI_lt (by omega) (by decide)) hc)
  refine v_ald0 (q := 20) dX3_add_19 rfl rfl ?_
  refine v_getR (q := 23) dX3_add_20 rfl gf_X3_13_3 (by assumption) (by assumption) ?_
  refine v_ild5 (q := 25) dX3_add_23 rfl ?_
  refine v_aald (q := 26) _ dX3_add_25 rfl ⟨l4, by decide, by decide⟩ rfl (by omega) (by omega) ?_
  have hb := l11 (n / 1024) (by omega)
  unfold LGb at hb
  by_cases h0 : n % 1024 = 0
  · -- new blocks
    rw [if_neg (bk_L h0)] at hb
    rw [hb.1]
    refine v_ifnull (r := none) (t := 39) (q := 29) dX3_add_26 (by decide) rfl (fun _ => ?_) (fun a ha => by cases ha)
    have kC1 : hK (nArr h 22 1024) C = 28 := by rw [hK_nArr, if_neg (Nat.ne_of_lt wC)]; exact l4
    have nC1 : hN (nArr h 22 1024) C = 188 := by rw [hN_nArr, if_neg (Nat.ne_of_lt wC)]; exact l5
    have kn1 : hK (nArr h 22 1024) (hz h) = 22 := by rw [hK_nArr, if_pos rfl]
    refine v_ald0 (q := 40) dX3_add_39 rfl rfl ?_
    refine v_getR (q := 43) dX3_add_40 rfl gf_X3_13_3 (by assumption) (by assumption) ?_
    refine v_ild5 (q := 45) dX3_add_43 rfl ?_
    refine v_sipush (q := 48) (v := 1024) dX3_add_45 rfl (by decide) ?_
    refine v_newarray (q := 50) (k := 22) dX3_add_48 rfl ⟨rfl, by decide⟩ ac_long (N := 1024) (by decide) (by decide) ?_
    refine v_aastA (q := 51) (n / 1024) dX3_add_50 rfl kC1 lOverJ kn1 rfl (by rw [nC1]; omega) (by rw [nC1]; omega) ?_
    generalize hh1 : sAP (nArr h 22 1024) C (va_up (aP (nArr h 22 1024) C) (n / 1024) (some (hz h))) = h1
    have z1 : hz h1 = hz h + 1 := by rw [← hh1]; rfl
    have s1 : hs h1 = hs h + 1024 := by rw [← hh1]; rfl
    have K1 : ∀ a, hK h1 a = if a = hz h then 22 else hK h a := fun a => by rw [← hh1]; rfl
    have N1 : ∀ a, hN h1 a = if a = hz h then 1024 else hN h a := fun a => by rw [← hh1]; rfl
    have I1 : fI h1 = fI h := by rw [← hh1]; rfl
    have P1 : fP h1 = fP h := by rw [← hh1]; rfl
    have L1 : ∀ a, a ≠ hz h → aL h1 a = aL h a := fun a ha => by rw [← hh1, aL_sAP, aL_nArr, if_neg ha]
    have A1 : ∀ a, a ≠ C → a ≠ hz h → aP h1 a = aP h a := fun a ha hb => by rw [← hh1, aP_sAP, if_neg ha, aP_nArr, if_neg hb]
    have AC : aP h1 C = va_up (aP h C) (n / 1024) (some (hz h)) := by rw [← hh1, aP_sAP, if_pos rfl, aP_nArr, if_neg (Nat.ne_of_lt wC)]
    have sm1 : Smo (LGc lg C S n cb sb) h h1 := by rw [← hh1]; exact Smo_nArr.andAP (Or.inl (Or.inr (Or.inl rfl)))
    have klg : hK h1 lg = 4 := by rw [K1, if_neg (Nat.ne_of_lt wlg)]; exact l1
    have p3' : fP h1 32 lg = some S := by rw [P1]; exact l3
    have kS1 : hK (nArr h1 22 1024) S = 28 := by rw [hK_nArr, if_neg (by omega), K1, if_neg (Nat.ne_of_lt wS)]; exact l6
    have nS1 : hN (nArr h1 22 1024) S = 188 := by rw [hN_nArr, if_neg (by omega), N1, if_neg (Nat.ne_of_lt wS)]; exact l7
    have kn2 : hK (nArr h1 22 1024) (hz h1) = 22 := by rw [hK_nArr, if_pos rfl]
    refine v_ald0 (q := 52) dX3_add_51 rfl rfl ?_
    refine v_getR (q := 55) dX3_add_52 rfl gf_X3_17_3 (by assumption) (by assumption) ?_
    refine v_ild5 (q := 57) dX3_add_55 rfl ?_
    refine v_sipush (q := 60) (v := 1024) dX3_add_57 rfl (by decide) ?_
    refine v_newarray (q := 62) (k := 22) dX3_add_60 rfl ⟨rfl, by decide⟩ ac_long (N := 1024) (by decide) (by decide) ?_
    refine v_aastA (q := 63) (n / 1024) dX3_add_62 rfl kS1 lOverJ kn2 rfl (by rw [nS1]; omega) (by rw [nS1]; omega) ?_
    generalize hh2 : sAP (nArr h1 22 1024) S (va_up (aP (nArr h1 22 1024) S) (n / 1024) (some (hz h1))) = h2
    have z2 : hz h2 = hz h + 2 := by rw [← hh2]; show hz h1 + 1 = _; omega
    have s2 : hs h2 = hs h + 2048 := by rw [← hh2]; show hs h1 + 1024 = _; omega
    have K2 : ∀ a, hK h2 a = if a = hz h1 then 22 else hK h1 a := fun a => by rw [← hh2]; rfl
    have N2 : ∀ a, hN h2 a = if a = hz h1 then 1024 else hN h1 a := fun a => by rw [← hh2]; rfl
    have I2 : fI h2 = fI h := by rw [← hh2]; exact I1
    have P2 : fP h2 = fP h := by rw [← hh2]; exact P1
    have L2 : ∀ a, a < hz h → aL h2 a = aL h a := fun a ha => by rw [← hh2, aL_sAP, aL_nArr, if_neg (by omega)]; exact L1 a (by omega)
    have BC : aP h2 C = va_up (aP h C) (n / 1024) (some (hz h)) := by rw [← hh2, aP_sAP, if_neg l8, aP_nArr, if_neg (by omega)]; exact AC
    have BS : aP h2 S = va_up (aP h S) (n / 1024) (some (hz h + 1)) := by rw [← hh2, aP_sAP, if_pos rfl, aP_nArr, if_neg (by omega), A1 S (Ne.symm l8) (by omega), z1]
    have sm2 : Smo (LGc lg C S n cb sb) h h2 := by rw [← hh2]; exact sm1.andArr.andAP (Or.inl (Or.inr (Or.inr (Or.inl rfl))))
    have Kold : ∀ a, a < hz h → hK h2 a = hK h a := fun a ha => by rw [K2, if_neg (by omega), K1, if_neg (by omega)]
    have Nold : ∀ a, a < hz h → hN h2 a = hN h a := fun a ha => by rw [N2, if_neg (by omega), N1, if_neg (by omega)]
    have kc : hK h2 (hz h) = 22 := by rw [K2, if_neg (by omega), K1, if_pos rfl]
    have nc : hN h2 (hz h) = 1024 := by rw [N2, if_neg (by omega), N1, if_pos rfl]
    have ks : hK h2 (hz h + 1) = 22 := by rw [K2, if_pos z1.symm]
    have ns : hN h2 (hz h + 1) = 1024 := by rw [N2, if_pos z1.symm]
    have wf2 : Wf h2 := fun a ha => by
      rw [z2]
      rw [K2] at ha
      by_cases c1 : a = hz h1
      · omega
      · rw [if_neg c1, K1] at ha
        by_cases c2 : a = hz h
        · omega
        · rw [if_neg c2] at ha
          have := wf a ha
          omega
    refine log_tail (c0 := hz h) (s0 := hz h + 1) (by rw [Kold lg wlg]; exact l1) (by rw [P2]; exact l2) (by rw [P2]; exact l3) (by rw [Kold C wC]; exact l4) (by rw [Nold C wC]; exact l5) (by rw [Kold S wS]; exact l6) (by rw [Nold S wS]; exact l7) (by rw [I2]; exact l9) hn (by rw [BC, va_up_self]) (by rw [BS, va_up_self]) kc nc ks ns (by omega) ?_
    have old : ∀ b, b * 1024 < n → cb b < hz h ∧ sb b < hz h := fun b hb => by
      have q := l11 b (bk_I hb hn)
      unfold LGb at q
      rw [if_pos hb] at q
      exact ⟨wf _ (by rw [q.2.2.1]; decide), wf _ (by rw [q.2.2.2.2.1]; decide)⟩
    generalize hv1 : vp_updL (aL h2 (hz h)) (n % 1024) x = v1
    generalize hv2 : vp_updL (aL h2 (hz h + 1)) (n % 1024) y = v2
    generalize hh3 : sFI (sAL (sAL h2 (hz h) v1) (hz h + 1) v2) 33 lg (nI (n + 1)) = h3
    have K3 : hK h3 = hK h2 := by rw [← hh3, hK_sFI, hK_sAL, hK_sAL]
    have N3 : hN h3 = hN h2 := by rw [← hh3, hN_sFI, hN_sAL, hN_sAL]
    have P3 : fP h3 = fP h := by rw [← hh3, fP_sFI, fP_sAL, fP_sAL, P2]
    have A3 : aP h3 = aP h2 := by rw [← hh3, aP_sFI, aP_sAL, aP_sAL]
    have z3 : hz h3 = hz h + 2 := by rw [← hh3, hz_sFI, hz_sAL, hz_sAL, z2]
    have s3 : hs h3 = hs h + 2048 := by rw [← hh3, hs_sFI, hs_sAL, hs_sAL, s2]
    have I3 : fI h3 33 lg = nI (n + 1) := by rw [← hh3, fI_sFI, if_pos ⟨rfl, rfl⟩]
    have L3 : ∀ a, a < hz h → aL h3 a = aL h a := fun a ha => by rw [← hh3, aL_sFI, aL_sAL, if_neg (by omega), aL_sAL, if_neg (by omega), L2 a ha]
    have Lc : aL h3 (hz h) = v1 := by rw [← hh3, aL_sFI, aL_sAL, if_neg (by omega), aL_sAL, if_pos rfl]
    have Ls : aL h3 (hz h + 1) = v2 := by rw [← hh3, aL_sFI, aL_sAL, if_pos rfl]
    have sm3 : Smo (LGc lg C S n cb sb) h h3 := by rw [← hh3]; exact ((sm2.andAL (Or.inr (Nat.le_refl _))).andAL (Or.inr (Nat.le_succ _))).andFI (Or.inl (Or.inl rfl))
    have wf3 : Wf h3 := Wf_same (z3.trans z2.symm) K3 wf2
    have K3o : ∀ a, a < hz h → hK h3 a = hK h a := fun a ha => by rw [K3]; exact Kold a ha
    have N3o : ∀ a, a < hz h → hN h3 a = hN h a := fun a ha => by rw [N3]; exact Nold a ha
    have KC : hK h3 (hz h) = 22 := by rw [K3]; exact kc
    have NC : hN h3 (hz h) = 1024 := by rw [N3]; exact nc
    have KS : hK h3 (hz h + 1) = 22 := by rw [K3]; exact ks
    have NS : hN h3 (hz h + 1) = 1024 := by rw [N3]; exact ns
    have BC3 : aP h3 C = va_up (aP h C) (n / 1024) (some (hz h)) := by rw [A3]; exact BC
    have BS3 : aP h3 S = va_up (aP h S) (n / 1024) (some (hz h + 1)) := by rw [A3]; exact BS
    clear hh1 hh2 hh3 K1 N1 I1 P1 L1 A1 AC sm1 K2 N2 I2 P2 L2 BC BS sm2 Kold Nold kc nc ks ns wf2 K3 N3 A3 z1 z2 s1 s2 klg kS1 nS1 kn2 kn1 kC1 nC1 p3'
    have blocks : ∀ b, b < 188 → LGb h3 C S (n + 1) (va_up cb (n / 1024) (hz h)) (va_up sb (n / 1024) (hz h + 1)) b := by
      intro b hb188
      have q := l11 b hb188
      unfold LGb at q ⊢
      by_cases c1 : b = n / 1024
      · rw [if_pos (by rw [c1]; exact bk_E), c1, va_up_self, va_up_self, BC3, BS3, va_up_self, va_up_self]
        exact ⟨rfl, rfl, KC, NC, KS, NS⟩
      · rw [va_up_ne _ _ c1, va_up_ne _ _ c1, BC3, BS3, va_up_ne _ _ c1, va_up_ne _ _ c1]
        by_cases c2 : b * 1024 < n
        · rw [if_pos c2] at q
          rw [if_pos (bk_J c2)]
          obtain ⟨o1, o2⟩ := old b c2
          rw [K3o _ o1, K3o _ o2, N3o _ o1, N3o _ o2]
          exact q
        · rw [if_neg c2] at q
          rw [if_neg (bk_H c2 c1)]
          exact q
    have apart : ∀ b b', b * 1024 < n + 1 → b' * 1024 < n + 1 → (va_up cb (n / 1024) (hz h) b = va_up cb (n / 1024) (hz h) b' → b = b') ∧ (va_up sb (n / 1024) (hz h + 1) b = va_up sb (n / 1024) (hz h + 1) b' → b = b') ∧ va_up cb (n / 1024) (hz h) b ≠ va_up sb (n / 1024) (hz h + 1) b' := by
      intro b b' hb1 hb2
      by_cases c1 : b = n / 1024
      · by_cases c2 : b' = n / 1024
        · rw [c1, c2, va_up_self, va_up_self]
          exact ⟨fun _ => rfl, fun _ => rfl, Nat.ne_of_lt (Nat.lt_succ_self _)⟩
        · obtain ⟨o1, o2⟩ := old b' (bk_B h0 hb2 c2)
          rw [c1, va_up_self, va_up_self, va_up_ne _ _ c2, va_up_ne _ _ c2]
          exact ⟨fun e => absurd e (Nat.ne_of_gt o1), fun e => absurd e (Nat.ne_of_gt (Nat.lt_succ_of_lt o2)), Nat.ne_of_gt o2⟩
      · obtain ⟨o1, o2⟩ := old b (bk_B h0 hb1 c1)
        by_cases c2 : b' = n / 1024
        · rw [c2, va_up_self, va_up_self, va_up_ne _ _ c1, va_up_ne _ _ c1]
          exact ⟨fun e => absurd e (Nat.ne_of_lt o1), fun e => absurd e (Nat.ne_of_lt (Nat.lt_succ_of_lt o2)), Nat.ne_of_lt (Nat.lt_succ_of_lt o1)⟩
        · rw [va_up_ne _ _ c1, va_up_ne _ _ c1, va_up_ne _ _ c2, va_up_ne _ _ c2]
          exact l12 b b' (bk_B h0 hb1 c1) (bk_B h0 hb2 c2)
    have hn1 : n + 1 ≤ 192512 := Nat.succ_le_of_lt hn
    have q1 : hK h3 lg = 4 := by rw [K3o lg wlg]; exact l1
    have q2 : fP h3 31 lg = some C := by rw [P3]; exact l2
    have q3 : fP h3 32 lg = some S := by rw [P3]; exact l3
    have q4 : hK h3 C = 28 := by rw [K3o C wC]; exact l4
    have q5 : hN h3 C = 188 := by rw [N3o C wC]; exact l5
    have q6 : hK h3 S = 28 := by rw [K3o S wS]; exact l6
    have q7 : hN h3 S = 188 := by rw [N3o S wS]; exact l7
    have LG : LGv h3 lg C S (n + 1) (va_up cb (n / 1024) (hz h)) (va_up sb (n / 1024) (hz h + 1)) := ⟨q1, q2, q3, q4, q5, q6, q7, l8, I3, hn1, blocks, apart⟩
    have same : ∀ i, i < n → lgR h3 (va_up cb (n / 1024) (hz h)) i = lgR h cb i ∧ lgR h3 (va_up sb (n / 1024) (hz h + 1)) i = lgR h sb i := by
      intro i hi
      obtain ⟨o1, o2⟩ := old (i / 1024) (bk_G hi)
      unfold lgR
      rw [va_up_ne _ _ (bk_F hi h0), va_up_ne _ _ (bk_F hi h0), L3 _ o1, L3 _ o2]
      exact ⟨rfl, rfl⟩
    have nx : lgR h3 (va_up cb (n / 1024) (hz h)) n = x := by
      unfold lgR
      rw [va_up_self, Lc, ← hv1]
      exact pk_uLs
    have ny : lgR h3 (va_up sb (n / 1024) (hz h + 1)) n = y := by
      unfold lgR
      rw [va_up_self, Ls, ← hv2]
      exact pk_uLs
    have keep : ∀ b, b * 1024 < n → va_up cb (n / 1024) (hz h) b = cb b ∧ va_up sb (n / 1024) (hz h + 1) b = sb b := fun b hb => ⟨va_up_ne _ _ (bk_C hb h0), va_up_ne _ _ (bk_C hb h0)⟩
    have c1 : va_up cb (n / 1024) (hz h) (n / 1024) = hz h := va_up_self _ _ _
    have c2 : va_up sb (n / 1024) (hz h + 1) (n / 1024) = hz h + 1 := va_up_self _ _ _
    generalize va_up cb (n / 1024) (hz h) = cb' at *
    generalize va_up sb (n / 1024) (hz h + 1) = sb' at *
    exact hQ h3 cb' sb' LG same nx ny sm3 wf3 keep (Or.inr ⟨h0, z3, s3, c1, c2⟩)
  · -- the blocks are there
    rw [if_pos (bk_D h0)] at hb
    obtain ⟨b1, b2, b3, b4, b5, b6⟩ := hb
    rw [b1]
    refine v_ifnull (r := some (cb (n / 1024))) (t := 39) (q := 29) dX3_add_26 (by decide) rfl (fun hc => by cases hc) (fun _ _ => ?_)
    refine v_ald0 (q := 30) dX3_add_29 rfl rfl ?_
    refine v_getR (q := 33) dX3_add_30 rfl gf_X3_17_3 (by assumption) (by assumption) ?_
    refine v_ild5 (q := 35) dX3_add_33 rfl ?_
    refine v_aald (q := 36) _ dX3_add_35 rfl ⟨l6, by decide, by decide⟩ rfl (by omega) (by omega) ?_
    rw [b2]
    refine v_ifnonnull (r := some (sb (n / 1024))) (t := 63) (q := 39) dX3_add_36 (by decide) rfl (fun _ _ => ?_) (fun hc => by cases hc)
    have hne := (l12 (n / 1024) (n / 1024) (bk_D h0) (bk_D h0)).2.2
    refine log_tail l1 l2 l3 l4 l5 l6 l7 l9 hn b1 b2 b3 b4 b5 b6 hne ?_
    refine hQ _ cb sb ⟨l1, l2, l3, l4, l5, l6, l7, l8, by rw [fI_sFI, if_pos ⟨rfl, rfl⟩], by omega, fun b hb => ?_, fun b b' q1 q2 => l12 b b' (bk_A h0 q1) (bk_A h0 q2)⟩ (fun i hi => ?_) ?_ ?_ ?_ (Wf_same rfl rfl wf) (fun b _ => ⟨rfl, rfl⟩) (Or.inl ⟨h0, rfl, rfl⟩)
    · have q := l11 b hb
      unfold LGb at q ⊢
      by_cases c2 : b * 1024 < n
      · rw [if_pos c2] at q
        rw [if_pos (bk_J c2)]
        exact q
      · rw [if_neg c2] at q
        rw [if_neg (bk_K h0 c2)]
        exact q
    · unfold lgR
      have m1 := l12 (i / 1024) (n / 1024) (bk_G hi) (bk_D h0)
      have m2 := l12 (n / 1024) (i / 1024) (bk_D h0) (bk_G hi)
      refine ⟨?_, ?_⟩
      · rw [aL_sFI, aL_sAL, if_neg m1.2.2, aL_sAL]
        by_cases c : cb (i / 1024) = cb (n / 1024)
        · rw [if_pos c, pk_uLn (fun e => by have := m1.1 c; omega), c]
        · rw [if_neg c]
      · rw [aL_sFI, aL_sAL]
        by_cases c : sb (i / 1024) = sb (n / 1024)
        · rw [if_pos c, pk_uLn (fun e => by have := m1.2.1 c; omega), c]
        · rw [if_neg c, aL_sAL, if_neg (fun e => m2.2.2 e.symm)]
    · unfold lgR
      rw [aL_sFI, aL_sAL, if_neg hne, aL_sAL, if_pos rfl]
      exact pk_uLs
    · unfold lgR
      rw [aL_sFI, aL_sAL, if_pos rfl]
      exact pk_uLs
    · exact ((Smo_sAL (Or.inr (Or.inr (Or.inr ⟨n / 1024, bk_D h0, Or.inl rfl⟩)))).andAL (Or.inl (Or.inr (Or.inr (Or.inr ⟨n / 1024, bk_D h0, Or.inr rfl⟩))))).andFI (Or.inl (Or.inl rfl))
end L24
