/-! C5: the model: comeFixed -/
theorem backOf_le (s k : Nat) (rows : List Rw) (w : Wd) : (backOf s k rows w).length ≤ 1 := by
  unfold backOf
  split
  · exact Nat.zero_le _
  · split
    · exact Nat.zero_le _
    · exact Nat.le_refl _
theorem finW_le {s k how : Nat} {gv : Prop} [Decidable gv] {rows : List Rw} {x : Wd} : (finW s k how gv rows x).2.length ≤ rows.length + 2 := by
  unfold finW
  have := backOf_le s k rows x
  split
  · show (rows ++ backOf s k rows x ++ [_]).length ≤ _
    rw [List.length_append, List.length_append, List.length_singleton]
    omega
  · exact Nat.le_add_right _ _
section LC5
variable {g : Gl} {d : Nat} {h : Hp} {m : Nat} {Q : Option Value → Hp → Prop} {X : Sg} {s ky : Nat}
theorem st_fix {S : Stg} {s : Nat} (hses : sSes S = false) (hs : saidB (gI S 3) (gI S 6) (gI S 7) = true) (hO : stOK s S) : sSt S = if gI S 3 = 4 then gI S 6 else gI S 7 := by
  have h6 : ¬ gI S 3 = 6 := fun z => by
    unfold sSes at hses
    rw [decide_eq_true z] at hses
    cases hses
  have i1 : (1 : Int32).toInt = 1 := by decide
  unfold sSt stW spW
  rw [if_neg h6]
  rcases hO.2.2.2.2 with e | e | e
  · rw [e] at hs ⊢
    have h := of_decide_eq_true hs
    rw [if_neg (show ¬ (4 : Int32) = 5 by decide), if_pos (rfl : (4 : Int32) = 4)]
    by_cases hc : 1 < gI S 6
    · rw [if_pos hc]
    · rw [if_neg hc]
      rw [fa_lt, i1] at hc
      have := h.1
      rw [fa_le, i1] at this
      rw [fa_eq, i1]
      omega
  · rw [e] at hs ⊢
    have h := of_decide_eq_true hs
    rw [if_pos (rfl : (5 : Int32) = 5), if_neg (show ¬ (5 : Int32) = 4 by decide)]
    by_cases hc : 1 < gI S 7
    · rw [if_pos hc]
    · rw [if_neg hc]
      rw [fa_lt, i1] at hc
      have := h.2.1.1
      rw [fa_le, i1] at this
      rw [fa_eq, i1]
      omega
  · exact absurd e h6
theorem cf_loop {mi fi : Int32} {va : Int64} (hm : MK h m) (h16 : xM X ≤ 16) (hs : s < xM X) (hW : isW (xS X s) = true) (hses : sSes (xS X s) = false) (hO : stOK s (xS X s)) (hk : ky < 1000) (hmi : mi.toInt ≤ 100000) :
    ∀ (n : Nat) (b : Int32) (T : (Nat → List Wd) × List Rw × Nat) (v : Mu) (ws : List (Option Mw)), n ≤ 4 → MR v (zS X s T) ws → LnI false s ky (sSp (xS X s)) (gI (xS X s) 1) T.2.1 (T.1 ky) → -10000 ≤ b.toInt → b.toInt ≤ 120000 → 0 < b.toInt + (sSp (xS X s)).toInt → mi.toInt < b.toInt + n * (sSt (xS X s)).toInt → tot entS (zS X s T) + n ≤ 48000 → T.2.1.length + 2 * n + 2 < 200000 → (∀ x ∈ T.1 ky, b.toInt ≤ (wB x).toInt → (wVs x).length < 12000) →
      (∀ v' ws', MR v' (zS X s ((begs n b (sSt (xS X s)) mi).foldl (enS false s (sHow (xS X s)) (sEa (xS X s)) (sSp (xS X s)) (gI (xS X s) 21) (gI (xS X s) 1) ky va) T)) ws' → Q none (mh h m v')) →
      V g mX10_comeFixed (d + 4) 52 [.ref m, .int (nI s), .int (nI ky), .int mi, .long va, zz, .int (sSt (xS X s)), .int fi, .int b, zz, zz, zz] [] (mh h m v) Q := by
  obtain ⟨B1, B2, B3, B4, B5, B6, B7, B8, B9, B10, B11, B12⟩ := id hO.1
  intro n
  induction n with
  | zero =>
    intro b T v ws hn hR hI b1 b2 b3 hc hE hr hl hQ
    refine v_ild8 (q := 54) dX10_comeFixed_52 rfl ?_
    refine v_ild3 (q := 55) dX10_comeFixed_54 rfl ?_
    refine v_icmp_gt (t := 225) (q := 58) dX10_comeFixed_55 (by decide) rfl (fun _ => ?_) (fun z => absurd (show mi < b by rw [fa_lt]; omega) z)
    refine v_vret dX10_comeFixed_225 rfl ?_
    exact hQ v ws hR
  | succ n ih =>
    intro b T v ws hn hR hI b1 b2 b3 hc hE hr hl hQ
    refine v_ild8 (q := 54) dX10_comeFixed_52 rfl ?_
    refine v_ild3 (q := 55) dX10_comeFixed_54 rfl ?_
    by_cases hle : b ≤ mi
    · refine v_icmp_gt (t := 225) (q := 58) dX10_comeFixed_55 (by decide) rfl (fun z => absurd hle (Int32.not_le.mpr z)) (fun _ => ?_)
      have eb : begs (n + 1) b (sSt (xS X s)) mi = b :: begs n (b + sSt (xS X s)) (sSt (xS X s)) mi := if_pos hle
      rw [eb, List.foldl_cons] at hQ
      have hle2 := hle
      rw [fa_le] at hle2
      have hB : BdE (sSp (xS X s)) b := ⟨B4, B5, b1, by omega, b3⟩
      refine cf_step (d := d) hm hR h16 hs hW hses hO hk hI hB (by omega) (by omega) (fun x hx hxb => hl x hx (by rw [hxb]; exact Int.le_refl _)) (fun v1 ws1 hR1 => ?_)
      have ebst : (b + sSt (xS X s)).toInt = b.toInt + (sSt (xS X s)).toInt := i32_add (by omega) (by omega)
      have hmul : ((n + 1 : Nat) : Int) * (sSt (xS X s)).toInt = n * (sSt (xS X s)).toInt + (sSt (xS X s)).toInt := by
        rw [Int.natCast_add, Int.add_mul]
        simp
      refine v_ild8 (q := 217) dX10_comeFixed_215 rfl ?_
      refine v_ild6 (q := 219) dX10_comeFixed_217 rfl ?_
      refine v_iadd (q := 220) dX10_comeFixed_219 rfl ?_
      refine v_ist8 (q := 222) dX10_comeFixed_220 rfl (by decide) rfl ?_
      refine v_goto (q := 52) dX10_comeFixed_222 (by decide) ?_
      have eE : (b + sSp (xS X s)).toInt = b.toInt + (sSp (xS X s)).toInt := i32_add (by omega) (by omega)
      by_cases hdr : b + sSp (xS X s) + gI (xS X s) 21 ≤ gI (xS X s) 1
      · have eEn : enS false s (sHow (xS X s)) (sEa (xS X s)) (sSp (xS X s)) (gI (xS X s) 21) (gI (xS X s) 1) ky va T b = (T.1, T.2.1, T.2.2 + 1) := if_pos hdr
        have eT : tot entS (zS X s (T.1, T.2.1, T.2.2 + 1)) = tot entS (zS X s T) := by
          have t1 := tot_set entS X hs (stT (xS X s) T.1 T.2.2) T.2.1
          have t2 := tot_set entS X hs (stT (xS X s) T.1 (T.2.2 + 1)) T.2.1
          have e1 : entS (stT (xS X s) T.1 T.2.2) = sm vN T.1 := if_pos hW
          have e2 : entS (stT (xS X s) T.1 (T.2.2 + 1)) = sm vN T.1 := if_pos hW
          show tot entS (xSet X s (stT (xS X s) T.1 (T.2.2 + 1)) T.2.1) = tot entS (xSet X s (stT (xS X s) T.1 T.2.2) T.2.1)
          omega
        rw [eEn] at hR1 hQ
        exact ih (b + sSt (xS X s)) (T.1, T.2.1, T.2.2 + 1) v1 ws1 (by omega) hR1 hI (by omega) (by omega) (by omega) (by omega) (by omega) (show T.2.1.length + 2 * n + 2 < 200000 by omega) (fun x hx hb => hl x hx (by omega)) hQ
      · have eEn : enS false s (sHow (xS X s)) (sEa (xS X s)) (sSp (xS X s)) (gI (xS X s) 21) (gI (xS X s) 1) ky va T b = (upR T.1 ky (entLn false s ky (sHow (xS X s)) (sEa (xS X s)) (gI (xS X s) 1) b (b + sSp (xS X s)) va (T.1 ky) T.2.1), (entW false s ky (sHow (xS X s)) (sEa (xS X s)) (gI (xS X s) 1) b (b + sSp (xS X s)) va (T.1 ky) T.2.1).2, T.2.2) := if_neg hdr
        have hnd : (gI (xS X s) 1).toInt < b.toInt + (sSp (xS X s)).toInt + (gI (xS X s) 21).toInt := by
          rw [fa_le, i32_add (by rw [eE]; omega) (by rw [eE]; omega), eE] at hdr
          omega
        obtain ⟨n1, _⟩ := ent_cnt (how := sHow (xS X s)) (ea := sEa (xS X s)) (v := va) (sty := (gI (xS X s) 21).toInt) hI hB hnd (fun z => by cases z)
        have hI1 := hI.ent (how := sHow (xS X s)) (ea := sEa (xS X s)) (v := va) hB
        have hwl : (entW false s ky (sHow (xS X s)) (sEa (xS X s)) (gI (xS X s) 1) b (b + sSp (xS X s)) va (T.1 ky) T.2.1).2.length ≤ T.2.1.length + 2 := finW_le
        have t2 := sm_upd vN T.1 hk (entLn false s ky (sHow (xS X s)) (sEa (xS X s)) (gI (xS X s) 1) b (b + sSp (xS X s)) va (T.1 ky) T.2.1)
        have hmem : ∀ x ∈ entLn false s ky (sHow (xS X s)) (sEa (xS X s)) (gI (xS X s) 1) b (b + sSp (xS X s)) va (T.1 ky) T.2.1, b.toInt < (wB x).toInt → (wVs x).length < 12000 := fun x hx hb => by
          obtain ⟨pA, pT, pB, _⟩ := hI.parts b (b + sSp (xS X s))
          unfold entLn at hx
          rcases List.mem_append.mp hx with hx | hx
          · exact hl x (pA x hx) (by omega)
          · rcases List.mem_cons.mp hx with e | hx
            · obtain ⟨x1, x2, x3, x4, x5, x6, x7, hrowX⟩ := ent_x (v := va) hI hB
              obtain ⟨y1, _⟩ := finW_p (how := sHow (xS X s)) (gv := entG false s ky T.2.1 (entT false b (b + sSp (xS X s)) (T.1 ky)) (gI (xS X s) 1) (sEa (xS X s)) (entX false b (b + sSp (xS X s)) va (entT false b (b + sSp (xS X s)) (T.1 ky))) = true) hrowX
              rw [e] at hb
              have y1' : wB (entW false s ky (sHow (xS X s)) (sEa (xS X s)) (gI (xS X s) 1) b (b + sSp (xS X s)) va (T.1 ky) T.2.1).1 = wB (entX false b (b + sSp (xS X s)) va (entT false b (b + sSp (xS X s)) (T.1 ky))) := y1
              rw [y1'] at hb
              obtain ⟨p1, p2, p3, p4⟩ := ent_pos hI hB
              exfalso
              match hT : entT false b (b + sSp (xS X s)) (T.1 ky) with
              | [] =>
                rw [hT] at hb
                exact absurd hb (Int.lt_irrefl _)
              | y :: r =>
                have h1 := p2 y (by rw [hT]; exact List.mem_cons_self)
                rw [hT] at hb
                simp at h1
                have : b.toInt < (wB y).toInt := hb
                omega
            · exact hl x (pB x hx) (by omega)
        have eT : ∀ (L' : List Wd) (R' : List Rw), tot entS (zS X s (upR T.1 ky L', R', T.2.2)) + sm vN T.1 = tot entS (zS X s T) + sm vN (upR T.1 ky L') := fun L' R' => by
          have t1 := tot_set entS X hs (stT (xS X s) T.1 T.2.2) T.2.1
          have t2 := tot_set entS X hs (stT (xS X s) (upR T.1 ky L') T.2.2) R'
          have e1 : entS (stT (xS X s) T.1 T.2.2) = sm vN T.1 := if_pos hW
          have e2 : entS (stT (xS X s) (upR T.1 ky L') T.2.2) = sm vN (upR T.1 ky L') := if_pos hW
          show tot entS (xSet X s (stT (xS X s) (upR T.1 ky L') T.2.2) R') + _ = tot entS (xSet X s (stT (xS X s) T.1 T.2.2) T.2.1) + _
          omega
        rw [eEn] at hR1 hQ
        have eT' := eT (entLn false s ky (sHow (xS X s)) (sEa (xS X s)) (gI (xS X s) 1) b (b + sSp (xS X s)) va (T.1 ky) T.2.1) (entW false s ky (sHow (xS X s)) (sEa (xS X s)) (gI (xS X s) 1) b (b + sSp (xS X s)) va (T.1 ky) T.2.1).2
        generalize entLn false s ky (sHow (xS X s)) (sEa (xS X s)) (gI (xS X s) 1) b (b + sSp (xS X s)) va (T.1 ky) T.2.1 = L1 at *
        generalize (entW false s ky (sHow (xS X s)) (sEa (xS X s)) (gI (xS X s) 1) b (b + sSp (xS X s)) va (T.1 ky) T.2.1).2 = R1 at *
        refine ih (b + sSt (xS X s)) (upR T.1 ky L1, R1, T.2.2) v1 ws1 (by omega) hR1 ?_ (by omega) (by omega) (by omega) (by omega) (by omega) (show R1.length + 2 * n + 2 < 200000 by omega) (fun x hx hb => ?_) hQ
        · show LnI false s ky _ _ R1 (upR T.1 ky L1 ky)
          rw [upR_at]
          exact hI1
        · have hx : x ∈ upR T.1 ky L1 ky := hx
          rw [upR_at] at hx
          exact hmem x hx (by omega)
    · refine v_icmp_gt (t := 225) (q := 58) dX10_comeFixed_55 (by decide) rfl (fun _ => ?_) (fun z => absurd (Int32.not_le.mp hle) z)
      have eb : begs (n + 1) b (sSt (xS X s)) mi = [] := if_neg hle
      rw [eb] at hQ
      refine v_vret dX10_comeFixed_225 rfl ?_
      exact hQ v ws hR
theorem q_comeFixed {u : Mu} {ws : List (Option Mw)} {T : (Nat → List Wd) × List Rw × Nat} {mi : Int32} {va : Int64} (hm : MK h m) (h16 : xM X ≤ 16) (hs : s < xM X) (hW : isW (xS X s) = true) (hses : sSes (xS X s) = false) (hsd : saidB (gI (xS X s) 3) (gI (xS X s) 6) (gI (xS X s) 7) = true) (hO : stOK s (xS X s)) (hk : ky < 1000) (m0 : 0 ≤ mi.toInt) (m1 : mi.toInt ≤ 100000)
    (hR : MR u (zS X s T) ws) (hI : LnI false s ky (sSp (xS X s)) (gI (xS X s) 1) T.2.1 (T.1 ky)) (hE : tot entS (zS X s T) + 4 ≤ 48000) (hr : T.2.1.length + 10 < 200000) (hl : ∀ x ∈ T.1 ky, (wVs x).length < 12000)
    (hQ : ∀ v' ws', MR v' (zS X s (tkS false s (sHow (xS X s)) (sEa (xS X s)) (sSp (xS X s)) (sSt (xS X s)) (gI (xS X s) 21) (gI (xS X s) 1) ky mi va T)) ws' → Q none (mh h m v')) :
    Call g mX10_comeFixed (d + 4) [.ref m, .int (nI s), .int (nI ky), .int mi, .long va] (mh h m u) Q := by
  obtain ⟨B1, B2, B3, B4, B5, B6, B7, B8, B9, B10, B11, B12⟩ := id hO.1
  have hst := st_fix hses hsd hO
  have hsp := sp_fix hses
  have rs := hR.1.2.2.1 s hs
  rw [zS_s] at rs
  have r3 : mI u 3 s = gI (xS X s) 3 := rs.1.1
  have r4 : mI u 4 s = gI (xS X s) 6 := rs.1.2.1
  have r5 : mI u 5 s = gI (xS X s) 7 := rs.1.2.2.1
  refine Call.of [.ref m, .int (nI s), .int (nI ky), .int mi, .long va, zz, zz, zz, zz, zz, zz, zz] (by decide) (Nat.le_of_ble_eq_true rfl) rfl ?_
  have rest : V g mX10_comeFixed (d + 4) 25 [.ref m, .int (nI s), .int (nI ky), .int mi, .long va, zz, zz, zz, zz, zz, zz, zz] [.int (sSt (xS X s))] (mh h m u) Q := by
    refine v_ist6 (q := 27) dX10_comeFixed_25 rfl (by decide) rfl ?_
    refine v_ild3 (q := 28) dX10_comeFixed_27 rfl ?_
    refine v_ald0 (q := 29) dX10_comeFixed_28 rfl rfl ?_
    refine w_ga (q := 32) (j := 4) dX10_comeFixed_29 rfl hm (by decide) gf_X10_20_9 ?_
    refine v_ild1 (q := 33) dX10_comeFixed_32 rfl ?_
    refine w_iald (q := 34) (n := 16) dX10_comeFixed_33 rfl hm (by decide) rfl rfl rfl (by omega) ?_
    rw [r4, ← hsp]
    refine v_isub (q := 35) dX10_comeFixed_34 rfl ?_
    refine v_ild6 (q := 37) dX10_comeFixed_35 rfl ?_
    refine v_callS (q := 40) (d' := d + 3) (av := [.int (mi - sSp (xS X s)), .int (sSt (xS X s))]) dX10_comeFixed_37 rfl ok_J9_floorDiv_7cf53 ml_X10_176 st_J9_floorDiv_7cf53 (by omega) rfl rfl (Nat.le_of_ble_eq_true rfl) ?_
    refine k_floorDiv (by rw [fa_lt]; exact B6) (fun r hr' => ?_)
    obtain ⟨e1, e2, e3⟩ := fst_int B4 B5 B6 B7 m0 m1 hr'
    refine v_ild6 (q := 42) dX10_comeFixed_40 rfl ?_
    refine v_imul (q := 43) dX10_comeFixed_42 rfl ?_
    refine v_ild6 (q := 45) dX10_comeFixed_43 rfl ?_
    refine v_iadd (q := 46) dX10_comeFixed_45 rfl ?_
    rw [e1]
    refine v_ist7 (q := 48) dX10_comeFixed_46 rfl (by decide) rfl ?_
    refine v_ild7 (q := 50) dX10_comeFixed_48 rfl ?_
    refine v_ist8 (q := 52) dX10_comeFixed_50 rfl (by decide) rfl ?_
    refine cf_loop (d := d) hm h16 hs hW hses hO hk m1 4 _ T u ws (Nat.le_refl _) hR hI (by omega) (by omega) (by omega) (by omega) (by omega) (by omega) (fun x hx _ => hl x hx) (fun v' ws' hR' => hQ v' ws' hR')
  refine v_ald0 (q := 1) dX10_comeFixed_0 rfl rfl ?_
  refine w_ga (q := 4) (j := 3) dX10_comeFixed_1 rfl hm (by decide) gf_X10_17_9 ?_
  refine v_ild1 (q := 5) dX10_comeFixed_4 rfl ?_
  refine w_iald (q := 6) (n := 16) dX10_comeFixed_5 rfl hm (by decide) rfl rfl rfl (by omega) ?_
  rw [r3]
  refine v_iconst (q := 7) (v := 4) dX10_comeFixed_6 rfl (by decide) ?_
  by_cases h4 : gI (xS X s) 3 = 4
  · rw [if_pos h4] at hst
    refine v_icmp_ne (t := 19) (q := 10) dX10_comeFixed_7 (by decide) rfl (fun z => absurd h4 z) (fun _ => ?_)
    refine v_ald0 (q := 11) dX10_comeFixed_10 rfl rfl ?_
    refine w_ga (q := 14) (j := 4) dX10_comeFixed_11 rfl hm (by decide) gf_X10_20_9 ?_
    refine v_ild1 (q := 15) dX10_comeFixed_14 rfl ?_
    refine w_iald (q := 16) (n := 16) dX10_comeFixed_15 rfl hm (by decide) rfl rfl rfl (by omega) ?_
    rw [r4, ← hst]
    refine v_goto (q := 25) dX10_comeFixed_16 (by decide) ?_
    exact rest
  · rw [if_neg h4] at hst
    refine v_icmp_ne (t := 19) (q := 10) dX10_comeFixed_7 (by decide) rfl (fun _ => ?_) (fun z => absurd z h4)
    refine v_ald0 (q := 20) dX10_comeFixed_19 rfl rfl ?_
    refine w_ga (q := 23) (j := 5) dX10_comeFixed_20 rfl hm (by decide) gf_X10_23_9 ?_
    refine v_ild1 (q := 24) dX10_comeFixed_23 rfl ?_
    refine w_iald (q := 25) (n := 16) dX10_comeFixed_24 rfl hm (by decide) rfl rfl rfl (by omega) ?_
    rw [r5, ← hst]
    exact rest
end LC5
