/-! C4: the model: comeFixed, one begin -/
theorem MRs.set {u u' : Mu} {X : Sg} {s : Nat} {S' : Stg} {rows' : List Rw} (h : MRs u X) (h12 : mI u' 1 = mI u 1 ∧ mI u' 2 = mI u 2) (hI : ∀ j, 3 ≤ j → j ≤ 17 → j ≠ 8 → ∀ i, i ≠ s → mI u' j i = mI u j i) (h8 : ∀ t, t ≠ s → ∀ f, f < 24 → mI u' 8 (24 * t + f) = mI u 8 (24 * t + f)) (hL : ∀ i, i ≠ s → mL u' 18 i = mL u 18 i) (h78 : mF u' 78 = mF u 78) (h79 : mF u' 79 = mF u 79) (hs : s < xM X) (hS : RSt u' s S') : MRs u' (xSet X s S' rows') := by
  refine ⟨⟨h78.trans h.1.1, h79.trans h.1.2⟩, fun p hp => by rw [h12.1, h12.2]; exact h.2.1 p hp, fun t ht => ?_, fun t h1 h2 => ?_⟩
  · by_cases e : t = s
    · subst e
      rw [xS_set]
      exact hS
    · rw [xS_set_ne X _ _ e]
      obtain ⟨⟨a1, a2, a3, a4, a5⟩, b, c, ⟨d1, d2, d3, d4, d5⟩, e1, e2, e3, e4⟩ := h.2.2.1 t ht
      exact ⟨⟨(hI 3 (by decide) (by decide) (by decide) t e).trans a1, (hI 4 (by decide) (by decide) (by decide) t e).trans a2, (hI 5 (by decide) (by decide) (by decide) t e).trans a3, (hI 6 (by decide) (by decide) (by decide) t e).trans a4, (hI 7 (by decide) (by decide) (by decide) t e).trans a5⟩, fun f hf => (h8 t e f hf).trans (b f hf), (hI 9 (by decide) (by decide) (by decide) t e).trans c, ⟨(hI 10 (by decide) (by decide) (by decide) t e).trans d1, (hI 11 (by decide) (by decide) (by decide) t e).trans d2, (hI 12 (by decide) (by decide) (by decide) t e).trans d3, (hI 13 (by decide) (by decide) (by decide) t e).trans d4, (hI 14 (by decide) (by decide) (by decide) t e).trans d5⟩, (hI 15 (by decide) (by decide) (by decide) t e).trans e1, (hI 16 (by decide) (by decide) (by decide) t e).trans e2, (hI 17 (by decide) (by decide) (by decide) t e).trans e3, (hL t e).trans e4⟩
  · have h1' : xM X ≤ t := h1
    have e : t ≠ s := by omega
    obtain ⟨a, b, c, dd⟩ := h.2.2.2 t h1' h2
    exact ⟨(hI 6 (by decide) (by decide) (by decide) t e).trans a, fun f hf => (h8 t e f hf).trans (b f hf), fun j q1 q2 => (hI j (by omega) q2 (by omega) t e).trans (c j q1 q2), (hL t e).trans dd⟩
theorem MRw.cfg {u u' : Mu} {X : Sg} {ws : List (Option Mw)} {s : Nat} {S' : Stg} {rows' : List Rw} (h : MRw u X ws) (hs : s < xM X) (hI : ∀ j, 19 ≤ j → j ≤ 28 → mI u' j = mI u j) (hL : mL u' 27 = mL u 27) (h88 : mF u' 88 = mF u 88) (h91 : mF u' 91 = mF u 91) (hw : isW S' = isW (xS X s)) (hsty : sSty S' = sSty (xS X s) ∧ gI S' 1 = gI (xS X s) 1) (hgL : gL S' = gL (xS X s)) : MRw u' (xSet X s S' rows') ws := by
  have hXs : ∀ t, sSty (xS (xSet X s S' rows') t) = sSty (xS X t) ∧ gI (xS (xSet X s S' rows') t) 1 = gI (xS X t) 1 ∧ isW (xS (xSet X s S' rows') t) = isW (xS X t) ∧ gL (xS (xSet X s S' rows') t) = gL (xS X t) := fun t => by
    by_cases e : t = s
    · subst e
      rw [xS_set]
      exact ⟨hsty.1, hsty.2, hw, hgL⟩
    · rw [xS_set_ne X _ _ e]
      exact ⟨rfl, rfl, rfl, rfl⟩
  have het : tot entS (xSet X s S' rows') = tot entS X := by
    have := tot_set entS X hs S' rows'
    have e : entS S' = entS (xS X s) := by
      unfold entS
      rw [hw, hgL]
    omega
  obtain ⟨a, b, c, e, ⟨ne, f1, f2, f3, f4⟩, n⟩ := h.same hI hL h88 h91
  exact ⟨a, fun k o hk => (b k o hk).on (fun _ _ _ => rfl) (fun _ _ => ⟨rfl, rfl⟩) (fun t => ⟨(hXs t).1, (hXs t).2.1⟩), fun s' k' w es hx => by rw [(hXs s').2.2.1]; exact c s' k' w es hx, fun s' hs' hW' k' hk' => by rw [(hXs s').2.2.2]; rw [(hXs s').2.2.1] at hW'; exact e s' hs' hW' k' hk', ⟨ne, f1, f2, by rw [het]; exact f3, f4⟩, n⟩
section LC4
variable {g : Gl} {d : Nat} {h : Hp} {m : Nat} {Q : Option Value → Hp → Prop} {X : Sg} {ws : List (Option Mw)} {s ky : Nat}
theorem zS_cf (X : Sg) (s : Nat) (T T' : (Nat → List Wd) × List Rw × Nat) : zS X s T' = xSet (zS X s T) s (stT (xS X s) T'.1 T'.2.2) T'.2.1 := by
  unfold zS
  rw [xSet_set]
theorem sp_fix {S : Stg} (h : sSes S = false) : sSp S = gI S 6 := by
  unfold sSp spW
  exact if_neg (fun z => by
    unfold sSes at h
    rw [decide_eq_true z] at h
    cases h)
theorem cf_step {v : Mu} {T : (Nat → List Wd) × List Rw × Nat} {mi by_ fi b : Int32} {va : Int64} (hm : MK h m) (hR : MR v (zS X s T) ws) (h16 : xM X ≤ 16) (hs : s < xM X) (hW : isW (xS X s) = true) (hses : sSes (xS X s) = false) (hO : stOK s (xS X s)) (hk : ky < 1000) (hI : LnI false s ky (sSp (xS X s)) (gI (xS X s) 1) T.2.1 (T.1 ky)) (hB : BdE (sSp (xS X s)) b) (hE : tot entS (zS X s T) + 1 ≤ 48000) (hr : T.2.1.length + 2 < 200000) (hlen : ∀ x ∈ T.1 ky, wB x = b → (wVs x).length < 12000)
    (hQ : ∀ v' ws', MR v' (zS X s (enS false s (sHow (xS X s)) (sEa (xS X s)) (sSp (xS X s)) (gI (xS X s) 21) (gI (xS X s) 1) ky va T b)) ws' → V g mX10_comeFixed (d + 4) 215 [.ref m, .int (nI s), .int (nI ky), .int mi, .long va, zz, .int by_, .int fi, .int b, zz, zz, zz] [] (mh h m v') Q) :
    V g mX10_comeFixed (d + 4) 58 [.ref m, .int (nI s), .int (nI ky), .int mi, .long va, zz, .int by_, .int fi, .int b, zz, zz, zz] [] (mh h m v) Q := by
  obtain ⟨hBd, o20, o22, o23, okd⟩ := hO
  obtain ⟨B1, B2, B3, B4, B5, B6, B7, B8, B9, B10, B11, B12⟩ := id hBd
  have hsp := sp_fix hses
  have rs := hR.1.2.2.1 s hs
  rw [zS_s] at rs
  have r4 : mI v 4 s = sSp (xS X s) := rs.1.2.1.trans hsp.symm
  have r6 : mI v 6 s = gI (xS X s) 1 := rs.1.2.2.2.1
  have r11 : mI v 11 s = nI T.2.2 := rs.2.2.2.1.2.1
  have r12 : mI v 12 s = gI (xS X s) 20 := rs.2.2.2.1.2.2.1
  have r13 : mI v 13 s = gI (xS X s) 21 := rs.2.2.2.1.2.2.2.1
  have r14 : mI v 14 s = gI (xS X s) 22 := rs.2.2.2.1.2.2.2.2
  have hnw := mw_n hR.2.2 (by omega)
  have eE : (b + sSp (xS X s)).toInt = b.toInt + (sSp (xS X s)).toInt := i32_add (by have := hB.2.2.1; omega) (by have := hB.2.2.2.1; omega)
  refine v_ild8 (q := 60) dX10_comeFixed_58 rfl ?_
  refine v_ald0 (q := 61) dX10_comeFixed_60 rfl rfl ?_
  refine w_ga (q := 64) (j := 4) dX10_comeFixed_61 rfl hm (by decide) gf_X10_20_9 ?_
  refine v_ild1 (q := 65) dX10_comeFixed_64 rfl ?_
  refine w_iald (q := 66) (n := 16) dX10_comeFixed_65 rfl hm (by decide) rfl rfl rfl (by omega) ?_
  rw [r4]
  refine v_iadd (q := 67) dX10_comeFixed_66 rfl ?_
  refine v_ist9 (q := 69) dX10_comeFixed_67 rfl (by decide) rfl ?_
  refine v_ald0 (q := 70) dX10_comeFixed_69 rfl rfl ?_
  refine w_ga (q := 73) (j := 6) dX10_comeFixed_70 rfl hm (by decide) gf_X10_26_9 ?_
  refine v_ild1 (q := 74) dX10_comeFixed_73 rfl ?_
  refine w_iald (q := 75) (n := 16) dX10_comeFixed_74 rfl hm (by decide) rfl rfl rfl (by omega) ?_
  rw [r6]
  refine v_ild9 (q := 77) dX10_comeFixed_75 rfl ?_
  refine v_ald0 (q := 78) dX10_comeFixed_77 rfl rfl ?_
  refine w_ga (q := 81) (j := 13) dX10_comeFixed_78 rfl hm (by decide) gf_X10_47_9 ?_
  refine v_ild1 (q := 82) dX10_comeFixed_81 rfl ?_
  refine w_iald (q := 83) (n := 16) dX10_comeFixed_82 rfl hm (by decide) rfl rfl rfl (by omega) ?_
  rw [r13]
  refine v_iadd (q := 84) dX10_comeFixed_83 rfl ?_
  by_cases hdr : b + sSp (xS X s) + gI (xS X s) 21 ≤ gI (xS X s) 1
  · have eEn : enS false s (sHow (xS X s)) (sEa (xS X s)) (sSp (xS X s)) (gI (xS X s) 21) (gI (xS X s) 1) ky va T b = (T.1, T.2.1, T.2.2 + 1) := if_pos hdr
    rw [eEn] at hQ
    refine v_icmp_lt (t := 100) (q := 87) dX10_comeFixed_84 (by decide) rfl (fun z => absurd hdr (Int32.not_le.mpr z)) (fun _ => ?_)
    refine v_ald0 (q := 88) dX10_comeFixed_87 rfl rfl ?_
    refine w_ga (q := 91) (j := 11) dX10_comeFixed_88 rfl hm (by decide) gf_X10_41_9 ?_
    refine v_ild1 (q := 92) dX10_comeFixed_91 rfl ?_
    refine v_dup2 (q := 93) dX10_comeFixed_92 rfl rfl rfl ?_
    refine w_iald (q := 94) (n := 16) dX10_comeFixed_93 rfl hm (by decide) rfl rfl rfl (by omega) ?_
    refine v_iconst (q := 95) (v := 1) dX10_comeFixed_94 rfl (by decide) ?_
    refine v_iadd (q := 96) dX10_comeFixed_95 rfl ?_
    refine w_iast (q := 97) (n := 16) dX10_comeFixed_96 rfl hm (by decide) rfl rfl rfl (by omega) ?_
    rw [r11, show nI T.2.2 + 1 = nI (T.2.2 + 1) from nI_1 _]
    refine v_goto (q := 215) dX10_comeFixed_97 (by decide) ?_
    refine v_fg (FG.k (FG.k (FG.k (FG.k (FG.k (FG.k (FG.k (FG.k (FG.k (FG.z (FG.z (FG.z FG.nil)))))))))))) ?_
    refine hQ _ ws ?_
    rw [zS_cf X s T]
    refine ⟨hR.1.set ⟨rfl, rfl⟩ (fun j h1 h2 h3 i hi => ?_) (fun t ht f hf => rfl) (fun i hi => rfl) rfl rfl hs ?_, hR.2.1.same (fun j h1 h2 => mI_nr _ (by omega)) rfl rfl, hR.2.2.cfg hs (fun j h1 h2 => mI_nr _ (by omega)) rfl rfl rfl ?_ ?_ ?_⟩
    · by_cases e : j = 11
      · subst e
        exact mI_ni _ hi
      · rw [mI_nr _ e]
    · obtain ⟨⟨a1, a2, a3, a4, a5⟩, b', c, ⟨d1, d2, d3, d4, d5⟩, e1, e2, e3, e4⟩ := rs
      exact ⟨⟨a1, a2, a3, a4, a5⟩, b', c, ⟨d1, mI_at _ _ _, d3, d4, d5⟩, e1, e2, e3, e4⟩
    · rw [zS_s]; rfl
    · rw [zS_s]; exact ⟨rfl, rfl⟩
    · rw [zS_s]; rfl
  · refine v_icmp_lt (t := 100) (q := 87) dX10_comeFixed_84 (by decide) rfl (fun _ => ?_) (fun z => absurd (Int32.not_le.mp hdr) z)
    have eEn : enS false s (sHow (xS X s)) (sEa (xS X s)) (sSp (xS X s)) (gI (xS X s) 21) (gI (xS X s) 1) ky va T b = (upR T.1 ky (entLn false s ky (sHow (xS X s)) (sEa (xS X s)) (gI (xS X s) 1) b (b + sSp (xS X s)) va (T.1 ky) T.2.1), (entW false s ky (sHow (xS X s)) (sEa (xS X s)) (gI (xS X s) 1) b (b + sSp (xS X s)) va (T.1 ky) T.2.1).2, T.2.2) := if_neg hdr
    rw [eEn] at hQ
    have hnd : (gI (xS X s) 1).toInt < b.toInt + (sSp (xS X s)).toInt + (gI (xS X s) 21).toInt := by
      rw [fa_le, i32_add (by rw [eE]; have := hB.2.2.1; omega) (by rw [eE]; have := hB.2.2.2.1; omega), eE] at hdr
      omega
    obtain ⟨n1, _⟩ := ent_cnt (how := sHow (xS X s)) (ea := sEa (xS X s)) (v := va) (sty := (gI (xS X s) 21).toInt) hI hB hnd (fun z => by cases z)
    obtain ⟨x1, x2, x3, x4, x5, x6, x7, hrowX⟩ := ent_x (v := va) hI hB
    have hsplit := ent_split false b (b + sSp (xS X s)) (T.1 ky)
    obtain ⟨ne, f1, f2, f3, f4⟩ := hR.2.2.2.2.2.2.1
    have hXs : ∀ t, xS (zS X s T) t = if t = s then stT (xS X s) T.1 T.2.2 else xS X t := fun t => by
      by_cases e : t = s
      · subst e
        rw [if_pos rfl, zS_s]
      · rw [if_neg e]
        exact xS_set_ne X _ _ e
    have hcfS : CF (xS X s) (stT (xS X s) T.1 T.2.2) := ⟨fun j h1 h2 => by
      show upR (upR (gI (xS X s)) 4 _) 23 _ j = _
      rw [upR_ne _ _ h2, upR_ne _ _ h1], rfl, rfl⟩
    have cfs := hcfS.sty
    have hsty : sSty (xS (zS X s T) s) = (gI (xS X s) 21).toInt := by
      rw [zS_s, cfs.1]
      unfold sSty styI
      rw [hses]
      simp
    have hmk1 : gI (xS (zS X s T) s) 1 = gI (xS X s) 1 := by rw [zS_s]; rfl
    -- once the window is known
    have fin : ∀ (u2 : Mu) (k : Nat) (es : List Nat) (P R : List (Option Mw)) (Tl : List Wd), entT false b (b + sSp (xS X s)) (T.1 ky) = Tl → ws = P ++ (Tl.map (fun x => some (s, ky, x, es)) ++ R) → P.length = k → ((Tl = [] ∧ R = [] ∧ es = []) ∨ ∃ x, Tl = [x]) → EfU k ne v u2 → MRr u2 T.2.1 → mF u2 88 = nI (P.length + 1 + R.length) → mF u2 91 = nI (ne + 1) → MWk u2 (zS X s T) k (some (s, ky, entX false b (b + sSp (xS X s)) va Tl, ne :: es)) → k < 48100 → es.length + 1 ≤ 12000 → (∀ i ∈ es, i < 48100) → V g mX10_comeFixed (d + 4) 189 [.ref m, .int (nI s), .int (nI ky), .int mi, .long va, zz, .int by_, .int fi, .int b, .int (b + sSp (xS X s)), .int (nI k), zz] [] (mh h m u2) Q := fun u2 k es P R Tl hTl hws hP hTc hEf hr2 h88 h91 hMk hk48 hl hies => by
      rw [hTl] at x1 x2 x3 hrowX
      have e18 : ∀ j, j ≤ 18 → mI u2 j s = mI v j s := fun j hj => by rw [hEf.2.2.1 j hj]
      have hrow : RowOK s ky T.2.1 (entX false b (b + sSp (xS X s)) va Tl) := hrowX
      have hwe : wE (entX false b (b + sSp (xS X s)) va Tl) = b + sSp (xS X s) := by
        rcases hTc with ⟨h1, _, _⟩ | ⟨x, hx⟩
        · rw [h1]; rfl
        · rw [hx]
          show wE x = _
          obtain ⟨p1, p2, p3, p4⟩ := ent_pos hI hB
          have hxm : x ∈ entT false b (b + sSp (xS X s)) (T.1 ky) := by rw [hTl, hx]; exact List.mem_cons_self
          have hxL : x ∈ T.1 ky := by rw [hsplit]; exact List.mem_append_right _ (List.mem_append_left _ hxm)
          have h1 := p2 x hxm
          have h2 := (hI.1 x hxL).2.2.2.2.2.2.1 rfl
          simp at h1
          rw [fa_eq, eE]
          omega
      have eHow : sHow (xS (zS X s T) s) = sHow (xS X s) := by rw [zS_s]; exact cfs.2.2.2.2.2.1
      have eEa : sEa (xS (zS X s T) s) = sEa (xS X s) := by rw [zS_s]; exact cfs.2.2.2.2.2.2.1
      refine cf_tail (d := d) (X := zS X s T) hm hk48 (by omega) hMk (by rw [e18 6 (by decide), r6, hmk1]) (by rw [e18 14 (by decide), r14, o22, eEa]) (by rw [eEa]; exact B3) (by rw [e18 12 (by decide), r12, o20, eHow]) (by rw [eHow]; exact B2) (fun i hi => ?_) (by rw [List.length_cons]; exact hl) x1 hr2 (by omega) hrow hwe (fun u3 g3 r3 z3 => ?_)
      · rcases List.mem_cons.mp hi with e | hi
        · omega
        · exact hies i hi
      rw [eHow, eEa, hmk1] at r3 z3
      have hG : (entG false s ky T.2.1 (entT false b (b + sSp (xS X s)) (T.1 ky)) (gI (xS X s) 1) (sEa (xS X s)) (entX false b (b + sSp (xS X s)) va (entT false b (b + sSp (xS X s)) (T.1 ky))) = true) ↔ (wE (entX false b (b + sSp (xS X s)) va Tl) ≤ gI (xS X s) 1 ∨ (0 < sEa (xS X s) ∧ (wVs (entX false b (b + sSp (xS X s)) va Tl)).length % sEa (xS X s) = 0)) := by
        unfold entG
        rw [decide_eq_true_iff, hTl]
        exact ⟨fun z => z.elim (fun z => by cases z.1) id, Or.inr⟩
      have eW : entW false s ky (sHow (xS X s)) (sEa (xS X s)) (gI (xS X s) 1) b (b + sSp (xS X s)) va (T.1 ky) T.2.1 = finW s ky (sHow (xS X s)) (wE (entX false b (b + sSp (xS X s)) va Tl) ≤ gI (xS X s) 1 ∨ (0 < sEa (xS X s) ∧ (wVs (entX false b (b + sSp (xS X s)) va Tl)).length % sEa (xS X s) = 0)) T.2.1 (entX false b (b + sSp (xS X s)) va Tl) := by
        unfold entW
        rw [finW_iff hG, hTl]
        rfl
      rw [← eW] at r3 z3
      obtain ⟨y1, y2, y3, y4, y5, y6, y7⟩ := finW_p (how := sHow (xS X s)) (gv := wE (entX false b (b + sSp (xS X s)) va Tl) ≤ gI (xS X s) 1 ∨ (0 < sEa (xS X s) ∧ (wVs (entX false b (b + sSp (xS X s)) va Tl)).length % sEa (xS X s) = 0)) hrow
      rw [← eW] at y1 y2 y3
      have hMk3 : MWk u3 (zS X s T) k (some (s, ky, (entW false s ky (sHow (xS X s)) (sEa (xS X s)) (gI (xS X s) 1) b (b + sSp (xS X s)) va (T.1 ky) T.2.1).1, ne :: es)) := by
        obtain ⟨w1, w2, w3, w4, w5, w6, w7, w8, w9⟩ := hMk
        refine ⟨by rw [g3.1 19 (by decide) (by decide)]; exact w1, by rw [g3.1 20 (by decide) (by decide)]; exact w2, by rw [g3.1 21 (by decide) (by decide), y1]; exact w3, by rw [g3.1 22 (by decide) (by decide), y2]; exact w4, ?_, z3, by rw [g3.1 26 (by decide) (by decide)]; exact w7, ?_, ?_⟩
        · rw [g3.1 23 (by decide) (by decide), w5]
          unfold thr
          rw [y2]
        · rw [g3.1 28 (by decide) (by decide), g3.1 25 (by decide) (by decide)]
          exact w8
        · rw [g3.2.2.1 27 (by decide) (by decide), y3]
          exact w9
      refine hQ u3 (P ++ some (s, ky, (entW false s ky (sHow (xS X s)) (sEa (xS X s)) (gI (xS X s) 1) b (b + sSp (xS X s)) va (T.1 ky) T.2.1).1, ne :: es) :: R) ?_
      have hE3 := hEf.tr (g3.ef (ne := ne))
      refine MR.put (X := zS X s T) (S' := stT (xS X s) (upR T.1 ky (entLn false s ky (sHow (xS X s)) (sEa (xS X s)) (gI (xS X s) 1) b (b + sSp (xS X s)) va (T.1 ky) T.2.1)) T.2.2) (A := entA false b (b + sSp (xS X s)) (T.1 ky)) (B := entB false b (b + sSp (xS X s)) (T.1 ky)) (T := Tl) hR hs (by rw [zS_s, cfs.2.2.1]; exact hW) hk f1 f2 f4 hws hP hTc ?_ (zS_cf X s T _) ?_ ?_ ?_ f3 hE3 ?_ ?_ ?_ r3 hMk3
      · rw [zS_s]
        show T.1 ky = _
        rw [← hTl]
        exact hsplit
      · rw [zS_s]
        exact ⟨fun _ _ _ => rfl, rfl, rfl⟩
      · rw [zS_s]
        rfl
      · have t1 := tot_set entS (zS X s T) (s := s) hs (stT (xS X s) (upR T.1 ky (entLn false s ky (sHow (xS X s)) (sEa (xS X s)) (gI (xS X s) 1) b (b + sSp (xS X s)) va (T.1 ky) T.2.1)) T.2.2) (entW false s ky (sHow (xS X s)) (sEa (xS X s)) (gI (xS X s) 1) b (b + sSp (xS X s)) va (T.1 ky) T.2.1).2
        have t2 := sm_upd vN T.1 hk (entLn false s ky (sHow (xS X s)) (sEa (xS X s)) (gI (xS X s) 1) b (b + sSp (xS X s)) va (T.1 ky) T.2.1)
        rw [zS_s] at t1
        have e1 : entS (stT (xS X s) (upR T.1 ky (entLn false s ky (sHow (xS X s)) (sEa (xS X s)) (gI (xS X s) 1) b (b + sSp (xS X s)) va (T.1 ky) T.2.1)) T.2.2) = sm vN (upR T.1 ky (entLn false s ky (sHow (xS X s)) (sEa (xS X s)) (gI (xS X s) 1) b (b + sSp (xS X s)) va (T.1 ky) T.2.1)) := if_pos hW
        have e2 : entS (stT (xS X s) T.1 T.2.2) = sm vN T.1 := if_pos hW
        have e3 : ∀ (l' : Nat → List Wd) (r' : List Rw), tot entS (zS X s (l', r', T.2.2)) = tot entS (xSet (zS X s T) s (stT (xS X s) l' T.2.2) r') := fun l' r' => congrArg (tot entS) (zS_cf X s T _)
        rw [e3]
        omega
      · obtain ⟨⟨a1, a2, a3, a4, a5⟩, b', c, ⟨d1, d2, d3, d4, d5⟩, e1, e2, e3, e4⟩ := rs
        have q := hE3.2.2.1
        refine ⟨⟨by rw [q 3 (by decide)]; exact a1, by rw [q 4 (by decide)]; exact a2, by rw [q 5 (by decide)]; exact a3, by rw [q 6 (by decide)]; exact a4, by rw [q 7 (by decide)]; exact a5⟩, fun f hf => by rw [q 8 (by decide)]; exact b' f hf, by rw [q 9 (by decide)]; exact c, ⟨by rw [q 10 (by decide)]; exact d1, by rw [q 11 (by decide)]; exact d2, by rw [q 12 (by decide)]; exact d3, by rw [q 13 (by decide)]; exact d4, by rw [q 14 (by decide)]; exact d5⟩, by rw [q 15 (by decide)]; exact e1, by rw [q 16 (by decide)]; exact e2, by rw [q 17 (by decide)]; exact e3, by rw [hE3.2.2.2.1]; exact e4⟩
      · rw [g3.2.2.2 88 (by decide)]
        exact h88
      · rw [g3.2.2.2 91 (by decide)]
        exact h91
    have hws0 : ws.length < 48100 := hnw
    refine v_iconst (q := 101) (v := -1) dX10_comeFixed_100 rfl (by decide) ?_
    refine v_ist10 (q := 103) dX10_comeFixed_101 rfl (by decide) rfl ?_
    refine v_iconst (q := 104) (v := 0) dX10_comeFixed_103 rfl (by decide) ?_
    refine v_ist11 (q := 106) dX10_comeFixed_104 rfl (by decide) rfl ?_
    refine cf_find (d := d) (X := zS X s T) hm hR h16 (by omega) hk hnw ws.length 0 none (Nat.zero_add _) (fun _ j hj => absurd hj (Nat.not_lt_zero _)) (fun j hj => by cases hj) (fun f hf1 hf2 => ?_)
    refine v_ild10 (q := 166) dX10_comeFixed_164 rfl ?_
    match f, hf1, hf2 with
    | none, hf1, _ =>
      have hT0 : entT false b (b + sSp (xS X s)) (T.1 ky) = [] := by
        refine entT_fix0 hI hB (fun x hx hxb => ?_)
        have hp := hR.2.2.2.2.2.1 s hs (by rw [zS_s, cfs.2.2.1]; exact hW) ky hk
        rw [zS_s] at hp
        have hx' : x ∈ lnO ws s ky := hp.mem_iff.mpr hx
        obtain ⟨o, ho, he⟩ := List.mem_filterMap.mp hx'
        obtain ⟨j, hj, rfl⟩ := List.mem_iff_getElem.mp ho
        have hm0 := hf1 rfl j hj
        rw [List.getElem?_eq_getElem hj] at hm0
        have hm0 : mt s ky b ws[j] = false := hm0
        match hwj : ws[j], he with
        | some (s', k', w, es), he =>
          have he : (if s' = s ∧ k' = ky then some w else none) = some x := he
          rw [hwj] at hm0
          by_cases ee : s' = s ∧ k' = ky
          · rw [if_pos ee] at he
            have := Option.some.inj he
            subst this
            have : mt s ky b (some (s', k', w, es)) = true := decide_eq_true ⟨ee.1, ee.2, hxb⟩
            rw [this] at hm0
            cases hm0
          · rw [if_neg ee] at he
            cases he
        | none, he => cases he
      refine v_if_ge (t := 181) (q := 169) dX10_comeFixed_166 (by decide) rfl (fun z => absurd z (show ¬ (0 : Int32) ≤ -1 by decide)) (fun _ => ?_)
      refine v_ald0 (q := 170) dX10_comeFixed_169 rfl rfl ?_
      refine v_ild1 (q := 171) dX10_comeFixed_170 rfl ?_
      refine v_ild2 (q := 172) dX10_comeFixed_171 rfl ?_
      refine v_ild8 (q := 174) dX10_comeFixed_172 rfl ?_
      refine v_ild9 (q := 176) dX10_comeFixed_174 rfl ?_
      refine v_callV (q := 179) (d' := d) (av := [.int (nI s), .int (nI ky), .int b, .int (b + sSp (xS X s))]) dX10_comeFixed_176 rfl ok_X10_newWindow CL9 ml_X10_182 im_X10_newWindow se_X10_newWindow hm.1 (by omega) rfl rfl (Nat.le_of_ble_eq_true rfl) ?_
      refine q_newWindow hm hnw hR.2.2.1 (fun u1 n1' => ?_)
      obtain ⟨⟨m1, m2, m3, m4, m5, m6, m7, m8⟩, hj, hLL, h88, hFF⟩ := id n1'
      refine v_ist10 (q := 181) dX10_comeFixed_179 rfl (by decide) rfl ?_
      refine v_ald0 (q := 182) dX10_comeFixed_181 rfl rfl ?_
      refine v_ild10 (q := 184) dX10_comeFixed_182 rfl ?_
      refine v_lld4 (q := 186) dX10_comeFixed_184 rfl ?_
      refine v_callV (q := 189) (d' := d) (av := [.int (nI ws.length), .long va]) dX10_comeFixed_186 rfl ok_X10_addEvent CL9 ml_X10_186 im_X10_addEvent se_X10_addEvent hm.1 (by omega) rfl rfl (Nat.le_of_ble_eq_true rfl) ?_
      refine q_addEvent (ne := ne) hm hnw (by omega) (by rw [hFF 91 (by decide)]; exact f1) (fun u2 a2 => ?_)
      obtain ⟨⟨c1, c2, c3⟩, cj, cL, cLj, c91, cF⟩ := id a2
      refine fin u2 ws.length [] ws [] [] hT0 (by rw [List.map_nil, List.nil_append, List.append_nil]) rfl (Or.inl ⟨rfl, rfl, rfl⟩) ((n1'.ef).tr a2.ef) ?_ ?_ c91 ?_ hnw (by simp) (fun i hi => by cases hi)
      · exact (hR.2.1.same (fun j h1 h2 => hj j (by omega)) (by rw [hLL]) (hFF 98 (by decide))).same (fun j h1 h2 => cj j (by omega) (by omega) (by omega)) (cLj 34 (by decide)) (cF 98 (by decide))
      · rw [cF 88 (by decide), h88]
        simp
      · refine ⟨by rw [cj 19 (by decide) (by decide) (by decide), m1, upR_at], by rw [cj 20 (by decide) (by decide) (by decide), m2, upR_at], by rw [cj 21 (by decide) (by decide) (by decide), m3, upR_at]; rfl, by rw [cj 22 (by decide) (by decide) (by decide), m4, upR_at]; rfl, ?_, by rw [cj 24 (by decide) (by decide) (by decide), m6, upR_at]; rfl, ?_, ?_, ?_⟩
        · rw [cj 23 (by decide) (by decide) (by decide), m5, upR_at, hsty, hmk1]
          refine (if_pos (decide_eq_true ?_)).symm
          show (gI (xS X s) 1).toInt < (b + sSp (xS X s)).toInt + _
          rw [eE]
          exact hnd
        · rw [c2, upR_at, m8, upR_at]
          rfl
        · rw [c1, upR_at]
          refine ⟨rfl, ?_⟩
          rw [c3, upR_at, m7, upR_at]
          exact rfl
        · rw [cL]
          show ([ne].map (upR (mL u1 27) ne va)).Perm [va]
          rw [List.map_cons, upR_at]
          exact List.Perm.refl _
    | some k, _, hf2 =>
      obtain ⟨hkl, hmt⟩ := hf2 k rfl
      rw [List.getElem?_eq_getElem hkl] at hmt
      have hmt : mt s ky b ws[k] = true := hmt
      have hok := hR.2.2.2.1 k _ (List.getElem?_eq_getElem hkl)
      have hmem : ws[k] ∈ ws := List.getElem_mem hkl
      have hsplitW : ws = ws.take k ++ (ws[k] :: ws.drop (k + 1)) := by
        rw [← List.drop_eq_getElem_cons hkl, List.take_append_drop]
      generalize ws[k] = o at hmt hok hmem hsplitW
      match o, hmt, hok, hmem, hsplitW with
      | some (s', k', x, es), hmt, hok, hmem, hsplitW =>
        obtain ⟨rfl, rfl, hxb⟩ := of_decide_eq_true hmt
        have hxl : x ∈ T.1 k' := by
          have := mw_lane hR.2.2 hmem
          rw [zS_s] at this
          exact this
        have hT1 : entT false b (b + sSp (xS X s')) (T.1 k') = [x] := entT_fix hI hB hxl hxb
        obtain ⟨w1, w2, w3, w4, w5, w6, w7, w8, w9⟩ := id hok
        have hel := mw_len hok
        have hxlen := hlen x hxl hxb
        refine v_if_ge (t := 181) (q := 169) dX10_comeFixed_166 (by decide) rfl (fun _ => ?_) (fun z => absurd (show 0 ≤ nI k from nI_pos' (by omega)) z)
        refine v_ald0 (q := 182) dX10_comeFixed_181 rfl rfl ?_
        refine v_ild10 (q := 184) dX10_comeFixed_182 rfl ?_
        refine v_lld4 (q := 186) dX10_comeFixed_184 rfl ?_
        refine v_callV (q := 189) (d' := d) (av := [.int (nI k), .long va]) dX10_comeFixed_186 rfl ok_X10_addEvent CL9 ml_X10_186 im_X10_addEvent se_X10_addEvent hm.1 (by omega) rfl rfl (Nat.le_of_ble_eq_true rfl) ?_
        refine q_addEvent (ne := ne) hm (by omega) (by omega) f1 (fun u2 a2 => ?_)
        obtain ⟨⟨c1, c2, c3⟩, cj, cL, cLj, c91, cF⟩ := id a2
        have hPl : (ws.take k).length = k := by rw [List.length_take]; omega
        have hnes : ∀ i ∈ es, i < ne := fun i hi => f4 i (List.mem_flatMap.mpr ⟨_, hmem, hi⟩)
        refine fin u2 k es (ws.take k) (ws.drop (k + 1)) [x] hT1 hsplitW hPl (Or.inr ⟨x, rfl⟩) a2.ef ?_ ?_ c91 ?_ (by omega) (by omega) (mw_es hR.2.2 (by omega) hmem)
        · exact hR.2.1.same (fun j h1 h2 => cj j (by omega) (by omega) (by omega)) (cLj 34 (by decide)) (cF 98 (by decide))
        · rw [cF 88 (by decide), hR.2.2.1, hPl, List.length_drop]
          congr 1
          omega
        · refine ⟨by rw [cj 19 (by decide) (by decide) (by decide)]; exact w1, by rw [cj 20 (by decide) (by decide) (by decide)]; exact w2, by rw [cj 21 (by decide) (by decide) (by decide)]; exact w3, by rw [cj 22 (by decide) (by decide) (by decide)]; exact w4, by rw [cj 23 (by decide) (by decide) (by decide)]; exact w5, by rw [cj 24 (by decide) (by decide) (by decide)]; exact w6, ?_, ?_, ?_⟩
          · rw [c2, upR_at, w7, show nI es.length + 1 = nI (es.length + 1) from nI_1 _]
            rfl
          · rw [c1, upR_at]
            refine ⟨rfl, ?_⟩
            rw [c3, upR_at]
            exact w8.on (fun i hi => upR_ne _ _ (by have := hnes i hi; omega))
          · rw [cL, List.map_cons, upR_at]
            have e : es.map (upR (mL v 27) ne va) = es.map (mL v 27) := List.map_congr_left (fun i hi => upR_ne _ _ (by have := hnes i hi; omega))
            rw [e]
            exact w9.cons va
end LC4
