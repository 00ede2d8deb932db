/-! 27: Window.insert whole -/
/-- where x belongs among vs, and what comes of it -/
def InsAt (vs vs' : List Int64) (x : Int64) (again : Int32) : Prop := ∃ low : Nat, low ≤ vs.length ∧ (∀ (i : Nat) (y : Int64), i < low → vs[i]? = some y → y < x) ∧ (∀ (i : Nat) (y : Int64), low ≤ i → vs[i]? = some y → x ≤ y) ∧ (again = 0 ∧ vs[low]? = some x ∧ vs' = vs ∨ ¬ (again = 0 ∧ vs[low]? = some x) ∧ vs' = vs.take low ++ x :: vs.drop low)
/-- of the window w only the values and their number have changed -/
def OnlyV (w : Nat) (h h' : Hp) : Prop := (∀ f, f ≠ 41 → fI h' f w = fI h f w) ∧ (∀ f, fL h' f w = fL h f w) ∧ (∀ f, f ≠ 40 → fP h' f w = fP h f w)
section L27
variable {g : Gl} {d : Nat} {h : Hp} {Q : Option Value → Hp → Prop}
theorem ins_14 {w t : Nat} {x : Int64} {again : Int32} {vs : List Int64} (hk : hK h w = 7) (hp : fP h 40 w = some t) (hsz : fI h 41 w = nI vs.length) (hl : vs.length + 1 < 1000000) (hv : Vrow h t vs) (hs0 : vs.Pairwise (· ≤ ·)) (wf : Wf h)
    (hQ : ∀ h' t' vs', Vrow h' t' vs' → hK h' w = 7 → fI h' 41 w = nI vs'.length → fP h' 40 w = some t' → Smo (fun a => a = w ∨ a = t) h h' → Wf h' → InsAt vs vs' x again → OnlyV w h h' → (t' = t ∧ hz h' = hz h ∧ hs h' = hs h ∧ hN h' t' = hN h t ∨ t' = hz h ∧ hz h' = hz h + 1 ∧ hN h t = vs.length ∧ hs h' = hs h + 2 * vs.length ∧ hN h' t' = 2 * vs.length) → Q none h') :
    V g mX7_insert (d + 2) 14 [.ref w, .long x, zz, .int again, zz, zz, zz] [] h Q := by
  have hv0 := hv
  obtain ⟨v1, v2, v3, v4, v5⟩ := hv0
  have wt := wf t (by omega)
  have ww := wf w (by omega)
  have hwt : w ≠ t := fun e => by rw [e, v1] at hk; cases hk
  refine v_iconst (q := 15) (v := 0) dX7_insert_14 rfl (by decide) ?_
  refine v_ist4 (q := 17) dX7_insert_15 rfl (by decide) rfl ?_
  refine v_ald0 (q := 18) dX7_insert_17 rfl rfl ?_
  refine v_getI (q := 21) dX7_insert_18 rfl gf_X7_52_6 (by assumption) ?_
  rw [hsz]
  refine v_ald0 (q := 22) dX7_insert_21 rfl rfl ?_
  refine v_getR (q := 25) dX7_insert_22 rfl gf_X7_55_6 (by assumption) (by assumption) ?_
  refine v_alen (q := 26) dX7_insert_25 rfl ⟨(by assumption), by decide, by decide⟩ ?_
  refine v_callS (q := 29) (d' := d + 1) (av := [.int (nI vs.length), .int (nI (hN h t))]) dX7_insert_26 rfl ok_J9_min_7cf53 ml_X7_24 st_J9_min_7cf53 (by omega) rfl rfl (Nat.le_of_ble_eq_true rfl) ?_
  refine k_minI ?_
  rw [if_neg (nI_nlt v2 (by omega))]
  refine v_ist5 (q := 31) dX7_insert_29 rfl (by decide) rfl ?_
  refine ins_loop hk hp hv hs0 (fun low u v hlow hu i1 i2 => ?_) vs.length 0 vs.length zz (by omega) (by omega) (by omega) (fun i y hi => absurd hi (Nat.not_lt_zero _)) (fun i y hi hy => absurd (List.getElem?_eq_some_iff.mp hy).1 (by omega))
  -- from 101 on: it goes in
  have goin : ¬ (again = 0 ∧ vs[low]? = some x) → V g mX7_insert (d + 2) 101 [.ref w, .long x, zz, .int again, .int (nI low), u, v] [] h Q := by
    intro hnot
    have hIns : InsAt vs (vs.take low ++ x :: vs.drop low) x again := ⟨low, hlow, i1, i2, Or.inr ⟨hnot, rfl⟩⟩
    have hlen := insL_len (l := vs) (i := low) (w := x) hlow
    refine v_ald0 (q := 102) dX7_insert_101 rfl rfl ?_
    refine v_getI (q := 105) dX7_insert_102 rfl gf_X7_52_6 (by assumption) ?_
    rw [hsz]
    refine v_ald0 (q := 106) dX7_insert_105 rfl rfl ?_
    refine v_getR (q := 109) dX7_insert_106 rfl gf_X7_55_6 (by assumption) (by assumption) ?_
    refine v_alen (q := 110) dX7_insert_109 rfl ⟨(by assumption), by decide, by decide⟩ ?_
    by_cases hroom : vs.length < hN h t
    · refine v_icmp_lt (t := 130) (q := 113) dX7_insert_110 (by decide) rfl (fun _ => ?_) (fun hc => absurd (nI_lt hroom (by omega)) hc)
      refine ins_tail (d := d + 1) hk hp hsz v1 hroom v4 v5 hlow (fun r hr => ?_)
      have q1 : Vrow (sFI (sAL h t r) 41 w (nI (vs.length + 1))) t (vs.take low ++ x :: vs.drop low) := by
        refine ⟨v1, by rw [hlen]; exact hroom, v3, v4, fun i hi => ?_⟩
        rw [hlen] at hi
        rw [aL_sFI, aL_sAL, if_pos rfl]
        exact hr i hi
      have q2 : fI (sFI (sAL h t r) 41 w (nI (vs.length + 1))) 41 w = nI (vs.take low ++ x :: vs.drop low).length := by
        rw [fI_sFI, if_pos ⟨rfl, rfl⟩, hlen]
      have q3 : OnlyV w h (sFI (sAL h t r) 41 w (nI (vs.length + 1))) := by
        refine ⟨fun f hf => ?_, fun f => rfl, fun f _ => rfl⟩
        rw [fI_sFI, if_neg (fun e => hf e.1)]
        rfl
      have q4 : Smo (fun a => a = w ∨ a = t) h (sFI (sAL h t r) 41 w (nI (vs.length + 1))) := (Smo_sAL (Or.inr rfl)).andFI (Or.inl (Or.inl rfl))
      have q5 : Wf (sFI (sAL h t r) 41 w (nI (vs.length + 1))) := Wf_same rfl rfl wf
      exact hQ _ t _ q1 hk q2 hp q4 q5 hIns q3 (Or.inl ⟨rfl, rfl, rfl, rfl⟩)
    · have hfull : hN h t = vs.length := by omega
      refine v_icmp_lt (t := 130) (q := 113) dX7_insert_110 (by decide) rfl (fun hc => absurd hc (nI_nlt (by omega) (by omega))) (fun _ => ?_)
      refine v_ald0 (q := 114) dX7_insert_113 rfl rfl ?_
      refine v_ald0 (q := 115) dX7_insert_114 rfl rfl ?_
      refine v_getR (q := 118) dX7_insert_115 rfl gf_X7_55_6 (by assumption) (by assumption) ?_
      refine v_iconst (q := 119) (v := 2) dX7_insert_118 rfl (by decide) ?_
      refine v_ald0 (q := 120) dX7_insert_119 rfl rfl ?_
      refine v_getI (q := 123) dX7_insert_120 rfl gf_X7_52_6 (by assumption) ?_
      rw [hsz]
      refine v_imul (q := 124) dX7_insert_123 rfl ?_
      have e2 : (2 : Int32) * nI vs.length = nI (2 * vs.length) := pk_mul 2 vs.length
      rw [e2]
      refine v_callS (q := 127) (d' := d + 1) (av := [.ref t, .int (nI (2 * vs.length))]) dX7_insert_124 rfl ok_J7_copyOf_c38d5 ml_X7_64 st_J7_copyOf_c38d5 (by omega) rfl rfl (Nat.le_of_ble_eq_true rfl) ?_
      refine k_copyOfL v1 (by omega) (by omega) (fun h1 eh hth => ?_) wt
      rw [hfull] at eh
      have k1 : hK h1 w = 7 := by rw [eh, hK_sAL, hK_nArr, if_neg (Nat.ne_of_lt ww)]; exact hk
      refine v_putP (q := 130) (x := some (hz h)) dX7_insert_127 rfl pf_X7_55_6 k1 rfl rfl ?_
      have b1 : hz h1 = hz h + 1 := by rw [eh]; rfl
      have b2 : hs h1 = hs h + 2 * vs.length := by rw [eh]; rfl
      have b3 : hK h1 (hz h) = 22 := by rw [eh, hK_sAL, hK_nArr, if_pos rfl]
      have b4 : hN h1 (hz h) = 2 * vs.length := by rw [eh, hN_sAL, hN_nArr, if_pos rfl]
      have b5 : fI h1 = fI h := by rw [eh]; rfl
      have b5L : fL h1 = fL h := by rw [eh]; rfl
      have b5P : fP h1 = fP h := by rw [eh]; rfl
      have b6 : aL h1 (hz h) = va_cpy (aL h t) (fun _ => 0) 0 0 vs.length := by rw [eh, aL_sAL, if_pos rfl]
      have b7 : ∀ k, k < vs.length → aL h1 (hz h) k = aL h t k := fun k hk => by
        rw [b6, pk_cpy_in (by omega) (by omega)]
        congr 1
        omega
      have b8 : Smo (fun a => a = w ∨ a = t) h h1 := by rw [eh]; exact Smo_nArr.andAL (Or.inr (Nat.le_refl _))
      have b9 : Wf h1 := by rw [eh]; exact Wf_same rfl rfl (Wf_nArr (k := 22) (n := 2 * vs.length) wf)
      clear eh
      generalize hh2 : sFP h1 40 w (some (hz h)) = h2
      have c1 : hK h2 = hK h1 := by rw [← hh2, hK_sFP]
      have c2 : hN h2 = hN h1 := by rw [← hh2, hN_sFP]
      have c3 : fI h2 = fI h := by rw [← hh2, fI_sFP, b5]
      have c3L : fL h2 = fL h := by rw [← hh2, fL_sFP, b5L]
      have c4 : aL h2 = aL h1 := by rw [← hh2, aL_sFP]
      have c5 : fP h2 40 w = some (hz h) := by rw [← hh2, fP_sFP, if_pos ⟨rfl, rfl⟩]
      have c6 : hz h2 = hz h + 1 := by rw [← hh2, hz_sFP, b1]
      have c7 : hs h2 = hs h + 2 * vs.length := by rw [← hh2, hs_sFP, b2]
      have c8 : Smo (fun a => a = w ∨ a = t) h h2 := by rw [← hh2]; exact b8.andFP (Or.inl (Or.inl rfl))
      have c9 : Wf h2 := Wf_same (c6.trans b1.symm) c1 b9
      have c10 : ∀ f, f ≠ 40 → fP h2 f w = fP h f w := fun f hf => by rw [← hh2, fP_sFP, if_neg (fun e => hf e.1), b5P]
      have kw : hK h2 w = 7 := by rw [c1]; exact k1
      have kt : hK h2 (hz h) = 22 := by rw [c1]; exact b3
      have nt : hN h2 (hz h) = 2 * vs.length := by rw [c2]; exact b4
      have hsz2 : fI h2 41 w = nI vs.length := by rw [c3]; exact hsz
      have va : ∀ i, i < vs.length → vs[i]? = some (aL h2 (hz h) i) := fun i hi => by rw [c4, b7 i hi]; exact v5 i hi
      refine ins_tail (d := d + 1) (t := hz h) kw c5 hsz2 kt (by omega) (by omega) va hlow (fun r hr => ?_)
      generalize hh3 : sFI (sAL h2 (hz h) r) 41 w (nI (vs.length + 1)) = h3
      have e1 : hK h3 = hK h2 := by rw [← hh3, hK_sFI, hK_sAL]
      have e2 : hN h3 = hN h2 := by rw [← hh3, hN_sFI, hN_sAL]
      have e3 : aL h3 (hz h) = r := by rw [← hh3, aL_sFI, aL_sAL, if_pos rfl]
      have e4 : fP h3 = fP h2 := by rw [← hh3, fP_sFI, fP_sAL]
      have e5 : hz h3 = hz h + 1 := by rw [← hh3, hz_sFI, hz_sAL, c6]
      have e6 : hs h3 = hs h + 2 * vs.length := by rw [← hh3, hs_sFI, hs_sAL, c7]
      have e7 : fI h3 41 w = nI (vs.take low ++ x :: vs.drop low).length := by rw [← hh3, fI_sFI, if_pos ⟨rfl, rfl⟩, hlen]
      have e8 : Smo (fun a => a = w ∨ a = t) h h3 := by rw [← hh3]; exact (c8.andAL (Or.inr (Nat.le_refl _))).andFI (Or.inl (Or.inl rfl))
      have e9 : Wf h3 := Wf_same (e5.trans c6.symm) e1 c9
      have e10 : OnlyV w h h3 := by
        refine ⟨fun f hf => ?_, fun f => ?_, fun f hf => ?_⟩
        · rw [← hh3, fI_sFI, if_neg (fun e => hf e.1), fI_sAL, c3]
        · rw [← hh3, fL_sFI, fL_sAL, c3L]
        · rw [e4]; exact c10 f hf
      have e11 : Vrow h3 (hz h) (vs.take low ++ x :: vs.drop low) := by
        refine ⟨by rw [e1]; exact kt, by rw [hlen, e2, nt]; omega, by rw [e2, nt]; omega, by rw [e2, nt]; omega, fun i hi => ?_⟩
        rw [hlen] at hi
        rw [e3]
        exact hr i hi
      have e12 : hK h3 w = 7 := by rw [e1]; exact kw
      have e13 : fP h3 40 w = some (hz h) := by rw [e4]; exact c5
      have e14 : hN h3 (hz h) = 2 * vs.length := by rw [e2]; exact nt
      exact hQ h3 (hz h) _ e11 e12 e7 e13 e8 e9 hIns e10 (Or.inr ⟨rfl, e5, hfull, e6, e14⟩)
  refine v_ild3 (q := 76) dX7_insert_75 rfl ?_
  refine v_if_ne (t := 101) (q := 79) dX7_insert_76 (by decide) rfl ?_ ?_
  · intro hc
    exact goin (fun e => hc e.1)
  · intro hc
    refine v_ild4 (q := 81) dX7_insert_79 rfl ?_
    refine v_ald0 (q := 82) dX7_insert_81 rfl rfl ?_
    refine v_getI (q := 85) dX7_insert_82 rfl gf_X7_52_6 (by assumption) ?_
    rw [hsz]
    by_cases hlt : low < vs.length
    · refine v_icmp_ge (t := 101) (q := 88) dX7_insert_85 (by decide) rfl (fun hc2 => absurd hc2 (nI_ge hlt (by omega))) (fun _ => ?_)
      refine v_ald0 (q := 89) dX7_insert_88 rfl rfl ?_
      refine v_getR (q := 92) dX7_insert_89 rfl gf_X7_55_6 (by assumption) (by assumption) ?_
      refine v_ild4 (q := 94) dX7_insert_92 rfl ?_
      refine v_lald (q := 95) _ dX7_insert_94 rfl v1 rfl (by omega) (by omega) ?_
      refine v_lld1 (q := 96) dX7_insert_95 rfl ?_
      refine v_lcmp (q := 97) dX7_insert_96 rfl ?_
      refine v_if_ne (t := 101) (q := 100) dX7_insert_97 (by decide) rfl ?_ ?_
      · intro hne
        exact goin (fun e => hne ((lg_cmp_eq _ _).mpr (by have := v5 low hlt; rw [e.2] at this; exact (Option.some.inj this).symm)))
      · intro heq
        have heq := (lg_cmp_eq _ _).mp heq
        refine v_vret dX7_insert_100 rfl ?_
        have hx : vs[low]? = some x := by rw [v5 low hlt, heq]
        exact hQ h t vs hv hk hsz hp (Smo.rf h) wf ⟨low, hlow, i1, i2, Or.inl ⟨hc, hx, rfl⟩⟩ ⟨fun _ _ => rfl, fun _ => rfl, fun _ _ => rfl⟩ (Or.inl ⟨rfl, rfl, rfl, rfl⟩)
    · refine v_icmp_ge (t := 101) (q := 88) dX7_insert_85 (by decide) rfl (fun _ => ?_) (fun hc2 => absurd (nI_le (by omega) (by omega)) hc2)
      exact goin (fun e => by rw [List.getElem?_eq_none (by omega)] at e; cases e.2)
end L27
