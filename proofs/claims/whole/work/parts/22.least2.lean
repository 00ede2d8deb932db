/-! 22: LeastFirst: add, takeLeast -/
section L22
variable {g : Gl} {d : Nat} {h : Hp} {Q : Option Value → Hp → Prop}
theorem UpI.start {r : Nat → Int64} {n : Nat} {x : Int64} (h : HO r n) : UpI (vp_updL r n x) (n + 1) n := by
  refine ⟨fun i i0 hi hne => ?_, fun i i0 hi hp _ => by omega⟩
  rw [pk_uLn (show (i - 1) / 2 ≠ n by omega), pk_uLn hne]
  exact h i i0 (by omega)
/-- add, behind the growing -/
theorem lf_add_tail {q t n : Nat} {x : Int64} (p1 : hK h q = 3) (p2 : fP h 29 q = some t) (p3 : hK h t = 22) (p4 : fI h 30 q = nI n) (hn : n < hN h t) (hN2 : hN h t < 1000000) (hO : HO (aL h t) n)
    (hQ : ∀ r', HO r' (n + 1) → (∀ y, ctL r' (n + 1) y = ctL (aL h t) n y + (if x = y then 1 else 0)) → Q none (sAL (sFI h 30 q (nI (n + 1))) t r')) : V g mX2_add (d + 1) 29 [.ref q, .long x, zz, zz] [] h Q := by
  refine v_ald0 (q := 30) dX2_add_29 rfl rfl ?_
  refine v_getI (q := 33) dX2_add_30 rfl gf_X2_13_2 (by assumption) ?_
  rw [p4]
  refine v_ist3 (q := 34) dX2_add_33 rfl (by decide) rfl ?_
  refine v_ald0 (q := 35) dX2_add_34 rfl rfl ?_
  refine v_dup (q := 36) dX2_add_35 rfl rfl ?_
  refine v_getI (q := 39) dX2_add_36 rfl gf_X2_13_2 (by assumption) ?_
  rw [p4]
  refine v_iconst (q := 40) (v := 1) dX2_add_39 rfl (by decide) ?_
  refine v_iadd (q := 41) dX2_add_40 rfl ?_
  rw [nI_1]
  refine v_putI (q := 44) dX2_add_41 rfl pf_X2_13_2 (by assumption) rfl rfl ?_
  have key := up_loop (g := g) (d := d) (h := sFI h 30 q (nI (n + 1))) (q := q) (t := t) (n := n + 1) (x := x) (Q := Q) p1 p2 p3 (show n + 1 ≤ hN h t by omega) (show hN h t < 1000000 from hN2) (fun r' h1 h2 => hQ r' h1 (fun y => ?_)) n n (aL h t) (Nat.le_refl _) (by omega) (UpI.start hO) (fun y => ?_)
  · have e : sAL (sFI h 30 q (nI (n + 1))) t (aL h t) = sFI h 30 q (nI (n + 1)) := by
      have : upR (aL h) t (aL h t) = aL h := by
        funext z
        by_cases e : z = t <;> simp [upR, e]
      unfold sAL
      rw [show aL (sFI h 30 q (nI (n + 1))) = aL h from rfl, this]
      rfl
    rw [e] at key
    exact key
  · rw [h2 y, show n + 1 - 1 = n by omega, ctL_succ, show vp_updL (aL (sFI h 30 q (nI (n + 1))) t) n x n = x from pk_uLs, ctL_out _ _ _ (Nat.le_refl n)]
    rfl
  · rw [show n + 1 - 1 = n by omega]
    rfl
theorem k_lfAdd {q t n : Nat} {x : Int64} (hP : HPv h q t n) (wf : Wf h) (hn : n < 400000)
    (hQ : ∀ h' t', HPv h' q t' (n + 1) → (∀ y, ctL (aL h' t') (n + 1) y = ctL (aL h t) n y + (if x = y then 1 else 0)) → Smo (fun a => a = q ∨ a = t) h h' → Wf h' → (t' = t ∧ hz h' = hz h ∧ hs h' = hs h ∧ hN h' t' = hN h t ∨ t' = hz h ∧ hz h' = hz h + 1 ∧ hN h t = n ∧ hs h' = hs h + 2 * n ∧ hN h' t' = 2 * n) → (∀ a, hz h ≤ a → hK h' a ≠ 0 → a = t') → Q none h') : Call g mX2_add (d + 2) [.ref q, .long x] h Q := by
  obtain ⟨⟨p1, p2, p3, p4, p5, p6, p7⟩, hO⟩ := hP
  have hq := wf q (by omega)
  have ht := wf t (by omega)
  have hqt : q ≠ t := fun e => by rw [e, p3] at p1; cases p1
  refine Call.of [.ref q, .long x, zz, zz] (by decide) (Nat.le_of_ble_eq_true rfl) rfl ?_
  refine v_ald0 (q := 1) dX2_add_0 rfl rfl ?_
  refine v_getI (q := 4) dX2_add_1 rfl gf_X2_13_2 (by assumption) ?_
  rw [p4]
  refine v_ald0 (q := 5) dX2_add_4 rfl rfl ?_
  refine v_getR (q := 8) dX2_add_5 rfl gf_X2_9_2 (by assumption) (by assumption) ?_
  refine v_alen (q := 9) dX2_add_8 rfl ⟨(by assumption), by decide, by decide⟩ ?_
  by_cases hfull : n < hN h t
  · refine v_icmp_lt (t := 29) (q := 12) dX2_add_9 (by decide) rfl (fun _ => ?_) (fun hc => absurd (nI_lt hfull (by omega)) hc)
    refine lf_add_tail (d := d + 1) p1 p2 p3 p4 hfull p7 hO (fun r' h1 h2 => ?_)
    refine hQ _ t ⟨⟨p1, p2, p3, ?_, show n + 1 ≤ hN h t by omega, p6, p7⟩, ?_⟩ ?_ ((Smo_sFI (Or.inl rfl)).andAL (Or.inl (Or.inr rfl))) (Wf_same rfl rfl wf) (Or.inl ⟨rfl, rfl, rfl, rfl⟩) (fun a ha hka => ?_)
    · rw [fI_sAL, fI_sFI, if_pos ⟨rfl, rfl⟩]
    · rw [aL_sAL, if_pos rfl]
      exact h1
    · rw [aL_sAL, if_pos rfl]
      exact h2
    · have := wf a hka
      omega
  · have hne : hN h t = n := by omega
    refine v_icmp_lt (t := 29) (q := 12) dX2_add_9 (by decide) rfl (fun hc => absurd hc (nI_nlt (by omega) (by omega))) (fun _ => ?_)
    refine v_ald0 (q := 13) dX2_add_12 rfl rfl ?_
    refine v_ald0 (q := 14) dX2_add_13 rfl rfl ?_
    refine v_getR (q := 17) dX2_add_14 rfl gf_X2_9_2 (by assumption) (by assumption) ?_
    refine v_iconst (q := 18) (v := 2) dX2_add_17 rfl (by decide) ?_
    refine v_ald0 (q := 19) dX2_add_18 rfl rfl ?_
    refine v_getI (q := 22) dX2_add_19 rfl gf_X2_13_2 (by assumption) ?_
    rw [p4]
    refine v_imul (q := 23) dX2_add_22 rfl ?_
    have e2 : (2 : Int32) * nI n = nI (2 * n) := pk_mul 2 n
    rw [e2]
    refine v_callS (q := 26) (d' := d + 1) (av := [.ref t, .int (nI (2 * n))]) dX2_add_23 rfl ok_J7_copyOf_c38d5 ml_X2_17 st_J7_copyOf_c38d5 (by omega) rfl rfl (Nat.le_of_ble_eq_true rfl) ?_
    refine k_copyOfL p3 (by omega) (by omega) (fun h1 eh hth => ?_) ht
    rw [hne] at eh
    have k1 : hK h1 q = 3 := by rw [eh, hK_sAL, hK_nArr, if_neg (Nat.ne_of_lt hq)]; exact p1
    refine v_putP (q := 29) (x := some (hz h)) dX2_add_26 rfl pf_X2_9_2 k1 rfl rfl ?_
    have b1 : hz h1 = hz h + 1 := by rw [eh]; rfl
    have b2 : hs h1 = hs h + 2 * n := by rw [eh]; rfl
    have b3 : hK h1 (hz h) = 22 := by rw [eh, hK_sAL, hK_nArr, if_pos rfl]
    have b4 : hN h1 (hz h) = 2 * n := by rw [eh, hN_sAL, hN_nArr, if_pos rfl]
    have b5 : fI h1 30 q = nI n := by rw [eh]; exact p4
    have b6 : aL h1 (hz h) = va_cpy (aL h t) (fun _ => 0) 0 0 n := by rw [eh, aL_sAL, if_pos rfl]
    have b7 : ∀ k, k < n → aL h1 (hz h) k = aL h t k := fun k hk => by
      rw [b6, pk_cpy_in (by omega) (by omega)]
      congr 1
      omega
    have b8 : Smo (fun a => a = q ∨ a = t) h h1 := by rw [eh]; exact Smo_nArr.andAL (Or.inr (Nat.le_refl _))
    have b9 : Wf h1 := by rw [eh]; exact Wf_same rfl rfl (Wf_nArr (k := 22) (n := 2 * n) wf)
    have b10 : ∀ a, hz h ≤ a → hK h1 a ≠ 0 → a = hz h := fun a ha hka => by
      rw [eh, hK_sAL, hK_nArr] at hka
      by_cases c : a = hz h
      · exact c
      · rw [if_neg c] at hka
        have := wf a hka
        omega
    have hO1 : HO (aL (sFP h1 29 q (some (hz h))) (hz h)) n := fun i i0 hi => by
      show aL h1 (hz h) _ ≤ aL h1 (hz h) _
      rw [b7 _ (by omega), b7 _ hi]
      exact hO i i0 hi
    refine lf_add_tail (d := d + 1) (h := sFP h1 29 q (some (hz h))) (t := hz h) (n := n) k1 (by rw [fP_sFP, if_pos ⟨rfl, rfl⟩]) b3 b5 (by show n < hN h1 (hz h); omega) (by show hN h1 (hz h) < _; omega) hO1 (fun r' h1' h2' => ?_)
    refine hQ _ (hz h) ⟨⟨k1, ?_, b3, ?_, ?_, ?_, ?_⟩, ?_⟩ ?_ (((b8.andFP (Or.inl (Or.inl rfl))).andFI (Or.inl (Or.inl rfl))).andAL (Or.inr (Nat.le_refl _))) (Wf_same rfl rfl b9) (Or.inr ⟨rfl, b1, hne, b2, b4⟩) (fun a ha hka => b10 a ha hka)
    · rw [fP_sAL, fP_sFI, fP_sFP, if_pos ⟨rfl, rfl⟩]
    · rw [fI_sAL, fI_sFI, if_pos ⟨rfl, rfl⟩]
    · show n + 1 ≤ hN h1 (hz h)
      omega
    · show 16 ≤ hN h1 (hz h)
      omega
    · show hN h1 (hz h) < _
      omega
    · rw [aL_sAL, if_pos rfl]
      exact h1'
    · rw [aL_sAL, if_pos rfl]
      intro y
      rw [h2' y]
      congr 1
      exact ctL_cong (fun k hk => b7 k hk) y
/-- the hole at b sinks; c = 2 b + 1 -/
theorem dn_loop {q t m : Nat} {x y0 : Int64} (p1 : hK h q = 3) (p2 : fP h 29 q = some t) (p3 : hK h t = 22) (p4 : fI h 30 q = nI m) (hn : m < hN h t) (hN2 : hN h t < 1000000) {r0 : Nat → Int64}
    (hQ : ∀ r', HO r' m → (∀ y, ctL r' m y = ctL r0 m y) → Q (some (.long y0)) (sAL h t r')) :
    ∀ (w b : Nat) (a : Nat → Int64), m - b ≤ w → b ≤ m → (b < m ∨ m = 0) → DnI (vp_updL a b x) m b → (∀ y, ctL (vp_updL a b x) m y = ctL r0 m y) → V g mX2_takeLeast (d + 1) 42 [.ref q, .long y0, zz, .long x, zz, .int (nI b), .int (nI (2 * b + 1))] [] (sAL h t a) Q := by
  have fin : ∀ (b : Nat) (a : Nat → Int64) (u : Value), b ≤ m → HO (vp_updL a b x) m → (∀ y, ctL (vp_updL a b x) m y = ctL r0 m y) → V g mX2_takeLeast (d + 1) 129 [.ref q, .long y0, zz, .long x, zz, .int (nI b), u] [] (sAL h t a) Q := by
    intro b a u hb hO hct
    refine v_ald0 (q := 130) dX2_takeLeast_129 rfl rfl ?_
    refine v_getR (q := 133) dX2_takeLeast_130 rfl gf_X2_9_2 (by assumption) (by assumption) ?_
    refine v_ild5 (q := 135) dX2_takeLeast_133 rfl ?_
    refine v_lld3 (q := 136) dX2_takeLeast_135 rfl ?_
    refine v_last (q := 137) _ dX2_takeLeast_136 rfl p3 rfl (show b < hN h t by omega) (show hN h t < 2147483648 by omega) ?_
    refine v_lld1 (q := 138) dX2_takeLeast_137 rfl ?_
    refine v_lret dX2_takeLeast_138 rfl ?_
    rw [sAL_sAL, aL_sAL, if_pos rfl]
    exact hQ _ hO hct
  intro w
  induction w with
  | zero =>
    intro b a hw hb hbm hD hct
    have hm : m = 0 := by omega
    subst hm
    refine v_ild6 (q := 44) dX2_takeLeast_42 rfl ?_
    refine v_ald0 (q := 45) dX2_takeLeast_44 rfl rfl ?_
    refine v_getI (q := 48) dX2_takeLeast_45 rfl gf_X2_13_2 (by assumption) ?_
    have p4' : fI (sAL h t a) 30 q = nI 0 := p4
    rw [p4']
    refine v_icmp_ge (t := 129) (q := 51) dX2_takeLeast_48 (by decide) rfl (fun _ => ?_) (fun hc => absurd (nI_pos' (by omega)) hc)
    exact fin b a _ hb (fun i i0 hi => absurd hi (Nat.not_lt_zero _)) hct
  | succ w ih =>
    intro b a hw hb hbm hD hct
    have p4' : fI (sAL h t a) 30 q = nI m := p4
    have hal : aL (sAL h t a) t = a := by rw [aL_sAL, if_pos rfl]
    refine v_ild6 (q := 44) dX2_takeLeast_42 rfl ?_
    refine v_ald0 (q := 45) dX2_takeLeast_44 rfl rfl ?_
    refine v_getI (q := 48) dX2_takeLeast_45 rfl gf_X2_13_2 (by assumption) ?_
    rw [p4']
    by_cases hend : m ≤ 2 * b + 1
    · refine v_icmp_ge (t := 129) (q := 51) dX2_takeLeast_48 (by decide) rfl (fun _ => ?_) (fun hc => absurd (nI_le hend (by omega)) hc)
      exact fin b a _ hb (hD.done (fun i i0 hi hp => by omega)) hct
    · refine v_icmp_ge (t := 129) (q := 51) dX2_takeLeast_48 (by decide) rfl (fun hc => absurd hc (nI_ge (by omega) (by omega))) (fun _ => ?_)
      -- from the choice of the lesser child on
      have rest : ∀ c, (c = 2 * b + 1 ∨ c = 2 * b + 2) → c < m → (∀ i, 0 < i → i < m → (i - 1) / 2 = b → a c ≤ a i) → V g mX2_takeLeast (d + 1) 85 [.ref q, .long y0, zz, .long x, zz, .int (nI b), .int (nI c)] [] (sAL h t a) Q := by
        intro c hc hcm hmin
        have hcb : c ≠ b := by omega
        have e1 : vp_updL a b x c = a c := pk_uLn hcb
        have e2 : vp_updL a b x b = x := pk_uLs
        refine v_ald0 (q := 86) dX2_takeLeast_85 rfl rfl ?_
        refine v_getR (q := 89) dX2_takeLeast_86 rfl gf_X2_9_2 (by assumption) (by assumption) ?_
        refine v_ild6 (q := 91) dX2_takeLeast_89 rfl ?_
        refine v_lald (q := 92) _ dX2_takeLeast_91 rfl p3 rfl (show c < hN h t by omega) (show hN h t < 2147483648 by omega) ?_
        rw [hal]
        refine v_lld3 (q := 93) dX2_takeLeast_92 rfl ?_
        refine v_lcmp (q := 94) dX2_takeLeast_93 rfl ?_
        refine v_if_lt (t := 100) (q := 97) dX2_takeLeast_94 (by decide) rfl ?_ ?_
        · intro hlt
          have hlt := (lg_cmp_lt _ _).mp hlt
          refine v_ald0 (q := 101) dX2_takeLeast_100 rfl rfl ?_
          refine v_getR (q := 104) dX2_takeLeast_101 rfl gf_X2_9_2 (by assumption) (by assumption) ?_
          refine v_ild5 (q := 106) dX2_takeLeast_104 rfl ?_
          refine v_ald0 (q := 107) dX2_takeLeast_106 rfl rfl ?_
          refine v_getR (q := 110) dX2_takeLeast_107 rfl gf_X2_9_2 (by assumption) (by assumption) ?_
          refine v_ild6 (q := 112) dX2_takeLeast_110 rfl ?_
          refine v_lald (q := 113) _ dX2_takeLeast_112 rfl p3 rfl (show c < hN h t by omega) (show hN h t < 2147483648 by omega) ?_
          refine v_last (q := 114) _ dX2_takeLeast_113 rfl p3 rfl (show b < hN h t by omega) (show hN h t < 2147483648 by omega) ?_
          rw [sAL_sAL, hal]
          refine v_ild6 (q := 116) dX2_takeLeast_114 rfl ?_
          refine v_ist5 (q := 118) dX2_takeLeast_116 rfl (by decide) rfl ?_
          refine v_iconst (q := 119) (v := 2) dX2_takeLeast_118 rfl (by decide) ?_
          refine v_ild5 (q := 121) dX2_takeLeast_119 rfl ?_
          refine v_imul (q := 122) dX2_takeLeast_121 rfl ?_
          have em : (2 : Int32) * nI c = nI (2 * c) := pk_mul 2 c
          rw [em]
          refine v_iconst (q := 123) (v := 1) dX2_takeLeast_122 rfl (by decide) ?_
          refine v_iadd (q := 124) dX2_takeLeast_123 rfl ?_
          rw [nI_1]
          refine v_ist6 (q := 126) dX2_takeLeast_124 rfl (by decide) rfl ?_
          refine v_goto (q := 42) dX2_takeLeast_126 (by decide) ?_
          have hsw := hole_swp a x (i := b) (j := c) (Ne.symm hcb)
          refine ih c (vp_updL a b (a c)) (by omega) (by omega) (Or.inl hcm) ?_ ?_
          · rw [hsw]
            refine hD.step (by omega) (by omega) hcm (fun i i0 hi hp => ?_) (by rw [e1, e2]; exact hlt)
            rw [e1, pk_uLn (show i ≠ b by omega)]
            exact hmin i i0 hi hp
          · intro y
            rw [hsw, ctL_swp _ (by omega) hcm (Ne.symm hcb)]
            exact hct y
        · intro hnl
          have hge : x ≤ a c := Int64.not_lt.mp (fun e => hnl ((lg_cmp_lt _ _).mpr e))
          refine v_goto (q := 129) dX2_takeLeast_97 (by decide) ?_
          refine fin b a _ hb (hD.done (fun i i0 hi hp => ?_)) hct
          rw [e2, pk_uLn (show i ≠ b by omega)]
          exact Int64.le_trans hge (hmin i i0 hi hp)
      refine v_ild6 (q := 53) dX2_takeLeast_51 rfl ?_
      refine v_iconst (q := 54) (v := 1) dX2_takeLeast_53 rfl (by decide) ?_
      refine v_iadd (q := 55) dX2_takeLeast_54 rfl ?_
      rw [nI_1]
      refine v_ald0 (q := 56) dX2_takeLeast_55 rfl rfl ?_
      refine v_getI (q := 59) dX2_takeLeast_56 rfl gf_X2_13_2 (by assumption) ?_
      rw [p4']
      by_cases h2 : m ≤ 2 * b + 1 + 1
      · refine v_icmp_ge (t := 85) (q := 62) dX2_takeLeast_59 (by decide) rfl (fun _ => ?_) (fun hc => absurd (nI_le h2 (by omega)) hc)
        refine rest (2 * b + 1) (Or.inl rfl) (by omega) (fun i i0 hi hp => ?_)
        rw [show i = 2 * b + 1 by omega]
        exact Int64.le_refl _
      · refine v_icmp_ge (t := 85) (q := 62) dX2_takeLeast_59 (by decide) rfl (fun hc => absurd hc (nI_ge (by omega) (by omega))) (fun _ => ?_)
        refine v_ald0 (q := 63) dX2_takeLeast_62 rfl rfl ?_
        refine v_getR (q := 66) dX2_takeLeast_63 rfl gf_X2_9_2 (by assumption) (by assumption) ?_
        refine v_ild6 (q := 68) dX2_takeLeast_66 rfl ?_
        refine v_iconst (q := 69) (v := 1) dX2_takeLeast_68 rfl (by decide) ?_
        refine v_iadd (q := 70) dX2_takeLeast_69 rfl ?_
        refine v_lald (q := 71) _ dX2_takeLeast_70 rfl p3 (nI_1 (2 * b + 1)) (show 2 * b + 1 + 1 < hN h t by omega) (show hN h t < 2147483648 by omega) ?_
        refine v_ald0 (q := 72) dX2_takeLeast_71 rfl rfl ?_
        refine v_getR (q := 75) dX2_takeLeast_72 rfl gf_X2_9_2 (by assumption) (by assumption) ?_
        refine v_ild6 (q := 77) dX2_takeLeast_75 rfl ?_
        refine v_lald (q := 78) _ dX2_takeLeast_77 rfl p3 rfl (show 2 * b + 1 < hN h t by omega) (show hN h t < 2147483648 by omega) ?_
        refine v_lcmp (q := 79) dX2_takeLeast_78 rfl ?_
        rw [hal]
        refine v_if_ge (t := 85) (q := 82) dX2_takeLeast_79 (by decide) rfl ?_ ?_
        · intro hc
          have hge := (lg_cmp_ge _ _).mp hc
          refine rest (2 * b + 1) (Or.inl rfl) (by omega) (fun i i0 hi hp => ?_)
          rcases (show i = 2 * b + 1 ∨ i = 2 * b + 1 + 1 by omega) with e | e
          · rw [e]
            exact Int64.le_refl _
          · rw [e]
            exact hge
        · intro hc
          have hlt : a (2 * b + 1 + 1) < a (2 * b + 1) := Int64.not_le.mp (fun e => hc ((lg_cmp_ge _ _).mpr e))
          refine v_inc6 (q := 85) dX2_takeLeast_82 rfl (by decide) rfl (inc1 (2 * b + 1)) ?_
          refine rest (2 * b + 1 + 1) (Or.inr rfl) (by omega) (fun i i0 hi hp => ?_)
          rcases (show i = 2 * b + 1 ∨ i = 2 * b + 1 + 1 by omega) with e | e
          · rw [e]
            exact Int64.le_of_lt hlt
          · rw [e]
            exact Int64.le_refl _
theorem k_lfTake {q t n : Nat} (hP : HPv h q t (n + 1))
    (hQ : ∀ h', HPv h' q t n → (∀ y, ctL (aL h t) (n + 1) y = ctL (aL h' t) n y + (if aL h t 0 = y then 1 else 0)) → Smo (fun a => a = q ∨ a = t) h h' → hz h' = hz h → hs h' = hs h → hK h' = hK h → hN h' = hN h → Q (some (.long (aL h t 0))) h') : Call g mX2_takeLeast (d + 1) [.ref q] h Q := by
  obtain ⟨⟨p1, p2, p3, p4, p5, p6, p7⟩, hO⟩ := hP
  refine Call.of [.ref q, zz, zz, zz, zz, zz, zz] (by decide) (Nat.le_of_ble_eq_true rfl) rfl ?_
  refine v_ald0 (q := 1) dX2_takeLeast_0 rfl rfl ?_
  refine v_getI (q := 4) dX2_takeLeast_1 rfl gf_X2_13_2 (by assumption) ?_
  rw [p4]
  refine v_if_ne (t := 9) (q := 7) dX2_takeLeast_4 (by decide) rfl (fun _ => ?_) (fun hc => absurd hc (nI_ne0 (by omega) (by omega)))
  refine v_ald0 (q := 10) dX2_takeLeast_9 rfl rfl ?_
  refine v_getR (q := 13) dX2_takeLeast_10 rfl gf_X2_9_2 (by assumption) (by assumption) ?_
  refine v_iconst (q := 14) (v := 0) dX2_takeLeast_13 rfl (by decide) ?_
  refine v_lald (q := 15) _ dX2_takeLeast_14 rfl p3 nI_0.symm (by omega) (by omega) ?_
  refine v_lst1 (q := 16) dX2_takeLeast_15 rfl (by decide) rfl ?_
  refine v_ald0 (q := 17) dX2_takeLeast_16 rfl rfl ?_
  refine v_dup (q := 18) dX2_takeLeast_17 rfl rfl ?_
  refine v_getI (q := 21) dX2_takeLeast_18 rfl gf_X2_13_2 (by assumption) ?_
  rw [p4]
  refine v_iconst (q := 22) (v := 1) dX2_takeLeast_21 rfl (by decide) ?_
  refine v_isub (q := 23) dX2_takeLeast_22 rfl ?_
  rw [nI_pred]
  refine v_putI (q := 26) dX2_takeLeast_23 rfl pf_X2_13_2 (by assumption) rfl rfl ?_
  refine v_ald0 (q := 27) dX2_takeLeast_26 rfl rfl ?_
  refine v_getR (q := 30) dX2_takeLeast_27 rfl gf_X2_9_2 (by assumption) (by assumption) ?_
  refine v_ald0 (q := 31) dX2_takeLeast_30 rfl rfl ?_
  refine v_getI (q := 34) dX2_takeLeast_31 rfl gf_X2_13_2 (by assumption) ?_
  have p4' : fI (sFI h 30 q (nI n)) 30 q = nI n := by rw [fI_sFI, if_pos ⟨rfl, rfl⟩]
  rw [p4']
  refine v_lald (q := 35) _ dX2_takeLeast_34 rfl p3 rfl (show n < hN h t by omega) (show hN h t < 2147483648 by omega) ?_
  refine v_lst3 (q := 36) dX2_takeLeast_35 rfl (by decide) rfl ?_
  refine v_iconst (q := 37) (v := 0) dX2_takeLeast_36 rfl (by decide) ?_
  refine v_ist5 (q := 39) dX2_takeLeast_37 rfl (by decide) rfl ?_
  refine v_iconst (q := 40) (v := 1) dX2_takeLeast_39 rfl (by decide) ?_
  refine v_ist6 (q := 42) dX2_takeLeast_40 rfl (by decide) rfl ?_
  have e0 : sAL (sFI h 30 q (nI n)) t (aL h t) = sFI h 30 q (nI n) := by
    have : upR (aL h) t (aL h t) = aL h := by
      funext z
      by_cases e : z = t <;> simp [upR, e]
    unfold sAL
    rw [show aL (sFI h 30 q (nI n)) = aL h from rfl, this]
    rfl
  have key := dn_loop (g := g) (d := d) (h := sFI h 30 q (nI n)) (q := q) (t := t) (m := n) (x := aL h t n) (y0 := aL h t 0) (Q := Q) (r0 := vp_updL (aL h t) 0 (aL h t n)) p1 p2 p3 p4' (show n < hN h t by omega) (show hN h t < 1000000 from p7) (fun r' h1 h2 => ?_) n 0 (aL h t) (by omega) (by omega) (by omega) ?_ (fun y => rfl)
  · rw [e0] at key
    exact key
  · refine hQ _ ⟨⟨p1, p2, p3, ?_, show n ≤ hN h t by omega, p6, p7⟩, ?_⟩ (fun y => ?_) ((Smo_sFI (Or.inl rfl)).andAL (Or.inl (Or.inr rfl))) rfl rfl rfl rfl
    · rw [fI_sAL]
      exact p4'
    · rw [aL_sAL, if_pos rfl]
      exact h1
    · rw [aL_sAL, if_pos rfl, h2 y, ctL_succ]
      by_cases hn : n = 0
      · subst hn
        simp [ctL, fb_ct]
      · have := ctL_upd (aL h t) (aL h t n) y (i := 0) (n := n) (by omega)
        omega
  · refine ⟨fun i i0 hi hp => ?_, fun i i0 hi hp b0 => absurd b0 (Nat.lt_irrefl _)⟩
    rw [pk_uLn hp, pk_uLn (show i ≠ 0 by omega)]
    exact hO i i0 (by omega)
end L22
