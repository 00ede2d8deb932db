/-! 21: LeastFirst -/
theorem upR_upR {α : Type} (f : Nat → α) (i : Nat) (v w : α) : upR (upR f i v) i w = upR f i w := by
  funext x
  by_cases e : x = i <;> simp [upR, e]
theorem sAL_sAL (h : Hp) (t : Nat) (a b : Nat → Int64) : sAL (sAL h t a) t b = sAL h t b := by
  unfold sAL
  rw [show aL (hz h, hs h, hL h, hK h, hN h, fI h, fL h, fP h, aI h, upR (aL h) t a, aP h) = upR (aL h) t a from rfl, upR_upR]
  rfl
theorem sAI_sAI (h : Hp) (t : Nat) (a b : Nat → Int32) : sAI (sAI h t a) t b = sAI h t b := by
  unfold sAI
  rw [show aI (hz h, hs h, hL h, hK h, hN h, fI h, fL h, fP h, upR (aI h) t a, aL h, aP h) = upR (aI h) t a from rfl, upR_upR]
  rfl
theorem uL_uL (r : Nat → Int64) (i : Nat) (v w : Int64) : vp_updL (vp_updL r i v) i w = vp_updL r i w := by
  funext x
  by_cases e : x = i <;> simp [vp_updL, e]
/-- the hole moves from i to j -/
theorem hole_swp (a : Nat → Int64) (x : Int64) {i j : Nat} (h : i ≠ j) : vp_updL (vp_updL a i (a j)) j x = swp (vp_updL a i x) i j := by
  unfold swp
  rw [show vp_updL a i x j = a j from pk_uLn (Ne.symm h), show vp_updL a i x i = x from pk_uLs, uL_uL]
def HPs (h : Hp) (q t n : Nat) : Prop := hK h q = 3 ∧ fP h 29 q = some t ∧ hK h t = 22 ∧ fI h 30 q = nI n ∧ n ≤ hN h t ∧ 16 ≤ hN h t ∧ hN h t < 1000000
def HPv (h : Hp) (q t n : Nat) : Prop := HPs h q t n ∧ HO (aL h t) n
section L21
variable {g : Gl} {d : Nat} {h : Hp} {Q : Option Value → Hp → Prop}
theorem k_lfInit {q : Nat} (wf : Wf h) (hk : hK h q = 3) (hQ : Q none (sFP (nArr h 22 16) 29 q (some (hz h)))) : Call g mX2_init (d + 1) [.ref q] h Q := by
  have hq := wf q (by omega)
  refine Call.of [.ref q] (by decide) (Nat.le_of_ble_eq_true rfl) rfl ?_
  have k2 : hK (nArr h 22 16) q = 3 := by
    rw [hK_nArr, if_neg (Nat.ne_of_lt hq)]
    exact hk
  refine v_ald0 (q := 1) dX2_init_0 rfl rfl ?_
  refine v_objInit (q := 4) dX2_init_1 rfl (by omega) ml_X2_1 w_oi w_oc (Nat.le_of_ble_eq_true rfl) ?_
  refine v_ald0 (q := 5) dX2_init_4 rfl rfl ?_
  refine v_bipush (q := 7) (v := 16) dX2_init_5 rfl (by decide) ?_
  refine v_newarray (q := 9) (k := 22) dX2_init_7 rfl ⟨rfl, by decide⟩ ac_long (N := 16) (by decide) (by decide) ?_
  refine v_putP (q := 12) (x := some (hz h)) dX2_init_9 rfl pf_X2_9_2 k2 rfl rfl ?_
  refine v_vret dX2_init_12 rfl ?_
  exact hQ
theorem k_lfLeast {q t n : Nat} (hP : HPs h q t n) (hQ : Q (some (.long (aL h t 0))) h) : Call g mX2_least d [.ref q] h Q := by
  obtain ⟨p1, p2, p3, p4, p5, p6, p7⟩ := hP
  refine Call.of [.ref q] (by decide) (Nat.le_of_ble_eq_true rfl) rfl ?_
  refine v_ald0 (q := 1) dX2_least_0 rfl rfl ?_
  refine v_getR (q := 4) dX2_least_1 rfl gf_X2_9_2 (by assumption) (by assumption) ?_
  refine v_iconst (q := 5) (v := 0) dX2_least_4 rfl (by decide) ?_
  refine v_lald (q := 6) _ dX2_least_5 rfl p3 nI_0.symm (by omega) (by omega) ?_
  refine v_lret dX2_least_6 rfl ?_
  exact hQ
theorem half_up {a : Nat} (h0 : 0 < a) (h1 : a < 1000000) : (nI a - 1) / 2 = nI ((a - 1) / 2) := by
  obtain ⟨m, rfl⟩ : ∃ m, a = m + 1 := ⟨a - 1, by omega⟩
  rw [nI_pred]
  exact pk_div (a := m) (d := 2) (by omega) (by decide) (by decide)
/-- from the loop on: the hole at b rises -/
theorem up_loop {q t n : Nat} {x : Int64} (p1 : hK h q = 3) (p2 : fP h 29 q = some t) (p3 : hK h t = 22) (hn : n ≤ hN h t) (hN2 : hN h t < 1000000)
    (hQ : ∀ r', HO r' n → (∀ y, ctL r' n y = ctL (vp_updL (aL h t) (n - 1) x) n y) → Q none (sAL h t r')) :
    ∀ (m b : Nat) (a : Nat → Int64), b ≤ m → b < n → UpI (vp_updL a b x) n b → (∀ y, ctL (vp_updL a b x) n y = ctL (vp_updL (aL h t) (n - 1) x) n y) → V g mX2_add (d + 1) 44 [.ref q, .long x, zz, .int (nI b)] [] (sAL h t a) Q := by
  intro m
  induction m with
  | zero =>
    intro b a hb hbn hU hct
    have hb0 : b = 0 := by omega
    subst hb0
    refine v_ild3 (q := 45) dX2_add_44 rfl ?_
    refine v_if_le (t := 88) (q := 48) dX2_add_45 (by decide) rfl (fun _ => ?_) (fun hc => absurd (by decide) hc)
    refine v_ald0 (q := 89) dX2_add_88 rfl rfl ?_
    refine v_getR (q := 92) dX2_add_89 rfl gf_X2_9_2 (by assumption) (by assumption) ?_
    refine v_ild3 (q := 93) dX2_add_92 rfl ?_
    refine v_lld1 (q := 94) dX2_add_93 rfl ?_
    refine v_last (q := 95) _ dX2_add_94 rfl p3 rfl (show 0 < hN h t by omega) (show hN h t < 2147483648 by omega) ?_
    refine v_vret dX2_add_95 rfl ?_
    rw [sAL_sAL, aL_sAL, if_pos rfl]
    exact hQ _ (hU.done (Or.inl rfl)) hct
  | succ m ih =>
    intro b a hb hbn hU hct
    by_cases hb0 : b = 0
    · subst hb0
      refine v_ild3 (q := 45) dX2_add_44 rfl ?_
      refine v_if_le (t := 88) (q := 48) dX2_add_45 (by decide) rfl (fun _ => ?_) (fun hc => absurd (by decide) hc)
      refine v_ald0 (q := 89) dX2_add_88 rfl rfl ?_
      refine v_getR (q := 92) dX2_add_89 rfl gf_X2_9_2 (by assumption) (by assumption) ?_
      refine v_ild3 (q := 93) dX2_add_92 rfl ?_
      refine v_lld1 (q := 94) dX2_add_93 rfl ?_
      refine v_last (q := 95) _ dX2_add_94 rfl p3 rfl (show 0 < hN h t by omega) (show hN h t < 2147483648 by omega) ?_
      refine v_vret dX2_add_95 rfl ?_
      rw [sAL_sAL, aL_sAL, if_pos rfl]
      exact hQ _ (hU.done (Or.inl rfl)) hct
    · have hp := half_up (a := b) (by omega) (by omega)
      have hal : aL (sAL h t a) t = a := by rw [aL_sAL, if_pos rfl]
      refine v_ild3 (q := 45) dX2_add_44 rfl ?_
      refine v_if_le (t := 88) (q := 48) dX2_add_45 (by decide) rfl (fun hc => absurd hc (nI_nle (by omega) (by omega))) (fun _ => ?_)
      refine v_ald0 (q := 49) dX2_add_48 rfl rfl ?_
      refine v_getR (q := 52) dX2_add_49 rfl gf_X2_9_2 (by assumption) (by assumption) ?_
      refine v_ild3 (q := 53) dX2_add_52 rfl ?_
      refine v_iconst (q := 54) (v := 1) dX2_add_53 rfl (by decide) ?_
      refine v_isub (q := 55) dX2_add_54 rfl ?_
      refine v_iconst (q := 56) (v := 2) dX2_add_55 rfl (by decide) ?_
      refine v_idiv (q := 57) dX2_add_56 rfl (by decide) ?_
      refine v_lald (q := 58) _ dX2_add_57 rfl p3 hp (show (b - 1) / 2 < hN h t by omega) (show hN h t < 2147483648 by omega) ?_
      rw [hal]
      refine v_lld1 (q := 59) dX2_add_58 rfl ?_
      refine v_lcmp (q := 60) dX2_add_59 rfl ?_
      have e1 : vp_updL a b x ((b - 1) / 2) = a ((b - 1) / 2) := pk_uLn (by omega)
      have e2 : vp_updL a b x b = x := pk_uLs
      refine v_if_le (t := 88) (q := 63) dX2_add_60 (by decide) rfl ?_ ?_
      · intro hc
        have hle := (lg_cmp_le _ _).mp hc
        refine v_ald0 (q := 89) dX2_add_88 rfl rfl ?_
        refine v_getR (q := 92) dX2_add_89 rfl gf_X2_9_2 (by assumption) (by assumption) ?_
        refine v_ild3 (q := 93) dX2_add_92 rfl ?_
        refine v_lld1 (q := 94) dX2_add_93 rfl ?_
        refine v_last (q := 95) _ dX2_add_94 rfl p3 rfl (show b < hN h t by omega) (show hN h t < 2147483648 by omega) ?_
        refine v_vret dX2_add_95 rfl ?_
        rw [sAL_sAL, hal]
        exact hQ _ (hU.done (Or.inr (by rw [e1, e2]; exact hle))) hct
      · intro hc
        have hlt : x < a ((b - 1) / 2) := Int64.not_le.mp (fun e => hc ((lg_cmp_le _ _).mpr e))
        refine v_ald0 (q := 64) dX2_add_63 rfl rfl ?_
        refine v_getR (q := 67) dX2_add_64 rfl gf_X2_9_2 (by assumption) (by assumption) ?_
        refine v_ild3 (q := 68) dX2_add_67 rfl ?_
        refine v_ald0 (q := 69) dX2_add_68 rfl rfl ?_
        refine v_getR (q := 72) dX2_add_69 rfl gf_X2_9_2 (by assumption) (by assumption) ?_
        refine v_ild3 (q := 73) dX2_add_72 rfl ?_
        refine v_iconst (q := 74) (v := 1) dX2_add_73 rfl (by decide) ?_
        refine v_isub (q := 75) dX2_add_74 rfl ?_
        refine v_iconst (q := 76) (v := 2) dX2_add_75 rfl (by decide) ?_
        refine v_idiv (q := 77) dX2_add_76 rfl (by decide) ?_
        refine v_lald (q := 78) _ dX2_add_77 rfl p3 hp (show (b - 1) / 2 < hN h t by omega) (show hN h t < 2147483648 by omega) ?_
        refine v_last (q := 79) _ dX2_add_78 rfl p3 rfl (show b < hN h t by omega) (show hN h t < 2147483648 by omega) ?_
        rw [sAL_sAL, hal]
        refine v_ild3 (q := 80) dX2_add_79 rfl ?_
        refine v_iconst (q := 81) (v := 1) dX2_add_80 rfl (by decide) ?_
        refine v_isub (q := 82) dX2_add_81 rfl ?_
        refine v_iconst (q := 83) (v := 2) dX2_add_82 rfl (by decide) ?_
        refine v_idiv (q := 84) dX2_add_83 rfl (by decide) ?_
        rw [hp]
        refine v_ist3 (q := 85) dX2_add_84 rfl (by decide) rfl ?_
        refine v_goto (q := 44) dX2_add_85 (by decide) ?_
        have hsw := hole_swp a x (i := b) (j := (b - 1) / 2) (by omega)
        refine ih ((b - 1) / 2) (vp_updL a b (a ((b - 1) / 2))) (by omega) (by omega) ?_ ?_
        · rw [hsw]
          exact hU.step (by omega) hbn (by rw [e1, e2]; exact hlt)
        · intro y
          rw [hsw, ctL_swp _ hbn (by omega) (by omega)]
          exact hct y
end L21
