/-! 79: WindowMill: isAsSaid -/
section L79
variable {g : Gl} {d : Nat} {h : Hp} {Q : Option Value → Hp → Prop}
theorem b01_nar (p : Prop) [Decidable p] : narrow .boolean (.int (b01 p)) = .int (b01 p) := by
  unfold b01
  split <;> rfl
theorem b01_dec (p : Prop) [Decidable p] : b01 p = if decide p then 1 else 0 := by
  unfold b01
  by_cases hp : p
  · rw [if_pos hp, if_pos (decide_eq_true hp)]
  · rw [if_neg hp, if_neg (fun q => hp (of_decide_eq_true q))]
theorem k_isAsSaid {kd a b : Int32} (hQ : Q (some (.int (if saidB kd a b then 1 else 0))) h) : Call g mX9_isAsSaid (d + 1) [.int kd, .int a, .int b] h Q := by
  refine Call.of [.int kd, .int a, .int b] (by decide) (Nat.le_of_ble_eq_true rfl) rfl ?_
  refine v_ild0 (q := 1) dX9_isAsSaid_0 rfl ?_
  by_cases h0 : kd = 0
  · subst h0
    refine v_tableIn 0 (t := 44) dX9_isAsSaid_1 (by decide) (by decide) rfl (by decide) ?_
    refine v_ild2 (q := 45) dX9_isAsSaid_44 rfl ?_
    refine v_iconst (q := 46) (v := 0) dX9_isAsSaid_45 rfl (by decide) ?_
    refine v_sipush (q := 49) (v := 1000) dX9_isAsSaid_46 rfl (by decide) ?_
    refine v_callS (q := 52) (d' := d) (av := [.int b, .int 0, .int 1000]) dX9_isAsSaid_49 rfl ok_X9_isWithin ml_X9_82 st_X9_isWithin (by omega) rfl rfl (Nat.le_of_ble_eq_true rfl) ?_
    refine k_isWithin ?_
    refine v_zret dX9_isAsSaid_52 rfl (b01_nar _) ?_
    rw [b01_dec]
    exact hQ
  by_cases h1 : kd = 1
  · subst h1
    refine v_tableIn 1 (t := 53) dX9_isAsSaid_1 (by decide) (by decide) rfl (by decide) ?_
    refine v_iconst (q := 54) (v := 1) dX9_isAsSaid_53 rfl (by decide) ?_
    refine v_zret dX9_isAsSaid_54 rfl rfl ?_
    exact hQ
  by_cases h2 : kd = 2
  · subst h2
    refine v_tableIn 2 (t := 55) dX9_isAsSaid_1 (by decide) (by decide) rfl (by decide) ?_
    refine v_iconst (q := 56) (v := 1) dX9_isAsSaid_55 rfl (by decide) ?_
    refine v_zret dX9_isAsSaid_56 rfl rfl ?_
    exact hQ
  by_cases h3 : kd = 3
  · subst h3
    refine v_tableIn 3 (t := 57) dX9_isAsSaid_1 (by decide) (by decide) rfl (by decide) ?_
    refine v_ild1 (q := 58) dX9_isAsSaid_57 rfl ?_
    refine v_iconst (q := 59) (v := 1) dX9_isAsSaid_58 rfl (by decide) ?_
    refine v_sipush (q := 62) (v := 1000) dX9_isAsSaid_59 rfl (by decide) ?_
    refine v_callS (q := 65) (d' := d) (av := [.int a, .int 1, .int 1000]) dX9_isAsSaid_62 rfl ok_X9_isWithin ml_X9_82 st_X9_isWithin (by omega) rfl rfl (Nat.le_of_ble_eq_true rfl) ?_
    refine k_isWithin ?_
    refine v_zret dX9_isAsSaid_65 rfl (b01_nar _) ?_
    rw [b01_dec]
    exact hQ
  by_cases h4 : kd = 4
  · subst h4
    refine v_tableIn 4 (t := 66) dX9_isAsSaid_1 (by decide) (by decide) rfl (by decide) ?_
    refine v_ild1 (q := 67) dX9_isAsSaid_66 rfl ?_
    refine v_iconst (q := 68) (v := 1) dX9_isAsSaid_67 rfl (by decide) ?_
    refine v_sipush (q := 71) (v := 10000) dX9_isAsSaid_68 rfl (by decide) ?_
    refine v_callS (q := 74) (d' := d) (av := [.int a, .int 1, .int 10000]) dX9_isAsSaid_71 rfl ok_X9_isWithin ml_X9_82 st_X9_isWithin (by omega) rfl rfl (Nat.le_of_ble_eq_true rfl) ?_
    refine k_isWithin ?_
    refine v_zret dX9_isAsSaid_74 rfl (b01_nar _) ?_
    rw [b01_dec]
    exact hQ
  by_cases h5 : kd = 5
  · subst h5
    refine v_tableIn 5 (t := 75) dX9_isAsSaid_1 (by decide) (by decide) rfl (by decide) ?_
    have no : ¬ ((1 ≤ a ∧ a ≤ 10000) ∧ (1 ≤ b ∧ b ≤ a) ∧ a ≤ 4 * b) → V g mX9_isAsSaid (d + 1) 106 [.int 5, .int a, .int b] [] h Q := fun hn => by
      refine v_iconst (q := 107) (v := 0) dX9_isAsSaid_106 rfl (by decide) ?_
      refine v_zret dX9_isAsSaid_107 rfl rfl ?_
      have e : saidB 5 a b = false := decide_eq_false hn
      rw [e] at hQ
      exact hQ
    refine v_ild1 (q := 76) dX9_isAsSaid_75 rfl ?_
    refine v_iconst (q := 77) (v := 1) dX9_isAsSaid_76 rfl (by decide) ?_
    refine v_sipush (q := 80) (v := 10000) dX9_isAsSaid_77 rfl (by decide) ?_
    refine v_callS (q := 83) (d' := d) (av := [.int a, .int 1, .int 10000]) dX9_isAsSaid_80 rfl ok_X9_isWithin ml_X9_82 st_X9_isWithin (by omega) rfl rfl (Nat.le_of_ble_eq_true rfl) ?_
    refine k_isWithin ?_
    by_cases c1 : 1 ≤ a ∧ a ≤ 10000
    · rw [b01_t c1]
      refine v_if_eq (t := 106) (q := 86) dX9_isAsSaid_83 (by decide) rfl (fun hc => absurd hc (by decide)) (fun _ => ?_)
      refine v_ild2 (q := 87) dX9_isAsSaid_86 rfl ?_
      refine v_iconst (q := 88) (v := 1) dX9_isAsSaid_87 rfl (by decide) ?_
      refine v_ild1 (q := 89) dX9_isAsSaid_88 rfl ?_
      refine v_callS (q := 92) (d' := d) (av := [.int b, .int 1, .int a]) dX9_isAsSaid_89 rfl ok_X9_isWithin ml_X9_82 st_X9_isWithin (by omega) rfl rfl (Nat.le_of_ble_eq_true rfl) ?_
      refine k_isWithin ?_
      by_cases c2 : 1 ≤ b ∧ b ≤ a
      · rw [b01_t c2]
        refine v_if_eq (t := 106) (q := 95) dX9_isAsSaid_92 (by decide) rfl (fun hc => absurd hc (by decide)) (fun _ => ?_)
        refine v_ild1 (q := 96) dX9_isAsSaid_95 rfl ?_
        refine v_iconst (q := 97) (v := 4) dX9_isAsSaid_96 rfl (by decide) ?_
        refine v_ild2 (q := 98) dX9_isAsSaid_97 rfl ?_
        refine v_imul (q := 99) dX9_isAsSaid_98 rfl ?_
        by_cases c3 : a ≤ 4 * b
        · refine v_icmp_gt (t := 106) (q := 102) dX9_isAsSaid_99 (by decide) rfl (fun hc => absurd c3 (Int32.not_le.mpr hc)) (fun _ => ?_)
          refine v_iconst (q := 103) (v := 1) dX9_isAsSaid_102 rfl (by decide) ?_
          refine v_goto (q := 107) dX9_isAsSaid_103 (by decide) ?_
          refine v_zret dX9_isAsSaid_107 rfl rfl ?_
          have e : saidB 5 a b = true := decide_eq_true ⟨c1, c2, c3⟩
          rw [e] at hQ
          exact hQ
        · exact v_icmp_gt (t := 106) (q := 102) dX9_isAsSaid_99 (by decide) rfl (fun _ => no (fun hh => c3 hh.2.2)) (fun hc => absurd (Int32.not_le.mp c3) hc)
      · rw [b01_f c2]
        exact v_if_eq (t := 106) (q := 95) dX9_isAsSaid_92 (by decide) rfl (fun _ => no (fun hh => c2 hh.2.1)) (fun hc => absurd rfl hc)
    · rw [b01_f c1]
      exact v_if_eq (t := 106) (q := 86) dX9_isAsSaid_83 (by decide) rfl (fun _ => no (fun hh => c1 hh.1)) (fun hc => absurd rfl hc)
  by_cases h6 : kd = 6
  · subst h6
    refine v_tableIn 6 (t := 108) dX9_isAsSaid_1 (by decide) (by decide) rfl (by decide) ?_
    refine v_ild1 (q := 109) dX9_isAsSaid_108 rfl ?_
    refine v_iconst (q := 110) (v := 0) dX9_isAsSaid_109 rfl (by decide) ?_
    refine v_sipush (q := 113) (v := 10000) dX9_isAsSaid_110 rfl (by decide) ?_
    refine v_callS (q := 116) (d' := d) (av := [.int a, .int 0, .int 10000]) dX9_isAsSaid_113 rfl ok_X9_isWithin ml_X9_82 st_X9_isWithin (by omega) rfl rfl (Nat.le_of_ble_eq_true rfl) ?_
    refine k_isWithin ?_
    refine v_zret dX9_isAsSaid_116 rfl (b01_nar _) ?_
    rw [b01_dec]
    exact hQ
  · have e : saidB kd a b = false := by
      unfold saidB
      rw [if_neg h0, if_neg h1, if_neg h2, if_neg h3, if_neg h4, if_neg h5, if_neg h6]
    rw [e] at hQ
    refine v_tableOut (t := 117) dX9_isAsSaid_1 ?_ (by decide) ?_
    · rw [fa_eq] at h0 h1 h2 h3 h4 h5 h6
      have e0 : (0 : Int32).toInt = 0 := by decide
      have e1 : (1 : Int32).toInt = 1 := by decide
      have e2 : (2 : Int32).toInt = 2 := by decide
      have e3 : (3 : Int32).toInt = 3 := by decide
      have e4 : (4 : Int32).toInt = 4 := by decide
      have e5 : (5 : Int32).toInt = 5 := by decide
      have e6 : (6 : Int32).toInt = 6 := by decide
      omega
    refine v_iconst (q := 118) (v := 0) dX9_isAsSaid_117 rfl (by decide) ?_
    refine v_zret dX9_isAsSaid_118 rfl rfl ?_
    exact hQ
end L79
