/-! 33: Math.floorDiv, Math.floorMod -/
theorem sgn32 (x : Int32) : x < 0 ↔ x.toBitVec.msb = true := by
  rw [Int32.lt_iff_toInt_lt, Int32.toInt_zero, BitVec.msb_eq_toInt]
  simp only [decide_eq_true_eq]
  exact Iff.rfl
theorem sgn64 (x : Int64) : x < 0 ↔ x.toBitVec.msb = true := by
  rw [Int64.lt_iff_toInt_lt, Int64.toInt_zero, BitVec.msb_eq_toInt]
  simp only [decide_eq_true_eq]
  exact Iff.rfl
theorem xor32 {x y : Int32} (hy : 0 ≤ y) : x ^^^ y < 0 ↔ x < 0 := by
  have h : y.toBitVec.msb = false := by
    rcases hb : y.toBitVec.msb with _ | _
    · rfl
    · exact absurd ((sgn32 y).mpr hb) (Int32.not_lt.mpr hy)
  rw [sgn32, sgn32, Int32.toBitVec_xor, BitVec.msb_xor, h, Bool.xor_false]
theorem xor64 {x y : Int64} (hy : 0 ≤ y) : x ^^^ y < 0 ↔ x < 0 := by
  have h : y.toBitVec.msb = false := by
    rcases hb : y.toBitVec.msb with _ | _
    · rfl
    · exact absurd ((sgn64 y).mpr hb) (Int64.not_lt.mpr hy)
  rw [sgn64, sgn64, Int64.toBitVec_xor, BitVec.msb_xor, h, Bool.xor_false]
theorem fl_div {X Y R : Int} (hY : 0 < Y) (h1 : R * Y ≤ X) (h2 : X < R * Y + Y) : X / Y = R := by
  apply Int.le_antisymm
  · exact Int.lt_add_one_iff.mp (Int.ediv_lt_of_lt_mul hY (by rw [Int.add_mul, Int.one_mul]; exact h2))
  · exact Int.le_ediv_of_mul_le hY h1
theorem t_eq (X Y : Int) : X.tdiv Y * Y + X.tmod Y = X := by
  have := Int.mul_tdiv_add_tmod X Y
  rw [Int.mul_comm] at this
  exact this
theorem t_sgn {X Y : Int} (hY : 0 < Y) : (0 ≤ X → 0 ≤ X.tmod Y) ∧ (X ≤ 0 → X.tmod Y ≤ 0) := by
  refine ⟨fun h => Int.tmod_nonneg _ h, fun h => ?_⟩
  have h1 : 0 ≤ (-X).tmod Y := Int.tmod_nonneg _ (by omega)
  rw [Int.neg_tmod] at h1
  omega
theorem t_abs {X Y : Int} (hY : 0 < Y) : X.tdiv Y * Y ≤ max X 0 ∧ min X 0 ≤ X.tdiv Y * Y := by
  have h1 := t_eq X Y
  have h2 := t_sgn (X := X) hY
  have h3 := tmod_bounds (a := X) hY
  rcases Int.le_total 0 X with h | h
  · have := h2.1 h
    have h4 : 0 ≤ X.tdiv Y := Int.tdiv_nonneg h (by omega)
    have h5 : 0 ≤ X.tdiv Y * Y := Int.mul_nonneg h4 (by omega)
    omega
  · have := h2.2 h
    have h4 : X.tdiv Y ≤ 0 := by
      have : 0 ≤ (-X).tdiv Y := Int.tdiv_nonneg (by omega) (by omega)
      rw [Int.neg_tdiv] at this
      omega
    have h5 : X.tdiv Y * Y ≤ 0 := Int.mul_nonpos_of_nonpos_of_nonneg h4 (by omega)
    omega
theorem div32 {x y : Int32} (hy : 0 < y) : (x / y).toInt = x.toInt.tdiv y.toInt ∧ (x / y * y).toInt = x.toInt.tdiv y.toInt * y.toInt := by
  have hY : 0 < y.toInt := by simpa using Int32.lt_iff_toInt_lt.mp hy
  have r1 := fb_rng x
  have r2 := fb_rng y
  have ha := t_abs (X := x.toInt) hY
  have hq : -2147483648 ≤ x.toInt.tdiv y.toInt ∧ x.toInt.tdiv y.toInt < 2147483648 := by
    have h4 := Int.natAbs_tdiv_le_natAbs x.toInt y.toInt
    by_cases e : x.toInt = -2147483648
    · rcases Int.le_total 0 (x.toInt.tdiv y.toInt) with c | c
      · have : x.toInt.tdiv y.toInt ≤ 0 := by
          have : 0 ≤ (-x.toInt).tdiv y.toInt := Int.tdiv_nonneg (by omega) (by omega)
          rw [Int.neg_tdiv] at this
          omega
        omega
      · omega
    · omega
  have e1 : (x / y).toInt = x.toInt.tdiv y.toInt := by
    rw [Int32.toInt_div, fb_bmod hq.1 hq.2]
  refine ⟨e1, ?_⟩
  rw [fb_mulI (by rw [e1]; omega) (by rw [e1]; omega), e1]
theorem div64 {x y : Int64} (hy : 0 < y) : (x / y).toInt = x.toInt.tdiv y.toInt ∧ (x / y * y).toInt = x.toInt.tdiv y.toInt * y.toInt := by
  have hY : 0 < y.toInt := by simpa using Int64.lt_iff_toInt_lt.mp hy
  have r1 := fb_rngL x
  have r2 := fb_rngL y
  have ha := t_abs (X := x.toInt) hY
  have hq : -9223372036854775808 ≤ x.toInt.tdiv y.toInt ∧ x.toInt.tdiv y.toInt < 9223372036854775808 := by
    have h4 := Int.natAbs_tdiv_le_natAbs x.toInt y.toInt
    by_cases e : x.toInt = -9223372036854775808
    · rcases Int.le_total 0 (x.toInt.tdiv y.toInt) with c | c
      · have : x.toInt.tdiv y.toInt ≤ 0 := by
          have : 0 ≤ (-x.toInt).tdiv y.toInt := Int.tdiv_nonneg (by omega) (by omega)
          rw [Int.neg_tdiv] at this
          omega
        omega
      · omega
    · omega
  have e1 : (x / y).toInt = x.toInt.tdiv y.toInt := by
    rw [Int64.toInt_div, fb_bmodL hq.1 hq.2]
  refine ⟨e1, ?_⟩
  rw [fb_mulL (by rw [e1]; omega) (by rw [e1]; omega), e1]
section L33
variable {g : Gl} {d : Nat} {h : Hp} {Q : Option Value → Hp → Prop}
theorem k_floorDiv {x y : Int32} (hy : 0 < y) (hQ : ∀ r : Int32, r.toInt = x.toInt / y.toInt → Q (some (.int r)) h) : Call g mJ9_floorDiv_7cf53 d [.int x, .int y] h Q := by
  have hY : 0 < y.toInt := by simpa using Int32.lt_iff_toInt_lt.mp hy
  obtain ⟨d1, d2⟩ := div32 (x := x) hy
  have te := t_eq x.toInt y.toInt
  have ts := t_sgn (X := x.toInt) hY
  have tb2 := tmod_bounds (a := x.toInt) hY
  have hne : ¬ y = 0 := fun e => by rw [e] at hy; exact absurd hy (by decide)
  refine Call.ofP [.int x, .int y, zz] (by decide +kernel) (Nat.le_of_ble_eq_true rfl) rfl ?_
  refine v_ild0 (q := 1) dJ9_floorDiv_7cf53_0 rfl ?_
  refine v_ild1 (q := 2) dJ9_floorDiv_7cf53_1 rfl ?_
  refine v_idiv (q := 3) dJ9_floorDiv_7cf53_2 rfl hne ?_
  refine v_ist2 (q := 4) dJ9_floorDiv_7cf53_3 rfl (by decide) rfl ?_
  refine v_ild0 (q := 5) dJ9_floorDiv_7cf53_4 rfl ?_
  refine v_ild1 (q := 6) dJ9_floorDiv_7cf53_5 rfl ?_
  refine v_ixor (q := 7) dJ9_floorDiv_7cf53_6 rfl ?_
  refine v_if_ge (t := 21) (q := 10) dJ9_floorDiv_7cf53_7 (by decide) rfl ?_ ?_
  · intro hc
    have hx : ¬ x < 0 := fun e => absurd ((xor32 (Int32.le_of_lt hy)).mpr e) (Int32.not_lt.mpr hc)
    have hX : 0 ≤ x.toInt := by simpa using Int32.le_iff_toInt_le.mp (Int32.not_lt.mp hx)
    refine v_ild2 (q := 22) dJ9_floorDiv_7cf53_21 rfl ?_
    refine v_iret dJ9_floorDiv_7cf53_22 rfl ?_
    refine hQ _ ?_
    rw [d1]
    exact (fl_div hY (by have := ts.1 hX; omega) (by omega)).symm
  · intro hc
    have hx : x < 0 := (xor32 (Int32.le_of_lt hy)).mp (Int32.not_le.mp hc)
    have hX : x.toInt < 0 := by simpa using Int32.lt_iff_toInt_lt.mp hx
    refine v_ild2 (q := 11) dJ9_floorDiv_7cf53_10 rfl ?_
    refine v_ild1 (q := 12) dJ9_floorDiv_7cf53_11 rfl ?_
    refine v_imul (q := 13) dJ9_floorDiv_7cf53_12 rfl ?_
    refine v_ild0 (q := 14) dJ9_floorDiv_7cf53_13 rfl ?_
    refine v_icmp_eq (t := 21) (q := 17) dJ9_floorDiv_7cf53_14 (by decide) rfl ?_ ?_
    · intro he
      have he2 := congrArg Int32.toInt he
      rw [d2] at he2
      refine v_ild2 (q := 22) dJ9_floorDiv_7cf53_21 rfl ?_
      refine v_iret dJ9_floorDiv_7cf53_22 rfl ?_
      refine hQ _ ?_
      rw [d1]
      exact (fl_div hY (by omega) (by omega)).symm
    · intro he
      have he2 : x.toInt.tdiv y.toInt * y.toInt ≠ x.toInt := fun e => he (Int32.toInt_inj.mp (d2.trans e))
      refine v_ild2 (q := 18) dJ9_floorDiv_7cf53_17 rfl ?_
      refine v_iconst (q := 19) (v := 1) dJ9_floorDiv_7cf53_18 rfl (by decide) ?_
      refine v_isub (q := 20) dJ9_floorDiv_7cf53_19 rfl ?_
      refine v_iret dJ9_floorDiv_7cf53_20 rfl ?_
      refine hQ _ ?_
      have r1 := fb_rng x
      have ha := ts.2 (by omega)
      have hlow : -2147483648 ≤ x.toInt.tdiv y.toInt - 1 := by
        have r3 := fb_rng (x / y)
        rw [d1] at r3
        by_cases e : x.toInt.tdiv y.toInt = -2147483648
        · exfalso
          have hab := t_abs (X := x.toInt) hY
          rw [e] at hab he2
          have : y.toInt = 1 := by
            have : -2147483648 * y.toInt ≥ -2147483648 := by omega
            omega
          rw [this] at he2
          omega
        · omega
      have e1 : (x / y - 1).toInt = x.toInt.tdiv y.toInt - 1 := by
        have r3 := fb_rng (x / y)
        rw [d1] at r3
        rw [fb_subI (by rw [d1]; simpa using hlow) (by rw [d1]; have : (1 : Int32).toInt = 1 := by decide
                                                       rw [this]; omega), d1]
        rfl
      rw [e1]
      refine (fl_div hY ?_ ?_).symm
      · rw [Int.sub_mul, Int.one_mul]
        omega
      · rw [Int.sub_mul, Int.one_mul]
        omega
theorem k_floorModL {x y : Int64} (hy : 0 < y) (hQ : ∀ r : Int64, r.toInt = x.toInt % y.toInt → Q (some (.long r)) h) : Call g mJ9_floorMod_f86c9 d [.long x, .long y] h Q := by
  have hY : 0 < y.toInt := by simpa using Int64.lt_iff_toInt_lt.mp hy
  obtain ⟨d1, d2⟩ := div64 (x := x) hy
  have te := t_eq x.toInt y.toInt
  have ts := t_sgn (X := x.toInt) hY
  have tb2 := tmod_bounds (a := x.toInt) hY
  have r1 := fb_rngL x
  have r2 := fb_rngL y
  have hne : ¬ y = 0 := fun e => by rw [e] at hy; exact absurd hy (by decide)
  have em : (x - x / y * y).toInt = x.toInt.tmod y.toInt := by
    rw [fb_subL (by rw [d2]; omega) (by rw [d2]; omega), d2]
    omega
  have ee := Int.emod_add_mul_ediv x.toInt y.toInt
  refine Call.ofP [.long x, zz, .long y, zz, zz, zz] (by decide +kernel) (Nat.le_of_ble_eq_true rfl) rfl ?_
  refine v_lld0 (q := 1) dJ9_floorMod_f86c9_0 rfl ?_
  refine v_lld2 (q := 2) dJ9_floorMod_f86c9_1 rfl ?_
  refine v_lrem (q := 3) dJ9_floorMod_f86c9_2 rfl hne ?_
  generalize hm : x - x / y * y = md at em
  refine v_lst4 (q := 5) dJ9_floorMod_f86c9_3 rfl (by decide) rfl ?_
  refine v_lld0 (q := 6) dJ9_floorMod_f86c9_5 rfl ?_
  refine v_lld2 (q := 7) dJ9_floorMod_f86c9_6 rfl ?_
  refine v_lxor (q := 8) dJ9_floorMod_f86c9_7 rfl ?_
  refine v_lconst (q := 9) (v := 0) dJ9_floorMod_f86c9_8 rfl (by decide) ?_
  refine v_lcmp (q := 10) dJ9_floorMod_f86c9_9 rfl ?_
  have fin1 : (0 ≤ x.toInt ∨ md.toInt = 0) → Q (some (.long md)) h := by
    intro hc
    refine hQ md ?_
    rw [em]
    rcases hc with hc | hc
    · exact Int.tmod_eq_emod_of_nonneg hc
    · rw [em] at hc
      rw [hc]
      have : x.toInt / y.toInt = x.toInt.tdiv y.toInt := fl_div hY (by omega) (by omega)
      rw [this, Int.mul_comm] at ee
      omega
  refine v_if_ge (t := 25) (q := 13) dJ9_floorMod_f86c9_10 (by decide) rfl ?_ ?_
  · intro hc
    have hc := (lg_cmp_ge _ _).mp hc
    have hx : ¬ x < 0 := fun e => absurd ((xor64 (Int64.le_of_lt hy)).mpr e) (Int64.not_lt.mpr hc)
    have hX : 0 ≤ x.toInt := by simpa using Int64.le_iff_toInt_le.mp (Int64.not_lt.mp hx)
    refine v_lld4 (q := 27) dJ9_floorMod_f86c9_25 rfl ?_
    refine v_lret dJ9_floorMod_f86c9_27 rfl ?_
    exact fin1 (Or.inl hX)
  · intro hc
    have hx : x < 0 := (xor64 (Int64.le_of_lt hy)).mp (Int64.not_le.mp (fun e => hc ((lg_cmp_ge _ _).mpr e)))
    have hX : x.toInt < 0 := by simpa using Int64.lt_iff_toInt_lt.mp hx
    refine v_lld4 (q := 15) dJ9_floorMod_f86c9_13 rfl ?_
    refine v_lconst (q := 16) (v := 0) dJ9_floorMod_f86c9_15 rfl (by decide) ?_
    refine v_lcmp (q := 17) dJ9_floorMod_f86c9_16 rfl ?_
    refine v_if_eq (t := 25) (q := 20) dJ9_floorMod_f86c9_17 (by decide) rfl ?_ ?_
    · intro he
      have he := (lg_cmp_eq _ _).mp he
      refine v_lld4 (q := 27) dJ9_floorMod_f86c9_25 rfl ?_
      refine v_lret dJ9_floorMod_f86c9_27 rfl ?_
      exact fin1 (Or.inr (by rw [he]; rfl))
    · intro he
      have he2 : md.toInt ≠ 0 := fun e => he ((lg_cmp_eq _ _).mpr (Int64.toInt_inj.mp (e.trans rfl)))
      refine v_lld4 (q := 22) dJ9_floorMod_f86c9_20 rfl ?_
      refine v_lld2 (q := 23) dJ9_floorMod_f86c9_22 rfl ?_
      refine v_ladd (q := 24) dJ9_floorMod_f86c9_23 rfl ?_
      refine v_lret dJ9_floorMod_f86c9_24 rfl ?_
      refine hQ _ ?_
      rw [em] at he2
      have ha := ts.2 (by omega)
      rw [fb_addL (by rw [em]; omega) (by rw [em]; omega), em]
      have : x.toInt / y.toInt = x.toInt.tdiv y.toInt - 1 := fl_div hY (by rw [Int.sub_mul, Int.one_mul]; omega) (by rw [Int.sub_mul, Int.one_mul]; omega)
      rw [this, Int.mul_sub, Int.mul_one, Int.mul_comm] at ee
      omega
end L33
