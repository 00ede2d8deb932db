/-! 34: floorMod of ints, bitCount, Passing.keeps, Passing.gives -/
theorem rem32 {x y : Int32} (hy : 0 < y) : (x - x / y * y).toInt = x.toInt.tmod y.toInt := by
  have hY : 0 < y.toInt := by simpa using Int32.lt_iff_toInt_lt.mp hy
  obtain ⟨d1, d2⟩ := div32 (x := x) hy
  have te := t_eq x.toInt y.toInt
  have ts := t_sgn (X := x.toInt) hY
  have tb2 := tmod_bounds (a := x.toInt) hY
  have r1 := fb_rng x
  have r2 := fb_rng y
  rw [Int32.toInt_sub, d2, fb_bmod (by omega) (by omega)]
  omega
def fmL (v : Int64) (y : Int64) : Int64 := Int64.ofInt (v.toInt % y.toInt)
theorem fmL_of {r v y : Int64} (h : r.toInt = v.toInt % y.toInt) : r = fmL v y := by
  unfold fmL
  rw [← h]
  simp
def keepB (a b : Int32) (v : Int64) : Prop := if 0 < b then fmL v b.toInt64 = a.toInt64 else a.toInt64 ≤ v
section L34
variable {g : Gl} {d : Nat} {h : Hp} {Q : Option Value → Hp → Prop}
theorem k_floorModI {x y : Int32} (hy : 0 < y) (hQ : ∀ r : Int32, r.toInt = x.toInt % y.toInt → Q (some (.int r)) h) : Call g mJ9_floorMod_7cf53 d [.int x, .int y] h Q := by
  have hY : 0 < y.toInt := by simpa using Int32.lt_iff_toInt_lt.mp hy
  have d1 := rem32 (x := x) hy
  have te := t_eq x.toInt y.toInt
  have ts := t_sgn (X := x.toInt) hY
  have tb2 := tmod_bounds (a := x.toInt) hY
  have hm := Int.emod_emod_of_dvd
  have hne : ¬ y = 0 := fun e => by rw [e] at hy; exact absurd hy (by decide)
  refine Call.ofP [.int x, .int y, zz] (by decide +kernel) (Nat.le_of_ble_eq_true rfl) rfl ?_
  refine v_ild0 (q := 1) dJ9_floorMod_7cf53_0 rfl ?_
  refine v_ild1 (q := 2) dJ9_floorMod_7cf53_1 rfl ?_
  refine v_irem (q := 3) dJ9_floorMod_7cf53_2 rfl hne ?_
  refine v_ist2 (q := 4) dJ9_floorMod_7cf53_3 rfl (by decide) rfl ?_
  refine v_ild0 (q := 5) dJ9_floorMod_7cf53_4 rfl ?_
  refine v_ild1 (q := 6) dJ9_floorMod_7cf53_5 rfl ?_
  refine v_ixor (q := 7) dJ9_floorMod_7cf53_6 rfl ?_
  have key : 0 ≤ x.toInt.tmod y.toInt → x.toInt % y.toInt = x.toInt.tmod y.toInt := fun q => by
    have := fl_div (X := x.toInt) (R := x.toInt.tdiv y.toInt) hY (by omega) (by omega)
    have e2 := Int.mul_ediv_add_emod x.toInt y.toInt
    rw [this] at e2
    have e3 := Int.mul_comm y.toInt (x.toInt.tdiv y.toInt)
    omega
  refine v_if_ge (t := 18) (q := 10) dJ9_floorMod_7cf53_7 (by decide) rfl ?_ ?_
  · intro hc
    have hx : ¬ x < 0 := fun e => absurd ((xor32 (Int32.le_of_lt hy)).mpr e) (Int32.not_lt.mpr hc)
    have hX : 0 ≤ x.toInt := by simpa using Int32.le_iff_toInt_le.mp (Int32.not_lt.mp hx)
    refine v_ild2 (q := 19) dJ9_floorMod_7cf53_18 rfl ?_
    refine v_iret dJ9_floorMod_7cf53_19 rfl ?_
    refine hQ _ ?_
    rw [d1]
    exact (key (ts.1 hX)).symm
  · intro hc
    have hx : x < 0 := (xor32 (Int32.le_of_lt hy)).mp (Int32.not_le.mp hc)
    have hX : x.toInt < 0 := by simpa using Int32.lt_iff_toInt_lt.mp hx
    refine v_ild2 (q := 11) dJ9_floorMod_7cf53_10 rfl ?_
    refine v_if_eq (t := 18) (q := 14) dJ9_floorMod_7cf53_11 (by decide) rfl ?_ ?_
    · intro he
      have he2 := congrArg Int32.toInt he
      rw [d1] at he2
      refine v_ild2 (q := 19) dJ9_floorMod_7cf53_18 rfl ?_
      refine v_iret dJ9_floorMod_7cf53_19 rfl ?_
      refine hQ _ ?_
      rw [d1]
      exact (key (by rw [he2]; decide)).symm
    · intro he
      have he2 : x.toInt.tmod y.toInt ≠ 0 := fun e => he (Int32.toInt_inj.mp (d1.trans e))
      refine v_ild2 (q := 15) dJ9_floorMod_7cf53_14 rfl ?_
      refine v_ild1 (q := 16) dJ9_floorMod_7cf53_15 rfl ?_
      refine v_iadd (q := 17) dJ9_floorMod_7cf53_16 rfl ?_
      refine v_iret dJ9_floorMod_7cf53_17 rfl ?_
      refine hQ _ ?_
      have ha := ts.2 (by omega)
      have r2 := fb_rng y
      rw [Int32.toInt_add, d1, fb_bmod (by omega) (by omega)]
      have hh := fl_div (X := x.toInt) (R := x.toInt.tdiv y.toInt - 1) hY (by rw [Int.sub_mul]; omega) (by rw [Int.sub_mul]; omega)
      have e2 := Int.mul_ediv_add_emod x.toInt y.toInt
      rw [hh, Int.mul_sub] at e2
      have e3 := Int.mul_comm y.toInt (x.toInt.tdiv y.toInt)
      omega
def us (x : Int32) (k : Int32) : Int32 := (x.toUInt32 >>> (k.toUInt32 &&& Int32.toUInt32 31)).toInt32
def bc1 (x : Int32) : Int32 := x - (us x 1 &&& 1431655765)
def bc2 (x : Int32) : Int32 := (x &&& 858993459) + (us x 2 &&& 858993459)
def bc3 (x : Int32) : Int32 := (x + us x 4) &&& 252645135
def bc4 (x : Int32) : Int32 := x + us x 8
def bc5 (x : Int32) : Int32 := x + us x 16
def bcI (x : Int32) : Int32 := bc5 (bc4 (bc3 (bc2 (bc1 x)))) &&& 63
theorem k_bitCount {x : Int32} (hQ : Q (some (.int (bcI x))) h) : Call g mJ6_bitCount_0f7a4 d [.int x] h Q := by
  refine Call.ofP [.int x] (by decide +kernel) (Nat.le_of_ble_eq_true rfl) rfl ?_
  refine v_ild0 (q := 1) dJ6_bitCount_0f7a4_0 rfl ?_
  refine v_ild0 (q := 2) dJ6_bitCount_0f7a4_1 rfl ?_
  refine v_iconst (q := 3) (v := 1) dJ6_bitCount_0f7a4_2 rfl (by decide) ?_
  refine v_iushr (q := 4) dJ6_bitCount_0f7a4_3 rfl ?_
  refine v_ldcw (q := 7) dJ6_bitCount_0f7a4_4 rfl kc_J6_265 ?_
  refine v_iand (q := 8) dJ6_bitCount_0f7a4_7 rfl ?_
  refine v_isub (q := 9) dJ6_bitCount_0f7a4_8 rfl ?_
  refine v_ist0 (q := 10) dJ6_bitCount_0f7a4_9 rfl (by decide) ?_
  rw [show x - ((x.toUInt32 >>> (Int32.toUInt32 1 &&& Int32.toUInt32 31)).toInt32 &&& 1431655765) = bc1 x from rfl]
  refine v_ild0 (q := 11) dJ6_bitCount_0f7a4_10 rfl ?_
  refine v_ldcw (q := 14) dJ6_bitCount_0f7a4_11 rfl kc_J6_266 ?_
  refine v_iand (q := 15) dJ6_bitCount_0f7a4_14 rfl ?_
  refine v_ild0 (q := 16) dJ6_bitCount_0f7a4_15 rfl ?_
  refine v_iconst (q := 17) (v := 2) dJ6_bitCount_0f7a4_16 rfl (by decide) ?_
  refine v_iushr (q := 18) dJ6_bitCount_0f7a4_17 rfl ?_
  refine v_ldcw (q := 21) dJ6_bitCount_0f7a4_18 rfl kc_J6_266 ?_
  refine v_iand (q := 22) dJ6_bitCount_0f7a4_21 rfl ?_
  refine v_iadd (q := 23) dJ6_bitCount_0f7a4_22 rfl ?_
  refine v_ist0 (q := 24) dJ6_bitCount_0f7a4_23 rfl (by decide) ?_
  rw [show (bc1 x &&& 858993459) + (((bc1 x).toUInt32 >>> (Int32.toUInt32 2 &&& Int32.toUInt32 31)).toInt32 &&& 858993459) = bc2 (bc1 x) from rfl]
  refine v_ild0 (q := 25) dJ6_bitCount_0f7a4_24 rfl ?_
  refine v_ild0 (q := 26) dJ6_bitCount_0f7a4_25 rfl ?_
  refine v_iconst (q := 27) (v := 4) dJ6_bitCount_0f7a4_26 rfl (by decide) ?_
  refine v_iushr (q := 28) dJ6_bitCount_0f7a4_27 rfl ?_
  refine v_iadd (q := 29) dJ6_bitCount_0f7a4_28 rfl ?_
  refine v_ldcw (q := 32) dJ6_bitCount_0f7a4_29 rfl kc_J6_267 ?_
  refine v_iand (q := 33) dJ6_bitCount_0f7a4_32 rfl ?_
  refine v_ist0 (q := 34) dJ6_bitCount_0f7a4_33 rfl (by decide) ?_
  rw [show (bc2 (bc1 x) + ((bc2 (bc1 x)).toUInt32 >>> (Int32.toUInt32 4 &&& Int32.toUInt32 31)).toInt32) &&& 252645135 = bc3 (bc2 (bc1 x)) from rfl]
  refine v_ild0 (q := 35) dJ6_bitCount_0f7a4_34 rfl ?_
  refine v_ild0 (q := 36) dJ6_bitCount_0f7a4_35 rfl ?_
  refine v_bipush (q := 38) (v := 8) dJ6_bitCount_0f7a4_36 rfl (by decide) ?_
  refine v_iushr (q := 39) dJ6_bitCount_0f7a4_38 rfl ?_
  refine v_iadd (q := 40) dJ6_bitCount_0f7a4_39 rfl ?_
  refine v_ist0 (q := 41) dJ6_bitCount_0f7a4_40 rfl (by decide) ?_
  rw [show bc3 (bc2 (bc1 x)) + ((bc3 (bc2 (bc1 x))).toUInt32 >>> (Int32.toUInt32 8 &&& Int32.toUInt32 31)).toInt32 = bc4 (bc3 (bc2 (bc1 x))) from rfl]
  refine v_ild0 (q := 42) dJ6_bitCount_0f7a4_41 rfl ?_
  refine v_ild0 (q := 43) dJ6_bitCount_0f7a4_42 rfl ?_
  refine v_bipush (q := 45) (v := 16) dJ6_bitCount_0f7a4_43 rfl (by decide) ?_
  refine v_iushr (q := 46) dJ6_bitCount_0f7a4_45 rfl ?_
  refine v_iadd (q := 47) dJ6_bitCount_0f7a4_46 rfl ?_
  refine v_ist0 (q := 48) dJ6_bitCount_0f7a4_47 rfl (by decide) ?_
  rw [show bc4 (bc3 (bc2 (bc1 x))) + ((bc4 (bc3 (bc2 (bc1 x)))).toUInt32 >>> (Int32.toUInt32 16 &&& Int32.toUInt32 31)).toInt32 = bc5 (bc4 (bc3 (bc2 (bc1 x)))) from rfl]
  refine v_ild0 (q := 49) dJ6_bitCount_0f7a4_48 rfl ?_
  refine v_bipush (q := 51) (v := 63) dJ6_bitCount_0f7a4_49 rfl (by decide) ?_
  refine v_iand (q := 52) dJ6_bitCount_0f7a4_51 rfl ?_
  refine v_iret dJ6_bitCount_0f7a4_52 rfl ?_
  exact hQ
theorem k_keeps {p : Nat} {v : Int64} (hk : hK h p = 5) (hQ1 : keepB (fI h 6 p) (fI h 7 p) v → Q (some (.int 1)) h) (hQ0 : ¬ keepB (fI h 6 p) (fI h 7 p) v → Q (some (.int 0)) h) : Call g mX4_keeps (d + 1) [.ref p, .long v] h Q := by
  refine Call.of [.ref p, .long v, zz] (by decide) (Nat.le_of_ble_eq_true rfl) rfl ?_
  refine v_ald0 (q := 1) dX4_keeps_0 rfl rfl ?_
  refine v_getI (q := 4) dX4_keeps_1 rfl gf_X4_15_4 (by assumption) ?_
  refine v_if_le (t := 33) (q := 7) dX4_keeps_4 (by decide) rfl ?_ ?_
  · intro hc
    have hb : ¬ 0 < fI h 7 p := Int32.not_lt.mpr hc
    rw [keepB, if_neg hb] at hQ1 hQ0
    refine v_lld1 (q := 34) dX4_keeps_33 rfl ?_
    refine v_ald0 (q := 35) dX4_keeps_34 rfl rfl ?_
    refine v_getI (q := 38) dX4_keeps_35 rfl gf_X4_9_4 (by assumption) ?_
    refine v_i2l (q := 39) dX4_keeps_38 rfl ?_
    refine v_lcmp (q := 40) dX4_keeps_39 rfl ?_
    refine v_if_lt (t := 47) (q := 43) dX4_keeps_40 (by decide) rfl ?_ ?_
    · intro hc2
      refine v_iconst (q := 48) (v := 0) dX4_keeps_47 rfl (by decide) ?_
      refine v_zret dX4_keeps_48 rfl rfl ?_
      exact hQ0 (fun e => absurd e (Int64.not_le.mpr ((lg_cmp_lt _ _).mp hc2)))
    · intro hc2
      refine v_iconst (q := 44) (v := 1) dX4_keeps_43 rfl (by decide) ?_
      refine v_goto (q := 48) dX4_keeps_44 (by decide) ?_
      refine v_zret dX4_keeps_48 rfl rfl ?_
      exact hQ1 (Int64.not_lt.mp (fun e => hc2 ((lg_cmp_lt _ _).mpr e)))
  · intro hc
    have hb : 0 < fI h 7 p := Int32.not_le.mp hc
    rw [keepB, if_pos hb] at hQ1 hQ0
    refine v_lld1 (q := 8) dX4_keeps_7 rfl ?_
    refine v_ald0 (q := 9) dX4_keeps_8 rfl rfl ?_
    refine v_getI (q := 12) dX4_keeps_9 rfl gf_X4_15_4 (by assumption) ?_
    refine v_i2l (q := 13) dX4_keeps_12 rfl ?_
    refine v_callS (q := 16) (d' := d) (av := [.long v, .long (fI h 7 p).toInt64]) dX4_keeps_13 rfl ok_J9_floorMod_f86c9 ml_X4_35 st_J9_floorMod_f86c9 (by omega) rfl rfl (Nat.le_of_ble_eq_true rfl) ?_
    refine k_floorModL ?_ (fun r hr => ?_)
    · have := (fa_wide_lt 0 (fI h 7 p)).mpr hb
      exact this
    rw [fmL_of hr]
    refine v_ald0 (q := 17) dX4_keeps_16 rfl rfl ?_
    refine v_getI (q := 20) dX4_keeps_17 rfl gf_X4_9_4 (by assumption) ?_
    refine v_i2l (q := 21) dX4_keeps_20 rfl ?_
    refine v_lcmp (q := 22) dX4_keeps_21 rfl ?_
    refine v_if_ne (t := 29) (q := 25) dX4_keeps_22 (by decide) rfl ?_ ?_
    · intro hc2
      refine v_iconst (q := 30) (v := 0) dX4_keeps_29 rfl (by decide) ?_
      refine v_goto (q := 48) dX4_keeps_30 (by decide) ?_
      refine v_zret dX4_keeps_48 rfl rfl ?_
      exact hQ0 (fun e => hc2 ((lg_cmp_eq _ _).mpr e))
    · intro hc2
      refine v_iconst (q := 26) (v := 1) dX4_keeps_25 rfl (by decide) ?_
      refine v_goto (q := 48) dX4_keeps_26 (by decide) ?_
      refine v_zret dX4_keeps_48 rfl rfl ?_
      exact hQ1 ((lg_cmp_eq _ _).mp hc2)
def givK (kd a key : Int32) (v : Int64) : Int32 := if kd = 3 ∧ 0 < a then (fmL v a.toInt64).toInt32 else key
def givV (kd a b : Int32) (v : Int64) : Int64 := if kd = 1 then v * a.toInt64 + b.toInt64 else v
def givH (h : Hp) (p : Nat) (key min : Int32) (v : Int64) : Hp := sFL (sFI (sFI (sFI (sFI h 4 p (fI h 4 p + 1)) 8 p 1) 9 p (givK (fI h 3 p) (fI h 6 p) key v)) 10 p min) 11 p (givV (fI h 3 p) (fI h 6 p) (fI h 7 p) v)
theorem giv65 {p : Nat} {key min kd a b : Int32} {v : Int64} (hk : hK h p = 5) (e3 : fI h 3 p = kd) (e6 : fI h 6 p = a) (e7 : fI h 7 p = b) (hQ : Q (some (.int 1)) (sFL (sFI h 10 p min) 11 p (givV kd a b v))) : V g mX4_gives (d + 2) 65 [.ref p, .int key, .int min, .long v, zz] [] h Q := by
  have u3 : fI (sFI h 10 p min) 3 p = kd := by rw [fI_sFI, if_neg (fun x => absurd x.1 (by decide)), e3]
  have u6 : fI (sFI h 10 p min) 6 p = a := by rw [fI_sFI, if_neg (fun x => absurd x.1 (by decide)), e6]
  have u7 : fI (sFI h 10 p min) 7 p = b := by rw [fI_sFI, if_neg (fun x => absurd x.1 (by decide)), e7]
  refine v_ald0 (q := 66) dX4_gives_65 rfl rfl ?_
  refine v_ild2 (q := 67) dX4_gives_66 rfl ?_
  refine v_putI (q := 70) dX4_gives_67 rfl pf_X4_44_4 (by assumption) rfl rfl ?_
  have kk3 : hK (sFI h 10 p min) p = 5 := hk
  generalize hh : sFI h 10 p min = h1 at *
  refine v_ald0 (q := 71) dX4_gives_70 rfl rfl ?_
  refine v_ald0 (q := 72) dX4_gives_71 rfl rfl ?_
  refine v_getI (q := 75) dX4_gives_72 rfl gf_X4_24_4 (by assumption) ?_
  refine v_iconst (q := 76) (v := 1) dX4_gives_75 rfl (by decide) ?_
  rw [u3]
  refine v_icmp_ne (t := 95) (q := 79) dX4_gives_76 (by decide) rfl ?_ ?_
  · intro hc
    refine v_lld3 (q := 96) dX4_gives_95 rfl ?_
    refine v_putL (q := 99) dX4_gives_96 rfl pf_X4_47_4 (by assumption) ?_
    refine v_iconst (q := 100) (v := 1) dX4_gives_99 rfl (by decide) ?_
    refine v_zret dX4_gives_100 rfl rfl ?_
    rw [givV, if_neg hc] at hQ
    exact hQ
  · intro hc
    refine v_lld3 (q := 80) dX4_gives_79 rfl ?_
    refine v_ald0 (q := 81) dX4_gives_80 rfl rfl ?_
    refine v_getI (q := 84) dX4_gives_81 rfl gf_X4_9_4 (by assumption) ?_
    refine v_i2l (q := 85) dX4_gives_84 rfl ?_
    refine v_lmul (q := 86) dX4_gives_85 rfl ?_
    refine v_ald0 (q := 87) dX4_gives_86 rfl rfl ?_
    rw [u6]
    refine v_getI (q := 90) dX4_gives_87 rfl gf_X4_15_4 (by assumption) ?_
    refine v_i2l (q := 91) dX4_gives_90 rfl ?_
    rw [u7]
    refine v_ladd (q := 92) dX4_gives_91 rfl ?_
    refine v_goto (q := 96) dX4_gives_92 (by decide) ?_
    refine v_putL (q := 99) dX4_gives_96 rfl pf_X4_47_4 (by assumption) ?_
    refine v_iconst (q := 100) (v := 1) dX4_gives_99 rfl (by decide) ?_
    refine v_zret dX4_gives_100 rfl rfl ?_
    rw [givV, if_pos hc] at hQ
    exact hQ
theorem giv27 {p : Nat} {key min kd a b : Int32} {v : Int64} (hk : hK h p = 5) (e3 : fI h 3 p = kd) (e6 : fI h 6 p = a) (e7 : fI h 7 p = b) (hQ : Q (some (.int 1)) (sFL (sFI (sFI (sFI h 8 p 1) 9 p (givK kd a key v)) 10 p min) 11 p (givV kd a b v))) : V g mX4_gives (d + 2) 27 [.ref p, .int key, .int min, .long v, zz] [] h Q := by
  have u3 : fI (sFI h 8 p 1) 3 p = kd := by rw [fI_sFI, if_neg (fun x => absurd x.1 (by decide)), e3]
  have u6 : fI (sFI h 8 p 1) 6 p = a := by rw [fI_sFI, if_neg (fun x => absurd x.1 (by decide)), e6]
  have u7 : fI (sFI h 8 p 1) 7 p = b := by rw [fI_sFI, if_neg (fun x => absurd x.1 (by decide)), e7]
  refine v_ald0 (q := 28) dX4_gives_27 rfl rfl ?_
  refine v_iconst (q := 29) (v := 1) dX4_gives_28 rfl (by decide) ?_
  refine v_putI (q := 32) dX4_gives_29 rfl pf_X4_31_4 (by assumption) rfl rfl ?_
  have kk3 : hK (sFI h 8 p 1) p = 5 := hk
  generalize hh : sFI h 8 p 1 = h1 at *
  have w3 : ∀ gk : Int32, fI (sFI h1 9 p gk) 3 p = kd := fun gk => by rw [fI_sFI, if_neg (fun x => absurd x.1 (by decide)), u3]
  have w6 : ∀ gk : Int32, fI (sFI h1 9 p gk) 6 p = a := fun gk => by rw [fI_sFI, if_neg (fun x => absurd x.1 (by decide)), u6]
  have w7 : ∀ gk : Int32, fI (sFI h1 9 p gk) 7 p = b := fun gk => by rw [fI_sFI, if_neg (fun x => absurd x.1 (by decide)), u7]
  have w0 : ∀ gk : Int32, hK (sFI h1 9 p gk) p = 5 := fun gk => kk3
  refine v_ald0 (q := 33) dX4_gives_32 rfl rfl ?_
  refine v_ald0 (q := 34) dX4_gives_33 rfl rfl ?_
  refine v_getI (q := 37) dX4_gives_34 rfl gf_X4_24_4 (by assumption) ?_
  refine v_iconst (q := 38) (v := 3) dX4_gives_37 rfl (by decide) ?_
  rw [u3]
  refine v_icmp_ne (t := 61) (q := 41) dX4_gives_38 (by decide) rfl ?_ ?_
  · intro hc
    refine v_ild1 (q := 62) dX4_gives_61 rfl ?_
    refine v_putI (q := 65) dX4_gives_62 rfl pf_X4_41_4 (by assumption) rfl rfl ?_
    rw [givK, if_neg (fun x => hc x.1)] at hQ
    exact giv65 (w0 _) (w3 _) (w6 _) (w7 _) hQ
  · intro hc
    refine v_ald0 (q := 42) dX4_gives_41 rfl rfl ?_
    refine v_getI (q := 45) dX4_gives_42 rfl gf_X4_9_4 (by assumption) ?_
    rw [u6]
    refine v_if_le (t := 61) (q := 48) dX4_gives_45 (by decide) rfl ?_ ?_
    · intro hc2
      refine v_ild1 (q := 62) dX4_gives_61 rfl ?_
      refine v_putI (q := 65) dX4_gives_62 rfl pf_X4_41_4 (by assumption) rfl rfl ?_
      rw [givK, if_neg (fun x => absurd x.2 (Int32.not_lt.mpr hc2))] at hQ
      exact giv65 (w0 _) (w3 _) (w6 _) (w7 _) hQ
    · intro hc2
      refine v_lld3 (q := 49) dX4_gives_48 rfl ?_
      refine v_ald0 (q := 50) dX4_gives_49 rfl rfl ?_
      refine v_getI (q := 53) dX4_gives_50 rfl gf_X4_9_4 (by assumption) ?_
      refine v_i2l (q := 54) dX4_gives_53 rfl ?_
      rw [u6]
      refine v_callS (q := 57) (d' := d + 1) (av := [.long v, .long a.toInt64]) dX4_gives_54 rfl ok_J9_floorMod_f86c9 ml_X4_35 st_J9_floorMod_f86c9 (by omega) rfl rfl (Nat.le_of_ble_eq_true rfl) ?_
      refine k_floorModL ?_ (fun r hr => ?_)
      · exact (fa_wide_lt 0 a).mpr (Int32.not_le.mp hc2)
      rw [fmL_of hr]
      refine v_l2i (q := 58) dX4_gives_57 rfl ?_
      refine v_goto (q := 62) dX4_gives_58 (by decide) ?_
      refine v_putI (q := 65) dX4_gives_62 rfl pf_X4_41_4 (by assumption) rfl rfl ?_
      rw [givK, if_pos ⟨hc, Int32.not_le.mp hc2⟩] at hQ
      exact giv65 (w0 _) (w3 _) (w6 _) (w7 _) hQ
theorem k_gives {p : Nat} {key min : Int32} {v : Int64} (hk : hK h p = 5) (hQ0 : fI h 3 p = 0 → ¬ keepB (fI h 6 p) (fI h 7 p) v → Q (some (.int 0)) (sFI h 4 p (fI h 4 p + 1))) (hQ1 : (fI h 3 p = 0 → keepB (fI h 6 p) (fI h 7 p) v) → Q (some (.int 1)) (givH h p key min v)) : Call g mX4_gives (d + 2) [.ref p, .int key, .int min, .long v] h Q := by
  refine Call.of [.ref p, .int key, .int min, .long v, zz] (by decide) (Nat.le_of_ble_eq_true rfl) rfl ?_
  refine v_ald0 (q := 1) dX4_gives_0 rfl rfl ?_
  refine v_dup (q := 2) dX4_gives_1 rfl rfl ?_
  refine v_getI (q := 5) dX4_gives_2 rfl gf_X4_21_4 (by assumption) ?_
  refine v_iconst (q := 6) (v := 1) dX4_gives_5 rfl (by decide) ?_
  refine v_iadd (q := 7) dX4_gives_6 rfl ?_
  refine v_putI (q := 10) dX4_gives_7 rfl pf_X4_21_4 (by assumption) rfl rfl ?_
  have c3 : fI (sFI h 4 p (fI h 4 p + 1)) 3 p = fI h 3 p := by rw [fI_sFI, if_neg (fun x => absurd x.1 (by decide))]
  have c6 : fI (sFI h 4 p (fI h 4 p + 1)) 6 p = fI h 6 p := by rw [fI_sFI, if_neg (fun x => absurd x.1 (by decide))]
  have c7 : fI (sFI h 4 p (fI h 4 p + 1)) 7 p = fI h 7 p := by rw [fI_sFI, if_neg (fun x => absurd x.1 (by decide))]
  have kk : hK (sFI h 4 p (fI h 4 p + 1)) p = 5 := hk
  unfold givH at hQ1
  generalize hh : sFI h 4 p (fI h 4 p + 1) = h1 at *
  refine v_ald0 (q := 11) dX4_gives_10 rfl rfl ?_
  refine v_getI (q := 14) dX4_gives_11 rfl gf_X4_24_4 (by assumption) ?_
  rw [c3]
  refine v_if_ne (t := 27) (q := 17) dX4_gives_14 (by decide) rfl ?_ ?_
  · intro hc
    exact giv27 kk c3 c6 c7 (hQ1 (fun e => absurd e hc))
  · intro hc
    refine v_ald0 (q := 18) dX4_gives_17 rfl rfl ?_
    refine v_lld3 (q := 19) dX4_gives_18 rfl ?_
    refine v_callV (q := 22) (d' := d + 1) (av := [.long v]) dX4_gives_19 rfl ok_X4_keeps CL4 ml_X4_27 im_X4_keeps se_X4_keeps (by assumption) (by omega) rfl rfl (Nat.le_of_ble_eq_true rfl) ?_
    refine k_keeps kk (fun q1 => ?_) (fun q1 => ?_)
    · rw [c6, c7] at q1
      refine v_if_ne (t := 27) (q := 25) dX4_gives_22 (by decide) rfl (fun _ => giv27 kk c3 c6 c7 (hQ1 (fun _ => q1))) (fun e => absurd e (by decide))
    · rw [c6, c7] at q1
      refine v_if_ne (t := 27) (q := 25) dX4_gives_22 (by decide) rfl (fun e => absurd rfl e) (fun _ => ?_)
      refine v_iconst (q := 26) (v := 0) dX4_gives_25 rfl (by decide) ?_
      refine v_zret dX4_gives_26 rfl rfl ?_
      exact hQ0 hc q1
end L34
