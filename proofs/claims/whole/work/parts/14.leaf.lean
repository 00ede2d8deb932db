/-! 14: leaf methods without a heap: Code, Math, isWithin -/
section L14
variable {g : Gl} {d : Nat} {h : Hp} {Q : Option Value → Hp → Prop}
def cSlot (key b e : Int32) : Int64 := (((e.toInt64 <<< ((17 : Int32).toInt64 &&& 63)) ||| (b + 10000).toInt64) <<< ((10 : Int32).toInt64 &&& 63)) ||| key.toInt64
theorem k_slot {key b e : Int32} (hQ : Q (some (.long (cSlot key b e))) h) : Call g mX0_slot d [.int key, .int b, .int e] h Q := by
  refine Call.of [.int key, .int b, .int e] (by decide) (Nat.le_of_ble_eq_true rfl) rfl ?_
  refine v_ild2 (q := 1) dX0_slot_0 rfl ?_
  refine v_i2l (q := 2) dX0_slot_1 rfl ?_
  refine v_bipush (q := 4) (v := 17) dX0_slot_2 rfl (by decide) ?_
  refine v_lshl (q := 5) dX0_slot_4 rfl ?_
  refine v_ild1 (q := 6) dX0_slot_5 rfl ?_
  refine v_sipush (q := 9) (v := 10000) dX0_slot_6 rfl (by decide) ?_
  refine v_iadd (q := 10) dX0_slot_9 rfl ?_
  refine v_i2l (q := 11) dX0_slot_10 rfl ?_
  refine v_lor (q := 12) dX0_slot_11 rfl ?_
  refine v_bipush (q := 14) (v := 10) dX0_slot_12 rfl (by decide) ?_
  refine v_lshl (q := 15) dX0_slot_14 rfl ?_
  refine v_ild0 (q := 16) dX0_slot_15 rfl ?_
  refine v_i2l (q := 17) dX0_slot_16 rfl ?_
  refine v_lor (q := 18) dX0_slot_17 rfl ?_
  refine v_lret dX0_slot_18 rfl ?_
  exact hQ
def cKey (x : Int64) : Int32 := x.toInt32 &&& 1023
theorem k_keyOf {x : Int64} (hQ : Q (some (.int (cKey x))) h) : Call g mX0_keyOf d [.long x] h Q := by
  refine Call.of [.long x, zz] (by decide) (Nat.le_of_ble_eq_true rfl) rfl ?_
  refine v_lld0 (q := 1) dX0_keyOf_0 rfl ?_
  refine v_l2i (q := 2) dX0_keyOf_1 rfl ?_
  refine v_sipush (q := 5) (v := 1023) dX0_keyOf_2 rfl (by decide) ?_
  refine v_iand (q := 6) dX0_keyOf_5 rfl ?_
  refine v_iret dX0_keyOf_6 rfl ?_
  exact hQ
def cBegin (x : Int64) : Int32 := ((x >>> ((10 : Int32).toInt64 &&& 63)).toInt32 &&& 131071) - 10000
theorem k_beginOf {x : Int64} (hQ : Q (some (.int (cBegin x))) h) : Call g mX0_beginOf d [.long x] h Q := by
  refine Call.of [.long x, zz] (by decide) (Nat.le_of_ble_eq_true rfl) rfl ?_
  refine v_lld0 (q := 1) dX0_beginOf_0 rfl ?_
  refine v_bipush (q := 3) (v := 10) dX0_beginOf_1 rfl (by decide) ?_
  refine v_lshr (q := 4) dX0_beginOf_3 rfl ?_
  refine v_l2i (q := 5) dX0_beginOf_4 rfl ?_
  refine v_ldc (q := 7) dX0_beginOf_5 rfl kc_X0_11 ?_
  refine v_iand (q := 8) dX0_beginOf_7 rfl ?_
  refine v_sipush (q := 11) (v := 10000) dX0_beginOf_8 rfl (by decide) ?_
  refine v_isub (q := 12) dX0_beginOf_11 rfl ?_
  refine v_iret dX0_beginOf_12 rfl ?_
  exact hQ
def cEnd (x : Int64) : Int32 := (x >>> ((27 : Int32).toInt64 &&& 63)).toInt32
theorem k_endOf {x : Int64} (hQ : Q (some (.int (cEnd x))) h) : Call g mX0_endOf d [.long x] h Q := by
  refine Call.of [.long x, zz] (by decide) (Nat.le_of_ble_eq_true rfl) rfl ?_
  refine v_lld0 (q := 1) dX0_endOf_0 rfl ?_
  refine v_bipush (q := 3) (v := 27) dX0_endOf_1 rfl (by decide) ?_
  refine v_lshr (q := 4) dX0_endOf_3 rfl ?_
  refine v_l2i (q := 5) dX0_endOf_4 rfl ?_
  refine v_iret dX0_endOf_5 rfl ?_
  exact hQ
def cPut (x : Int64) (s : Int32) : Int64 := ((x <<< ((4 : Int32).toInt64 &&& 63)) ||| s.toInt64) <<< ((1 : Int32).toInt64 &&& 63)
theorem k_put {x : Int64} {s : Int32} (hQ : Q (some (.long (cPut x s))) h) : Call g mX0_put d [.long x, .int s] h Q := by
  refine Call.of [.long x, zz, .int s] (by decide) (Nat.le_of_ble_eq_true rfl) rfl ?_
  refine v_lld0 (q := 1) dX0_put_0 rfl ?_
  refine v_iconst (q := 2) (v := 4) dX0_put_1 rfl (by decide) ?_
  refine v_lshl (q := 3) dX0_put_2 rfl ?_
  refine v_ild2 (q := 4) dX0_put_3 rfl ?_
  refine v_i2l (q := 5) dX0_put_4 rfl ?_
  refine v_lor (q := 6) dX0_put_5 rfl ?_
  refine v_iconst (q := 7) (v := 1) dX0_put_6 rfl (by decide) ?_
  refine v_lshl (q := 8) dX0_put_7 rfl ?_
  refine v_lret dX0_put_8 rfl ?_
  exact hQ
theorem k_back {x : Int64} (hQ : Q (some (.long (x ||| 1))) h) : Call g mX0_back d [.long x] h Q := by
  refine Call.of [.long x, zz] (by decide) (Nat.le_of_ble_eq_true rfl) rfl ?_
  refine v_lld0 (q := 1) dX0_back_0 rfl ?_
  refine v_lconst (q := 2) (v := 1) dX0_back_1 rfl (by decide) ?_
  refine v_lor (q := 3) dX0_back_2 rfl ?_
  refine v_lret dX0_back_3 rfl ?_
  exact hQ
theorem k_isBack {x : Int64} (hQ : Q (some (.int (if x &&& 1 = 0 then 0 else 1))) h) : Call g mX0_isBack d [.long x] h Q := by
  refine Call.of [.long x, zz] (by decide) (Nat.le_of_ble_eq_true rfl) rfl ?_
  refine v_lld0 (q := 1) dX0_isBack_0 rfl ?_
  refine v_lconst (q := 2) (v := 1) dX0_isBack_1 rfl (by decide) ?_
  refine v_land (q := 3) dX0_isBack_2 rfl ?_
  refine v_lconst (q := 4) (v := 0) dX0_isBack_3 rfl (by decide) ?_
  refine v_lcmp (q := 5) dX0_isBack_4 rfl ?_
  refine v_if_eq (t := 12) (q := 8) dX0_isBack_5 (by decide) rfl ?_ ?_
  · intro hc
    refine v_iconst (q := 13) (v := 0) dX0_isBack_12 rfl (by decide) ?_
    refine v_zret dX0_isBack_13 rfl rfl ?_
    rw [if_pos ((lg_cmp_eq _ _).mp hc)] at hQ
    exact hQ
  · intro hc
    refine v_iconst (q := 9) (v := 1) dX0_isBack_8 rfl (by decide) ?_
    refine v_goto (q := 13) dX0_isBack_9 (by decide) ?_
    refine v_zret dX0_isBack_13 rfl rfl ?_
    rw [if_neg (fun e => hc ((lg_cmp_eq _ _).mpr e))] at hQ
    exact hQ
theorem k_stageOf {x : Int64} (hQ : Q (some (.int ((x >>> ((1 : Int32).toInt64 &&& 63)).toInt32 &&& 15))) h) : Call g mX0_stageOf d [.long x] h Q := by
  refine Call.of [.long x, zz] (by decide) (Nat.le_of_ble_eq_true rfl) rfl ?_
  refine v_lld0 (q := 1) dX0_stageOf_0 rfl ?_
  refine v_iconst (q := 2) (v := 1) dX0_stageOf_1 rfl (by decide) ?_
  refine v_lshr (q := 3) dX0_stageOf_2 rfl ?_
  refine v_l2i (q := 4) dX0_stageOf_3 rfl ?_
  refine v_bipush (q := 6) (v := 15) dX0_stageOf_4 rfl (by decide) ?_
  refine v_iand (q := 7) dX0_stageOf_6 rfl ?_
  refine v_iret dX0_stageOf_7 rfl ?_
  exact hQ
theorem k_slotOf {x : Int64} (hQ : Q (some (.long (x >>> ((5 : Int32).toInt64 &&& 63)))) h) : Call g mX0_slotOf d [.long x] h Q := by
  refine Call.of [.long x, zz] (by decide) (Nat.le_of_ble_eq_true rfl) rfl ?_
  refine v_lld0 (q := 1) dX0_slotOf_0 rfl ?_
  refine v_iconst (q := 2) (v := 5) dX0_slotOf_1 rfl (by decide) ?_
  refine v_lshr (q := 3) dX0_slotOf_2 rfl ?_
  refine v_lret dX0_slotOf_3 rfl ?_
  exact hQ
theorem k_maxI {x y : Int32} (hQ : Q (some (.int (if x < y then y else x))) h) : Call g mJ9_max_7cf53 d [.int x, .int y] h Q := by
  refine Call.ofP [.int x, .int y] (by decide +kernel) (Nat.le_of_ble_eq_true rfl) rfl ?_
  refine v_ild0 (q := 1) dJ9_max_7cf53_0 rfl ?_
  refine v_ild1 (q := 2) dJ9_max_7cf53_1 rfl ?_
  refine v_icmp_lt (t := 9) (q := 5) dJ9_max_7cf53_2 (by decide) rfl ?_ ?_
  · intro hc
    refine v_ild1 (q := 10) dJ9_max_7cf53_9 rfl ?_
    refine v_iret dJ9_max_7cf53_10 rfl ?_
    rw [if_pos hc] at hQ
    exact hQ
  · intro hc
    refine v_ild0 (q := 6) dJ9_max_7cf53_5 rfl ?_
    refine v_goto (q := 10) dJ9_max_7cf53_6 (by decide) ?_
    refine v_iret dJ9_max_7cf53_10 rfl ?_
    rw [if_neg hc] at hQ
    exact hQ
theorem k_minI {x y : Int32} (hQ : Q (some (.int (if y < x then y else x))) h) : Call g mJ9_min_7cf53 d [.int x, .int y] h Q := by
  refine Call.ofP [.int x, .int y] (by decide +kernel) (Nat.le_of_ble_eq_true rfl) rfl ?_
  refine v_ild0 (q := 1) dJ9_min_7cf53_0 rfl ?_
  refine v_ild1 (q := 2) dJ9_min_7cf53_1 rfl ?_
  refine v_icmp_gt (t := 9) (q := 5) dJ9_min_7cf53_2 (by decide) rfl ?_ ?_
  · intro hc
    refine v_ild1 (q := 10) dJ9_min_7cf53_9 rfl ?_
    refine v_iret dJ9_min_7cf53_10 rfl ?_
    rw [if_pos hc] at hQ
    exact hQ
  · intro hc
    refine v_ild0 (q := 6) dJ9_min_7cf53_5 rfl ?_
    refine v_goto (q := 10) dJ9_min_7cf53_6 (by decide) ?_
    refine v_iret dJ9_min_7cf53_10 rfl ?_
    rw [if_neg hc] at hQ
    exact hQ
theorem k_maxL {x y : Int64} (hQ : Q (some (.long (if x < y then y else x))) h) : Call g mJ9_max_f86c9 d [.long x, .long y] h Q := by
  refine Call.ofP [.long x, zz, .long y, zz] (by decide +kernel) (Nat.le_of_ble_eq_true rfl) rfl ?_
  refine v_lld0 (q := 1) dJ9_max_f86c9_0 rfl ?_
  refine v_lld2 (q := 2) dJ9_max_f86c9_1 rfl ?_
  refine v_lcmp (q := 3) dJ9_max_f86c9_2 rfl ?_
  refine v_if_lt (t := 10) (q := 6) dJ9_max_f86c9_3 (by decide) rfl ?_ ?_
  · intro hc
    refine v_lld2 (q := 11) dJ9_max_f86c9_10 rfl ?_
    refine v_lret dJ9_max_f86c9_11 rfl ?_
    rw [if_pos ((lg_cmp_lt _ _).mp hc)] at hQ
    exact hQ
  · intro hc
    refine v_lld0 (q := 7) dJ9_max_f86c9_6 rfl ?_
    refine v_goto (q := 11) dJ9_max_f86c9_7 (by decide) ?_
    refine v_lret dJ9_max_f86c9_11 rfl ?_
    rw [if_neg (fun e => hc ((lg_cmp_lt _ _).mpr e))] at hQ
    exact hQ
theorem k_minL {x y : Int64} (hQ : Q (some (.long (if y < x then y else x))) h) : Call g mJ9_min_f86c9 d [.long x, .long y] h Q := by
  refine Call.ofP [.long x, zz, .long y, zz] (by decide +kernel) (Nat.le_of_ble_eq_true rfl) rfl ?_
  refine v_lld0 (q := 1) dJ9_min_f86c9_0 rfl ?_
  refine v_lld2 (q := 2) dJ9_min_f86c9_1 rfl ?_
  refine v_lcmp (q := 3) dJ9_min_f86c9_2 rfl ?_
  refine v_if_gt (t := 10) (q := 6) dJ9_min_f86c9_3 (by decide) rfl ?_ ?_
  · intro hc
    refine v_lld2 (q := 11) dJ9_min_f86c9_10 rfl ?_
    refine v_lret dJ9_min_f86c9_11 rfl ?_
    rw [if_pos ((lg_cmp_gt _ _).mp hc)] at hQ
    exact hQ
  · intro hc
    refine v_lld0 (q := 7) dJ9_min_f86c9_6 rfl ?_
    refine v_goto (q := 11) dJ9_min_f86c9_7 (by decide) ?_
    refine v_lret dJ9_min_f86c9_11 rfl ?_
    rw [if_neg (fun e => hc ((lg_cmp_gt _ _).mpr e))] at hQ
    exact hQ
def b01 (p : Prop) [Decidable p] : Int32 := if p then 1 else 0
theorem b01_t {p : Prop} [Decidable p] (hp : p) : b01 p = 1 := if_pos hp
theorem b01_f {p : Prop} [Decidable p] (hp : ¬ p) : b01 p = 0 := if_neg hp
theorem k_isWithin {x a b : Int32} (hQ : Q (some (.int (b01 (a ≤ x ∧ x ≤ b)))) h) : Call g mX9_isWithin d [.int x, .int a, .int b] h Q := by
  refine Call.of [.int x, .int a, .int b] (by decide) (Nat.le_of_ble_eq_true rfl) rfl ?_
  refine v_ild0 (q := 1) dX9_isWithin_0 rfl ?_
  refine v_ild1 (q := 2) dX9_isWithin_1 rfl ?_
  refine v_icmp_lt (t := 14) (q := 5) dX9_isWithin_2 (by decide) rfl ?_ ?_
  · intro hc
    refine v_iconst (q := 15) (v := 0) dX9_isWithin_14 rfl (by decide) ?_
    refine v_zret dX9_isWithin_15 rfl rfl ?_
    rw [b01_f (fun e => absurd hc (Int32.not_lt.mpr e.1))] at hQ
    exact hQ
  · intro hc
    refine v_ild0 (q := 6) dX9_isWithin_5 rfl ?_
    refine v_ild2 (q := 7) dX9_isWithin_6 rfl ?_
    refine v_icmp_gt (t := 14) (q := 10) dX9_isWithin_7 (by decide) rfl ?_ ?_
    · intro hc2
      refine v_iconst (q := 15) (v := 0) dX9_isWithin_14 rfl (by decide) ?_
      refine v_zret dX9_isWithin_15 rfl rfl ?_
      rw [b01_f (fun e => absurd hc2 (Int32.not_lt.mpr e.2))] at hQ
      exact hQ
    · intro hc2
      refine v_iconst (q := 11) (v := 1) dX9_isWithin_10 rfl (by decide) ?_
      refine v_goto (q := 15) dX9_isWithin_11 (by decide) ?_
      refine v_zret dX9_isWithin_15 rfl rfl ?_
      rw [b01_t ⟨Int32.not_lt.mp hc, Int32.not_lt.mp hc2⟩] at hQ
      exact hQ
theorem k_isPort {x : Int32} (hQ : Q (some (.int (b01 (0 ≤ x ∧ x ≤ 7)))) h) : Call g mX9_isPort (d + 1) [.int x] h Q := by
  refine Call.of [.int x] (by decide) (Nat.le_of_ble_eq_true rfl) rfl ?_
  refine v_ild0 (q := 1) dX9_isPort_0 rfl ?_
  refine v_iconst (q := 2) (v := 0) dX9_isPort_1 rfl (by decide) ?_
  refine v_bipush (q := 4) (v := 7) dX9_isPort_2 rfl (by decide) ?_
  refine v_callS (q := 7) (d' := d) (av := [.int x, .int 0, .int 7]) dX9_isPort_4 rfl ok_X9_isWithin ml_X9_82 st_X9_isWithin (by omega) rfl rfl (by decide) ?_
  refine k_isWithin ?_
  refine v_zret dX9_isPort_7 rfl (by unfold b01; split <;> rfl) ?_
  exact hQ
end L14
