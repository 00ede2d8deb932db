/-! 80: what feeds a stage, as bits -/
def mskN (fd : Nat → Bool) (n : Nat) : Nat := fb_sm (fun f => if fd f then 2 ^ f else 0) n
section L80
variable {g : Gl} {d : Nat} {h : Hp} {Q : Option Value → Hp → Prop} {fd : Nat → Bool} {p : Nat}
theorem mskN_lt (n : Nat) : mskN fd n < 2 ^ n := by
  induction n with
  | zero => exact Nat.zero_lt_one
  | succ n ih =>
    unfold mskN at ih ⊢
    rw [fb_sm_succ, Nat.pow_succ]
    split <;> omega
theorem mskN_bit (n i : Nat) : (mskN fd n).testBit i = (decide (i < n) && fd i) := by
  induction n with
  | zero =>
    show (0 : Nat).testBit i = _
    simp
  | succ n ih =>
    have e : mskN fd (n + 1) = mskN fd n + (if fd n then 2 ^ n else 0) := by
      unfold mskN
      exact fb_sm_succ _ _
    have hlt := mskN_lt (fd := fd) n
    by_cases hn : fd n = true
    · rw [e, if_pos hn, Nat.add_comm]
      have e2 : 2 ^ n + mskN fd n = 2 ^ n * 1 + mskN fd n := by omega
      rw [e2, Nat.testBit_two_pow_mul_add 1 hlt]
      split
      · rename_i hi
        rw [ih, decide_eq_true hi, decide_eq_true (show i < n + 1 by omega)]
      · rename_i hi
        by_cases h1 : i = n
        · subst h1
          rw [Nat.sub_self, hn, decide_eq_true (Nat.lt_succ_self _)]
          rfl
        · rw [decide_eq_false (show ¬ i < n + 1 by omega), Bool.false_and]
          have : i - n ≠ 0 := by omega
          exact Nat.testBit_lt_two_pow (Nat.one_lt_two_pow this)
    · rw [e, if_neg hn, Nat.add_zero, ih]
      by_cases h1 : i = n
      · subst h1
        rw [Bool.eq_false_iff.mpr hn, Bool.and_false, Bool.and_false]
      · by_cases h2 : i < n
        · rw [decide_eq_true h2, decide_eq_true (show i < n + 1 by omega)]
        · rw [decide_eq_false h2, decide_eq_false (show ¬ i < n + 1 by omega)]
/-- a bit as the class reads it -/
theorem msk_fed {f : Nat} (hf : f < 24) : ((nI (mskN fd 24) >>> (nI f &&& 31)) &&& 1 = 0) ↔ fd f = false := by
  have hlt := mskN_lt (fd := fd) 24
  have hm := mskN_bit (fd := fd) 24 f
  rw [decide_eq_true hf, Bool.true_and, Nat.testBit_eq_decide_div_mod_eq] at hm
  have hs : nI (mskN fd 24) >>> (nI f &&& 31) = nI (mskN fd 24 / 2 ^ f) := pk_shrN (by omega) (nI f &&& 31) f (s_l f (by omega))
  rw [hs, show (1 : Int32) = nI (2 ^ 1 - 1) from rfl, fa_mask]
  have h2 : mskN fd 24 / 2 ^ f % 2 ^ 1 < 2 := Nat.mod_lt _ (by decide)
  rw [show (0 : Int32) = nI 0 from rfl, nI_eq (by omega) (by decide), ← hm]
  rw [decide_eq_false_iff_not]
  omega
theorem k_fed {f : Nat} (hk : hK h p = 5 ∨ hK h p = 8) (h5 : fI h 5 p = nI (mskN fd 24)) (hf : f < 24) (hQ : Q (some (.int (if fd f then 1 else 0))) h) : Call g mX6_isFedBy d [.ref p, .int (nI f)] h Q := by
  have e : (if (fI h 5 p >>> (nI f &&& 31)) &&& 1 = 0 then 0 else 1 : Int32) = if fd f then 1 else 0 := by
    rw [h5]
    by_cases hb : fd f = true
    · rw [if_pos hb, if_neg (fun q => by rw [(msk_fed hf).mp q] at hb; cases hb)]
    · rw [if_neg hb, if_pos ((msk_fed hf).mpr (Bool.eq_false_iff.mpr hb))]
  rw [← e] at hQ
  rcases hk with hk | hk
  · exact k_fedP hk hQ
  · exact k_fedW hk hQ
end L80
