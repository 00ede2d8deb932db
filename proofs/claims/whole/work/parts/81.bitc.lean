/-! 81: bitCount: how many bits -/
def cntB (fd : Nat → Bool) (n : Nat) : Nat := fb_sm (fun i => if fd i then 1 else 0) n
def m1 (x : Nat) : Nat := x - (x / 2 &&& 85)
def m2 (x : Nat) : Nat := (x &&& 51) + (x / 4 &&& 51)
def m3 (x : Nat) : Nat := (x + x / 16) % 16
def m4 (a : Nat) : Nat := m3 (m2 (m1 a))
section L81
theorem and_byte (a t m M : Nat) (ha : a < 256) (hm : m < 256) : (a + 256 * t) &&& (m + 256 * M) = (a &&& m) + 256 * (t &&& M) := by
  have h1 : ((a + 256 * t) &&& (m + 256 * M)) % 2 ^ 8 = a &&& m := by
    rw [Nat.and_mod_two_pow]
    congr 1 <;> omega
  have h2 : ((a + 256 * t) &&& (m + 256 * M)) / 2 ^ 8 = t &&& M := by
    rw [Nat.and_div_two_pow]
    congr 1 <;> omega
  have h3 := Nat.div_add_mod ((a + 256 * t) &&& (m + 256 * M)) (2 ^ 8)
  rw [h1, h2] at h3
  omega
theorem and_low (a b m : Nat) (hm : m < 64) (h : a % 64 = b % 64) : a &&& m = b &&& m := by
  have h1 : (a &&& m) % 2 ^ 6 = (b &&& m) % 2 ^ 6 := by
    rw [Nat.and_mod_two_pow, Nat.and_mod_two_pow]
    congr 1
  have h2 : a &&& m ≤ m := Nat.and_le_right
  have h3 : b &&& m ≤ m := Nat.and_le_right
  omega
theorem and_low7 (a b m : Nat) (hm : m < 128) (h : a % 128 = b % 128) : a &&& m = b &&& m := by
  have h1 : (a &&& m) % 2 ^ 7 = (b &&& m) % 2 ^ 7 := by
    rw [Nat.and_mod_two_pow, Nat.and_mod_two_pow]
    congr 1
  have h2 : a &&& m ≤ m := Nat.and_le_right
  have h3 : b &&& m ≤ m := Nat.and_le_right
  omega
theorem byte_1 : ∀ a, a < 256 → (a / 2 &&& 85) ≤ a := by decide +kernel
theorem byte_2 : ∀ a, a < 256 → m2 (m1 a) ≤ 68 ∧ m2 (m1 a) % 16 ≤ 4 := by decide +kernel
theorem byte_4 : ∀ a, a < 256 → m4 a = fb_sm (fun i => if a.testBit i then 1 else 0) 8 ∧ m4 a ≤ 8 := by decide +kernel
theorem st_1 {a b c : Nat} (ha : a < 256) (hb : b < 256) (hc : c < 256) : bc1 (nI (a + 256 * (b + 256 * c))) = nI (m1 a + 256 * (m1 b + 256 * m1 c)) := by
  unfold bc1 us
  rw [pk_ushrN (by omega) 1 1 (by decide), show (1431655765 : Int32) = nI 1431655765 from rfl, fa_and]
  have e : (a + 256 * (b + 256 * c)) / 2 ^ 1 &&& 1431655765 = (a / 2 &&& 85) + 256 * ((b / 2 &&& 85) + 256 * (c / 2 &&& 85)) := by
    have e1 : (a + 256 * (b + 256 * c)) / 2 ^ 1 = (a / 2 + 128 * (b % 2)) + 256 * ((b / 2 + 128 * (c % 2)) + 256 * (c / 2 + 256 * 0)) := by omega
    have e2 : 1431655765 = 85 + 256 * (85 + 256 * (85 + 256 * 85)) := by omega
    rw [e1, e2, and_byte _ _ _ _ (by omega) (by omega), and_byte _ _ _ _ (by omega) (by omega), and_byte _ _ _ _ (by omega) (by omega), and_low7 (a / 2 + 128 * (b % 2)) (a / 2) 85 (by omega) (by omega), and_low7 (b / 2 + 128 * (c % 2)) (b / 2) 85 (by omega) (by omega), Nat.zero_and, Nat.mul_zero, Nat.add_zero]
  rw [e]
  have i1 := byte_1 a ha
  have i2 := byte_1 b hb
  have i3 := byte_1 c hc
  rw [nI_sub (by omega)]
  unfold m1
  congr 1
  omega
theorem st_2 {a b c : Nat} (ha : a < 256) (hb : b < 256) (hc : c < 256) : bc2 (nI (a + 256 * (b + 256 * c))) = nI (m2 a + 256 * (m2 b + 256 * m2 c)) := by
  unfold bc2 us
  rw [pk_ushrN (by omega) 2 2 (by decide), show (858993459 : Int32) = nI 858993459 from rfl, fa_and, fa_and, nI_add]
  have e2 : 858993459 = 51 + 256 * (51 + 256 * (51 + 256 * 51)) := by omega
  have e : (a + 256 * (b + 256 * c)) / 2 ^ 2 &&& 858993459 = (a / 4 &&& 51) + 256 * ((b / 4 &&& 51) + 256 * (c / 4 &&& 51)) := by
    have e1 : (a + 256 * (b + 256 * c)) / 2 ^ 2 = (a / 4 + 64 * (b % 4)) + 256 * ((b / 4 + 64 * (c % 4)) + 256 * (c / 4 + 256 * 0)) := by omega
    rw [e1, e2, and_byte _ _ _ _ (by omega) (by omega), and_byte _ _ _ _ (by omega) (by omega), and_byte _ _ _ _ (by omega) (by omega), and_low (a / 4 + 64 * (b % 4)) (a / 4) 51 (by omega) (by omega), and_low (b / 4 + 64 * (c % 4)) (b / 4) 51 (by omega) (by omega), Nat.zero_and, Nat.mul_zero, Nat.add_zero]
  have e3 : (a + 256 * (b + 256 * c)) &&& 858993459 = (a &&& 51) + 256 * ((b &&& 51) + 256 * (c &&& 51)) := by
    have e1 : a + 256 * (b + 256 * c) = a + 256 * (b + 256 * (c + 256 * 0)) := by omega
    rw [e1, e2, and_byte _ _ _ _ (by omega) (by omega), and_byte _ _ _ _ (by omega) (by omega), and_byte _ _ _ _ (by omega) (by omega), Nat.zero_and, Nat.mul_zero, Nat.add_zero]
  rw [e, e3]
  unfold m2
  congr 1
  omega
theorem and15 (a : Nat) : a &&& 15 = a % 16 := Nat.and_two_pow_sub_one_eq_mod a 4
theorem st_3 {a b c : Nat} (ha : a ≤ 68 ∧ a % 16 ≤ 4) (hb : b ≤ 68 ∧ b % 16 ≤ 4) (hc : c ≤ 68 ∧ c % 16 ≤ 4) : bc3 (nI (a + 256 * (b + 256 * c))) = nI (m3 a + 256 * (m3 b + 256 * m3 c)) := by
  unfold bc3 us
  rw [pk_ushrN (by omega) 4 4 (by decide), show (252645135 : Int32) = nI 252645135 from rfl, nI_add, fa_and]
  have e2 : 252645135 = 15 + 256 * (15 + 256 * (15 + 256 * 15)) := by omega
  have e1 : a + 256 * (b + 256 * c) + (a + 256 * (b + 256 * c)) / 2 ^ 4 = (a + a / 16 + 16 * (b % 16)) + 256 * ((b + b / 16 + 16 * (c % 16)) + 256 * ((c + c / 16) + 256 * 0)) := by omega
  rw [e1, e2, and_byte _ _ _ _ (by omega) (by omega), and_byte _ _ _ _ (by omega) (by omega), and_byte _ _ _ _ (by omega) (by omega), Nat.zero_and, and15, and15, and15]
  unfold m3
  congr 1
  omega
theorem st_5 {a b c : Nat} (ha : a ≤ 8) (hb : b ≤ 8) (hc : c ≤ 8) : bc5 (bc4 (nI (a + 256 * (b + 256 * c)))) &&& 63 = nI (a + b + c) := by
  unfold bc5 bc4 us
  rw [pk_ushrN (by omega) 8 8 (by decide), nI_add, pk_ushrN (by omega) 16 16 (by decide), nI_add, show (63 : Int32) = nI (2 ^ 6 - 1) from rfl, fa_mask]
  have e1 : (a + 256 * (b + 256 * c)) / 2 ^ 8 = b + 256 * c := by omega
  rw [e1]
  have e2 : (a + 256 * (b + 256 * c) + (b + 256 * c)) / 2 ^ 16 = c := by omega
  rw [e2]
  refine congrArg nI ?_
  omega
theorem bit_byte (a t i : Nat) (ha : a < 256) : (a + 256 * t).testBit i = if i < 8 then a.testBit i else t.testBit (i - 8) := by
  have : a + 256 * t = 2 ^ 8 * t + a := by omega
  rw [this, Nat.testBit_two_pow_mul_add t ha]
theorem bitc {x : Nat} (hx : x < 2 ^ 24) : bcI (nI x) = nI (cntB (fun i => x.testBit i) 24) := by
  have e : x = x % 256 + 256 * (x / 256 % 256 + 256 * (x / 65536)) := by omega
  have ha : x % 256 < 256 := by omega
  have hb : x / 256 % 256 < 256 := by omega
  have hc : x / 65536 < 256 := by omega
  generalize x % 256 = a at *
  generalize x / 256 % 256 = b at *
  generalize x / 65536 = c at *
  subst e
  have m1l : ∀ y, y < 256 → m1 y < 256 := fun y hy => by unfold m1; omega
  unfold bcI
  rw [st_1 ha hb hc, st_2 (m1l a ha) (m1l b hb) (m1l c hc), st_3 (byte_2 a ha) (byte_2 b hb) (byte_2 c hc)]
  rw [show m3 (m2 (m1 a)) = m4 a from rfl, show m3 (m2 (m1 b)) = m4 b from rfl, show m3 (m2 (m1 c)) = m4 c from rfl, st_5 (byte_4 a ha).2 (byte_4 b hb).2 (byte_4 c hc).2]
  refine congrArg nI ?_
  unfold cntB
  have s1 := fb_sm_split (fun i => if (a + 256 * (b + 256 * c)).testBit i then 1 else 0) 8 16
  have s2 := fb_sm_split (fun k => if (a + 256 * (b + 256 * c)).testBit (8 + k) then 1 else 0) 8 8
  have q1 : fb_sm (fun i => if (a + 256 * (b + 256 * c)).testBit i then 1 else 0) 8 = m4 a := by
    rw [(byte_4 a ha).1]
    refine fb_sm_cong (fun i hi => ?_)
    rw [bit_byte a _ i ha, if_pos hi]
  have q2 : fb_sm (fun k => if (a + 256 * (b + 256 * c)).testBit (8 + k) then 1 else 0) 8 = m4 b := by
    rw [(byte_4 b hb).1]
    refine fb_sm_cong (fun i hi => ?_)
    rw [bit_byte a _ _ ha, if_neg (show ¬ 8 + i < 8 by omega), show 8 + i - 8 = i by omega, bit_byte b _ i hb, if_pos hi]
  have q3 : fb_sm (fun k => if (a + 256 * (b + 256 * c)).testBit (8 + (8 + k)) then 1 else 0) 8 = m4 c := by
    rw [(byte_4 c hc).1]
    refine fb_sm_cong (fun i hi => ?_)
    rw [bit_byte a _ _ ha, if_neg (show ¬ 8 + (8 + i) < 8 by omega), show 8 + (8 + i) - 8 = 8 + i by omega, bit_byte b _ _ hb, if_neg (show ¬ 8 + i < 8 by omega), show 8 + i - 8 = i by omega]
  have s1' : fb_sm (fun i => if (a + 256 * (b + 256 * c)).testBit i then 1 else 0) 24 = m4 a + fb_sm (fun k => if (a + 256 * (b + 256 * c)).testBit (8 + k) then 1 else 0) 16 := by
    rw [← q1]
    exact s1
  have s2' : fb_sm (fun k => if (a + 256 * (b + 256 * c)).testBit (8 + k) then 1 else 0) 16 = m4 b + m4 c := by
    rw [← q2, ← q3]
    exact s2
  rw [s1', s2']
  omega
theorem bitc_msk (fd : Nat → Bool) : bcI (nI (mskN fd 24)) = nI (cntB fd 24) := by
  rw [bitc (mskN_lt 24)]
  refine congrArg nI ?_
  unfold cntB
  refine fb_sm_cong (fun i hi => ?_)
  show (if (mskN fd 24).testBit i then 1 else 0) = _
  rw [mskN_bit, decide_eq_true hi, Bool.true_and]
end L81
