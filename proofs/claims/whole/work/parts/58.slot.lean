/-! 58: slots -/
def VB (b e : Int32) : Prop := -10000 ≤ b.toInt ∧ b.toInt ≤ 120000 ∧ 0 ≤ e.toInt ∧ e.toInt ≤ 1000000
theorem slot_nat {k E B : Nat} {b : Int32} (hb : b + 10000 = nI B) (hk : k < 1024) (hB : B < 131072) (hE : E < 1048576) : cSlot (nI k) b (nI E) = lN ((E * 131072 + B) * 1024 + k) := by
  unfold cSlot
  rw [hb, nI_l (by omega), nI_l (by omega), nI_l (by omega)]
  rw [show (17 : Int32) = nI 17 from rfl, wb_shl _ (by decide), show (10 : Int32) = nI 10 from rfl]
  rw [g_or (k := 17) (p := 2 ^ 17) rfl (by omega) (by omega), wb_shl _ (by decide), g_or (k := 10) (p := 2 ^ 10) rfl (by omega) (by omega)]
theorem vb_nat {b e : Int32} (h : VB b e) : ∃ B E : Nat, b + 10000 = nI B ∧ e = nI E ∧ (B : Int) = b.toInt + 10000 ∧ (E : Int) = e.toInt ∧ B < 131072 ∧ E < 1048576 := by
  obtain ⟨h1, h2, h3, h4⟩ := h
  have e10 : (10000 : Int32).toInt = 10000 := by decide
  have hb : (b + 10000).toInt = b.toInt + 10000 := by
    rw [Int32.toInt_add, e10]
    exact Int.bmod_eq_of_le (by omega) (by omega)
  refine ⟨(b.toInt + 10000).toNat, e.toInt.toNat, ?_, ?_, by omega, by omega, by omega, by omega⟩
  · rw [fa_eq, hb, nI_toInt (by omega)]
    omega
  · rw [fa_eq, nI_toInt (by omega)]
    omega
theorem slot_int {k : Nat} {b e : Int32} (h : VB b e) (hk : k < 1000) : (cSlot (nI k) b e).toInt = (e.toInt * 131072 + (b.toInt + 10000)) * 1024 + k := by
  obtain ⟨B, E, h1, h2, h3, h4, h5, h6⟩ := vb_nat h
  rw [h2, slot_nat h1 (by omega) h5 h6, pf_lI (by omega), nI_toInt (by omega)]
  omega
theorem slot_inj {k k' : Nat} {b e b' e' : Int32} (h : VB b e) (h' : VB b' e') (hk : k < 1000) (hk' : k' < 1000) (he : cSlot (nI k) b e = cSlot (nI k') b' e') : k = k' ∧ b = b' ∧ e = e' := by
  have h1 := slot_int h hk
  rw [he, slot_int h' hk'] at h1
  obtain ⟨a1, a2, a3, a4⟩ := h
  obtain ⟨c1, c2, c3, c4⟩ := h'
  rw [fa_eq, fa_eq]
  omega
theorem lN_i32 (n : Nat) : (lN n).toInt32 = nI n := by
  apply Int32.toBitVec_inj.mp
  show (BitVec.ofNat 64 n).signExtend 32 = BitVec.ofNat 32 n
  apply BitVec.eq_of_toNat_eq
  rw [BitVec.toNat_ofNat, BitVec.signExtend_eq_setWidth_of_le _ (by decide), BitVec.toNat_setWidth, BitVec.toNat_ofNat]
  omega
theorem slot_dec {k : Nat} {b e : Int32} (h : VB b e) (hk : k < 1000) : cKey (cSlot (nI k) b e) = nI k ∧ cBegin (cSlot (nI k) b e) = b ∧ cEnd (cSlot (nI k) b e) = e := by
  obtain ⟨B, E, h1, h2, h3, h4, h5, h6⟩ := vb_nat h
  rw [h2, slot_nat h1 (by omega) h5 h6]
  refine ⟨?_, ?_, ?_⟩
  · unfold cKey
    rw [lN_i32, show (1023 : Int32) = nI (2 ^ 10 - 1) from rfl, fa_mask]
    congr 1
    omega
  · unfold cBegin
    rw [pf_shr (d := 10) (by decide) (by omega), lN_i32, show (131071 : Int32) = nI (2 ^ 17 - 1) from rfl, fa_mask]
    have : ((E * 131072 + B) * 1024 + k) / 2 ^ 10 % 2 ^ 17 = B := by omega
    rw [this, ← h1]
    exact Int32.add_sub_cancel _ _
  · unfold cEnd
    rw [pf_shr (d := 27) (by decide) (by omega), lN_i32]
    congr 1
    omega
theorem rcode_dec {s k : Nat} {b e : Int32} {bk : Bool} {y : Int64} (h : VB b e) (hk : k < 1000) (hs : s < 16) : (rcode (bk, s, k, b, e, y) &&& 1 = 0 ↔ bk = false) ∧ (rcode (bk, s, k, b, e, y) >>> ((1 : Int32).toInt64 &&& 63)).toInt32 &&& 15 = nI s ∧ rcode (bk, s, k, b, e, y) >>> ((5 : Int32).toInt64 &&& 63) = cSlot (nI k) b e := by
  obtain ⟨B, E, h1, h2, h3, h4, h5, h6⟩ := vb_nat h
  rw [h2]
  have hc : rcode (bk, s, k, b, nI E, y) = lN ((((E * 131072 + B) * 1024 + k) * 16 + s) * 2 + (if bk then 1 else 0)) := by
    have hp : cPut (cSlot (nI k) b (nI E)) (nI s) = lN ((((E * 131072 + B) * 1024 + k) * 16 + s) * 2) := by
      unfold cPut
      rw [slot_nat h1 (by omega) h5 h6, show (4 : Int32) = nI 4 from rfl, wb_shl _ (by decide), nI_l (by omega), g_or (k := 4) (p := 2 ^ 4) rfl (by omega) (by omega), show (1 : Int32) = nI 1 from rfl, wb_shl _ (by decide)]
    unfold rcode
    show (if bk = true then cPut (cSlot (nI k) b (nI E)) (nI s) ||| 1 else cPut (cSlot (nI k) b (nI E)) (nI s)) = _
    rw [hp]
    cases bk with
    | true =>
      rw [if_pos rfl, if_pos rfl]
      exact g_or (k := 1) (p := 2) (a := 1) (b := ((E * 131072 + B) * 1024 + k) * 16 + s) rfl (by omega) (by omega)
    | false => rfl
  rw [hc]
  have hb2 : (if bk then 1 else 0) < 2 := by split <;> omega
  refine ⟨?_, ?_, ?_⟩
  · rw [wb_a1 (by omega)]
    have e0 : (0 : Int64) = lN 0 := rfl
    rw [e0, fb_lN_inj (by omega) (by omega)]
    cases bk with
    | true =>
      rw [if_pos rfl]
      constructor
      · intro h
        omega
      · intro h
        cases h
    | false =>
      rw [if_neg (by decide)]
      constructor
      · intro _
        rfl
      · intro _
        omega
  · rw [pf_shr (d := 1) (by decide) (by omega), lN_i32, show (15 : Int32) = nI (2 ^ 4 - 1) from rfl, fa_mask]
    congr 1
    omega
  · rw [pf_shr (d := 5) (by decide) (by omega), slot_nat h1 (by omega) h5 h6]
    congr 1
    omega
