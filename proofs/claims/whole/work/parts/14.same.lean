/-! 14b: what stays the same -/
def sameAt (h h' : Hp) (a : Nat) : Prop := hK h' a = hK h a ∧ hN h' a = hN h a ∧ (∀ f, fI h' f a = fI h f a) ∧ (∀ f, fL h' f a = fL h f a) ∧ (∀ f, fP h' f a = fP h f a) ∧ aI h' a = aI h a ∧ aL h' a = aL h a ∧ aP h' a = aP h a
def Smo (S : Nat → Prop) (h h' : Hp) : Prop := hz h ≤ hz h' ∧ ∀ a, a < hz h → ¬ S a → sameAt h h' a
theorem sameAt.rf (h : Hp) (a : Nat) : sameAt h h a := ⟨rfl, rfl, fun _ => rfl, fun _ => rfl, fun _ => rfl, rfl, rfl, rfl⟩
theorem sameAt.tr {h h1 h2 : Hp} {a : Nat} (x : sameAt h h1 a) (y : sameAt h1 h2 a) : sameAt h h2 a := ⟨y.1.trans x.1, y.2.1.trans x.2.1, fun f => (y.2.2.1 f).trans (x.2.2.1 f), fun f => (y.2.2.2.1 f).trans (x.2.2.2.1 f), fun f => (y.2.2.2.2.1 f).trans (x.2.2.2.2.1 f), y.2.2.2.2.2.1.trans x.2.2.2.2.2.1, y.2.2.2.2.2.2.1.trans x.2.2.2.2.2.2.1, y.2.2.2.2.2.2.2.trans x.2.2.2.2.2.2.2⟩
theorem Smo.rf {S : Nat → Prop} (h : Hp) : Smo S h h := ⟨Nat.le_refl _, fun a _ _ => sameAt.rf h a⟩
theorem Smo.tr {S S1 : Nat → Prop} {h h1 h2 : Hp} (x : Smo S h h1) (y : Smo S1 h1 h2) (hS : ∀ a, a < hz h → S1 a → S a) : Smo S h h2 := ⟨Nat.le_trans x.1 y.1, fun a ha hn => (x.2 a ha hn).tr (y.2 a (Nat.lt_of_lt_of_le ha x.1) (fun h => hn (hS a ha h)))⟩
theorem Smo.mono {S S1 : Nat → Prop} {h h1 : Hp} (x : Smo S h h1) (hS : ∀ a, a < hz h → S a → S1 a) : Smo S1 h h1 := ⟨x.1, fun a ha hn => x.2 a ha (fun h => hn (hS a ha h))⟩
section L14b
variable {h : Hp} {k a n b : Nat} {S : Nat → Prop}
theorem same_sFI {v : Int32} (hb : b ≠ a) : sameAt h (sFI h k a v) b := by simp [sameAt, hK_sFI, hN_sFI, fI_sFI, fL_sFI, fP_sFI, aI_sFI, aL_sFI, aP_sFI, hb]
theorem same_sFL {v : Int64} (hb : b ≠ a) : sameAt h (sFL h k a v) b := by simp [sameAt, hK_sFL, hN_sFL, fI_sFL, fL_sFL, fP_sFL, aI_sFL, aL_sFL, aP_sFL, hb]
theorem same_sFP {v : Option Nat} (hb : b ≠ a) : sameAt h (sFP h k a v) b := by simp [sameAt, hK_sFP, hN_sFP, fI_sFP, fL_sFP, fP_sFP, aI_sFP, aL_sFP, aP_sFP, hb]
theorem same_sAI {r : Nat → Int32} (hb : b ≠ a) : sameAt h (sAI h a r) b := by simp [sameAt, hK_sAI, hN_sAI, fI_sAI, fL_sAI, fP_sAI, aI_sAI, aL_sAI, aP_sAI, hb]
theorem same_sAL {r : Nat → Int64} (hb : b ≠ a) : sameAt h (sAL h a r) b := by simp [sameAt, hK_sAL, hN_sAL, fI_sAL, fL_sAL, fP_sAL, aI_sAL, aL_sAL, aP_sAL, hb]
theorem same_sAP {r : Nat → Option Nat} (hb : b ≠ a) : sameAt h (sAP h a r) b := by simp [sameAt, hK_sAP, hN_sAP, fI_sAP, fL_sAP, fP_sAP, aI_sAP, aL_sAP, aP_sAP, hb]
theorem same_nObj (hb : b < hz h) : sameAt h (nObj h k n) b := by
  have : b ≠ hz h := Nat.ne_of_lt hb
  simp [sameAt, hK_nObj, hN_nObj, fI_nObj, fL_nObj, fP_nObj, aI_nObj, aL_nObj, aP_nObj, this]
theorem same_nArr (hb : b < hz h) : sameAt h (nArr h k n) b := by
  have : b ≠ hz h := Nat.ne_of_lt hb
  simp [sameAt, hK_nArr, hN_nArr, fI_nArr, fL_nArr, fP_nArr, aI_nArr, aL_nArr, aP_nArr, this]
theorem Smo_sFI {v : Int32} (hS : S a) : Smo S h (sFI h k a v) := ⟨Nat.le_refl _, fun b _ hn => same_sFI (fun e => hn (e ▸ hS))⟩
theorem Smo_sFL {v : Int64} (hS : S a) : Smo S h (sFL h k a v) := ⟨Nat.le_refl _, fun b _ hn => same_sFL (fun e => hn (e ▸ hS))⟩
theorem Smo_sFP {v : Option Nat} (hS : S a) : Smo S h (sFP h k a v) := ⟨Nat.le_refl _, fun b _ hn => same_sFP (fun e => hn (e ▸ hS))⟩
theorem Smo_sAI {r : Nat → Int32} (hS : S a) : Smo S h (sAI h a r) := ⟨Nat.le_refl _, fun b _ hn => same_sAI (fun e => hn (e ▸ hS))⟩
theorem Smo_sAL {r : Nat → Int64} (hS : S a) : Smo S h (sAL h a r) := ⟨Nat.le_refl _, fun b _ hn => same_sAL (fun e => hn (e ▸ hS))⟩
theorem Smo_sAP {r : Nat → Option Nat} (hS : S a) : Smo S h (sAP h a r) := ⟨Nat.le_refl _, fun b _ hn => same_sAP (fun e => hn (e ▸ hS))⟩
theorem Smo_nObj : Smo S h (nObj h k n) := ⟨Nat.le_succ _, fun b hb _ => same_nObj hb⟩
theorem Smo_nArr : Smo S h (nArr h k n) := ⟨Nat.le_succ _, fun b hb _ => same_nArr hb⟩
/-- one more change behind others: of a cell of S, or of a cell that is new -/
theorem Smo.andFI {h0 : Hp} {v : Int32} (x : Smo S h0 h) (hS : S a ∨ hz h0 ≤ a) : Smo S h0 (sFI h k a v) := ⟨x.1, fun b hb hn => (x.2 b hb hn).tr (same_sFI (fun e => hS.elim (fun q => hn (e ▸ q)) (fun q => by omega)))⟩
theorem Smo.andFL {h0 : Hp} {v : Int64} (x : Smo S h0 h) (hS : S a ∨ hz h0 ≤ a) : Smo S h0 (sFL h k a v) := ⟨x.1, fun b hb hn => (x.2 b hb hn).tr (same_sFL (fun e => hS.elim (fun q => hn (e ▸ q)) (fun q => by omega)))⟩
theorem Smo.andFP {h0 : Hp} {v : Option Nat} (x : Smo S h0 h) (hS : S a ∨ hz h0 ≤ a) : Smo S h0 (sFP h k a v) := ⟨x.1, fun b hb hn => (x.2 b hb hn).tr (same_sFP (fun e => hS.elim (fun q => hn (e ▸ q)) (fun q => by omega)))⟩
theorem Smo.andAI {h0 : Hp} {r : Nat → Int32} (x : Smo S h0 h) (hS : S a ∨ hz h0 ≤ a) : Smo S h0 (sAI h a r) := ⟨x.1, fun b hb hn => (x.2 b hb hn).tr (same_sAI (fun e => hS.elim (fun q => hn (e ▸ q)) (fun q => by omega)))⟩
theorem Smo.andAL {h0 : Hp} {r : Nat → Int64} (x : Smo S h0 h) (hS : S a ∨ hz h0 ≤ a) : Smo S h0 (sAL h a r) := ⟨x.1, fun b hb hn => (x.2 b hb hn).tr (same_sAL (fun e => hS.elim (fun q => hn (e ▸ q)) (fun q => by omega)))⟩
theorem Smo.andAP {h0 : Hp} {r : Nat → Option Nat} (x : Smo S h0 h) (hS : S a ∨ hz h0 ≤ a) : Smo S h0 (sAP h a r) := ⟨x.1, fun b hb hn => (x.2 b hb hn).tr (same_sAP (fun e => hS.elim (fun q => hn (e ▸ q)) (fun q => by omega)))⟩
theorem Smo.andObj {h0 : Hp} (x : Smo S h0 h) : Smo S h0 (nObj h k n) := ⟨Nat.le_trans x.1 (Nat.le_succ _), fun b hb hn => (x.2 b hb hn).tr (same_nObj (Nat.lt_of_lt_of_le hb x.1))⟩
theorem Smo.andArr {h0 : Hp} (x : Smo S h0 h) : Smo S h0 (nArr h k n) := ⟨Nat.le_trans x.1 (Nat.le_succ _), fun b hb hn => (x.2 b hb hn).tr (same_nArr (Nat.lt_of_lt_of_le hb x.1))⟩
end L14b
