/-! A8: WindowMill: the constructor -/
def X00 : Sg := (0, 0, [], fun _ => 0, fun _ => 0, fun _ => newS 0 0 0)
def owC (ow : Nat → Nat) (c : Nat) (a : Nat) : Nat := if a < c then ow a else if a ≤ c + 3 then tM else if a ≤ c + 6 then tL else tO (a - (c + 7))
theorem MI00 : MI X00 := by
  refine ⟨⟨Nat.zero_le _, fun s hs => absurd hs (Nat.not_lt_zero _), fun s hs => absurd hs (Nat.not_lt_zero _)⟩, ⟨fun s hs => absurd hs (Nat.not_lt_zero _), Nat.le_refl _⟩, Nat.le_refl _, Nat.zero_le _, fun p _ => ?_⟩
  show fb_sm _ 0 ≤ 4
  exact Nat.zero_le _
theorem nw_X9_9 : NW RX9 9 5 2 := ⟨RX5, TX5, tyX5, CL5, tm 77 (by decide +kernel) rfl, tm 101 (by decide +kernel) rfl, tm 50 (by decide +kernel) rfl⟩
section LA8
variable {g : Gl} {d : Nat} {h : Hp} {Q : Option Value → Hp → Prop} {c : Nat}
/-- the loop that makes the ports: h1 is the heap before it -/
theorem in_loop {h1 : Hp} (hK1 : hK h1 c = 9) (h42 : fP h1 42 c = some (c + 1)) (kS : hK h1 (c + 1) = 25) (nS : hN h1 (c + 1) = 24) (hz1 : hz h1 = c + 7) :
    ∀ (t i : Nat) (h : Hp), i + t = 8 → hz h = c + 7 + i → hs h = hs h1 + 2 * i → Wf h → (∀ a, a < c + 7 → a ≠ c + 1 → sameAt h1 h a) → hK h (c + 1) = 25 → hN h (c + 1) = 24 → (∀ j, aP h (c + 1) j = if j < i then some (c + 7 + j) else aP h1 (c + 1) j) → (∀ j, j < i → hK h (c + 7 + j) = 6 ∧ fI h 1 (c + 7 + j) = 0 ∧ fI h 2 (c + 7 + j) = 0) →
      (∀ h', hz h' = c + 15 → hs h' = hs h1 + 16 → Wf h' → (∀ a, a < c + 7 → a ≠ c + 1 → sameAt h1 h' a) → hK h' (c + 1) = 25 → hN h' (c + 1) = 24 → (∀ j, aP h' (c + 1) j = if j < 8 then some (c + 7 + j) else aP h1 (c + 1) j) → (∀ j, j < 8 → hK h' (c + 7 + j) = 6 ∧ fI h' 1 (c + 7 + j) = 0 ∧ fI h' 2 (c + 7 + j) = 0) → Q none h') →
      V g mX9_init (d + 3) 43 [.ref c, .int (nI i)] [] h Q := by
  intro t
  induction t with
  | zero =>
    intro i h hi z1 z2 wf sm k1 n1 eA eP hQ
    have : i = 8 := by omega
    subst this
    refine v_ild1 (q := 44) dX9_init_43 rfl ?_
    refine v_bipush (q := 46) (v := 8) dX9_init_44 rfl (by decide) ?_
    refine v_icmp_ge (t := 68) (q := 49) dX9_init_46 (by decide) rfl (fun _ => ?_) (fun hc => absurd (show nI 8 ≤ nI 8 from Int32.le_refl _) hc)
    refine v_vret dX9_init_68 rfl ?_
    exact hQ h z1 z2 wf sm k1 n1 eA eP
  | succ t ih =>
    intro i h hi z1 z2 wf sm k1 n1 eA eP hQ
    have sc := sm c (by omega) (by omega)
    have a1 : hK h c = 9 := sc.1.trans hK1
    have a3 : fP h 42 c = some (c + 1) := (sc.2.2.2.2.1 42).trans h42
    refine v_ild1 (q := 44) dX9_init_43 rfl ?_
    refine v_bipush (q := 46) (v := 8) dX9_init_44 rfl (by decide) ?_
    refine v_icmp_ge (t := 68) (q := 49) dX9_init_46 (by decide) rfl (fun hc => absurd hc (show ¬ nI 8 ≤ nI i from nI_ge (by omega) (by omega))) (fun _ => ?_)
    refine v_ald0 (q := 50) dX9_init_49 rfl rfl ?_
    refine v_getR (q := 53) dX9_init_50 rfl gf_X9_11_8 (by assumption) (by assumption) ?_
    refine v_ild1 (q := 54) dX9_init_53 rfl ?_
    refine v_new (q := 57) dX9_init_54 rfl nw_X9_9 ?_
    have w1 : Wf (nObj h 6 2) := Wf_nObj wf
    have q1 : Smo (fun a => a = c + 1) h (nObj h 6 2) := Smo_nObj
    have q2 : hK (nObj h 6 2) (hz h) = 6 ∧ fI (nObj h 6 2) 1 (hz h) = 0 ∧ fI (nObj h 6 2) 2 (hz h) = 0 := by
      rw [hK_nObj, fI_nObj, fI_nObj, if_pos rfl, if_pos rfl, if_pos rfl]
      exact ⟨rfl, rfl, rfl⟩
    have q3 : hz (nObj h 6 2) = hz h + 1 ∧ hs (nObj h 6 2) = hs h + 2 := ⟨rfl, rfl⟩
    have q4 : sameAt h (nObj h 6 2) (c + 1) := same_nObj (by omega)
    generalize nObj h 6 2 = h2 at *
    refine v_dup (q := 58) dX9_init_57 rfl rfl ?_
    refine v_callIN (q := 61) (d' := d + 2) (av := []) dX9_init_58 rfl ok_X5_init rfl rfl mn_X9_32 im_X5_init (by omega) rfl rfl (Nat.le_of_ble_eq_true rfl) ?_
    refine k_srcInit (d := d + 1) ?_
    have k2 : hK h2 (c + 1) = 25 := q4.1.trans k1
    have n2 : hN h2 (c + 1) = 24 := q4.2.1.trans n1
    refine v_aast (q := 62) i dX9_init_61 rfl k2 ⟨_, _, _, _, "WindowMill$Source", CL5, rfl, by decide, by decide, Or.inl rfl⟩ q2.1 rfl (by rw [n2]; omega) (by rw [n2]; decide) ?_
    have r1 : Smo (fun a => a = c + 1) h (sAP h2 (c + 1) (va_up (aP h2 (c + 1)) i (some (hz h)))) := q1.andAP (Or.inl rfl)
    have r2 : hK (sAP h2 (c + 1) (va_up (aP h2 (c + 1)) i (some (hz h)))) = hK h2 := by rw [hK_sAP]
    have r3 : hN (sAP h2 (c + 1) (va_up (aP h2 (c + 1)) i (some (hz h)))) = hN h2 := by rw [hN_sAP]
    have r4 : fI (sAP h2 (c + 1) (va_up (aP h2 (c + 1)) i (some (hz h)))) = fI h2 := by rw [fI_sAP]
    have r5 : ∀ j, aP (sAP h2 (c + 1) (va_up (aP h2 (c + 1)) i (some (hz h)))) (c + 1) j = if j = i then some (hz h) else aP h (c + 1) j := fun j => by
      rw [aP_sAP_at, va_up_ap, q4.2.2.2.2.2.2.2]
    have r6 : hz (sAP h2 (c + 1) (va_up (aP h2 (c + 1)) i (some (hz h)))) = hz h2 := by rw [hz_sAP]
    have r7 : hs (sAP h2 (c + 1) (va_up (aP h2 (c + 1)) i (some (hz h)))) = hs h2 := by rw [hs_sAP]
    generalize sAP h2 (c + 1) (va_up (aP h2 (c + 1)) i (some (hz h))) = h3 at *
    refine v_inc1 (q := 65) dX9_init_62 rfl (by decide) rfl rfl ?_
    rw [inc1]
    refine v_goto (q := 43) dX9_init_65 (by decide) ?_
    have wf3 : Wf h3 := Wf_same r6 r2 w1
    refine ih (i + 1) h3 (by omega) (by omega) (by omega) wf3 (fun a ha hn => (sm a ha hn).tr (r1.2 a (by omega) hn)) (by rw [r2]; exact k2) (by rw [r3]; exact n2) (fun j => ?_) (fun j hj => ?_) hQ
    · rw [r5, eA]
      by_cases e : j = i
      · subst e
        rw [if_pos rfl, if_pos (by omega), z1]
      · rw [if_neg e]
        by_cases hl : j < i
        · rw [if_pos hl, if_pos (by omega)]
        · rw [if_neg hl, if_neg (by omega)]
    · by_cases e : j = i
      · subst e
        rw [r2, r4, ← z1]
        exact q2
      · have s0 := r1.2 (c + 7 + j) (by omega) (by omega)
        have := eP j (by omega)
        exact ⟨s0.1.trans this.1, (s0.2.2.1 1).trans this.2.1, (s0.2.2.1 2).trans this.2.2⟩
/-- the cells of a new log at q -/
def lgH (h : Hp) (q : Nat) : Hp := sFP (nArr (sFP (nArr h 28 188) 31 q (some (hz h))) 28 188) 32 q (some (hz h + 1))
theorem lgH_f {h : Hp} {q : Nat} (hq : q < hz h) (wf : Wf h) : Smo (fun a => a = q) h (lgH h q) ∧ hK (lgH h q) q = hK h q ∧ fP (lgH h q) 31 q = some (hz h) ∧ fP (lgH h q) 32 q = some (hz h + 1) ∧ fI (lgH h q) 33 q = fI h 33 q ∧ (hK (lgH h q) (hz h) = 28 ∧ hN (lgH h q) (hz h) = 188 ∧ aP (lgH h q) (hz h) = fun _ => none) ∧ (hK (lgH h q) (hz h + 1) = 28 ∧ hN (lgH h q) (hz h + 1) = 188 ∧ aP (lgH h q) (hz h + 1) = fun _ => none) ∧ hz (lgH h q) = hz h + 2 ∧ hs (lgH h q) = hs h + 376 ∧ Wf (lgH h q) := by
  unfold lgH
  have z1 : hz (sFP (nArr h 28 188) 31 q (some (hz h))) = hz h + 1 := rfl
  refine ⟨((((Smo.rf (S := fun a => a = q) h).andArr).andFP (Or.inl rfl)).andArr).andFP (Or.inl rfl), ?_, ?_, ?_, ?_, ⟨?_, ?_, ?_⟩, ⟨?_, ?_, ?_⟩, ?_, ?_, ?_⟩
  · rw [hK_sFP, hK_nArr, z1, if_neg (by omega), hK_sFP, hK_nArr, if_neg (by omega)]
  · rw [fP_sFP, if_neg (by omega), fP_nArr, fP_sFP, if_pos ⟨rfl, rfl⟩]
  · rw [fP_sFP, if_pos ⟨rfl, rfl⟩]
  · rw [fI_sFP, fI_nArr, fI_sFP, fI_nArr]
  · rw [hK_sFP, hK_nArr, z1, if_neg (by omega), hK_sFP, hK_nArr, if_pos rfl]
  · rw [hN_sFP, hN_nArr, z1, if_neg (by omega), hN_sFP, hN_nArr, if_pos rfl]
  · rw [aP_sFP, aP_nArr, z1, if_neg (by omega), aP_sFP, aP_nArr, if_pos rfl]
  · rw [hK_sFP, hK_nArr, z1, if_pos rfl]
  · rw [hN_sFP, hN_nArr, z1, if_pos rfl]
  · rw [aP_sFP, aP_nArr, z1, if_pos rfl]
  · rw [hz_sFP, hz_nArr, z1]
  · rw [hs_sFP, hs_nArr, hs_sFP, hs_nArr]
  · exact Wf_same (h := nArr (sFP (nArr h 28 188) 31 q (some (hz h))) 28 188) rfl rfl (Wf_nArr (Wf_same (h := nArr h 28 188) rfl rfl (Wf_nArr wf)))
theorem in38 {h hE : Hp} {ow : Nat → Nat} (kc : hK hE c = 9) (z46 : fI hE 46 c = 0) (z47 : fI hE 47 c = 0) (p42 : fP hE 42 c = some (c + 1)) (p43 : fP hE 43 c = some (c + 2)) (p44 : fP hE 44 c = some (c + 3)) (hzE : hz hE = c + 7) (wf : Wf hE) (old : ∀ a, a < c → sameAt h hE a) (gd : Gd g h ow) (hE0 : g.2.2.2.2.1 < c)
    (k1 : hK hE (c + 1) = 25 ∧ hN hE (c + 1) = 24 ∧ aP hE (c + 1) = fun _ => none) (k2 : hK hE (c + 2) = 26 ∧ hN hE (c + 2) = 16 ∧ aP hE (c + 2) = fun _ => none) (k3 : hK hE (c + 3) = 21 ∧ hN hE (c + 3) = 16) (k4 : hK hE (c + 4) = 4 ∧ fP hE 31 (c + 4) = some (c + 5) ∧ fP hE 32 (c + 4) = some (c + 6) ∧ fI hE 33 (c + 4) = 0) (k5 : hK hE (c + 5) = 28 ∧ hN hE (c + 5) = 188 ∧ aP hE (c + 5) = fun _ => none) (k6 : hK hE (c + 6) = 28 ∧ hN hE (c + 6) = 188 ∧ aP hE (c + 6) = fun _ => none)
    (hQ : ∀ h', MV g h' (owC ow c) c (c + 4) (c + 1) (c + 2) (c + 3) (fun f => c + 7 + f) (fun _ => 0) X00 (fun _ => 0) (fun _ => 0) → hz h' = c + 15 → hs h' = hs hE + 16 → (∀ a, a < c → sameAt h h' a) → Q none h') : V g mX9_init (d + 3) 38 [.ref c, zz] [.ref (c + 4), .ref c] hE Q := by
  refine v_putFP (q := 41) (x := some (c + 4)) dX9_init_38 rfl qf_X9_28_8 rfl kc rfl rfl ?_
  have o1 : ∀ a, a ≠ c → sameAt hE (sFP hE 45 c (some (c + 4))) a := fun a ha => same_sFP ha
  have o2 : ∀ i, fP (sFP hE 45 c (some (c + 4))) i c = if i = 45 then some (c + 4) else fP hE i c := fun i => by
    rw [fP_sFP]
    simp only [and_true]
  have o3 : hK (sFP hE 45 c (some (c + 4))) c = 9 := by rw [hK_sFP]; exact kc
  have o4 : ∀ i, fI (sFP hE 45 c (some (c + 4))) i c = fI hE i c := fun i => by rw [fI_sFP]
  have o5 : hz (sFP hE 45 c (some (c + 4))) = hz hE := by rw [hz_sFP]
  have o7 : hs (sFP hE 45 c (some (c + 4))) = hs hE := by rw [hs_sFP]
  have o6 : Wf (sFP hE 45 c (some (c + 4))) := Wf_same (h := hE) rfl rfl wf
  generalize sFP hE 45 c (some (c + 4)) = hF at *
  have v1 := o1 (c + 1) (by omega)
  have v2 := o1 (c + 2) (by omega)
  have v3 := o1 (c + 3) (by omega)
  have v4 := o1 (c + 4) (by omega)
  have v5 := o1 (c + 5) (by omega)
  have v6 := o1 (c + 6) (by omega)
  have q42 : fP hF 42 c = some (c + 1) := by rw [o2, if_neg (by decide)]; exact p42
  have q43 : fP hF 43 c = some (c + 2) := by rw [o2, if_neg (by decide)]; exact p43
  have q44 : fP hF 44 c = some (c + 3) := by rw [o2, if_neg (by decide)]; exact p44
  have q45 : fP hF 45 c = some (c + 4) := by rw [o2, if_pos rfl]
  refine v_iconst (q := 42) (v := 0) dX9_init_41 rfl (by decide) ?_
  refine v_ist1 (q := 43) dX9_init_42 rfl (by decide) rfl ?_
  refine in_loop (d := d) (h1 := hF) o3 q42 (v1.1.trans k1.1) (v1.2.1.trans k1.2.1) (o5.trans hzE) 8 0 hF rfl (o5.trans hzE) rfl o6 (fun a _ _ => sameAt.rf hF a) (v1.1.trans k1.1) (v1.2.1.trans k1.2.1) (fun j => by rw [if_neg (Nat.not_lt_zero _)]) (fun j hj => absurd hj (Nat.not_lt_zero _)) (fun h' x1 x2 x3 x4 x5 x6 x7 x8 => ?_)
  have yc := x4 c (by omega) (by omega)
  have y2 := x4 (c + 2) (by omega) (by omega)
  have y3 := x4 (c + 3) (by omega) (by omega)
  have y4 := x4 (c + 4) (by omega) (by omega)
  have y5 := x4 (c + 5) (by omega) (by omega)
  have y6 := x4 (c + 6) (by omega) (by omega)
  have ow1 : ∀ a, c ≤ a → a ≤ c + 3 → owC ow c a = tM := fun a h1 h2 => by
    unfold owC
    rw [if_neg (by omega), if_pos h2]
  have ow2 : ∀ a, c + 4 ≤ a → a ≤ c + 6 → owC ow c a = tL := fun a h1 h2 => by
    unfold owC
    rw [if_neg (by omega), if_neg (by omega), if_pos h2]
  have ow3 : ∀ f, owC ow c (c + 7 + f) = tO f := fun f => by
    unfold owC
    rw [if_neg (by omega), if_neg (by omega), if_neg (by omega), show c + 7 + f - (c + 7) = f by omega]
  have old' : ∀ a, a < c → sameAt h h' a := fun a ha => ((old a ha).tr (o1 a (by omega))).tr (x4 a (by omega) (by omega))
  have m46 : fI h' 46 c = nI (xM X00) := by
    rw [yc.2.2.1, o4, z46]
    rfl
  have m47 : fI h' 47 c = nI (xT X00) := by
    rw [yc.2.2.1, o4, z47]
    rfl
  have eT : ∀ s, aP h' (c + 2) s = none := fun s => by rw [y2.2.2.2.2.2.2.2, v2.2.2.2.2.2.2.2, k2.2.2]
  have eA : ∀ s, aP h' (c + 1) (8 + s) = none := fun s => by rw [x7, if_neg (by omega), v1.2.2.2.2.2.2.2, k1.2.2]
  have eL : LogV h' (owC ow c) (c + 4) (xR X00) := by
    refine ⟨c + 5, c + 6, fun _ => 0, fun _ => 0, ⟨y4.1.trans (v4.1.trans k4.1), (y4.2.2.2.2.1 31).trans ((v4.2.2.2.2.1 31).trans k4.2.1), (y4.2.2.2.2.1 32).trans ((v4.2.2.2.2.1 32).trans k4.2.2.1), y5.1.trans (v5.1.trans k5.1), y5.2.1.trans (v5.2.1.trans k5.2.1), y6.1.trans (v6.1.trans k6.1), y6.2.1.trans (v6.2.1.trans k6.2.1), by omega, (y4.2.2.1 33).trans ((v4.2.2.1 33).trans k4.2.2.2), Nat.zero_le _, fun b _ => ?_, fun b b' hb => absurd hb (Nat.not_lt_zero _)⟩, ow2 _ (by omega) (by omega), ow2 _ (by omega) (by omega), ow2 _ (by omega) (by omega), fun b hb => absurd hb (Nat.not_lt_zero _), fun i r hi => by cases hi⟩
    unfold LGb
    rw [if_neg (show ¬ b * 1024 < (xR X00).length from Nat.not_lt_zero _), y5.2.2.2.2.2.2.2, v5.2.2.2.2.2.2.2, k5.2.2, y6.2.2.2.2.2.2.2, v6.2.2.2.2.2.2.2, k6.2.2]
    exact ⟨rfl, rfl⟩
  have eG : Gd g h' (owC ow c) := by
    refine ⟨x3, by omega, ?_, ?_⟩
    · unfold owC
      rw [if_pos hE0]
      exact gd.2.2.1
    · rw [(old' _ hE0).1]
      exact gd.2.2.2
  refine hQ h' ⟨⟨yc.1.trans o3, ow1 c (by omega) (by omega), (yc.2.2.2.2.1 42).trans q42, (yc.2.2.2.2.1 43).trans q43, (yc.2.2.2.2.1 44).trans q44, (yc.2.2.2.2.1 45).trans q45, m46, m47⟩, ⟨x5, x6, ow1 _ (by omega) (by omega), y2.1.trans (v2.1.trans k2.1), y2.2.1.trans (v2.2.1.trans k2.2.1), ow1 _ (by omega) (by omega), y3.1.trans (v3.1.trans k3.1), y3.2.1.trans (v3.2.1.trans k3.2), ow1 _ (by omega) (by omega)⟩, fun f hf => ⟨by rw [x7, if_pos hf], (x8 f hf).1, ow3 f, (x8 f hf).2.1, (x8 f hf).2.2⟩, fun s hs6 => ⟨fun hm => absurd hm (Nat.not_lt_zero _), fun _ => ⟨eT s, eA s⟩⟩, Nat.zero_le _, eL, eG⟩ x1 (by omega) old'
theorem k_millInit {ow : Nat → Nat} (hk : hK h c = 9) (hcz : hz h = c + 1) (z46 : fI h 46 c = 0) (z47 : fI h 47 c = 0) (gd : Gd g h ow) (hE : g.2.2.2.2.1 < c)
    (hQ : ∀ h', MV g h' (owC ow c) c (c + 4) (c + 1) (c + 2) (c + 3) (fun f => c + 7 + f) (fun _ => 0) X00 (fun _ => 0) (fun _ => 0) → hz h' = hz h + 14 → hs h' = hs h + 451 → (∀ a, a < c → sameAt h h' a) → Q none h') : Call g mX9_init (d + 3) [.ref c] h Q := by
  refine Call.of [.ref c, zz] (by decide) (Nat.le_of_ble_eq_true rfl) rfl ?_
  have hc : c < hz h := by omega
  refine v_ald0 (q := 1) dX9_init_0 rfl rfl ?_
  refine v_objInit (q := 4) dX9_init_1 rfl (by omega) ml_X9_1 w_oi w_oc (Nat.le_of_ble_eq_true rfl) ?_
  have f1 := mkA_f (c := c) [(42, 25, 24), (43, 26, 16), (44, 21, 16)] h hc gd.1 (by decide) (by decide)
  have e1 : mkA c h [(42, 25, 24), (43, 26, 16), (44, 21, 16)] = stA c (stA c (stA c h (42, 25, 24)) (43, 26, 16)) (44, 21, 16) := rfl
  rw [e1] at f1
  have s1 := stA_f (x := (42, 25, 24)) hc gd.1
  have n1 : hK (nArr h 25 24) c = 9 := by rw [hK_nArr, if_neg (by omega)]; exact hk
  refine v_ald0 (q := 5) dX9_init_4 rfl rfl ?_
  refine v_bipush (q := 7) (v := 24) dX9_init_5 rfl (by decide) ?_
  refine v_anew (q := 10) (k := 25) (N := 24) dX9_init_7 rfl ⟨rfl, by decide, by decide⟩ cl_X9_9 lOverSource (by decide) (by decide) ?_
  refine v_putFP (q := 13) (x := some (hz h)) dX9_init_10 rfl qf_X9_11_8 rfl n1 rfl rfl ?_
  change V g mX9_init (d + 3) 13 _ _ (stA c h (42, 25, 24)) Q
  have s2 := stA_f (x := (43, 26, 16)) (h := stA c h (42, 25, 24)) (c := c) (by omega) (s1.2.2.1 (by decide))
  generalize hA : stA c h (42, 25, 24) = hA1 at *
  have n2 : hK (nArr hA1 26 16) c = 9 := by rw [hK_nArr, if_neg (by omega), s1.2.2.2.2.1.1]; exact hk
  refine v_ald0 (q := 14) dX9_init_13 rfl rfl ?_
  refine v_bipush (q := 16) (v := 16) dX9_init_14 rfl (by decide) ?_
  refine v_anew (q := 19) (k := 26) (N := 16) dX9_init_16 rfl ⟨rfl, by decide, by decide⟩ cl_X9_15 lOverStage (by decide) (by decide) ?_
  refine v_putFP (q := 22) (x := some (hz hA1)) dX9_init_19 rfl qf_X9_17_8 rfl n2 rfl rfl ?_
  change V g mX9_init (d + 3) 22 _ _ (stA c hA1 (43, 26, 16)) Q
  have s3 := stA_f (x := (44, 21, 16)) (h := stA c hA1 (43, 26, 16)) (c := c) (by omega) (s2.2.2.1 (by decide))
  generalize hB : stA c hA1 (43, 26, 16) = hB1 at *
  have n3 : hK (nArr hB1 21 16) c = 9 := by rw [hK_nArr, if_neg (by omega), s2.2.2.2.2.1.1, s1.2.2.2.2.1.1]; exact hk
  refine v_ald0 (q := 23) dX9_init_22 rfl rfl ?_
  refine v_bipush (q := 25) (v := 16) dX9_init_23 rfl (by decide) ?_
  refine v_newarray (q := 27) (k := 21) dX9_init_25 rfl ⟨rfl, by decide⟩ ac_int (N := 16) (by decide) (by decide) ?_
  refine v_putFP (q := 30) (x := some (hz hB1)) dX9_init_27 rfl qf_X9_21_8 rfl n3 rfl rfl ?_
  change V g mX9_init (d + 3) 30 _ _ (stA c hB1 (44, 21, 16)) Q
  generalize stA c hB1 (44, 21, 16) = hC1 at *
  clear s1 s2 s3 n1 n2 n3 e1
  obtain ⟨t1, t2, t3, t4, ⟨t5, t6, t7⟩, t8⟩ := f1
  have u1 := t8 0 _ rfl
  have u2 := t8 1 _ rfl
  have u3 := t8 2 _ rfl
  have tz : hz hC1 = c + 4 := by rw [t1, hcz]; rfl
  have ts : hs hC1 = hs h + 56 := t2
  simp only [Nat.add_zero] at u1
  rw [hcz] at u1 u2 u3
  simp only [Nat.add_assoc, Nat.reduceAdd] at u1 u2 u3
  refine v_ald0 (q := 31) dX9_init_30 rfl rfl ?_
  refine v_new (q := 34) dX9_init_31 rfl nw_X9_25 ?_
  have m1 : Smo (fun a => a = c) hC1 (nObj hC1 4 3) := Smo_nObj
  have m2 : hK (nObj hC1 4 3) (c + 4) = 4 ∧ fI (nObj hC1 4 3) 33 (c + 4) = 0 := by
    rw [hK_nObj, fI_nObj, tz, if_pos rfl, if_pos rfl]
    exact ⟨rfl, rfl⟩
  have m3 : hz (nObj hC1 4 3) = c + 5 ∧ hs (nObj hC1 4 3) = hs h + 59 := ⟨by rw [hz_nObj, tz], by rw [hs_nObj, ts]⟩
  have m4 : Wf (nObj hC1 4 3) := Wf_nObj t3
  have m5 : sameAt hC1 (nObj hC1 4 3) c := same_nObj (by omega)
  rw [tz]
  generalize nObj hC1 4 3 = hD1 at *
  refine v_dup (q := 35) dX9_init_34 rfl rfl ?_
  refine v_callIN (q := 38) (d' := d + 2) (av := []) dX9_init_35 rfl ok_X3_init rfl rfl mn_X9_27 im_X3_init (by omega) rfl rfl (Nat.le_of_ble_eq_true rfl) ?_
  refine k_logInit (d := d + 1) m4 m2.1 ?_
  obtain ⟨l1, l2, l3, l4, l5, l6, l7, l8, l9, l10⟩ := lgH_f (h := hD1) (q := c + 4) (by omega) m4
  change V g mX9_init (d + 3) 38 _ _ (lgH hD1 (c + 4)) Q
  generalize lgH hD1 (c + 4) = hE1 at *
  rw [m3.1] at l3 l4 l6 l7 l8
  rw [m3.2] at l9
  rw [m2.1] at l2
  rw [m2.2] at l5
  have s4 : ∀ a, a < c + 4 → a ≠ c → sameAt hC1 hE1 a := fun a ha hn => (m1.2 a (by omega) hn).tr (l1.2 a (by omega) (by omega))
  have sc := m5.tr (l1.2 c (by omega) (by omega))
  have e7 := s4 (c + 1) (by omega) (by omega)
  have e8 := s4 (c + 2) (by omega) (by omega)
  have e9 := s4 (c + 3) (by omega) (by omega)
  refine in38 (d := d) (h := h) (ow := ow) (sc.1.trans (t5.trans hk)) ((sc.2.2.1 46).trans ((t6 46).trans z46)) ((sc.2.2.1 47).trans ((t6 47).trans z47)) ((sc.2.2.2.2.1 42).trans u1.1) ((sc.2.2.2.2.1 43).trans u2.1) ((sc.2.2.2.2.1 44).trans u3.1) l8 l10 (fun a ha => (t4 a (by omega) (by omega)).tr (s4 a (by omega) (by omega))) gd hE ⟨e7.1.trans u1.2.1, e7.2.1.trans u1.2.2.1, e7.2.2.2.2.2.2.2.trans u1.2.2.2.1⟩ ⟨e8.1.trans u2.2.1, e8.2.1.trans u2.2.2.1, e8.2.2.2.2.2.2.2.trans u2.2.2.2.1⟩ ⟨e9.1.trans u3.2.1, e9.2.1.trans u3.2.2.1⟩ ⟨l2, l3, l4, l5⟩ l6 l7 (fun h' hM x1 x2 x3 => hQ h' hM (by omega) (by omega) x3)
end LA8
