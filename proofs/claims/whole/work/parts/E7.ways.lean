/-! E7: the model: hasTooManyWays -/
/-- ways, as the model counts them: at most 1000 -/
def clA (fd : Nat → Nat → Bool) (p : Nat) : Nat → Nat → Nat
  | 0 => fun _ => 0
  | n + 1 => upR (clA fd p n) n (min (wyS fd p (clA fd p n) n) 1000)
section LE7p
variable {fd : Nat → Nat → Bool} {p : Nat}
theorem clA_old (n : Nat) : ∀ t s, s < n → clA fd p (n + t) s = clA fd p n s := by
  intro t
  induction t with
  | zero => exact fun _ _ => rfl
  | succ t ih =>
    intro s hs
    show upR (clA fd p (n + t)) (n + t) _ s = _
    rw [upR_ne _ _ (by omega)]
    exact ih s hs
theorem clA_eq {m s : Nat} (hs : s < m) : clA fd p m s = min (wyS fd p (clA fd p m) s) 1000 := by
  obtain ⟨t, rfl⟩ : ∃ t, m = (s + 1) + t := ⟨m - (s + 1), by omega⟩
  rw [clA_old (s + 1) t s (by omega)]
  show upR (clA fd p s) s _ s = _
  rw [upR_at]
  congr 1
  refine wyS_cong (fun i hi => ?_)
  have := clA_old (fd := fd) (p := p) s (1 + t) i hi
  rw [← Nat.add_assoc] at this
  exact this.symm
theorem clA_le {m s : Nat} (hs : s < m) : clA fd p m s ≤ 1000 := by
  rw [clA_eq hs]
  exact Nat.min_le_right _ _
theorem cl_or (m : Nat) : ∀ n, n ≤ m → (∀ i, i < n → clA fd p m i = wyA fd p m i) ∨ ∃ i, i < n ∧ 1000 ≤ clA fd p m i ∧ 1000 ≤ wyA fd p m i := by
  intro n
  induction n with
  | zero => exact fun _ => Or.inl (fun i hi => absurd hi (Nat.not_lt_zero _))
  | succ n ih =>
    intro hn
    rcases ih (by omega) with h | ⟨i, hi, h1, h2⟩
    · have e1 := clA_eq (fd := fd) (p := p) (show n < m by omega)
      have e2 := wyA_eq (fd := fd) (p := p) (show n < m by omega)
      rw [wyS_cong (w' := wyA fd p m) (fun i hi => h i hi), ← e2] at e1
      by_cases hle : wyA fd p m n ≤ 1000
      · refine Or.inl (fun i hi => ?_)
        by_cases e : i = n
        · subst e
          rw [e1]
          exact Nat.min_eq_left hle
        · exact h i (by omega)
      · refine Or.inr ⟨n, Nat.lt_succ_self _, ?_, by omega⟩
        rw [e1, Nat.min_eq_right (by omega)]
        exact Nat.le_refl _
    · exact Or.inr ⟨i, by omega, h1, h2⟩
theorem cl_too (wd : Nat → Bool) (m : Nat) : (32 < fb_sm (clA fd p m) m ∨ 4 < fb_sm (fun s => if wd s then clA fd p m s else 0) m) ↔ (32 < fb_sm (wyA fd p m) m ∨ 4 < fb_sm (fun s => if wd s then wyA fd p m s else 0) m) := by
  rcases cl_or (fd := fd) (p := p) m m (Nat.le_refl _) with h | ⟨i, hi, h1, h2⟩
  · have e1 : fb_sm (clA fd p m) m = fb_sm (wyA fd p m) m := fb_sm_cong (fun s hs => h s hs)
    have e2 : fb_sm (fun s => if wd s then clA fd p m s else 0) m = fb_sm (fun s => if wd s then wyA fd p m s else 0) m := fb_sm_cong (fun s hs => by rw [h s hs])
    rw [e1, e2]
  · have a := fb_sm_part (clA fd p m) hi
    have b := fb_sm_part (wyA fd p m) hi
    exact ⟨fun _ => Or.inl (by omega), fun _ => Or.inl (by omega)⟩
theorem fb_sm_cut (F : Nat → Nat) (a : Nat) : ∀ n, fb_sm F (a + n) = fb_sm F a + fb_sm (fun f => F (a + f)) n := by
  intro n
  induction n with
  | zero => rfl
  | succ n ih =>
    rw [← Nat.add_assoc, fb_sm_succ, ih, fb_sm_succ]
    omega
theorem wyS_cut {w : Nat → Nat} {n : Nat} (hp : p < 8) : wyS fd p w n = (if fd n p then 1 else 0) + fb_sm (fun f => if fd n (8 + f) then w f else 0) n := by
  unfold wyS
  rw [fb_sm_cut]
  have e1 : fb_sm (fun f => if fd n f then srcW p w f else 0) 8 = if fd n p then 1 else 0 := by
    have := fb_sm_one (fun f => if fd n f then 1 else 0) p 8
    rw [if_pos hp] at this
    rw [← this]
    refine fb_sm_cong (fun f hf => ?_)
    unfold srcW
    rw [if_pos hf]
    by_cases h1 : fd n f = true <;> by_cases h2 : f = p <;> simp [h1, h2]
  have e2 : fb_sm (fun f => if fd n (8 + f) then srcW p w (8 + f) else 0) n = fb_sm (fun f => if fd n (8 + f) then w f else 0) n := fb_sm_cong (fun f hf => by
    unfold srcW
    rw [if_neg (show ¬ 8 + f < 8 by omega), show 8 + f - 8 = f by omega])
  rw [e1, e2]
end LE7p
section LE7
variable {g : Gl} {d : Nat} {h : Hp} {m : Nat} {Q : Option Value → Hp → Prop} {u : Mu} {fd : Nat → Nat → Bool} {X : Sg} {M : Nat}
theorem q_isW3 {s : Nat} (hm : MK h m) (hs : s < 16) (h3 : mI u 3 s = gI (xS X s) 3) (hQ : Q (some (.int (if isW (xS X s) then 1 else 0))) (mh h m u)) : Call g mX10_isWindowed d [.ref m, .int (nI s)] (mh h m u) Q := by
  refine Call.of [.ref m, .int (nI s)] (by decide) (Nat.le_of_ble_eq_true rfl) rfl ?_
  refine v_ald0 (q := 1) dX10_isWindowed_0 rfl rfl ?_
  refine w_ga (q := 4) (j := 3) dX10_isWindowed_1 rfl hm (by decide) gf_X10_17_9 ?_
  refine v_ild1 (q := 5) dX10_isWindowed_4 rfl ?_
  refine w_iald (q := 6) (n := 16) dX10_isWindowed_5 rfl hm (by decide) rfl rfl rfl (by omega) ?_
  rw [h3]
  refine v_iconst (q := 7) (v := 4) dX10_isWindowed_6 rfl (by decide) ?_
  by_cases h4 : 4 ≤ gI (xS X s) 3
  · refine v_icmp_lt (t := 14) (q := 10) dX10_isWindowed_7 (by decide) rfl (fun hc => absurd h4 (Int32.not_le.mpr hc)) (fun _ => ?_)
    refine v_iconst (q := 11) (v := 1) dX10_isWindowed_10 rfl (by decide) ?_
    refine v_goto (q := 15) dX10_isWindowed_11 (by decide) ?_
    refine v_zret dX10_isWindowed_15 rfl rfl ?_
    rw [if_pos (show isW (xS X s) = true from decide_eq_true h4)] at hQ
    exact hQ
  · refine v_icmp_lt (t := 14) (q := 10) dX10_isWindowed_7 (by decide) rfl (fun _ => ?_) (fun hc => absurd (Int32.not_le.mp h4) hc)
    refine v_iconst (q := 15) (v := 0) dX10_isWindowed_14 rfl (by decide) ?_
    refine v_zret dX10_isWindowed_15 rfl rfl ?_
    rw [if_neg (show ¬ isW (xS X s) = true from fun z => h4 (of_decide_eq_true z))] at hQ
    exact hQ
theorem tw_f {iv av wv : Int32} {p s a0 : Nat} {c : Nat → Nat} {v : Mu} (hm : MK h m) (hs : s < 16) (hfd : ∀ f, f < 24 → mI v 8 (24 * s + f) = if fd s f then 1 else 0) (hc : ∀ i, i < s → mI v 36 i = nI (c i))
    (hQ : V g mX10_hasTooManyWays (d + 1) 100 [.ref m, .int iv, .int (nI p), .int av, .int wv, .int (nI s), .int (nI (a0 + fb_sm (fun f => if fd s (8 + f) then c f else 0) s)), zz] [] (mh h m v) Q) :
    ∀ t j, j + t = s → V g mX10_hasTooManyWays (d + 1) 52 [.ref m, .int iv, .int (nI p), .int av, .int wv, .int (nI s), .int (nI (a0 + fb_sm (fun f => if fd s (8 + f) then c f else 0) j)), .int (nI j)] [] (mh h m v) Q := by
  intro t
  induction t with
  | zero =>
    intro j hj
    have : j = s := by omega
    subst this
    refine v_ild7 (q := 54) dX10_hasTooManyWays_52 rfl ?_
    refine v_ild5 (q := 56) dX10_hasTooManyWays_54 rfl ?_
    refine v_icmp_ge (t := 100) (q := 59) dX10_hasTooManyWays_56 (by decide) rfl (fun _ => ?_) (fun z => absurd (Int32.le_refl _) z)
    refine v_fg (FG.k (FG.k (FG.k (FG.k (FG.k (FG.k (FG.k (FG.z FG.nil)))))))) ?_
    exact hQ
  | succ t ih =>
    intro j hj
    have hi : (24 : Int32) * nI s + 8 + nI j = nI (24 * s + (8 + j)) := by rw [show (24 : Int32) = nI 24 from rfl, pk_mul, show (8 : Int32) = nI 8 from rfl, nI_add, nI_add, Nat.add_assoc]
    have nx := ih (j + 1) (by omega)
    rw [fb_sm_succ] at nx
    have rest : ∀ x : Nat, x = (if fd s (8 + j) then c j else 0) → V g mX10_hasTooManyWays (d + 1) 91 [.ref m, .int iv, .int (nI p), .int av, .int wv, .int (nI s), .int (nI (a0 + fb_sm (fun f => if fd s (8 + f) then c f else 0) j)), .int (nI j)] [.int (nI x), .int (nI (a0 + fb_sm (fun f => if fd s (8 + f) then c f else 0) j))] (mh h m v) Q := fun x hx => by
      rw [← hx] at nx
      refine v_iadd (q := 92) dX10_hasTooManyWays_91 rfl ?_
      rw [nI_add]
      refine v_ist6 (q := 94) dX10_hasTooManyWays_92 rfl (by decide) rfl ?_
      refine v_inc7 (q := 97) dX10_hasTooManyWays_94 rfl (by decide) rfl rfl ?_
      rw [inc1]
      refine v_goto (q := 52) dX10_hasTooManyWays_97 (by decide) ?_
      rw [Nat.add_assoc]
      exact nx
    refine v_ild7 (q := 54) dX10_hasTooManyWays_52 rfl ?_
    refine v_ild5 (q := 56) dX10_hasTooManyWays_54 rfl ?_
    refine v_icmp_ge (t := 100) (q := 59) dX10_hasTooManyWays_56 (by decide) rfl (fun z => absurd z (nI_ge (by omega) (by omega))) (fun _ => ?_)
    refine v_ild6 (q := 61) dX10_hasTooManyWays_59 rfl ?_
    refine v_ald0 (q := 62) dX10_hasTooManyWays_61 rfl rfl ?_
    refine w_ga (q := 65) (j := 8) dX10_hasTooManyWays_62 rfl hm (by decide) gf_X10_32_9 ?_
    refine v_bipush (q := 67) (v := 24) dX10_hasTooManyWays_65 rfl (by decide) ?_
    refine v_ild5 (q := 69) dX10_hasTooManyWays_67 rfl ?_
    refine v_imul (q := 70) dX10_hasTooManyWays_69 rfl ?_
    refine v_bipush (q := 72) (v := 8) dX10_hasTooManyWays_70 rfl (by decide) ?_
    refine v_iadd (q := 73) dX10_hasTooManyWays_72 rfl ?_
    refine v_ild7 (q := 75) dX10_hasTooManyWays_73 rfl ?_
    refine v_iadd (q := 76) dX10_hasTooManyWays_75 rfl ?_
    refine w_zald (q := 77) (n := 384) dX10_hasTooManyWays_76 rfl hm (by decide) rfl rfl hi (by omega) ?_
    rw [hfd (8 + j) (by omega)]
    by_cases hf : fd s (8 + j) = true
    · rw [if_pos hf]
      refine v_if_eq (t := 90) (q := 80) dX10_hasTooManyWays_77 (by decide) rfl (fun z => absurd z (by decide)) (fun _ => ?_)
      refine v_ald0 (q := 81) dX10_hasTooManyWays_80 rfl rfl ?_
      refine w_ga (q := 84) (j := 36) dX10_hasTooManyWays_81 rfl hm (by decide) gf_X10_119_9 ?_
      refine v_ild7 (q := 86) dX10_hasTooManyWays_84 rfl ?_
      refine w_iald (q := 87) (n := 48100) dX10_hasTooManyWays_86 rfl hm (by decide) rfl rfl rfl (by omega) ?_
      rw [hc j (by omega)]
      refine v_goto (q := 91) dX10_hasTooManyWays_87 (by decide) ?_
      exact rest (c j) (if_pos hf).symm
    · rw [if_neg hf]
      refine v_if_eq (t := 90) (q := 80) dX10_hasTooManyWays_77 (by decide) rfl (fun _ => ?_) (fun z => absurd rfl z)
      refine v_iconst (q := 91) (v := 0) dX10_hasTooManyWays_90 rfl (by decide) ?_
      exact rest 0 (if_neg hf).symm
theorem fb_le {F : Nat → Nat} {B : Nat} : ∀ n, (∀ i, i < n → F i ≤ B) → fb_sm F n ≤ B * n := by
  intro n
  induction n with
  | zero => exact fun _ => Nat.le_refl _
  | succ n ih =>
    intro hF
    rw [fb_sm_succ, Nat.mul_succ]
    have := ih (fun i hi => hF i (by omega))
    have := hF n (by omega)
    omega
theorem tw_s {iv : Int32} {p : Nat} (hm : MK h m) (hp : p < 8) (hM : M ≤ 16) (h78 : mF u 78 = nI M) (h3 : ∀ s, s < M → mI u 3 s = gI (xS X s) 3) (hfd : ∀ s, s < M → ∀ f, f < 24 → mI u 8 (24 * s + f) = if fd s f then 1 else 0)
    (hQ : ∀ v', Scr u v' → V g mX10_hasTooManyWays (d + 1) 164 [.ref m, .int iv, .int (nI p), .int (nI (fb_sm (clA fd p M) M)), .int (nI (fb_sm (fun s => if isW (xS X s) then clA fd p M s else 0) M)), zz, zz, zz] [] (mh h m v') Q) :
    ∀ t s v, s + t = M → Scr u v → (∀ i, i < s → mI v 36 i = nI (clA fd p M i)) → V g mX10_hasTooManyWays (d + 1) 18 [.ref m, .int iv, .int (nI p), .int (nI (fb_sm (clA fd p M) s)), .int (nI (fb_sm (fun s => if isW (xS X s) then clA fd p M s else 0) s)), .int (nI s), zz, zz] [] (mh h m v) Q := by
  intro t
  induction t with
  | zero =>
    intro s v hs hv hc
    have : s = M := by omega
    subst this
    refine v_ild5 (q := 20) dX10_hasTooManyWays_18 rfl ?_
    refine v_ald0 (q := 21) dX10_hasTooManyWays_20 rfl rfl ?_
    refine w_gi (q := 24) dX10_hasTooManyWays_21 rfl hm gf_X10_122_9 ?_
    rw [hv.2.2, h78]
    refine v_icmp_ge (t := 164) (q := 27) dX10_hasTooManyWays_24 (by decide) rfl (fun _ => ?_) (fun z => absurd (Int32.le_refl _) z)
    refine v_fg (FG.k (FG.k (FG.k (FG.k (FG.k (FG.z (FG.z (FG.z FG.nil)))))))) ?_
    exact hQ v hv
  | succ t ih =>
    intro s v hs hv hc
    have hsM : s < M := by omega
    have hi : (24 : Int32) * nI s + nI p = nI (24 * s + p) := by rw [show (24 : Int32) = nI 24 from rfl, pk_mul, nI_add]
    have hfd' : ∀ f, f < 24 → mI v 8 (24 * s + f) = if fd s f then 1 else 0 := fun f hf => by
      rw [hv.1 8 (by decide)]
      exact hfd s hsM f hf
    have ec := clA_eq (fd := fd) (p := p) hsM
    rw [wyS_cut hp] at ec
    refine v_ild5 (q := 20) dX10_hasTooManyWays_18 rfl ?_
    refine v_ald0 (q := 21) dX10_hasTooManyWays_20 rfl rfl ?_
    refine w_gi (q := 24) dX10_hasTooManyWays_21 rfl hm gf_X10_122_9 ?_
    rw [hv.2.2, h78]
    refine v_icmp_ge (t := 164) (q := 27) dX10_hasTooManyWays_24 (by decide) rfl (fun z => absurd z (nI_ge hsM (by omega))) (fun _ => ?_)
    have hsum : fb_sm (fun f => if fd s (8 + f) then clA fd p M f else 0) s ≤ 1000 * s := fb_le s (fun i hi => by
      have := clA_le (fd := fd) (p := p) (show i < M by omega)
      split
      · exact this
      · exact Nat.zero_le _)
    -- the count of stage s is known
    have store : ∀ x : Nat, x = clA fd p M s → V g mX10_hasTooManyWays (d + 1) 122 [.ref m, .int iv, .int (nI p), .int (nI (fb_sm (clA fd p M) s)), .int (nI (fb_sm (fun s => if isW (xS X s) then clA fd p M s else 0) s)), .int (nI s), .int (nI ((if fd s p then 1 else 0) + fb_sm (fun f => if fd s (8 + f) then clA fd p M f else 0) s)), zz] [.int (nI x), .int (nI s), .ref (m + 36)] (mh h m v) Q := fun x hx => by
      subst hx
      refine w_iast (q := 123) (n := 48100) dX10_hasTooManyWays_122 rfl hm (by decide) rfl rfl rfl (by omega) ?_
      have hv1 := hv.fo s (nI (clA fd p M s))
      have hc1 : ∀ i, i < s + 1 → mI (sI v 36 s (nI (clA fd p M s))) 36 i = nI (clA fd p M i) := fun i hi => by
        by_cases e : i = s
        · subst e
          exact mI_at _ _ _
        · rw [mI_ni _ e]
          exact hc i (by omega)
      generalize sI v 36 s (nI (clA fd p M s)) = v1 at *
      have nx := ih (s + 1) v1 (by omega) hv1 hc1
      rw [fb_sm_succ, fb_sm_succ] at nx
      refine v_ild3 (q := 124) dX10_hasTooManyWays_123 rfl ?_
      refine v_ald0 (q := 125) dX10_hasTooManyWays_124 rfl rfl ?_
      refine w_ga (q := 128) (j := 36) dX10_hasTooManyWays_125 rfl hm (by decide) gf_X10_119_9 ?_
      refine v_ild5 (q := 130) dX10_hasTooManyWays_128 rfl ?_
      refine w_iald (q := 131) (n := 48100) dX10_hasTooManyWays_130 rfl hm (by decide) rfl rfl rfl (by omega) ?_
      rw [hc1 s (by omega)]
      refine v_iadd (q := 132) dX10_hasTooManyWays_131 rfl ?_
      rw [nI_add]
      refine v_ist3 (q := 133) dX10_hasTooManyWays_132 rfl (by decide) rfl ?_
      refine v_ild4 (q := 135) dX10_hasTooManyWays_133 rfl ?_
      refine v_ald0 (q := 136) dX10_hasTooManyWays_135 rfl rfl ?_
      refine v_ild5 (q := 138) dX10_hasTooManyWays_136 rfl ?_
      refine v_callV (q := 141) (d' := d) (av := [.int (nI s)]) dX10_hasTooManyWays_138 rfl ok_X10_isWindowed CL9 ml_X10_130 im_X10_isWindowed se_X10_isWindowed hm.1 (by omega) rfl rfl (Nat.le_of_ble_eq_true rfl) ?_
      refine q_isW3 (X := X) hm (by omega) ((congrFun (hv1.1 3 (by decide)) s).trans (h3 s hsM)) ?_
      have rest : ∀ y : Nat, y = (if isW (xS X s) then clA fd p M s else 0) → ∀ w6 w7 : Value, V g mX10_hasTooManyWays (d + 1) 155 [.ref m, .int iv, .int (nI p), .int (nI (fb_sm (clA fd p M) s + clA fd p M s)), .int (nI (fb_sm (fun s => if isW (xS X s) then clA fd p M s else 0) s)), .int (nI s), w6, w7] [.int (nI y), .int (nI (fb_sm (fun s => if isW (xS X s) then clA fd p M s else 0) s))] (mh h m v1) Q := fun y hy w6 w7 => by
        rw [← hy] at nx
        refine v_iadd (q := 156) dX10_hasTooManyWays_155 rfl ?_
        rw [nI_add]
        refine v_ist4 (q := 158) dX10_hasTooManyWays_156 rfl (by decide) rfl ?_
        refine v_inc5 (q := 161) dX10_hasTooManyWays_158 rfl (by decide) rfl rfl ?_
        rw [inc1]
        refine v_goto (q := 18) dX10_hasTooManyWays_161 (by decide) ?_
        refine v_fg (FG.k (FG.k (FG.k (FG.k (FG.k (FG.k (FG.z (FG.z FG.nil)))))))) ?_
        exact nx
      by_cases hw : isW (xS X s) = true
      · rw [if_pos hw]
        refine v_if_eq (t := 154) (q := 144) dX10_hasTooManyWays_141 (by decide) rfl (fun z => absurd z (by decide)) (fun _ => ?_)
        refine v_ald0 (q := 145) dX10_hasTooManyWays_144 rfl rfl ?_
        refine w_ga (q := 148) (j := 36) dX10_hasTooManyWays_145 rfl hm (by decide) gf_X10_119_9 ?_
        refine v_ild5 (q := 150) dX10_hasTooManyWays_148 rfl ?_
        refine w_iald (q := 151) (n := 48100) dX10_hasTooManyWays_150 rfl hm (by decide) rfl rfl rfl (by omega) ?_
        rw [hc1 s (by omega)]
        refine v_goto (q := 155) dX10_hasTooManyWays_151 (by decide) ?_
        exact rest _ (if_pos hw).symm _ _
      · rw [if_neg hw]
        refine v_if_eq (t := 154) (q := 144) dX10_hasTooManyWays_141 (by decide) rfl (fun _ => ?_) (fun z => absurd rfl z)
        refine v_iconst (q := 155) (v := 0) dX10_hasTooManyWays_154 rfl (by decide) ?_
        exact rest 0 (if_neg hw).symm _ _
    have full : V g mX10_hasTooManyWays (d + 1) 100 [.ref m, .int iv, .int (nI p), .int (nI (fb_sm (clA fd p M) s)), .int (nI (fb_sm (fun s => if isW (xS X s) then clA fd p M s else 0) s)), .int (nI s), .int (nI ((if fd s p then 1 else 0) + fb_sm (fun f => if fd s (8 + f) then clA fd p M f else 0) s)), zz] [] (mh h m v) Q := by
      have h1 : (if fd s p then 1 else 0) ≤ 1 := by split <;> omega
      generalize hN : (if fd s p then 1 else 0) + fb_sm (fun f => if fd s (8 + f) then clA fd p M f else 0) s = N at *
      refine v_ald0 (q := 101) dX10_hasTooManyWays_100 rfl rfl ?_
      refine w_ga (q := 104) (j := 36) dX10_hasTooManyWays_101 rfl hm (by decide) gf_X10_119_9 ?_
      refine v_ild5 (q := 106) dX10_hasTooManyWays_104 rfl ?_
      refine v_ild6 (q := 108) dX10_hasTooManyWays_106 rfl ?_
      refine v_sipush (q := 111) (v := 1000) dX10_hasTooManyWays_108 rfl (by decide) ?_
      by_cases hle : N ≤ 1000
      · refine v_icmp_le (t := 120) (q := 114) dX10_hasTooManyWays_111 (by decide) rfl (fun _ => ?_) (fun z => absurd (show nI N ≤ nI 1000 from nI_le hle (by decide)) z)
        refine v_ild6 (q := 122) dX10_hasTooManyWays_120 rfl ?_
        exact store N (by rw [ec]; exact (Nat.min_eq_left hle).symm)
      · refine v_icmp_le (t := 120) (q := 114) dX10_hasTooManyWays_111 (by decide) rfl (fun z => absurd z (show ¬ nI N ≤ nI 1000 from nI_ge (by omega) (by omega))) (fun _ => ?_)
        refine v_sipush (q := 117) (v := 1000) dX10_hasTooManyWays_114 rfl (by decide) ?_
        refine v_goto (q := 122) dX10_hasTooManyWays_117 (by decide) ?_
        exact store 1000 (by rw [ec]; exact (Nat.min_eq_right (by omega)).symm)
    have start : ∀ a0 : Nat, a0 = (if fd s p then 1 else 0) → V g mX10_hasTooManyWays (d + 1) 47 [.ref m, .int iv, .int (nI p), .int (nI (fb_sm (clA fd p M) s)), .int (nI (fb_sm (fun s => if isW (xS X s) then clA fd p M s else 0) s)), .int (nI s), zz, zz] [.int (nI a0)] (mh h m v) Q := fun a0 ea => by
      rw [← ea] at full
      refine v_ist6 (q := 49) dX10_hasTooManyWays_47 rfl (by decide) rfl ?_
      refine v_iconst (q := 50) (v := 0) dX10_hasTooManyWays_49 rfl (by decide) ?_
      refine v_ist7 (q := 52) dX10_hasTooManyWays_50 rfl (by decide) rfl ?_
      have := tw_f (d := d) (a0 := a0) (fd := fd) (c := clA fd p M) hm (by omega) hfd' hc full s 0 (Nat.zero_add _)
      exact this
    refine v_ald0 (q := 28) dX10_hasTooManyWays_27 rfl rfl ?_
    refine w_ga (q := 31) (j := 8) dX10_hasTooManyWays_28 rfl hm (by decide) gf_X10_32_9 ?_
    refine v_bipush (q := 33) (v := 24) dX10_hasTooManyWays_31 rfl (by decide) ?_
    refine v_ild5 (q := 35) dX10_hasTooManyWays_33 rfl ?_
    refine v_imul (q := 36) dX10_hasTooManyWays_35 rfl ?_
    refine v_ild2 (q := 37) dX10_hasTooManyWays_36 rfl ?_
    refine v_iadd (q := 38) dX10_hasTooManyWays_37 rfl ?_
    refine w_zald (q := 39) (n := 384) dX10_hasTooManyWays_38 rfl hm (by decide) rfl rfl hi (by omega) ?_
    rw [hfd' p (by omega)]
    by_cases hf : fd s p = true
    · rw [if_pos hf]
      refine v_if_eq (t := 46) (q := 42) dX10_hasTooManyWays_39 (by decide) rfl (fun z => absurd z (by decide)) (fun _ => ?_)
      refine v_iconst (q := 43) (v := 1) dX10_hasTooManyWays_42 rfl (by decide) ?_
      refine v_goto (q := 47) dX10_hasTooManyWays_43 (by decide) ?_
      exact start 1 (if_pos hf).symm
    · rw [if_neg hf]
      refine v_if_eq (t := 46) (q := 42) dX10_hasTooManyWays_39 (by decide) rfl (fun _ => ?_) (fun z => absurd rfl z)
      refine v_iconst (q := 47) (v := 0) dX10_hasTooManyWays_46 rfl (by decide) ?_
      exact start 0 (if_neg hf).symm
theorem tw_p (hm : MK h m) (hM : M ≤ 16) (h78 : mF u 78 = nI M) (h3 : ∀ s, s < M → mI u 3 s = gI (xS X s) 3) (hfd : ∀ s, s < M → ∀ f, f < 24 → mI u 8 (24 * s + f) = if fd s f then 1 else 0) :
    ∀ (t p : Nat) (v : Mu) (b : Bool), p + t = 8 → Scr u v → (∀ v', Scr u v' → Q (some (.int (if (b || (List.range' p t).any (tooM fd (fun s => isW (xS X s)) M)) then 1 else 0))) (mh h m v')) → V g mX10_hasTooManyWays (d + 1) 4 [.ref m, .int (if b then 1 else 0), .int (nI p), zz, zz, zz, zz, zz] [] (mh h m v) Q := by
  intro t
  induction t with
  | zero =>
    intro p v b hp hv hQ
    have : p = 8 := by omega
    subst this
    have hQ := hQ v hv
    rw [List.range'_zero, List.any_nil, Bool.or_false] at hQ
    refine v_ild2 (q := 5) dX10_hasTooManyWays_4 rfl ?_
    refine v_bipush (q := 7) (v := 8) dX10_hasTooManyWays_5 rfl (by decide) ?_
    refine v_icmp_ge (t := 192) (q := 10) dX10_hasTooManyWays_7 (by decide) rfl (fun _ => ?_) (fun z => absurd (Int32.le_refl _) z)
    have hnar : narrow .boolean (.int (if b = true then 1 else 0)) = .int (if b = true then 1 else 0) := by cases b <;> rfl
    refine v_ild1 (q := 193) dX10_hasTooManyWays_192 rfl ?_
    refine v_zret dX10_hasTooManyWays_193 rfl hnar ?_
    exact hQ
  | succ t ih =>
    intro p v b hp hv hQ
    rw [List.range'_succ, List.any_cons] at hQ
    have hp8 : p < 8 := by omega
    refine v_ild2 (q := 5) dX10_hasTooManyWays_4 rfl ?_
    refine v_bipush (q := 7) (v := 8) dX10_hasTooManyWays_5 rfl (by decide) ?_
    refine v_icmp_ge (t := 192) (q := 10) dX10_hasTooManyWays_7 (by decide) rfl (fun z => absurd z (show ¬ nI 8 ≤ nI p from nI_ge hp8 (by decide))) (fun _ => ?_)
    refine v_iconst (q := 11) (v := 0) dX10_hasTooManyWays_10 rfl (by decide) ?_
    refine v_ist3 (q := 12) dX10_hasTooManyWays_11 rfl (by decide) rfl ?_
    refine v_iconst (q := 13) (v := 0) dX10_hasTooManyWays_12 rfl (by decide) ?_
    refine v_ist4 (q := 15) dX10_hasTooManyWays_13 rfl (by decide) rfl ?_
    refine v_iconst (q := 16) (v := 0) dX10_hasTooManyWays_15 rfl (by decide) ?_
    refine v_ist5 (q := 18) dX10_hasTooManyWays_16 rfl (by decide) rfl ?_
    refine tw_s (d := d) (fd := fd) (X := X) hm hp8 hM h78 h3 hfd (fun v1 hv1 => ?_) M 0 v (Nat.zero_add _) hv (fun i hi => absurd hi (Nat.not_lt_zero _))
    have ht := cl_too (fd := fd) (p := p) (fun s => isW (xS X s)) M
    have eT : tooM fd (fun s => isW (xS X s)) M p = decide (32 < fb_sm (clA fd p M) M ∨ 4 < fb_sm (fun s => if isW (xS X s) then clA fd p M s else 0) M) := decide_eq_decide.mpr ht.symm
    have hA : fb_sm (clA fd p M) M ≤ 1000 * M := fb_le M (fun i hi => clA_le hi)
    have hB : fb_sm (fun s => if isW (xS X s) then clA fd p M s else 0) M ≤ 1000 * M := fb_le M (fun i hi => by
      split
      · exact clA_le hi
      · exact Nat.zero_le _)
    generalize fb_sm (clA fd p M) M = a at *
    generalize fb_sm (fun s => if isW (xS X s) then clA fd p M s else 0) M = w at *
    have rest : ∀ b' : Bool, b' = (b || tooM fd (fun s => isW (xS X s)) M p) → V g mX10_hasTooManyWays (d + 1) 185 [.ref m, .int (if b then 1 else 0), .int (nI p), .int (nI a), .int (nI w), zz, zz, zz] [.int (if b' then 1 else 0)] (mh h m v1) Q := fun b' eb => by
      refine v_ist1 (q := 186) dX10_hasTooManyWays_185 rfl (by decide) rfl ?_
      refine v_inc2 (q := 189) dX10_hasTooManyWays_186 rfl (by decide) rfl rfl ?_
      rw [inc1]
      refine v_goto (q := 4) dX10_hasTooManyWays_189 (by decide) ?_
      refine v_fg (FG.k (FG.k (FG.k (FG.z (FG.z (FG.z (FG.z (FG.z FG.nil)))))))) ?_
      refine ih (p + 1) v1 b' (by omega) hv1 (fun v2 hv2 => ?_)
      have := hQ v2 hv2
      rw [← Bool.or_assoc, ← eb] at this
      exact this
    refine v_ild1 (q := 165) dX10_hasTooManyWays_164 rfl ?_
    cases b with
    | true =>
      refine v_if_ne (t := 180) (q := 168) dX10_hasTooManyWays_165 (by decide) rfl (fun _ => ?_) (fun z => absurd z (by decide))
      refine v_iconst (q := 181) (v := 1) dX10_hasTooManyWays_180 rfl (by decide) ?_
      refine v_goto (q := 185) dX10_hasTooManyWays_181 (by decide) ?_
      exact rest true rfl
    | false =>
      refine v_if_ne (t := 180) (q := 168) dX10_hasTooManyWays_165 (by decide) rfl (fun z => absurd rfl z) (fun _ => ?_)
      refine v_ild3 (q := 169) dX10_hasTooManyWays_168 rfl ?_
      refine v_bipush (q := 171) (v := 32) dX10_hasTooManyWays_169 rfl (by decide) ?_
      by_cases h1 : 32 < a
      · refine v_icmp_gt (t := 180) (q := 174) dX10_hasTooManyWays_171 (by decide) rfl (fun _ => ?_) (fun z => absurd (show nI 32 < nI a from nI_lt h1 (by omega)) z)
        refine v_iconst (q := 181) (v := 1) dX10_hasTooManyWays_180 rfl (by decide) ?_
        refine v_goto (q := 185) dX10_hasTooManyWays_181 (by decide) ?_
        refine rest true ?_
        rw [eT, decide_eq_true (Or.inl h1)]
        rfl
      refine v_icmp_gt (t := 180) (q := 174) dX10_hasTooManyWays_171 (by decide) rfl (fun z => absurd (show nI 32 < nI a from z) (nI_nlt (by omega) (by omega))) (fun _ => ?_)
      refine v_ild4 (q := 176) dX10_hasTooManyWays_174 rfl ?_
      refine v_iconst (q := 177) (v := 4) dX10_hasTooManyWays_176 rfl (by decide) ?_
      by_cases h2 : w ≤ 4
      · refine v_icmp_le (t := 184) (q := 180) dX10_hasTooManyWays_177 (by decide) rfl (fun _ => ?_) (fun z => absurd (show nI w ≤ nI 4 from nI_le h2 (by decide)) z)
        refine v_iconst (q := 185) (v := 0) dX10_hasTooManyWays_184 rfl (by decide) ?_
        refine rest false ?_
        rw [eT, decide_eq_false (by omega)]
        rfl
      refine v_icmp_le (t := 184) (q := 180) dX10_hasTooManyWays_177 (by decide) rfl (fun z => absurd z (show ¬ nI w ≤ nI 4 from nI_ge (by omega) (by omega))) (fun _ => ?_)
      refine v_iconst (q := 181) (v := 1) dX10_hasTooManyWays_180 rfl (by decide) ?_
      refine v_goto (q := 185) dX10_hasTooManyWays_181 (by decide) ?_
      refine rest true ?_
      rw [eT, decide_eq_true (Or.inr (by omega))]
      rfl
theorem q_ways (hm : MK h m) (hM : M ≤ 16) (h78 : mF u 78 = nI M) (h3 : ∀ s, s < M → mI u 3 s = gI (xS X s) 3) (hfd : ∀ s, s < M → ∀ f, f < 24 → mI u 8 (24 * s + f) = if fd s f then 1 else 0)
    (hQ : ∀ v', Scr u v' → Q (some (.int (if tooMany fd (fun s => isW (xS X s)) M then 1 else 0))) (mh h m v')) : Call g mX10_hasTooManyWays (d + 1) [.ref m] (mh h m u) Q := by
  refine Call.of [.ref m, zz, zz, zz, zz, zz, zz, zz] (by decide) (Nat.le_of_ble_eq_true rfl) rfl ?_
  refine v_iconst (q := 1) (v := 0) dX10_hasTooManyWays_0 rfl (by decide) ?_
  refine v_ist1 (q := 2) dX10_hasTooManyWays_1 rfl (by decide) rfl ?_
  refine v_iconst (q := 3) (v := 0) dX10_hasTooManyWays_2 rfl (by decide) ?_
  refine v_ist2 (q := 4) dX10_hasTooManyWays_3 rfl (by decide) rfl ?_
  refine tw_p (d := d) (fd := fd) (X := X) hm hM h78 h3 hfd 8 0 u false (Nat.zero_add _) (Scr.rf u) (fun v' hv' => ?_)
  have := hQ v' hv'
  unfold tooMany at this
  rw [List.range_eq_range'] at this
  exact this
end LE7
