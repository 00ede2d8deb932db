/-! 90: WindowMill: openWindows, count -/
/-- locals that are kept, and such as are forgotten -/
def FG (l' l : List Value) : Prop := ∀ (i : Nat) (v : Value), l'[i]? = some v → v = zz ∨ l[i]? = some v
theorem FG.nil : FG [] [] := fun i v h => by simp at h
theorem FG.k {a : Value} {l' l : List Value} (h : FG l' l) : FG (a :: l') (a :: l) := fun i v hi => by
  cases i with
  | zero => exact Or.inr hi
  | succ i => exact h i v hi
theorem FG.z {b : Value} {l' l : List Value} (h : FG l' l) : FG (zz :: l') (b :: l) := fun i v hi => by
  cases i with
  | zero =>
    refine Or.inl ?_
    have : some zz = some v := hi
    exact (Option.some.inj this).symm
  | succ i => exact h i v hi
theorem v_fg {g : Gl} {Y : Mth} {d pc : Nat} {ls ls' st : List Value} {h : Hp} {Q : Option Value → Hp → Prop} (hf : FG ls' ls) (k : V g Y d pc ls' st h Q) : V g Y d pc ls st h Q := v_forget ls' hf k
section L90
variable {g : Gl} {d : Nat} {h : Hp} {Q : Option Value → Hp → Prop} {ow : Nat → Nat} {c lg SA ST WY : Nat} {po sp us uz : Nat → Nat} {X : Sg}
theorem opw_loop (hM : MV g h ow c lg SA ST WY po sp X us uz) (hQ : Q (some (.int (nI (fb_sm (fun s => opS (xS X s)) (xM X))))) h) : ∀ (n s : Nat), s + n = xM X → V g mX9_openWindows d 4 [.ref c, .int (nI (fb_sm (fun s => opS (xS X s)) s)), .int (nI s), zz, zz] [] h Q := by
  have a1 : hK h c = 9 := hM.1.1
  have a4 : fP h 43 c = some ST := hM.1.2.2.2.1
  have a7 : fI h 46 c = nI (xM X) := hM.1.2.2.2.2.2.2.1
  have b4 : hK h ST = 26 := hM.2.1.2.2.2.1
  have b5 : hN h ST = 16 := hM.2.1.2.2.2.2.1
  have h16 : xM X ≤ 16 := hM.2.2.2.2.1
  intro n
  induction n with
  | zero =>
    intro s hs
    have : s = xM X := by omega
    subst this
    refine v_ild2 (q := 5) dX9_openWindows_4 rfl ?_
    refine v_ald0 (q := 6) dX9_openWindows_5 rfl rfl ?_
    refine v_getI (q := 9) dX9_openWindows_6 rfl gf_X9_37_8 (by assumption) ?_
    rw [a7]
    refine v_icmp_ge (t := 47) (q := 12) dX9_openWindows_9 (by decide) rfl (fun _ => ?_) (fun hc => absurd (Int32.le_refl _) hc)
    refine v_ild1 (q := 48) dX9_openWindows_47 rfl ?_
    refine v_iret dX9_openWindows_48 rfl ?_
    exact hQ
  | succ n ih =>
    intro s hs
    have hsm : s < xM X := by omega
    have hS := hM.st hsm
    have hp := ((hM.2.2.2.1 s (by omega)).1 hsm).1
    refine v_ild2 (q := 5) dX9_openWindows_4 rfl ?_
    refine v_ald0 (q := 6) dX9_openWindows_5 rfl rfl ?_
    refine v_getI (q := 9) dX9_openWindows_6 rfl gf_X9_37_8 (by assumption) ?_
    rw [a7]
    refine v_icmp_ge (t := 47) (q := 12) dX9_openWindows_9 (by decide) rfl (fun hc => absurd hc (nI_ge hsm (by omega))) (fun _ => ?_)
    refine v_ald0 (q := 13) dX9_openWindows_12 rfl rfl ?_
    refine v_getR (q := 16) dX9_openWindows_13 rfl gf_X9_17_8 (by assumption) (by assumption) ?_
    refine v_ild2 (q := 17) dX9_openWindows_16 rfl ?_
    refine v_aald (q := 18) _ dX9_openWindows_17 rfl ⟨b4, by decide, by decide⟩ rfl (by rw [b5]; omega) (by rw [b5]; decide) ?_
    rw [hp]
    refine v_ast4 (q := 20) dX9_openWindows_18 rfl (by decide) rfl rfl ?_
    refine v_ald4 (q := 22) dX9_openWindows_20 rfl rfl ?_
    rcases stv_cnt hS with ⟨w1, w2, w3, w4, w5⟩ | ⟨w1, w2, w3, w4⟩
    · refine v_inst (q := 25) dX9_openWindows_22 rfl CL7 cl_X9_41 w2 ?_
      refine v_if_eq (t := 41) (q := 28) dX9_openWindows_25 (by decide) rfl (fun hc => absurd hc (by decide)) (fun _ => ?_)
      refine v_ald4 (q := 30) dX9_openWindows_28 rfl rfl ?_
      refine v_cast (q := 33) dX9_openWindows_30 rfl CL7 cl_X9_41 w2 ?_
      refine v_ast3 (q := 34) dX9_openWindows_33 rfl (by decide) rfl rfl ?_
      refine v_ild1 (q := 35) dX9_openWindows_34 rfl ?_
      refine v_ald3 (q := 36) dX9_openWindows_35 rfl rfl ?_
      refine v_getI (q := 39) dX9_openWindows_36 rfl gf_X9_167_7 (by assumption) ?_
      rw [w4]
      refine v_iadd (q := 40) dX9_openWindows_39 rfl ?_
      rw [nI_add]
      refine v_ist1 (q := 41) dX9_openWindows_40 rfl (by decide) rfl ?_
      refine v_inc2 (q := 44) dX9_openWindows_41 rfl (by decide) rfl rfl ?_
      rw [inc1]
      refine v_goto (q := 4) dX9_openWindows_44 (by decide) ?_
      refine v_fg (FG.k (FG.k (FG.k (FG.z (FG.z FG.nil))))) ?_
      exact ih (s + 1) (by omega)
    · refine v_instNo (q := 25) dX9_openWindows_22 rfl CL4 cl_X9_41 (by decide) w2 ?_
      refine v_if_eq (t := 41) (q := 28) dX9_openWindows_25 (by decide) rfl (fun _ => ?_) (fun hc => absurd rfl hc)
      refine v_inc2 (q := 44) dX9_openWindows_41 rfl (by decide) rfl rfl ?_
      rw [inc1]
      have e : fb_sm (fun s => opS (xS X s)) s = fb_sm (fun s => opS (xS X s)) (s + 1) := by
        rw [fb_sm_succ, w3]
        rfl
      rw [e]
      refine v_goto (q := 4) dX9_openWindows_44 (by decide) ?_
      refine v_fg (FG.k (FG.k (FG.k (FG.z (FG.z FG.nil))))) ?_
      exact ih (s + 1) (by omega)
theorem k_count {w : Int32} (hM : MV g h ow c lg SA ST WY po sp X us uz) (hQ : Q (some (.int (aCount X w))) h) : Call g mX9_count (d + 1) [.ref c, .int w] h Q := by
  have a1 : hK h c = 9 := hM.1.1
  have a7 : fI h 46 c = nI (xM X) := hM.1.2.2.2.2.2.2.1
  have a8 : fI h 47 c = nI (xT X) := hM.1.2.2.2.2.2.2.2
  refine Call.of [.ref c, .int w] (by decide) (Nat.le_of_ble_eq_true rfl) rfl ?_
  refine v_ild1 (q := 1) dX9_count_0 rfl ?_
  unfold aCount at hQ
  by_cases h0 : w = 0
  · subst h0
    rw [if_pos rfl] at hQ
    refine v_tableIn 0 (t := 28) dX9_count_1 (by decide) (by decide) rfl (by decide) ?_
    refine v_ald0 (q := 29) dX9_count_28 rfl rfl ?_
    refine v_getI (q := 32) dX9_count_29 rfl gf_X9_37_8 (by assumption) ?_
    rw [a7]
    refine v_iret dX9_count_32 rfl ?_
    exact hQ
  rw [if_neg h0] at hQ
  by_cases h1 : w = 1
  · subst h1
    rw [if_pos rfl] at hQ
    refine v_tableIn 1 (t := 33) dX9_count_1 (by decide) (by decide) rfl (by decide) ?_
    refine v_ald0 (q := 34) dX9_count_33 rfl rfl ?_
    refine v_getI (q := 37) dX9_count_34 rfl gf_X9_98_8 (by assumption) ?_
    rw [a8]
    refine v_iret dX9_count_37 rfl ?_
    exact hQ
  rw [if_neg h1] at hQ
  by_cases h2 : w = 2
  · subst h2
    rw [if_pos rfl] at hQ
    refine v_tableIn 2 (t := 38) dX9_count_1 (by decide) (by decide) rfl (by decide) ?_
    refine v_ald0 (q := 39) dX9_count_38 rfl rfl ?_
    refine v_callV (q := 42) (d' := d) (av := []) dX9_count_39 rfl ok_X9_openWindows CL8 ml_X9_191 im_X9_openWindows se_X9_openWindows (by assumption) (by omega) rfl rfl (Nat.le_of_ble_eq_true rfl) ?_
    refine Call.of [.ref c, zz, zz, zz, zz] (by decide) (Nat.le_of_ble_eq_true rfl) rfl ?_
    refine v_iconst (q := 1) (v := 0) dX9_openWindows_0 rfl (by decide) ?_
    refine v_ist1 (q := 2) dX9_openWindows_1 rfl (by decide) rfl ?_
    refine v_iconst (q := 3) (v := 0) dX9_openWindows_2 rfl (by decide) ?_
    refine v_ist2 (q := 4) dX9_openWindows_3 rfl (by decide) rfl ?_
    refine opw_loop (d := d) hM ?_ (xM X) 0 (Nat.zero_add _)
    refine v_iret dX9_count_42 rfl ?_
    exact hQ
  rw [if_neg h2] at hQ
  refine v_tableOut (t := 43) dX9_count_1 ?_ (by decide) ?_
  · rw [fa_eq] at h0 h1 h2
    have e0 : (0 : Int32).toInt = 0 := by decide
    have e1 : (1 : Int32).toInt = 1 := by decide
    have e2 : (2 : Int32).toInt = 2 := by decide
    omega
  refine v_iconst (q := 44) (v := -1) dX9_count_43 rfl (by decide) ?_
  refine v_iret dX9_count_44 rfl ?_
  exact hQ
end L90
