/-! F2: the law: reads of the script -/
abbrev mL_law : Mth := (yL_law, cL_law, 4, ret)
def scB (g : Gl) : Nat := g.2.2.2.2.2.2.1
def scL (g : Gl) : Nat := g.2.2.2.2.2.2.2.1
def scX (g : Gl) : Nat → Int32 := g.2.2.2.2.2.2.2.2
section LF2
variable {g : Gl} {Y : Mth} {d pc q : Nat} {ls st : List Value} {h : Hp} {Q : Option Value → Hp → Prop}
theorem v_sld {i : Int32} (j : Nat) (hd : decode Y.2.1 pc = .ok (.iaload, 1)) (hq : pc + 1 = q) (hi : i = nI j) (hj : j < scL g) (hj2 : j < 2147483648) (k : V g Y d q ls (.int (scX g j) :: st) h Q) : V g Y d pc ls (.int i :: .ref (scB g) :: st) h Q := by
  subst hq hi
  refine V.step (fun p e R s m args below meth c H locs cells slots arr Qf hC hR hS hL kk => ?_) k
  have kn := hC.kn
  have h6 := kn.2.2.2.2.2.2.1
  have h8 := kn.2.2.2.2.2.2.2.2.1
  have h9 := kn.2.2.2.2.2.2.2.2.2
  refine va_sld hC.1 hC.2.1 h8 (Nat.lt_of_lt_of_le h9 h6) (Nat.not_le.mpr h9) hS (fun z => ?_) hd ?_
  · rcases z with z | z
    · exact absurd z (Int32.not_lt.mpr (nI_pos' hj2))
    · rw [nI_clamp hj2] at z
      exact absurd hj (Nat.not_lt.mpr z)
  · rw [nI_clamp hj2]
    exact kk arr hL
theorem v_slen (hd : decode Y.2.1 pc = .ok (.arraylength, 1)) (hq : pc + 1 = q) (k : V g Y d q ls (.int (nI (scL g)) :: st) h Q) : V g Y d pc ls (.ref (scB g) :: st) h Q := by
  subst hq
  refine V.step (fun p e R s m args below meth c H locs cells slots arr Qf hC hR hS hL kk => ?_) k
  have kn := hC.kn
  have h6 := kn.2.2.2.2.2.2.1
  have h8 := kn.2.2.2.2.2.2.2.2.1
  have h9 := kn.2.2.2.2.2.2.2.2.2
  exact va_slen hC.1 hC.2.1 h8 (Nat.lt_of_lt_of_le h9 h6) (Nat.not_le.mpr h9) hS hd (kk arr hL)
end LF2
