/-! E9: the model's constructor -/
def mL36 : List (Nat × Nat × Nat) := [(60, 21, 8), (61, 23, 8), (62, 21, 16), (63, 21, 16), (64, 21, 16), (65, 21, 16), (66, 23, 16), (67, 23, 384), (68, 21, 16), (69, 21, 16), (70, 21, 16), (71, 21, 16), (72, 21, 16), (73, 21, 16), (74, 23, 16), (75, 21, 16), (76, 21, 16), (77, 22, 16), (80, 21, 48100), (81, 21, 48100), (82, 21, 48100), (83, 21, 48100), (84, 23, 48100), (85, 21, 48100), (86, 21, 48100), (87, 21, 48100), (89, 22, 48100), (90, 21, 48100), (92, 21, 200000), (93, 21, 200000), (94, 21, 200000), (95, 21, 200000), (96, 21, 200000), (97, 22, 200000), (99, 22, 12004), (100, 21, 48100)]
def mu0 : Mu := (fun _ _ => 0, fun _ _ => 0, fun _ => 0)
def InM (h : Hp) (m : Nat) (l : List (Nat × Nat × Nat)) (H : Hp) : Prop := H = mkA m h l ∧ hK H m = 10 ∧ m < hz H ∧ Wf H
section LE9
variable {g : Gl} {d : Nat} {h H : Hp} {Q : Option Value → Hp → Prop} {m : Nat}
theorem InM.next {l : List (Nat × Nat × Nat)} {x : Nat × Nat × Nat} (a : InM h m l H) (hx : x.2.1 ≠ 0) : InM h m (l ++ [x]) (stA m H x) ∧ hK (nArr H x.2.1 x.2.2) m = 10 := by
  obtain ⟨a1, a2, a3, a4⟩ := a
  obtain ⟨s1, s2, s3, s4, ⟨s5, s6, s7⟩, _⟩ := stA_f (x := x) a3 a4
  refine ⟨⟨?_, s5.trans a2, by omega, s3 hx⟩, ?_⟩
  · unfold mkA
    rw [List.foldl_append, a1]
    rfl
  · rw [hK_nArr, if_neg (by omega)]
    exact a2
theorem mi_walk (hk : hK h m = 10) (hc : m < hz h) (wf : Wf h) (hQ : ∀ H, InM h m mL36 H → Q none H) : Call g mX10_init (d + 1) [.ref m] h Q := by
  refine Call.of [.ref m] (by decide) (Nat.le_of_ble_eq_true rfl) rfl ?_
  have j0 : InM h m [] h := ⟨rfl, hk, hc, wf⟩
  refine v_ald0 (q := 1) dX10_init_0 rfl rfl ?_
  refine v_objInit (q := 4) dX10_init_1 rfl (by omega) ml_X10_1 w_oi w_oc (Nat.le_of_ble_eq_true rfl) ?_
  obtain ⟨j1, k1⟩ := j0.next (x := (60, 21, 8)) (by decide)
  refine v_ald0 (q := 5) dX10_init_4 rfl rfl ?_
  refine v_bipush (q := 7) (v := 8) dX10_init_5 rfl (by decide) ?_
  refine v_newarray (q := 9) (k := 21) dX10_init_7 rfl ⟨rfl, by decide⟩ ac_int (N := 8) (by decide) (by decide) ?_
  refine v_putFP (q := 12) (x := some (hz h)) dX10_init_9 rfl qf_X10_9_9 rfl k1 rfl rfl ?_
  change V g mX10_init (d + 1) 12 _ _ (stA m h (60, 21, 8)) Q
  clear j0 k1
  generalize stA m h (60, 21, 8) = H1 at *
  obtain ⟨j2, k2⟩ := j1.next (x := (61, 23, 8)) (by decide)
  refine v_ald0 (q := 13) dX10_init_12 rfl rfl ?_
  refine v_bipush (q := 15) (v := 8) dX10_init_13 rfl (by decide) ?_
  refine v_newarray (q := 17) (k := 23) dX10_init_15 rfl ⟨rfl, by decide⟩ ac_boolean (N := 8) (by decide) (by decide) ?_
  refine v_putFP (q := 20) (x := some (hz H1)) dX10_init_17 rfl qf_X10_13_9 rfl k2 rfl rfl ?_
  change V g mX10_init (d + 1) 20 _ _ (stA m H1 (61, 23, 8)) Q
  clear j1 k2
  generalize stA m H1 (61, 23, 8) = H2 at *
  obtain ⟨j3, k3⟩ := j2.next (x := (62, 21, 16)) (by decide)
  refine v_ald0 (q := 21) dX10_init_20 rfl rfl ?_
  refine v_bipush (q := 23) (v := 16) dX10_init_21 rfl (by decide) ?_
  refine v_newarray (q := 25) (k := 21) dX10_init_23 rfl ⟨rfl, by decide⟩ ac_int (N := 16) (by decide) (by decide) ?_
  refine v_putFP (q := 28) (x := some (hz H2)) dX10_init_25 rfl qf_X10_17_9 rfl k3 rfl rfl ?_
  change V g mX10_init (d + 1) 28 _ _ (stA m H2 (62, 21, 16)) Q
  clear j2 k3
  generalize stA m H2 (62, 21, 16) = H3 at *
  obtain ⟨j4, k4⟩ := j3.next (x := (63, 21, 16)) (by decide)
  refine v_ald0 (q := 29) dX10_init_28 rfl rfl ?_
  refine v_bipush (q := 31) (v := 16) dX10_init_29 rfl (by decide) ?_
  refine v_newarray (q := 33) (k := 21) dX10_init_31 rfl ⟨rfl, by decide⟩ ac_int (N := 16) (by decide) (by decide) ?_
  refine v_putFP (q := 36) (x := some (hz H3)) dX10_init_33 rfl qf_X10_20_9 rfl k4 rfl rfl ?_
  change V g mX10_init (d + 1) 36 _ _ (stA m H3 (63, 21, 16)) Q
  clear j3 k4
  generalize stA m H3 (63, 21, 16) = H4 at *
  obtain ⟨j5, k5⟩ := j4.next (x := (64, 21, 16)) (by decide)
  refine v_ald0 (q := 37) dX10_init_36 rfl rfl ?_
  refine v_bipush (q := 39) (v := 16) dX10_init_37 rfl (by decide) ?_
  refine v_newarray (q := 41) (k := 21) dX10_init_39 rfl ⟨rfl, by decide⟩ ac_int (N := 16) (by decide) (by decide) ?_
  refine v_putFP (q := 44) (x := some (hz H4)) dX10_init_41 rfl qf_X10_23_9 rfl k5 rfl rfl ?_
  change V g mX10_init (d + 1) 44 _ _ (stA m H4 (64, 21, 16)) Q
  clear j4 k5
  generalize stA m H4 (64, 21, 16) = H5 at *
  obtain ⟨j6, k6⟩ := j5.next (x := (65, 21, 16)) (by decide)
  refine v_ald0 (q := 45) dX10_init_44 rfl rfl ?_
  refine v_bipush (q := 47) (v := 16) dX10_init_45 rfl (by decide) ?_
  refine v_newarray (q := 49) (k := 21) dX10_init_47 rfl ⟨rfl, by decide⟩ ac_int (N := 16) (by decide) (by decide) ?_
  refine v_putFP (q := 52) (x := some (hz H5)) dX10_init_49 rfl qf_X10_26_9 rfl k6 rfl rfl ?_
  change V g mX10_init (d + 1) 52 _ _ (stA m H5 (65, 21, 16)) Q
  clear j5 k6
  generalize stA m H5 (65, 21, 16) = H6 at *
  obtain ⟨j7, k7⟩ := j6.next (x := (66, 23, 16)) (by decide)
  refine v_ald0 (q := 53) dX10_init_52 rfl rfl ?_
  refine v_bipush (q := 55) (v := 16) dX10_init_53 rfl (by decide) ?_
  refine v_newarray (q := 57) (k := 23) dX10_init_55 rfl ⟨rfl, by decide⟩ ac_boolean (N := 16) (by decide) (by decide) ?_
  refine v_putFP (q := 60) (x := some (hz H6)) dX10_init_57 rfl qf_X10_29_9 rfl k7 rfl rfl ?_
  change V g mX10_init (d + 1) 60 _ _ (stA m H6 (66, 23, 16)) Q
  clear j6 k7
  generalize stA m H6 (66, 23, 16) = H7 at *
  obtain ⟨j8, k8⟩ := j7.next (x := (67, 23, 384)) (by decide)
  refine v_ald0 (q := 61) dX10_init_60 rfl rfl ?_
  refine v_sipush (q := 64) (v := 384) dX10_init_61 rfl (by decide) ?_
  refine v_newarray (q := 66) (k := 23) dX10_init_64 rfl ⟨rfl, by decide⟩ ac_boolean (N := 384) (by decide) (by decide) ?_
  refine v_putFP (q := 69) (x := some (hz H7)) dX10_init_66 rfl qf_X10_32_9 rfl k8 rfl rfl ?_
  change V g mX10_init (d + 1) 69 _ _ (stA m H7 (67, 23, 384)) Q
  clear j7 k8
  generalize stA m H7 (67, 23, 384) = H8 at *
  obtain ⟨j9, k9⟩ := j8.next (x := (68, 21, 16)) (by decide)
  refine v_ald0 (q := 70) dX10_init_69 rfl rfl ?_
  refine v_bipush (q := 72) (v := 16) dX10_init_70 rfl (by decide) ?_
  refine v_newarray (q := 74) (k := 21) dX10_init_72 rfl ⟨rfl, by decide⟩ ac_int (N := 16) (by decide) (by decide) ?_
  refine v_putFP (q := 77) (x := some (hz H8)) dX10_init_74 rfl qf_X10_35_9 rfl k9 rfl rfl ?_
  change V g mX10_init (d + 1) 77 _ _ (stA m H8 (68, 21, 16)) Q
  clear j8 k9
  generalize stA m H8 (68, 21, 16) = H9 at *
  obtain ⟨j10, k10⟩ := j9.next (x := (69, 21, 16)) (by decide)
  refine v_ald0 (q := 78) dX10_init_77 rfl rfl ?_
  refine v_bipush (q := 80) (v := 16) dX10_init_78 rfl (by decide) ?_
  refine v_newarray (q := 82) (k := 21) dX10_init_80 rfl ⟨rfl, by decide⟩ ac_int (N := 16) (by decide) (by decide) ?_
  refine v_putFP (q := 85) (x := some (hz H9)) dX10_init_82 rfl qf_X10_38_9 rfl k10 rfl rfl ?_
  change V g mX10_init (d + 1) 85 _ _ (stA m H9 (69, 21, 16)) Q
  clear j9 k10
  generalize stA m H9 (69, 21, 16) = H10 at *
  obtain ⟨j11, k11⟩ := j10.next (x := (70, 21, 16)) (by decide)
  refine v_ald0 (q := 86) dX10_init_85 rfl rfl ?_
  refine v_bipush (q := 88) (v := 16) dX10_init_86 rfl (by decide) ?_
  refine v_newarray (q := 90) (k := 21) dX10_init_88 rfl ⟨rfl, by decide⟩ ac_int (N := 16) (by decide) (by decide) ?_
  refine v_putFP (q := 93) (x := some (hz H10)) dX10_init_90 rfl qf_X10_41_9 rfl k11 rfl rfl ?_
  change V g mX10_init (d + 1) 93 _ _ (stA m H10 (70, 21, 16)) Q
  clear j10 k11
  generalize stA m H10 (70, 21, 16) = H11 at *
  obtain ⟨j12, k12⟩ := j11.next (x := (71, 21, 16)) (by decide)
  refine v_ald0 (q := 94) dX10_init_93 rfl rfl ?_
  refine v_bipush (q := 96) (v := 16) dX10_init_94 rfl (by decide) ?_
  refine v_newarray (q := 98) (k := 21) dX10_init_96 rfl ⟨rfl, by decide⟩ ac_int (N := 16) (by decide) (by decide) ?_
  refine v_putFP (q := 101) (x := some (hz H11)) dX10_init_98 rfl qf_X10_44_9 rfl k12 rfl rfl ?_
  change V g mX10_init (d + 1) 101 _ _ (stA m H11 (71, 21, 16)) Q
  clear j11 k12
  generalize stA m H11 (71, 21, 16) = H12 at *
  obtain ⟨j13, k13⟩ := j12.next (x := (72, 21, 16)) (by decide)
  refine v_ald0 (q := 102) dX10_init_101 rfl rfl ?_
  refine v_bipush (q := 104) (v := 16) dX10_init_102 rfl (by decide) ?_
  refine v_newarray (q := 106) (k := 21) dX10_init_104 rfl ⟨rfl, by decide⟩ ac_int (N := 16) (by decide) (by decide) ?_
  refine v_putFP (q := 109) (x := some (hz H12)) dX10_init_106 rfl qf_X10_47_9 rfl k13 rfl rfl ?_
  change V g mX10_init (d + 1) 109 _ _ (stA m H12 (72, 21, 16)) Q
  clear j12 k13
  generalize stA m H12 (72, 21, 16) = H13 at *
  obtain ⟨j14, k14⟩ := j13.next (x := (73, 21, 16)) (by decide)
  refine v_ald0 (q := 110) dX10_init_109 rfl rfl ?_
  refine v_bipush (q := 112) (v := 16) dX10_init_110 rfl (by decide) ?_
  refine v_newarray (q := 114) (k := 21) dX10_init_112 rfl ⟨rfl, by decide⟩ ac_int (N := 16) (by decide) (by decide) ?_
  refine v_putFP (q := 117) (x := some (hz H13)) dX10_init_114 rfl qf_X10_50_9 rfl k14 rfl rfl ?_
  change V g mX10_init (d + 1) 117 _ _ (stA m H13 (73, 21, 16)) Q
  clear j13 k14
  generalize stA m H13 (73, 21, 16) = H14 at *
  obtain ⟨j15, k15⟩ := j14.next (x := (74, 23, 16)) (by decide)
  refine v_ald0 (q := 118) dX10_init_117 rfl rfl ?_
  refine v_bipush (q := 120) (v := 16) dX10_init_118 rfl (by decide) ?_
  refine v_newarray (q := 122) (k := 23) dX10_init_120 rfl ⟨rfl, by decide⟩ ac_boolean (N := 16) (by decide) (by decide) ?_
  refine v_putFP (q := 125) (x := some (hz H14)) dX10_init_122 rfl qf_X10_53_9 rfl k15 rfl rfl ?_
  change V g mX10_init (d + 1) 125 _ _ (stA m H14 (74, 23, 16)) Q
  clear j14 k15
  generalize stA m H14 (74, 23, 16) = H15 at *
  obtain ⟨j16, k16⟩ := j15.next (x := (75, 21, 16)) (by decide)
  refine v_ald0 (q := 126) dX10_init_125 rfl rfl ?_
  refine v_bipush (q := 128) (v := 16) dX10_init_126 rfl (by decide) ?_
  refine v_newarray (q := 130) (k := 21) dX10_init_128 rfl ⟨rfl, by decide⟩ ac_int (N := 16) (by decide) (by decide) ?_
  refine v_putFP (q := 133) (x := some (hz H15)) dX10_init_130 rfl qf_X10_56_9 rfl k16 rfl rfl ?_
  change V g mX10_init (d + 1) 133 _ _ (stA m H15 (75, 21, 16)) Q
  clear j15 k16
  generalize stA m H15 (75, 21, 16) = H16 at *
  obtain ⟨j17, k17⟩ := j16.next (x := (76, 21, 16)) (by decide)
  refine v_ald0 (q := 134) dX10_init_133 rfl rfl ?_
  refine v_bipush (q := 136) (v := 16) dX10_init_134 rfl (by decide) ?_
  refine v_newarray (q := 138) (k := 21) dX10_init_136 rfl ⟨rfl, by decide⟩ ac_int (N := 16) (by decide) (by decide) ?_
  refine v_putFP (q := 141) (x := some (hz H16)) dX10_init_138 rfl qf_X10_59_9 rfl k17 rfl rfl ?_
  change V g mX10_init (d + 1) 141 _ _ (stA m H16 (76, 21, 16)) Q
  clear j16 k17
  generalize stA m H16 (76, 21, 16) = H17 at *
  obtain ⟨j18, k18⟩ := j17.next (x := (77, 22, 16)) (by decide)
  refine v_ald0 (q := 142) dX10_init_141 rfl rfl ?_
  refine v_bipush (q := 144) (v := 16) dX10_init_142 rfl (by decide) ?_
  refine v_newarray (q := 146) (k := 22) dX10_init_144 rfl ⟨rfl, by decide⟩ ac_long (N := 16) (by decide) (by decide) ?_
  refine v_putFP (q := 149) (x := some (hz H17)) dX10_init_146 rfl qf_X10_62_9 rfl k18 rfl rfl ?_
  change V g mX10_init (d + 1) 149 _ _ (stA m H17 (77, 22, 16)) Q
  clear j17 k18
  generalize stA m H17 (77, 22, 16) = H18 at *
  obtain ⟨j19, k19⟩ := j18.next (x := (80, 21, 48100)) (by decide)
  refine v_ald0 (q := 150) dX10_init_149 rfl rfl ?_
  refine v_ldc (q := 152) dX10_init_150 rfl kc_X10_66 ?_
  refine v_newarray (q := 154) (k := 21) dX10_init_152 rfl ⟨rfl, by decide⟩ ac_int (N := 48100) (by decide) (by decide) ?_
  refine v_putFP (q := 157) (x := some (hz H18)) dX10_init_154 rfl qf_X10_67_9 rfl k19 rfl rfl ?_
  change V g mX10_init (d + 1) 157 _ _ (stA m H18 (80, 21, 48100)) Q
  clear j18 k19
  generalize stA m H18 (80, 21, 48100) = H19 at *
  obtain ⟨j20, k20⟩ := j19.next (x := (81, 21, 48100)) (by decide)
  refine v_ald0 (q := 158) dX10_init_157 rfl rfl ?_
  refine v_ldc (q := 160) dX10_init_158 rfl kc_X10_66 ?_
  refine v_newarray (q := 162) (k := 21) dX10_init_160 rfl ⟨rfl, by decide⟩ ac_int (N := 48100) (by decide) (by decide) ?_
  refine v_putFP (q := 165) (x := some (hz H19)) dX10_init_162 rfl qf_X10_70_9 rfl k20 rfl rfl ?_
  change V g mX10_init (d + 1) 165 _ _ (stA m H19 (81, 21, 48100)) Q
  clear j19 k20
  generalize stA m H19 (81, 21, 48100) = H20 at *
  obtain ⟨j21, k21⟩ := j20.next (x := (82, 21, 48100)) (by decide)
  refine v_ald0 (q := 166) dX10_init_165 rfl rfl ?_
  refine v_ldc (q := 168) dX10_init_166 rfl kc_X10_66 ?_
  refine v_newarray (q := 170) (k := 21) dX10_init_168 rfl ⟨rfl, by decide⟩ ac_int (N := 48100) (by decide) (by decide) ?_
  refine v_putFP (q := 173) (x := some (hz H20)) dX10_init_170 rfl qf_X10_73_9 rfl k21 rfl rfl ?_
  change V g mX10_init (d + 1) 173 _ _ (stA m H20 (82, 21, 48100)) Q
  clear j20 k21
  generalize stA m H20 (82, 21, 48100) = H21 at *
  obtain ⟨j22, k22⟩ := j21.next (x := (83, 21, 48100)) (by decide)
  refine v_ald0 (q := 174) dX10_init_173 rfl rfl ?_
  refine v_ldc (q := 176) dX10_init_174 rfl kc_X10_66 ?_
  refine v_newarray (q := 178) (k := 21) dX10_init_176 rfl ⟨rfl, by decide⟩ ac_int (N := 48100) (by decide) (by decide) ?_
  refine v_putFP (q := 181) (x := some (hz H21)) dX10_init_178 rfl qf_X10_76_9 rfl k22 rfl rfl ?_
  change V g mX10_init (d + 1) 181 _ _ (stA m H21 (83, 21, 48100)) Q
  clear j21 k22
  generalize stA m H21 (83, 21, 48100) = H22 at *
  obtain ⟨j23, k23⟩ := j22.next (x := (84, 23, 48100)) (by decide)
  refine v_ald0 (q := 182) dX10_init_181 rfl rfl ?_
  refine v_ldc (q := 184) dX10_init_182 rfl kc_X10_66 ?_
  refine v_newarray (q := 186) (k := 23) dX10_init_184 rfl ⟨rfl, by decide⟩ ac_boolean (N := 48100) (by decide) (by decide) ?_
  refine v_putFP (q := 189) (x := some (hz H22)) dX10_init_186 rfl qf_X10_79_9 rfl k23 rfl rfl ?_
  change V g mX10_init (d + 1) 189 _ _ (stA m H22 (84, 23, 48100)) Q
  clear j22 k23
  generalize stA m H22 (84, 23, 48100) = H23 at *
  obtain ⟨j24, k24⟩ := j23.next (x := (85, 21, 48100)) (by decide)
  refine v_ald0 (q := 190) dX10_init_189 rfl rfl ?_
  refine v_ldc (q := 192) dX10_init_190 rfl kc_X10_66 ?_
  refine v_newarray (q := 194) (k := 21) dX10_init_192 rfl ⟨rfl, by decide⟩ ac_int (N := 48100) (by decide) (by decide) ?_
  refine v_putFP (q := 197) (x := some (hz H23)) dX10_init_194 rfl qf_X10_82_9 rfl k24 rfl rfl ?_
  change V g mX10_init (d + 1) 197 _ _ (stA m H23 (85, 21, 48100)) Q
  clear j23 k24
  generalize stA m H23 (85, 21, 48100) = H24 at *
  obtain ⟨j25, k25⟩ := j24.next (x := (86, 21, 48100)) (by decide)
  refine v_ald0 (q := 198) dX10_init_197 rfl rfl ?_
  refine v_ldc (q := 200) dX10_init_198 rfl kc_X10_66 ?_
  refine v_newarray (q := 202) (k := 21) dX10_init_200 rfl ⟨rfl, by decide⟩ ac_int (N := 48100) (by decide) (by decide) ?_
  refine v_putFP (q := 205) (x := some (hz H24)) dX10_init_202 rfl qf_X10_85_9 rfl k25 rfl rfl ?_
  change V g mX10_init (d + 1) 205 _ _ (stA m H24 (86, 21, 48100)) Q
  clear j24 k25
  generalize stA m H24 (86, 21, 48100) = H25 at *
  obtain ⟨j26, k26⟩ := j25.next (x := (87, 21, 48100)) (by decide)
  refine v_ald0 (q := 206) dX10_init_205 rfl rfl ?_
  refine v_ldc (q := 208) dX10_init_206 rfl kc_X10_66 ?_
  refine v_newarray (q := 210) (k := 21) dX10_init_208 rfl ⟨rfl, by decide⟩ ac_int (N := 48100) (by decide) (by decide) ?_
  refine v_putFP (q := 213) (x := some (hz H25)) dX10_init_210 rfl qf_X10_88_9 rfl k26 rfl rfl ?_
  change V g mX10_init (d + 1) 213 _ _ (stA m H25 (87, 21, 48100)) Q
  clear j25 k26
  generalize stA m H25 (87, 21, 48100) = H26 at *
  obtain ⟨j27, k27⟩ := j26.next (x := (89, 22, 48100)) (by decide)
  refine v_ald0 (q := 214) dX10_init_213 rfl rfl ?_
  refine v_ldc (q := 216) dX10_init_214 rfl kc_X10_66 ?_
  refine v_newarray (q := 218) (k := 22) dX10_init_216 rfl ⟨rfl, by decide⟩ ac_long (N := 48100) (by decide) (by decide) ?_
  refine v_putFP (q := 221) (x := some (hz H26)) dX10_init_218 rfl qf_X10_91_9 rfl k27 rfl rfl ?_
  change V g mX10_init (d + 1) 221 _ _ (stA m H26 (89, 22, 48100)) Q
  clear j26 k27
  generalize stA m H26 (89, 22, 48100) = H27 at *
  obtain ⟨j28, k28⟩ := j27.next (x := (90, 21, 48100)) (by decide)
  refine v_ald0 (q := 222) dX10_init_221 rfl rfl ?_
  refine v_ldc (q := 224) dX10_init_222 rfl kc_X10_66 ?_
  refine v_newarray (q := 226) (k := 21) dX10_init_224 rfl ⟨rfl, by decide⟩ ac_int (N := 48100) (by decide) (by decide) ?_
  refine v_putFP (q := 229) (x := some (hz H27)) dX10_init_226 rfl qf_X10_94_9 rfl k28 rfl rfl ?_
  change V g mX10_init (d + 1) 229 _ _ (stA m H27 (90, 21, 48100)) Q
  clear j27 k28
  generalize stA m H27 (90, 21, 48100) = H28 at *
  obtain ⟨j29, k29⟩ := j28.next (x := (92, 21, 200000)) (by decide)
  refine v_ald0 (q := 230) dX10_init_229 rfl rfl ?_
  refine v_ldc (q := 232) dX10_init_230 rfl kc_X10_97 ?_
  refine v_newarray (q := 234) (k := 21) dX10_init_232 rfl ⟨rfl, by decide⟩ ac_int (N := 200000) (by decide) (by decide) ?_
  refine v_putFP (q := 237) (x := some (hz H28)) dX10_init_234 rfl qf_X10_98_9 rfl k29 rfl rfl ?_
  change V g mX10_init (d + 1) 237 _ _ (stA m H28 (92, 21, 200000)) Q
  clear j28 k29
  generalize stA m H28 (92, 21, 200000) = H29 at *
  obtain ⟨j30, k30⟩ := j29.next (x := (93, 21, 200000)) (by decide)
  refine v_ald0 (q := 238) dX10_init_237 rfl rfl ?_
  refine v_ldc (q := 240) dX10_init_238 rfl kc_X10_97 ?_
  refine v_newarray (q := 242) (k := 21) dX10_init_240 rfl ⟨rfl, by decide⟩ ac_int (N := 200000) (by decide) (by decide) ?_
  refine v_putFP (q := 245) (x := some (hz H29)) dX10_init_242 rfl qf_X10_101_9 rfl k30 rfl rfl ?_
  change V g mX10_init (d + 1) 245 _ _ (stA m H29 (93, 21, 200000)) Q
  clear j29 k30
  generalize stA m H29 (93, 21, 200000) = H30 at *
  obtain ⟨j31, k31⟩ := j30.next (x := (94, 21, 200000)) (by decide)
  refine v_ald0 (q := 246) dX10_init_245 rfl rfl ?_
  refine v_ldc (q := 248) dX10_init_246 rfl kc_X10_97 ?_
  refine v_newarray (q := 250) (k := 21) dX10_init_248 rfl ⟨rfl, by decide⟩ ac_int (N := 200000) (by decide) (by decide) ?_
  refine v_putFP (q := 253) (x := some (hz H30)) dX10_init_250 rfl qf_X10_104_9 rfl k31 rfl rfl ?_
  change V g mX10_init (d + 1) 253 _ _ (stA m H30 (94, 21, 200000)) Q
  clear j30 k31
  generalize stA m H30 (94, 21, 200000) = H31 at *
  obtain ⟨j32, k32⟩ := j31.next (x := (95, 21, 200000)) (by decide)
  refine v_ald0 (q := 254) dX10_init_253 rfl rfl ?_
  refine v_ldc (q := 256) dX10_init_254 rfl kc_X10_97 ?_
  refine v_newarray (q := 258) (k := 21) dX10_init_256 rfl ⟨rfl, by decide⟩ ac_int (N := 200000) (by decide) (by decide) ?_
  refine v_putFP (q := 261) (x := some (hz H31)) dX10_init_258 rfl qf_X10_107_9 rfl k32 rfl rfl ?_
  change V g mX10_init (d + 1) 261 _ _ (stA m H31 (95, 21, 200000)) Q
  clear j31 k32
  generalize stA m H31 (95, 21, 200000) = H32 at *
  obtain ⟨j33, k33⟩ := j32.next (x := (96, 21, 200000)) (by decide)
  refine v_ald0 (q := 262) dX10_init_261 rfl rfl ?_
  refine v_ldc (q := 264) dX10_init_262 rfl kc_X10_97 ?_
  refine v_newarray (q := 266) (k := 21) dX10_init_264 rfl ⟨rfl, by decide⟩ ac_int (N := 200000) (by decide) (by decide) ?_
  refine v_putFP (q := 269) (x := some (hz H32)) dX10_init_266 rfl qf_X10_110_9 rfl k33 rfl rfl ?_
  change V g mX10_init (d + 1) 269 _ _ (stA m H32 (96, 21, 200000)) Q
  clear j32 k33
  generalize stA m H32 (96, 21, 200000) = H33 at *
  obtain ⟨j34, k34⟩ := j33.next (x := (97, 22, 200000)) (by decide)
  refine v_ald0 (q := 270) dX10_init_269 rfl rfl ?_
  refine v_ldc (q := 272) dX10_init_270 rfl kc_X10_97 ?_
  refine v_newarray (q := 274) (k := 22) dX10_init_272 rfl ⟨rfl, by decide⟩ ac_long (N := 200000) (by decide) (by decide) ?_
  refine v_putFP (q := 277) (x := some (hz H33)) dX10_init_274 rfl qf_X10_113_9 rfl k34 rfl rfl ?_
  change V g mX10_init (d + 1) 277 _ _ (stA m H33 (97, 22, 200000)) Q
  clear j33 k34
  generalize stA m H33 (97, 22, 200000) = H34 at *
  obtain ⟨j35, k35⟩ := j34.next (x := (99, 22, 12004)) (by decide)
  refine v_ald0 (q := 278) dX10_init_277 rfl rfl ?_
  refine v_sipush (q := 281) (v := 12004) dX10_init_278 rfl (by decide) ?_
  refine v_newarray (q := 283) (k := 22) dX10_init_281 rfl ⟨rfl, by decide⟩ ac_long (N := 12004) (by decide) (by decide) ?_
  refine v_putFP (q := 286) (x := some (hz H34)) dX10_init_283 rfl qf_X10_116_9 rfl k35 rfl rfl ?_
  change V g mX10_init (d + 1) 286 _ _ (stA m H34 (99, 22, 12004)) Q
  clear j34 k35
  generalize stA m H34 (99, 22, 12004) = H35 at *
  obtain ⟨j36, k36⟩ := j35.next (x := (100, 21, 48100)) (by decide)
  refine v_ald0 (q := 287) dX10_init_286 rfl rfl ?_
  refine v_ldc (q := 289) dX10_init_287 rfl kc_X10_66 ?_
  refine v_newarray (q := 291) (k := 21) dX10_init_289 rfl ⟨rfl, by decide⟩ ac_int (N := 48100) (by decide) (by decide) ?_
  refine v_putFP (q := 294) (x := some (hz H35)) dX10_init_291 rfl qf_X10_119_9 rfl k36 rfl rfl ?_
  change V g mX10_init (d + 1) 294 _ _ (stA m H35 (100, 21, 48100)) Q
  clear j35 k36
  generalize stA m H35 (100, 21, 48100) = H36 at *
  refine v_vret dX10_init_294 rfl ?_
  exact hQ H36 j36
theorem mL36_at : ∀ j, j < 36 → mL36[j]? = some (mfd (j + 1), mkd (j + 1), mln (j + 1)) := by decide
theorem mr0 : MR mu0 X00 [] := by
  refine ⟨⟨⟨rfl, rfl⟩, fun p _ => ⟨rfl, rfl⟩, fun s hs => absurd hs (Nat.not_lt_zero _), fun s _ _ => ⟨rfl, fun _ _ => rfl, fun _ _ _ => rfl, rfl⟩⟩, ⟨rfl, fun i r hi => (by simp [X00, xR] at hi)⟩, ⟨rfl, fun k o hk => (by simp at hk), fun s ky w es hx => (by cases hx), fun s hs => absurd hs (Nat.not_lt_zero _), ⟨0, rfl, Nat.le_refl _, Nat.zero_le _, fun i hi => (by cases hi)⟩, List.Pairwise.nil⟩⟩
theorem si0 : SI X00 := ⟨fun s hs => absurd hs (Nat.not_lt_zero _), fun r hr => (by cases hr), fun p _ => ⟨show 0 ≤ (0 : Int32).toInt by decide, show (0 : Int32).toInt ≤ 200000 by decide⟩⟩
theorem q_init (hk : hK h m = 10) (hcz : hz h = m + 1) (hf : ∀ f, fI h f m = 0) (wf : Wf h) (hQ : ∀ H, MK H m → H = mh H m mu0 → hz H = hz h + 36 → hs H = hs h + 1741744 → Wf H → (∀ a, a < m → sameAt h H a) → Q none H) : Call g mX10_init (d + 1) [.ref m] h Q := by
  refine mi_walk hk (by omega) wf (fun H hH => ?_)
  obtain ⟨e, a2, a3, a4⟩ := hH
  obtain ⟨t1, t2, t3, t4, ⟨t5, t6, t7⟩, t8⟩ := mkA_f (c := m) mL36 h (by omega) wf (by decide) (by decide)
  rw [← e] at t1 t2 t3 t4 t5 t6 t8
  have row : ∀ j, 1 ≤ j → j ≤ 36 → fP H (mfd j) m = some (m + j) ∧ hK H (m + j) = mkd j ∧ hN H (m + j) = mln j ∧ aI H (m + j) = (fun _ => 0) ∧ aL H (m + j) = (fun _ => 0) := fun j h1 h2 => by
    obtain ⟨i, rfl⟩ : ∃ i, j = i + 1 := ⟨j - 1, by omega⟩
    obtain ⟨y1, y2, y3, y4, y5, y6⟩ := t8 i _ (mL36_at i (by omega))
    rw [hcz, show m + 1 + i = m + (i + 1) by omega] at y1 y2 y3 y5 y6
    exact ⟨y1, y2, y3, y5, y6⟩
  refine hQ H ⟨a2, fun j h1 h2 => ⟨(row j h1 h2).1, (row j h1 h2).2.1, (row j h1 h2).2.2.1⟩⟩ ?_ t1 t2 t3 (fun a ha => t4 a (by omega) (by omega))
  have e1 : (fun f a => if a = m then mF mu0 f else fI H f a) = fI H := funext fun f => funext fun a => by
    by_cases ea : a = m
    · rw [if_pos ea, ea, t6 f, hf f]
      rfl
    · rw [if_neg ea]
  have e2 : (fun a => if m < a ∧ a ≤ m + 36 then mI mu0 (a - m) else aI H a) = aI H := funext fun a => by
    by_cases ea : m < a ∧ a ≤ m + 36
    · rw [if_pos ea]
      have := (row (a - m) (by omega) (by omega)).2.2.2.1
      rw [show m + (a - m) = a by omega] at this
      rw [this]
      rfl
    · rw [if_neg ea]
  have e3 : (fun a => if m < a ∧ a ≤ m + 36 then mL mu0 (a - m) else aL H a) = aL H := funext fun a => by
    by_cases ea : m < a ∧ a ≤ m + 36
    · rw [if_pos ea]
      have := (row (a - m) (by omega) (by omega)).2.2.2.2
      rw [show m + (a - m) = a by omega] at this
      rw [this]
      rfl
    · rw [if_neg ea]
  unfold mh
  rw [e1, e2, e3]
  rfl
end LE9
