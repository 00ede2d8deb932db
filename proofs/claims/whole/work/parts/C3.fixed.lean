/-! C3: the model: comeFixed, an event comes to the window of one begin -/
/-- the mill while an event comes to stage s: lanes, rows, dropped -/
def zS (X : Sg) (s : Nat) (T : (Nat → List Wd) × List Rw × Nat) : Sg := xSet X s (stT (xS X s) T.1 T.2.2) T.2.1
def mt (s ky : Nat) (b : Int32) : Option Mw → Bool
  | some (s', k', w, _) => decide (s' = s ∧ k' = ky ∧ wB w = b)
  | none => false
section LC3
variable {g : Gl} {d : Nat} {h : Hp} {m : Nat} {Q : Option Value → Hp → Prop} {X : Sg} {ws : List (Option Mw)} {s ky : Nat}
theorem zS_s (X : Sg) (s : Nat) (T : (Nat → List Wd) × List Rw × Nat) : xS (zS X s T) s = stT (xS X s) T.1 T.2.2 := xS_set X s _ _
/-- the windows of a stage that are no session: the one of a begin -/
theorem entT_fix {sp mk b : Int32} {rows : List Rw} {L : List Wd} {x : Wd} (hI : LnI false s ky sp mk rows L) (hB : BdE sp b) (hx : x ∈ L) (hb : wB x = b) : entT false b (b + sp) L = [x] := by
  obtain ⟨p1, p2, p3, p4⟩ := ent_pos hI hB
  have hxe := (hI.1 x hx).2.2.2.2.2.2.1 rfl
  have hxb : (wB x).toInt = b.toInt := by rw [hb]
  have hsp := ent_split false b (b + sp) L
  rw [hsp] at hx
  match hT : entT false b (b + sp) L, p4 rfl with
  | [], _ =>
    rw [hT] at hx p3
    rcases List.mem_append.mp hx with hx | hx
    · have := p1 x hx
      simp at this
      omega
    · have := (p3 x hx).2 (Or.inl rfl)
      simp at this
      omega
  | [y], _ =>
    have hy : y ∈ L := by
      rw [hsp, hT]
      exact List.mem_append_right _ (List.mem_cons_self)
    have h1 := p2 y (by rw [hT]; exact List.mem_cons_self)
    have h2 := (hI.1 y hy).2.2.2.2.2.2.1 rfl
    simp at h1
    have : wB x = wB y := by rw [fa_eq]; omega
    rw [← hsp] at hx
    rw [hI.uniq hx hy this]
  | _ :: _ :: _, hl => exact absurd hl (by simp)
theorem entT_fix0 {sp mk b : Int32} {rows : List Rw} {L : List Wd} (hI : LnI false s ky sp mk rows L) (hB : BdE sp b) (hn : ∀ x ∈ L, wB x ≠ b) : entT false b (b + sp) L = [] := by
  obtain ⟨p1, p2, p3, p4⟩ := ent_pos hI hB
  have hsp := ent_split false b (b + sp) L
  match hT : entT false b (b + sp) L with
  | [] => rfl
  | y :: r =>
    have hy : y ∈ L := by
      rw [hsp, hT]
      exact List.mem_append_right _ (List.mem_cons_self)
    have h1 := p2 y (by rw [hT]; exact List.mem_cons_self)
    have h2 := (hI.1 y hy).2.2.2.2.2.2.1 rfl
    simp at h1
    exact absurd (show wB y = b by rw [fa_eq]; omega) (hn y hy)
theorem cf_find {u : Mu} {b mi e by_ fi : Int32} {va : Int64} (hm : MK h m) (hR : MR u X ws) (h16 : xM X ≤ 16) (hs : s < 16) (hk : ky < 1000) (hn : ws.length < 48100) :
    ∀ (t k : Nat) (f : Option Nat), k + t = ws.length → (f = none → ∀ j, j < k → mt s ky b ((ws[j]?).getD none) = false) → (∀ j, f = some j → j < k ∧ mt s ky b ((ws[j]?).getD none) = true) →
      (∀ f : Option Nat, (f = none → ∀ j, j < ws.length → mt s ky b ((ws[j]?).getD none) = false) → (∀ j, f = some j → j < ws.length ∧ mt s ky b ((ws[j]?).getD none) = true) → V g mX10_comeFixed (d + 4) 164 [.ref m, .int (nI s), .int (nI ky), .int mi, .long va, zz, .int by_, .int fi, .int b, .int e, .int (rI f), zz] [] (mh h m u) Q) →
      V g mX10_comeFixed (d + 4) 106 [.ref m, .int (nI s), .int (nI ky), .int mi, .long va, zz, .int by_, .int fi, .int b, .int e, .int (rI f), .int (nI k)] [] (mh h m u) Q := by
  intro t
  induction t with
  | zero =>
    intro k f hkt h1 h2 hQ
    have : k = ws.length := by omega
    subst this
    refine v_ild11 (q := 108) dX10_comeFixed_106 rfl ?_
    refine v_ald0 (q := 109) dX10_comeFixed_108 rfl rfl ?_
    refine w_gi (q := 112) dX10_comeFixed_109 rfl hm gf_X10_170_9 ?_
    rw [hR.2.2.1]
    refine v_icmp_ge (t := 164) (q := 115) dX10_comeFixed_112 (by decide) rfl (fun _ => ?_) (fun z => absurd (Int32.le_refl _) z)
    refine v_fg (FG.k (FG.k (FG.k (FG.k (FG.k (FG.k (FG.k (FG.k (FG.k (FG.k (FG.k (FG.z FG.nil)))))))))))) ?_
    exact hQ f h1 h2
  | succ t ih =>
    intro k f hkt h1 h2 hQ
    have hkl : k < ws.length := by omega
    obtain ⟨o, ho, hd, hW⟩ := hR.2.2.at hkl
    have eo : (ws[k]?).getD none = o := by rw [ho]; rfl
    refine v_ild11 (q := 108) dX10_comeFixed_106 rfl ?_
    refine v_ald0 (q := 109) dX10_comeFixed_108 rfl rfl ?_
    refine w_gi (q := 112) dX10_comeFixed_109 rfl hm gf_X10_170_9 ?_
    rw [hR.2.2.1]
    refine v_icmp_ge (t := 164) (q := 115) dX10_comeFixed_112 (by decide) rfl (fun z => absurd z (nI_ge (by omega) (by omega))) (fun _ => ?_)
    have no : mt s ky b o = false → V g mX10_comeFixed (d + 4) 154 [.ref m, .int (nI s), .int (nI ky), .int mi, .long va, zz, .int by_, .int fi, .int b, .int e, .int (rI f), .int (nI k)] [] (mh h m u) Q := fun hmt => by
      refine v_ild10 (q := 156) dX10_comeFixed_154 rfl ?_
      refine v_ist10 (q := 158) dX10_comeFixed_156 rfl (by decide) rfl ?_
      refine v_inc11 (q := 161) dX10_comeFixed_158 rfl (by decide) rfl rfl ?_
      rw [inc1]
      refine v_goto (q := 106) dX10_comeFixed_161 (by decide) ?_
      refine ih (k + 1) f (by omega) (fun hf j hj => ?_) (fun j hj => ?_) hQ
      · by_cases e : j = k
        · subst e
          rw [eo]
          exact hmt
        · exact h1 hf j (by omega)
      · have := h2 j hj
        exact ⟨by omega, this.2⟩
    refine v_ald0 (q := 116) dX10_comeFixed_115 rfl rfl ?_
    refine w_ga (q := 119) (j := 19) dX10_comeFixed_116 rfl hm (by decide) gf_X10_67_9 ?_
    refine v_ild11 (q := 121) dX10_comeFixed_119 rfl ?_
    refine w_iald (q := 122) (n := 48100) dX10_comeFixed_121 rfl hm (by decide) rfl rfl rfl (by omega) ?_
    match o, hW, eo with
    | none, hW, eo =>
      rw [show mI u 19 k = -1 from hW]
      refine v_ild1 (q := 123) dX10_comeFixed_122 rfl ?_
      refine v_icmp_ne (t := 154) (q := 126) dX10_comeFixed_123 (by decide) rfl (fun _ => no rfl) (fun z => absurd z.symm (nI_m1 (by omega)))
    | some (s', k', w, es), hW, eo =>
      obtain ⟨w1, w2, w3, w4, w5, w6, w7, w8, w9⟩ := id hW
      obtain ⟨q1, q2, q3⟩ := hR.2.2.2.2.1 s' k' w es (List.mem_of_getElem? ho)
      rw [w1]
      refine v_ild1 (q := 123) dX10_comeFixed_122 rfl ?_
      by_cases e1 : s' = s
      · subst e1
        refine v_icmp_ne (t := 154) (q := 126) dX10_comeFixed_123 (by decide) rfl (fun z => absurd rfl z) (fun _ => ?_)
        refine v_ald0 (q := 127) dX10_comeFixed_126 rfl rfl ?_
        refine w_ga (q := 130) (j := 20) dX10_comeFixed_127 rfl hm (by decide) gf_X10_70_9 ?_
        refine v_ild11 (q := 132) dX10_comeFixed_130 rfl ?_
        refine w_iald (q := 133) (n := 48100) dX10_comeFixed_132 rfl hm (by decide) rfl rfl rfl (by omega) ?_
        rw [w2]
        refine v_ild2 (q := 134) dX10_comeFixed_133 rfl ?_
        by_cases e2 : k' = ky
        · subst e2
          refine v_icmp_ne (t := 154) (q := 137) dX10_comeFixed_134 (by decide) rfl (fun z => absurd rfl z) (fun _ => ?_)
          refine v_ald0 (q := 138) dX10_comeFixed_137 rfl rfl ?_
          refine w_ga (q := 141) (j := 21) dX10_comeFixed_138 rfl hm (by decide) gf_X10_73_9 ?_
          refine v_ild11 (q := 143) dX10_comeFixed_141 rfl ?_
          refine w_iald (q := 144) (n := 48100) dX10_comeFixed_143 rfl hm (by decide) rfl rfl rfl (by omega) ?_
          rw [w3]
          refine v_ild8 (q := 146) dX10_comeFixed_144 rfl ?_
          by_cases e3 : wB w = b
          · refine v_icmp_ne (t := 154) (q := 149) dX10_comeFixed_146 (by decide) rfl (fun z => absurd e3 z) (fun _ => ?_)
            refine v_ild11 (q := 151) dX10_comeFixed_149 rfl ?_
            refine v_goto (q := 156) dX10_comeFixed_151 (by decide) ?_
            refine v_ist10 (q := 158) dX10_comeFixed_156 rfl (by decide) rfl ?_
            refine v_inc11 (q := 161) dX10_comeFixed_158 rfl (by decide) rfl rfl ?_
            rw [inc1]
            refine v_goto (q := 106) dX10_comeFixed_161 (by decide) ?_
            refine ih (k + 1) (some k) (by omega) (fun z => by cases z) (fun j hj => ?_) hQ
            have := Option.some.inj hj
            subst this
            refine ⟨Nat.lt_succ_self _, ?_⟩
            rw [eo]
            exact decide_eq_true ⟨rfl, rfl, e3⟩
          · refine v_icmp_ne (t := 154) (q := 149) dX10_comeFixed_146 (by decide) rfl (fun _ => no (decide_eq_false (fun z => e3 z.2.2))) (fun z => absurd z e3)
        · refine v_icmp_ne (t := 154) (q := 137) dX10_comeFixed_134 (by decide) rfl (fun _ => no (decide_eq_false (fun z => e2 z.2.1))) (fun z => absurd ((nI_eq (by omega) (by omega)).mp z) e2)
      · refine v_icmp_ne (t := 154) (q := 126) dX10_comeFixed_123 (by decide) rfl (fun _ => no (decide_eq_false (fun z => e1 z.1))) (fun z => absurd ((nI_eq (by omega) (by omega)).mp z) e1)
/-- behind addEvent: the window is given, or not -/
theorem cf_tail {u2 : Mu} {k : Nat} {x' : Wd} {es : List Nat} {rows : List Rw} {mi e by_ fi b : Int32} {va : Int64} (hm : MK h m) (hk : k < 48100) (hs : s < 16) (hW : MWk u2 X k (some (s, ky, x', es))) (h6 : mI u2 6 s = gI (xS X s) 1) (h14 : mI u2 14 s = nI (sEa (xS X s))) (hea : sEa (xS X s) ≤ 1000) (hh : mI u2 12 s = nI (sHow (xS X s))) (hh5 : sHow (xS X s) ≤ 5) (hi : ∀ i ∈ es, i < 48100) (hl : es.length ≤ 12000) (hne : wVs x' ≠ []) (hr : MRr u2 rows) (hn : rows.length + 1 < 200000) (hrow : RowOK s ky rows x') (hE : wE x' = e)
    (hQ : ∀ u3, GU k u2 u3 → MRr u3 (finW s ky (sHow (xS X s)) (wE x' ≤ gI (xS X s) 1 ∨ (0 < sEa (xS X s) ∧ (wVs x').length % sEa (xS X s) = 0)) rows x').2 → mI u3 24 k = rI (wR (finW s ky (sHow (xS X s)) (wE x' ≤ gI (xS X s) 1 ∨ (0 < sEa (xS X s) ∧ (wVs x').length % sEa (xS X s) = 0)) rows x').1) → V g mX10_comeFixed (d + 4) 215 [.ref m, .int (nI s), .int (nI ky), .int mi, .long va, zz, .int by_, .int fi, .int b, zz, zz, zz] [] (mh h m u3) Q) :
    V g mX10_comeFixed (d + 4) 189 [.ref m, .int (nI s), .int (nI ky), .int mi, .long va, zz, .int by_, .int fi, .int b, .int e, .int (nI k), zz] [] (mh h m u2) Q := by
  have hlen := mw_len hW
  have give : (wE x' ≤ gI (xS X s) 1 ∨ (0 < sEa (xS X s) ∧ (wVs x').length % sEa (xS X s) = 0)) → V g mX10_comeFixed (d + 4) 209 [.ref m, .int (nI s), .int (nI ky), .int mi, .long va, zz, .int by_, .int fi, .int b, .int e, .int (nI k), zz] [] (mh h m u2) Q := fun hg => by
    rw [finW_iff (gw := True) ⟨fun _ => trivial, fun _ => hg⟩] at hQ
    refine v_ald0 (q := 210) dX10_comeFixed_209 rfl rfl ?_
    refine v_ild10 (q := 212) dX10_comeFixed_210 rfl ?_
    refine v_callV (q := 215) (d' := d + 3) (av := [.int (nI k)]) dX10_comeFixed_212 rfl ok_X10_give CL9 ml_X10_193 im_X10_give se_X10_give hm.1 (by omega) rfl rfl (Nat.le_of_ble_eq_true rfl) ?_
    refine q_give (d := d + 1) hm hk hs hW hh hh5 hi hl hne hr hn hrow (fun u3 a _ b c => ?_)
    refine v_fg (FG.k (FG.k (FG.k (FG.k (FG.k (FG.k (FG.k (FG.k (FG.k (FG.z (FG.z (FG.z FG.nil)))))))))))) ?_
    exact hQ u3 a b c
  refine v_ald0 (q := 190) dX10_comeFixed_189 rfl rfl ?_
  refine w_ga (q := 193) (j := 6) dX10_comeFixed_190 rfl hm (by decide) gf_X10_26_9 ?_
  refine v_ild1 (q := 194) dX10_comeFixed_193 rfl ?_
  refine w_iald (q := 195) (n := 16) dX10_comeFixed_194 rfl hm (by decide) rfl rfl rfl (by omega) ?_
  rw [h6]
  refine v_ild9 (q := 197) dX10_comeFixed_195 rfl ?_
  by_cases h1 : wE x' ≤ gI (xS X s) 1
  · refine v_icmp_ge (t := 209) (q := 200) dX10_comeFixed_197 (by decide) rfl (fun _ => give (Or.inl h1)) (fun z => absurd (by rw [← hE]; exact h1) z)
  refine v_icmp_ge (t := 209) (q := 200) dX10_comeFixed_197 (by decide) rfl (fun z => absurd (by rw [← hE] at z; exact z) h1) (fun _ => ?_)
  refine v_ald0 (q := 201) dX10_comeFixed_200 rfl rfl ?_
  refine v_ild10 (q := 203) dX10_comeFixed_201 rfl ?_
  refine v_callV (q := 206) (d' := d + 3) (av := [.int (nI k)]) dX10_comeFixed_203 rfl ok_X10_isEarly CL9 ml_X10_190 im_X10_isEarly se_X10_isEarly hm.1 (by omega) rfl rfl (Nat.le_of_ble_eq_true rfl) ?_
  refine q_isEarly (n := es.length) hm hk hs hW.1 h14 hW.2.2.2.2.2.2.1 hea (by omega) ?_
  rw [hlen]
  by_cases h2 : 0 < sEa (xS X s) ∧ (wVs x').length % sEa (xS X s) = 0
  · rw [if_pos h2]
    refine v_if_eq (t := 215) (q := 209) dX10_comeFixed_206 (by decide) rfl (fun z => absurd z (by decide)) (fun _ => give (Or.inr h2))
  · rw [if_neg h2]
    refine v_if_eq (t := 215) (q := 209) dX10_comeFixed_206 (by decide) rfl (fun _ => ?_) (fun z => absurd rfl z)
    have e1 : finW s ky (sHow (xS X s)) (wE x' ≤ gI (xS X s) 1 ∨ (0 < sEa (xS X s) ∧ (wVs x').length % sEa (xS X s) = 0)) rows x' = (x', rows) := if_neg (fun z => z.elim h1 h2)
    rw [e1] at hQ
    refine v_fg (FG.k (FG.k (FG.k (FG.k (FG.k (FG.k (FG.k (FG.k (FG.k (FG.z (FG.z (FG.z FG.nil)))))))))))) ?_
    exact hQ u2 (GU.rf k u2) hr hW.2.2.2.2.2.1
end LC3
