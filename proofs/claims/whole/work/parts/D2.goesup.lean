/-! D2: the model: goesUp -/
/-- a window is given: the windows then -/
theorem MRw.repl {u v : Mu} {Y : Sg} {ws : List (Option Mw)} {s ky k : Nat} {S' : Stg} {rows' : List Rw} {A B : List Wd} {x x' : Wd} {es : List Nat}
    (hR : MRw u Y ws) (hs : s < xM Y) (hW : isW (xS Y s) = true) (hk : ky < 1000) (hkw : ws[k]? = some (some (s, ky, x, es))) (hlane : gL (xS Y s) ky = A ++ x :: B) (hC : CF (xS Y s) S') (hgL : gL S' = upR (gL (xS Y s)) ky (A ++ x' :: B)) (hvl : (wVs x').length = (wVs x).length)
    (hG : GU k u v) (hMk : MWk v Y k (some (s, ky, x', es))) : MRw v (xSet Y s S' rows') (ws.set k (some (s, ky, x', es))) := by
  have hcf := hC.sty
  have hkl : k < ws.length := (List.getElem?_eq_some_iff.mp hkw).1
  have hXs : ∀ t, sSty (xS (xSet Y s S' rows') t) = sSty (xS Y t) ∧ gI (xS (xSet Y s S' rows') t) 1 = gI (xS Y t) 1 ∧ isW (xS (xSet Y s S' rows') t) = isW (xS Y t) := fun t => by
    by_cases e : t = s
    · subst e
      rw [xS_set]
      exact ⟨hcf.1, hcf.2.1, hcf.2.2.1⟩
    · rw [xS_set_ne Y _ _ e]
      exact ⟨rfl, rfl, rfl⟩
  have hsp : ws = ws.take k ++ ([some (s, ky, x, es)] ++ ws.drop (k + 1)) := by
    have e1 : ws[k] = some (s, ky, x, es) := by
      rw [List.getElem?_eq_getElem hkl] at hkw
      exact Option.some.inj hkw
    rw [List.singleton_append, ← e1, ← List.drop_eq_getElem_cons hkl, List.take_append_drop]
  have hst : ws.set k (some (s, ky, x', es)) = ws.take k ++ ([some (s, ky, x', es)] ++ ws.drop (k + 1)) := by
    rw [List.set_eq_take_append_cons_drop, if_pos hkl]
    rfl
  have hal : alE (ws.set k (some (s, ky, x', es))) = alE ws := by
    rw [hst, alE_app, alE_app]
    conv => rhs; rw [hsp, alE_app, alE_app]
    rfl
  have het : tot entS (xSet Y s S' rows') = tot entS Y := by
    have t1 := tot_set entS Y hs S' rows'
    have e1 : entS S' = sm vN (gL S') := if_pos (by rw [hcf.2.2.1]; exact hW)
    have e2 : entS (xS Y s) = sm vN (gL (xS Y s)) := if_pos hW
    have t2 := sm_upd vN (gL (xS Y s)) hk (A ++ x' :: B)
    rw [← hgL, hlane, vN_app, vN_app, vN_cons, vN_cons] at t2
    omega
  obtain ⟨a, b, c, e, ⟨ne, f1, f2, f3, f4⟩, n⟩ := hR
  refine ⟨by rw [hG.2.2.2 88 (by decide), List.length_set]; exact a, fun j o ho => ?_, fun s' k' w es' hx => ?_, fun s' hs' hW' k' hk' => ?_, ⟨ne, by rw [hG.2.2.2 91 (by decide)]; exact f1, by rw [List.length_set]; exact f2, by rw [het]; exact f3, by rw [hal]; exact f4⟩, by rw [hal]; exact n⟩
  · by_cases e : j = k
    · subst e
      rw [List.getElem?_set_self hkl] at ho
      have := Option.some.inj ho
      subst this
      exact hMk.on (fun _ _ _ => rfl) (fun _ _ => ⟨rfl, rfl⟩) (fun t => ⟨(hXs t).1, (hXs t).2.1⟩)
    · rw [List.getElem?_set_ne (Ne.symm e)] at ho
      exact (b j o ho).on (fun r h1 h2 => (hG.ef (ne := ne)).1 r h1 h2 j e) (fun i _ => ⟨by rw [hG.1 28 (by decide) (by decide)], by rw [hG.2.2.1 27 (by decide) (by decide)]⟩) (fun t => ⟨(hXs t).1, (hXs t).2.1⟩)
  · rw [(hXs s').2.2]
    rw [hst] at hx
    rcases List.mem_append.mp hx with hx | hx
    · exact c s' k' w es' (by rw [hsp]; exact List.mem_append_left _ hx)
    · rcases List.mem_append.mp hx with hx | hx
      · have := Option.some.inj (List.mem_singleton.mp hx)
        simp only [Prod.mk.injEq] at this
        obtain ⟨rfl, rfl, _⟩ := this
        exact ⟨hs, hW, hk⟩
      · exact c s' k' w es' (by rw [hsp]; exact List.mem_append_right _ (List.mem_append_right _ hx))
  · rw [(hXs s').2.2] at hW'
    have old := e s' hs' hW' k' hk'
    rw [hst, lnO_app, lnO_app, lnO_one]
    rw [hsp, lnO_app, lnO_app, lnO_one] at old
    by_cases ee : s = s' ∧ ky = k'
    · obtain ⟨rfl, rfl⟩ := ee
      rw [if_pos ⟨rfl, rfl⟩, hlane] at old
      rw [if_pos ⟨rfl, rfl⟩, xS_set, hgL, upR_at]
      have h1 : (lnO (ws.take k) s ky ++ lnO (ws.drop (k + 1)) s ky).Perm (A ++ B) := by
        have a1 : (x :: (lnO (ws.take k) s ky ++ lnO (ws.drop (k + 1)) s ky)).Perm (x :: (A ++ B)) := List.perm_middle.symm.trans (old.trans List.perm_middle)
        exact (List.perm_cons x).mp a1
      exact List.perm_middle.trans ((h1.cons x').trans List.perm_middle.symm)
    · rw [if_neg ee] at old
      rw [if_neg ee]
      have : gL (xS (xSet Y s S' rows') s') k' = gL (xS Y s') k' := by
        by_cases e2 : s' = s
        · subst e2
          rw [xS_set, hgL, upR_ne _ _ (fun z => ee ⟨rfl, z.symm⟩)]
        · rw [xS_set_ne Y _ _ e2]
      rw [this]
      exact old
section LD2
variable {g : Gl} {d : Nat} {h : Hp} {m : Nat} {Q : Option Value → Hp → Prop} {X : Sg} {ws : List (Option Mw)} {s : Nat}
/-- the windows that the mark passes -/
def psB (was to : Int32) (w : Wd) : Bool := decide (was < wE w ∧ wE w ≤ to)
theorem gu_find {u : Mu} {was to : Int32} (hm : MK h m) (hw : MRw u X ws) (h16 : xM X ≤ 16) (hs : s < xM X) (hn : ws.length < 48100) (h6 : mI u 6 s = to) (hmk : gI (xS X s) 1 = was) (hsty : 0 ≤ sSty (xS X s)) :
    ∀ (t k : Nat) (v : Mu), k + t = ws.length → Scr u v → FO v (fnd ws s (psB was to) k) →
      (∀ v', Scr u v' → FO v' (fnd ws s (psB was to) ws.length) → V g mX10_goesUp (d + 4) 79 [.ref m, .int (nI s), .int was, .int (nI (fnd ws s (psB was to) ws.length).length), zz, zz] [] (mh h m v') Q) →
      V g mX10_goesUp (d + 4) 5 [.ref m, .int (nI s), .int was, .int (nI (fnd ws s (psB was to) k).length), .int (nI k), zz] [] (mh h m v) Q := by
  intro t
  induction t with
  | zero =>
    intro k v hk hc hF hQ
    have : k = ws.length := by omega
    subst this
    refine v_ild4 (q := 7) dX10_goesUp_5 rfl ?_
    refine v_ald0 (q := 8) dX10_goesUp_7 rfl rfl ?_
    refine w_gi (q := 11) dX10_goesUp_8 rfl hm gf_X10_170_9 ?_
    rw [hc.2.2, hw.1]
    refine v_icmp_ge (t := 79) (q := 14) dX10_goesUp_11 (by decide) rfl (fun _ => ?_) (fun z => absurd (Int32.le_refl _) z)
    refine v_fg (FG.k (FG.k (FG.k (FG.k (FG.z (FG.z FG.nil)))))) ?_
    exact hQ v hc hF
  | succ t ih =>
    intro k v hk hc hF hQ
    have hkl : k < ws.length := by omega
    obtain ⟨o, ho, hd, hW⟩ := hw.at hkl
    have eo : (ws[k]?).getD none = o := by rw [ho]; rfl
    have fs := fnd_succ ws s (psB was to) k
    rw [eo] at fs
    have hfl := fnd_len ws s (psB was to) k
    refine v_ild4 (q := 7) dX10_goesUp_5 rfl ?_
    refine v_ald0 (q := 8) dX10_goesUp_7 rfl rfl ?_
    refine w_gi (q := 11) dX10_goesUp_8 rfl hm gf_X10_170_9 ?_
    rw [hc.2.2, hw.1]
    refine v_icmp_ge (t := 79) (q := 14) dX10_goesUp_11 (by decide) rfl (fun z => absurd z (nI_ge (by omega) (by omega))) (fun _ => ?_)
    have skip : isP s (psB was to) o = false → V g mX10_goesUp (d + 4) 73 [.ref m, .int (nI s), .int was, .int (nI (fnd ws s (psB was to) k).length), .int (nI k), zz] [] (mh h m v) Q := fun e => by
      rw [if_neg (by rw [e]; decide), List.append_nil] at fs
      refine v_inc4 (q := 76) dX10_goesUp_73 rfl (by decide) rfl rfl ?_
      rw [inc1, ← fs]
      refine v_goto (q := 5) dX10_goesUp_76 (by decide) ?_
      exact ih (k + 1) v (by omega) hc (by rw [fs]; exact hF) hQ
    refine v_ald0 (q := 15) dX10_goesUp_14 rfl rfl ?_
    refine w_ga (q := 18) (j := 19) dX10_goesUp_15 rfl hm (by decide) gf_X10_67_9 ?_
    refine v_ild4 (q := 20) dX10_goesUp_18 rfl ?_
    refine w_iald (q := 21) (n := 48100) dX10_goesUp_20 rfl hm (by decide) rfl rfl rfl (by omega) ?_
    rw [hc.1 19 (by decide)]
    match o, hW, fs, ho with
    | none, hW, fs, ho =>
      rw [show mI u 19 k = -1 from hW]
      refine v_ild1 (q := 22) dX10_goesUp_21 rfl ?_
      refine v_icmp_ne (t := 73) (q := 25) dX10_goesUp_22 (by decide) rfl (fun _ => skip rfl) (fun z => absurd z.symm (nI_m1 (by omega)))
    | some (s', ky, w, es), hW, fs, ho =>
      obtain ⟨w1, w2, w3, w4, w5, w6, w7, w8, w9⟩ := id hW
      have hs' := (hw.2.2.1 s' ky w es (List.mem_of_getElem? ho)).1
      rw [w1]
      refine v_ild1 (q := 22) dX10_goesUp_21 rfl ?_
      by_cases e : s' = s
      · subst e
        refine v_icmp_ne (t := 73) (q := 25) dX10_goesUp_22 (by decide) rfl (fun z => absurd rfl z) (fun _ => ?_)
        have np : ¬ (was < wE w ∧ wE w ≤ to) → isP s' (psB was to) (some (s', ky, w, es)) = false := fun hh => by
          show (decide (s' = s') && psB was to w) = false
          rw [show psB was to w = false from decide_eq_false hh, Bool.and_false]
        refine v_ald0 (q := 26) dX10_goesUp_25 rfl rfl ?_
        refine w_ga (q := 29) (j := 23) dX10_goesUp_26 rfl hm (by decide) gf_X10_79_9 ?_
        refine v_ild4 (q := 31) dX10_goesUp_29 rfl ?_
        refine w_zald (q := 32) (n := 48100) dX10_goesUp_31 rfl hm (by decide) rfl rfl rfl (by omega) ?_
        rw [hc.1 23 (by decide), w5]
        by_cases ht : thr (sSty (xS X s')) (gI (xS X s') 1) w = true
        · rw [if_pos ht]
          refine v_if_eq (t := 73) (q := 35) dX10_goesUp_32 (by decide) rfl (fun z => absurd z (by decide)) (fun _ => ?_)
          refine v_ald0 (q := 36) dX10_goesUp_35 rfl rfl ?_
          refine w_ga (q := 39) (j := 22) dX10_goesUp_36 rfl hm (by decide) gf_X10_76_9 ?_
          refine v_ild4 (q := 41) dX10_goesUp_39 rfl ?_
          refine w_iald (q := 42) (n := 48100) dX10_goesUp_41 rfl hm (by decide) rfl rfl rfl (by omega) ?_
          refine v_ild2 (q := 43) dX10_goesUp_42 rfl ?_
          rw [hc.1 22 (by decide), w4]
          by_cases h1 : was < wE w
          · refine v_icmp_le (t := 73) (q := 46) dX10_goesUp_43 (by decide) rfl (fun z => absurd h1 (Int32.not_lt.mpr z)) (fun _ => ?_)
            refine v_ald0 (q := 47) dX10_goesUp_46 rfl rfl ?_
            refine w_ga (q := 50) (j := 22) dX10_goesUp_47 rfl hm (by decide) gf_X10_76_9 ?_
            refine v_ild4 (q := 52) dX10_goesUp_50 rfl ?_
            refine w_iald (q := 53) (n := 48100) dX10_goesUp_52 rfl hm (by decide) rfl rfl rfl (by omega) ?_
            refine v_ald0 (q := 54) dX10_goesUp_53 rfl rfl ?_
            refine w_ga (q := 57) (j := 6) dX10_goesUp_54 rfl hm (by decide) gf_X10_26_9 ?_
            refine v_ild1 (q := 58) dX10_goesUp_57 rfl ?_
            refine w_iald (q := 59) (n := 16) dX10_goesUp_58 rfl hm (by decide) rfl rfl rfl (by omega) ?_
            rw [hc.1 22 (by decide), w4, hc.1 6 (by decide), h6]
            by_cases h2 : wE w ≤ to
            · refine v_icmp_gt (t := 73) (q := 62) dX10_goesUp_59 (by decide) rfl (fun z => absurd h2 (Int32.not_le.mpr z)) (fun _ => ?_)
              have ep : isP s' (psB was to) (some (s', ky, w, es)) = true := by
                show (decide (s' = s') && psB was to w) = true
                rw [decide_eq_true rfl, show psB was to w = true from decide_eq_true ⟨h1, h2⟩]
                rfl
              rw [if_pos ep] at fs
              refine v_ald0 (q := 63) dX10_goesUp_62 rfl rfl ?_
              refine w_ga (q := 66) (j := 36) dX10_goesUp_63 rfl hm (by decide) gf_X10_119_9 ?_
              refine v_ild3 (q := 67) dX10_goesUp_66 rfl ?_
              refine v_ild4 (q := 69) dX10_goesUp_67 rfl ?_
              refine w_iast (q := 70) (n := 48100) dX10_goesUp_69 rfl hm (by decide) rfl rfl rfl (by omega) ?_
              refine v_inc3 (q := 73) dX10_goesUp_70 rfl (by decide) rfl rfl ?_
              rw [inc1]
              have fl : (fnd ws s' (psB was to) k).length + 1 = (fnd ws s' (psB was to) (k + 1)).length := by rw [fs, List.length_append, List.length_singleton]
              rw [fl]
              refine v_inc4 (q := 76) dX10_goesUp_73 rfl (by decide) rfl rfl ?_
              rw [inc1]
              refine v_goto (q := 5) dX10_goesUp_76 (by decide) ?_
              refine ih (k + 1) _ (by omega) (hc.fo _ _) ?_ hQ
              rw [fs]
              exact hF.add
            · refine v_icmp_gt (t := 73) (q := 62) dX10_goesUp_59 (by decide) rfl (fun _ => skip (np (fun z => h2 z.2))) (fun z => absurd (Int32.not_le.mp h2) z)
          · refine v_icmp_le (t := 73) (q := 46) dX10_goesUp_43 (by decide) rfl (fun _ => skip (np (fun z => h1 z.1))) (fun z => absurd (Int32.not_lt.mp h1) z)
        · rw [if_neg ht]
          refine v_if_eq (t := 73) (q := 35) dX10_goesUp_32 (by decide) rfl (fun _ => skip (np (fun z => ht ?_))) (fun z => absurd rfl z)
          rw [hmk]
          have := z.1
          rw [fa_lt] at this
          exact decide_eq_true (by omega)
      · refine v_icmp_ne (t := 73) (q := 25) dX10_goesUp_22 (by decide) rfl (fun _ => skip ?_) (fun z => absurd ((nI_eq (by omega) (by omega)).mp z) e)
        show (decide (s' = s) && psB was to w) = false
        rw [decide_eq_false e, Bool.false_and]
end LD2
