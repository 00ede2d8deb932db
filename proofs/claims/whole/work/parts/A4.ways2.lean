/-! A4: WindowMill: waysToSource, waysToStage, hasTooManyWays -/
def fdN (X : Sg) (t0 f0 : Nat) : Nat → Nat → Bool := fun s f => if s = t0 ∧ f = f0 then true else gF (xS X s) f
def tooM (fd : Nat → Nat → Bool) (wd : Nat → Bool) (m p : Nat) : Bool := decide (32 < fb_sm (wyA fd p m) m ∨ 4 < fb_sm (fun s => if wd s then wyA fd p m s else 0) m)
def tooMany (fd : Nat → Nat → Bool) (wd : Nat → Bool) (m : Nat) : Bool := (List.range 8).any (tooM fd wd m)
section LA4
variable {g : Gl} {d : Nat} {h : Hp} {ow us uz : Nat → Nat} {c lg SA ST WY : Nat} {po sp : Nat → Nat} {X : Sg} {Q : Option Value → Hp → Prop}
theorem k_wtSource {p f : Nat} {w : Nat → Nat} (hM : MV g h ow c lg SA ST WY po sp X us uz) (hp : p < 8) (hf : f < 24) (hw : 8 ≤ f → aI h WY (f - 8) = nI (w (f - 8))) (hQ : Q (some (.int (nI (srcW p w f)))) h) : Call g mX9_waysToSource d [.ref c, .int (nI p), .int (nI f)] h Q := by
  have a1 : hK h c = 9 := hM.1.1
  have a5 : fP h 44 c = some WY := hM.1.2.2.2.2.1
  have b7 : hK h WY = 21 := hM.2.1.2.2.2.2.2.2.1
  have b8 : hN h WY = 16 := hM.2.1.2.2.2.2.2.2.2.1
  refine Call.of [.ref c, .int (nI p), .int (nI f)] (by decide) (Nat.le_of_ble_eq_true rfl) rfl ?_
  unfold srcW at hQ
  refine v_ild2 (q := 1) dX9_waysToSource_0 rfl ?_
  refine v_bipush (q := 3) (v := 8) dX9_waysToSource_1 rfl (by decide) ?_
  by_cases h8 : f < 8
  · rw [if_pos h8] at hQ
    refine v_icmp_ge (t := 17) (q := 6) dX9_waysToSource_3 (by decide) rfl (fun hc => absurd hc (show ¬ nI 8 ≤ nI f from nI_ge h8 (by decide))) (fun _ => ?_)
    refine v_ild2 (q := 7) dX9_waysToSource_6 rfl ?_
    refine v_ild1 (q := 8) dX9_waysToSource_7 rfl ?_
    by_cases e : f = p
    · subst e
      rw [if_pos rfl] at hQ
      refine v_icmp_ne (t := 15) (q := 11) dX9_waysToSource_8 (by decide) rfl (fun hc => absurd rfl hc) (fun _ => ?_)
      refine v_iconst (q := 12) (v := 1) dX9_waysToSource_11 rfl (by decide) ?_
      refine v_goto (q := 16) dX9_waysToSource_12 (by decide) ?_
      refine v_iret dX9_waysToSource_16 rfl ?_
      exact hQ
    · rw [if_neg e] at hQ
      refine v_icmp_ne (t := 15) (q := 11) dX9_waysToSource_8 (by decide) rfl (fun _ => ?_) (fun hc => absurd ((nI_eq (by omega) (by omega)).mp hc) e)
      refine v_iconst (q := 16) (v := 0) dX9_waysToSource_15 rfl (by decide) ?_
      refine v_iret dX9_waysToSource_16 rfl ?_
      exact hQ
  · rw [if_neg h8] at hQ
    refine v_icmp_ge (t := 17) (q := 6) dX9_waysToSource_3 (by decide) rfl (fun _ => ?_) (fun hc => absurd (show nI 8 ≤ nI f from nI_le (by omega) (by omega)) hc)
    refine v_ald0 (q := 18) dX9_waysToSource_17 rfl rfl ?_
    refine v_getR (q := 21) dX9_waysToSource_18 rfl gf_X9_21_8 (by assumption) (by assumption) ?_
    refine v_ild2 (q := 22) dX9_waysToSource_21 rfl ?_
    refine v_bipush (q := 24) (v := 8) dX9_waysToSource_22 rfl (by decide) ?_
    refine v_isub (q := 25) dX9_waysToSource_24 rfl ?_
    rw [show (8 : Int32) = nI 8 from rfl, nI_sub (by omega)]
    refine v_iald (q := 26) (f - 8) dX9_waysToSource_25 rfl b7 rfl (by rw [b8]; omega) (by rw [b8]; decide) ?_
    rw [hw (by omega)]
    refine v_iret dX9_waysToSource_26 rfl ?_
    exact hQ
theorem wts_loop {p s : Nat} {w : Nat → Nat} (hM : MV g h ow c lg SA ST WY po sp X us uz) (hp : p < 8) (hs' : s < xM X) (hw : ∀ i, i < s → aI h WY i = nI (w i)) (hQ : Q (some (.int (nI (wyS (fun s f => gF (xS X s) f) p w s)))) h) :
    ∀ t f, f + t = 8 + s → V g mX9_waysToStage (d + 1) 5 [.ref c, .int (nI p), .int (nI s), .int (nI (fb_sm (fun f => if gF (xS X s) f then srcW p w f else 0) f)), .int (nI f)] [] h Q := by
  have a1 : hK h c = 9 := hM.1.1
  have a4 : fP h 43 c = some ST := hM.1.2.2.2.1
  have b4 : hK h ST = 26 := hM.2.1.2.2.2.1
  have b5 : hN h ST = 16 := hM.2.1.2.2.2.2.1
  have h16 : xM X ≤ 16 := hM.2.2.2.2.1
  have hS := hM.st hs'
  have hpS := ((hM.2.2.2.1 s (by omega)).1 hs').1
  intro t
  induction t with
  | zero =>
    intro f hf
    have : f = 8 + s := by omega
    subst this
    refine v_ild4 (q := 7) dX9_waysToStage_5 rfl ?_
    refine v_bipush (q := 9) (v := 8) dX9_waysToStage_7 rfl (by decide) ?_
    refine v_ild2 (q := 10) dX9_waysToStage_9 rfl ?_
    refine v_iadd (q := 11) dX9_waysToStage_10 rfl ?_
    rw [show (8 : Int32) = nI 8 from rfl, nI_add]
    refine v_icmp_ge (t := 48) (q := 14) dX9_waysToStage_11 (by decide) rfl (fun _ => ?_) (fun hc => absurd (Int32.le_refl _) hc)
    refine v_ild3 (q := 49) dX9_waysToStage_48 rfl ?_
    refine v_iret dX9_waysToStage_49 rfl ?_
    exact hQ
  | succ t ih =>
    intro f hf
    refine v_ild4 (q := 7) dX9_waysToStage_5 rfl ?_
    refine v_bipush (q := 9) (v := 8) dX9_waysToStage_7 rfl (by decide) ?_
    refine v_ild2 (q := 10) dX9_waysToStage_9 rfl ?_
    refine v_iadd (q := 11) dX9_waysToStage_10 rfl ?_
    rw [show (8 : Int32) = nI 8 from rfl, nI_add]
    refine v_icmp_ge (t := 48) (q := 14) dX9_waysToStage_11 (by decide) rfl (fun hc => absurd hc (nI_ge (by omega) (by omega))) (fun _ => ?_)
    refine v_ild3 (q := 15) dX9_waysToStage_14 rfl ?_
    refine v_ald0 (q := 16) dX9_waysToStage_15 rfl rfl ?_
    refine v_getR (q := 19) dX9_waysToStage_16 rfl gf_X9_17_8 (by assumption) (by assumption) ?_
    refine v_ild2 (q := 20) dX9_waysToStage_19 rfl ?_
    refine v_aald (q := 21) _ dX9_waysToStage_20 rfl ⟨b4, by decide, by decide⟩ rfl (by rw [b5]; omega) (by rw [b5]; decide) ?_
    rw [hpS]
    have rest : ∀ x : Nat, x = (if gF (xS X s) f then srcW p w f else 0) → V g mX9_waysToStage (d + 1) 40 [.ref c, .int (nI p), .int (nI s), .int (nI (fb_sm (fun f => if gF (xS X s) f then srcW p w f else 0) f)), .int (nI f)] [.int (nI x), .int (nI (fb_sm (fun f => if gF (xS X s) f then srcW p w f else 0) f))] h Q := fun x hx => by
      refine v_iadd (q := 41) dX9_waysToStage_40 rfl ?_
      rw [nI_add, hx]
      refine v_ist3 (q := 42) dX9_waysToStage_41 rfl (by decide) rfl ?_
      refine v_inc4 (q := 45) dX9_waysToStage_42 rfl (by decide) rfl rfl ?_
      rw [inc1]
      refine v_goto (q := 5) dX9_waysToStage_45 (by decide) ?_
      exact ih (f + 1) (by omega)
    have after : V g mX9_waysToStage (d + 1) 26 [.ref c, .int (nI p), .int (nI s), .int (nI (fb_sm (fun f => if gF (xS X s) f then srcW p w f else 0) f)), .int (nI f)] [.int (if gF (xS X s) f then 1 else 0), .int (nI (fb_sm (fun f => if gF (xS X s) f then srcW p w f else 0) f))] h Q := by
      by_cases hg : gF (xS X s) f = true
      · rw [if_pos hg] at rest
        rw [if_pos hg]
        refine v_if_eq (t := 39) (q := 29) dX9_waysToStage_26 (by decide) rfl (fun hc => absurd hc (by decide)) (fun _ => ?_)
        refine v_ald0 (q := 30) dX9_waysToStage_29 rfl rfl ?_
        refine v_ild1 (q := 31) dX9_waysToStage_30 rfl ?_
        refine v_ild4 (q := 33) dX9_waysToStage_31 rfl ?_
        refine v_callV (q := 36) (d' := d) (av := [.int (nI p), .int (nI f)]) dX9_waysToStage_33 rfl ok_X9_waysToSource CL8 ml_X9_194 im_X9_waysToSource se_X9_waysToSource (by assumption) (by omega) rfl rfl (Nat.le_of_ble_eq_true rfl) ?_
        refine k_wtSource (w := w) hM hp (by omega) (fun h8 => hw _ (by omega)) ?_
        refine v_goto (q := 40) dX9_waysToStage_36 (by decide) ?_
        exact rest _ rfl
      · rw [if_neg hg] at rest
        rw [if_neg hg]
        refine v_if_eq (t := 39) (q := 29) dX9_waysToStage_26 (by decide) rfl (fun _ => ?_) (fun hc => absurd rfl hc)
        refine v_iconst (q := 40) (v := 0) dX9_waysToStage_39 rfl (by decide) ?_
        exact rest 0 rfl
    rcases hS.tag.2 with kk | kk
    · refine v_ild4 (q := 23) dX9_waysToStage_21 rfl ?_
      refine v_callV (q := 26) (d' := d) (av := [.int (nI f)]) dX9_waysToStage_23 rfl ok_X6_isFedBy CL4 ml_X9_59 im_X6_isFedBy se_X6_isFedBy_X4 (by assumption) (by omega) rfl rfl (Nat.le_of_ble_eq_true rfl) ?_
      exact k_fed (Or.inl kk) hS.1.2.2.2.2 (by omega) after
    · refine v_ild4 (q := 23) dX9_waysToStage_21 rfl ?_
      refine v_callV (q := 26) (d' := d) (av := [.int (nI f)]) dX9_waysToStage_23 rfl ok_X6_isFedBy CL7 ml_X9_59 im_X6_isFedBy se_X6_isFedBy_X8 (by assumption) (by omega) rfl rfl (Nat.le_of_ble_eq_true rfl) ?_
      exact k_fed (Or.inr kk) hS.1.2.2.2.2 (by omega) after
theorem k_wtStage {p s : Nat} {w : Nat → Nat} (hM : MV g h ow c lg SA ST WY po sp X us uz) (hp : p < 8) (hs' : s < xM X) (hw : ∀ i, i < s → aI h WY i = nI (w i)) (hQ : Q (some (.int (nI (wyS (fun s f => gF (xS X s) f) p w s)))) h) : Call g mX9_waysToStage (d + 1) [.ref c, .int (nI p), .int (nI s)] h Q := by
  refine Call.of [.ref c, .int (nI p), .int (nI s), zz, zz] (by decide) (Nat.le_of_ble_eq_true rfl) rfl ?_
  refine v_iconst (q := 1) (v := 0) dX9_waysToStage_0 rfl (by decide) ?_
  refine v_ist3 (q := 2) dX9_waysToStage_1 rfl (by decide) rfl ?_
  refine v_iconst (q := 3) (v := 0) dX9_waysToStage_2 rfl (by decide) ?_
  refine v_ist4 (q := 5) dX9_waysToStage_3 rfl (by decide) rfl ?_
  exact wts_loop (d := d) hM hp hs' hw hQ (8 + s) 0 (Nat.zero_add _)
theorem MV.wy {r : Nat → Int32} (hM : MV g h ow c lg SA ST WY po sp X us uz) : MV g (sAI h WY r) ow c lg SA ST WY po sp X us uz ∧ Fr ow ow CS h (sAI h WY r) := by
  have gd := hM.2.2.2.2.2.2
  have fr : Fr ow ow (fun t => t = tM) h (sAI h WY r) := Fr.of0 (P := fun a => a = WY) (Smo_sAI rfl) (fun a _ e => by rw [e]; exact hM.2.1.2.2.2.2.2.2.2.2)
  exact ⟨hM.mill fr (fun t e => Or.inl e) (Wf_same rfl rfl gd.1) rfl rfl rfl hM.1 hM.2.1 hM.2.2.1 (fun _ _ => ⟨rfl, rfl⟩), fr.mono (fun t e => by rw [e]; unfold CS tM; omega)⟩
theorem fdN_at {t0 f0 : Nat} : fdN X t0 f0 t0 f0 = true := if_pos ⟨rfl, rfl⟩
theorem fdN_ne {t0 f0 s f : Nat} (h : ¬ (s = t0 ∧ f = f0)) : fdN X t0 f0 s f = gF (xS X s) f := if_neg h
theorem wyS_new {t0 f0 p s : Nat} {w : Nat → Nat} (h0 : gF (xS X t0) f0 = false) (hf : f0 < 8 + t0) : wyS (fdN X t0 f0) p w s = wyS (fun s f => gF (xS X s) f) p w s + if s = t0 then srcW p w f0 else 0 := by
  unfold wyS
  by_cases e : s = t0
  · subst e
    rw [if_pos rfl]
    have h1 := fb_sm_upd (fun f => if gF (xS X s) f then srcW p w f else 0) (srcW p w f0) hf
    rw [h0] at h1
    have h2 : fb_sm (fun f => if fdN X s f0 s f = true then srcW p w f else 0) (8 + s) = fb_sm (fun k => if k = f0 then srcW p w f0 else if gF (xS X s) k = true then srcW p w k else 0) (8 + s) := fb_sm_cong (fun f _ => by
      by_cases ef : f = f0
      · subst ef
        rw [fdN_at, if_pos rfl, if_pos rfl]
      · rw [fdN_ne (fun z => ef z.2), if_neg ef])
    rw [h2]
    simpa using h1
  · rw [if_neg e]
    refine (fb_sm_cong (fun f _ => ?_)).trans (Nat.add_zero _).symm
    rw [fdN_ne (fun z => e z.1)]
end LA4
