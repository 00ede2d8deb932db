/-! 85: an event comes to a stage that gives events on; small methods of the mill -/
section L85
variable {g : Gl} {d : Nat} {h : Hp} {Q : Option Value → Hp → Prop} {ow : Nat → Nat} {s p lg US UZ : Nat} {S : Stg} {rows : List Rw}
theorem passB_iff (v : Int64) : passB S v = true ↔ (gI S 3 = 0 → keepB (gI S 6) (gI S 7) v) := by
  unfold passB keepB
  rw [decide_eq_true_iff]
/-- a change of the cell p alone -/
theorem stv_cell {h' : Hp} {S' : Stg} (hV : StV g h ow s p lg S rows US UZ) (hw : isW S = false) (hk : hK h' p = hK h p) (h1 : isW S' = false) (e1 : fI h' 1 p = gI S' 1) (e2 : fI h' 2 p = gI S' 2) (e3 : fI h' 3 p = gI S' 3) (e4 : fI h' 4 p = gI S' 4) (e5 : fI h' 5 p = nI (mskN (gF S') 24)) (e6 : fI h' 6 p = gI S' 6) (e7 : fI h' 7 p = gI S' 7) (e8 : fI h' 8 p = gI S' 8) (e9 : fI h' 9 p = gI S' 9) (e10 : fI h' 10 p = gI S' 10) (e11 : fL h' 11 p = gV S') : StV g h' ow s p lg S' rows US UZ := by
  rcases hV.2 with ⟨b1, _⟩ | ⟨b1, b2, b3, b4, b5, b6, b7, b8, b9, b10, b11⟩
  · rw [hw] at b1
    cases b1
  · exact ⟨⟨e1, e2, e3, e4, e5⟩, Or.inr ⟨h1, hk.trans b2, b3, e6, e7, e8, e9, e10, e11, b10, b11⟩⟩
theorem k_givesV {key m : Int32} {v : Int64} (hV : StV g h ow s p lg S rows US UZ) (hw : isW S = false) (hs6 : s < 16) (hLog : LogV h ow lg rows) (wf : Wf h)
    (hQ : ∀ h', StV g h' ow s p lg (passS S key m v) rows US UZ → LogV h' ow lg rows → Wf h' → Fr ow ow (SS s) h h' → hs h' = hs h → hz h' = hz h → fI h' 9 p = gI (passS S key m v) 9 → fL h' 11 p = gV (passS S key m v) → Q (some (.int (if passB S v then 1 else 0))) h') :
    Call g mX4_gives (d + 2) [.ref p, .int key, .int m, .long v] h Q := by
  have hV0 := hV
  have ht := hV.tag
  obtain ⟨⟨a1, a2, a3, a4, a5⟩, hV2⟩ := hV
  rcases hV2 with ⟨b1, _⟩ | ⟨b1, b2, b3, b4, b5, b6, b7, b8, b9, b10, b11⟩
  · rw [hw] at b1
    cases b1
  · have frS : ∀ h' : Hp, Smo (fun a => a = p) h h' → Fr ow ow (SS s) h h' := fun h' sm => Fr.of0 sm (fun a _ e => by
      rw [e, ht.1]
      unfold SS tP
      omega)
    have lgS' : ∀ h' : Hp, Smo (fun a => a = p) h h' → LogV h' ow lg rows := fun h' sm => hLog.fr wf (Fr.of0 (S := fun t => t = tP s) sm (fun a _ e => by rw [e, ht.1])) (by unfold tL tP; omega)
    refine k_gives (d := d) b2 (fun h0 hn => ?_) (fun hy => ?_)
    · have hp : passB S v = false := by
        rw [Bool.eq_false_iff]
        intro q
        rw [a3] at h0
        rw [b4, b5] at hn
        exact hn ((passB_iff v).mp q h0)
      have eS : passS S key m v = sgI S 4 (gI S 4 + 1) := by
        unfold passS
        rw [hp, if_neg (by decide)]
      have sm : Smo (fun a => a = p) h (sFI h 4 p (fI h 4 p + 1)) := Smo_sFI rfl
      rw [eS, hp] at hQ
      refine hQ _ (stv_cell hV0 hw rfl hw ((fi_ne _ _ _ _ (by decide)).trans a1) ((fi_ne _ _ _ _ (by decide)).trans a2) ((fi_ne _ _ _ _ (by decide)).trans a3) ?_ ((fi_ne _ _ _ _ (by decide)).trans a5) ((fi_ne _ _ _ _ (by decide)).trans b4) ((fi_ne _ _ _ _ (by decide)).trans b5) ((fi_ne _ _ _ _ (by decide)).trans b6) ((fi_ne _ _ _ _ (by decide)).trans b7) ((fi_ne _ _ _ _ (by decide)).trans b8) b9) (lgS' _ sm) (Wf_same rfl rfl wf) (frS _ sm) rfl rfl ((fi_ne _ _ _ _ (by decide)).trans b7) b9
      rw [fi_eq, a4]
      rfl
    · have hp : passB S v = true := (passB_iff v).mpr (fun q => by
        have := hy (by rw [a3]; exact q)
        rw [b4, b5] at this
        exact this)
      have eS : passS S key m v = (upR (upR (upR (upR (gI S) 4 (gI S 4 + 1)) 8 1) 9 (givK (gI S 3) (gI S 6) key v)) 10 m, givV (gI S 3) (gI S 6) (gI S 7) v, gF S, gL S) := by
        unfold passS
        rw [hp, if_pos rfl]
      have gf : ∀ f, fI (givH h p key m v) f p = if f = 10 then m else if f = 9 then givK (gI S 3) (gI S 6) key v else if f = 8 then 1 else if f = 4 then gI S 4 + 1 else fI h f p := fun f => by
        unfold givH
        rw [fI_sFL, fI_sFI, fI_sFI, fI_sFI, fI_sFI, a3, a4, b4]
        simp only [and_true]
      have gl : fL (givH h p key m v) 11 p = givV (gI S 3) (gI S 6) (gI S 7) v := by
        unfold givH
        rw [fl_eq, a3, b4, b5]
      have gk : hK (givH h p key m v) p = hK h p := rfl
      have sm : Smo (fun a => a = p) h (givH h p key m v) := (((((Smo.rf (S := fun a => a = p) h).andFI (Or.inl rfl)).andFI (Or.inl rfl)).andFI (Or.inl rfl)).andFI (Or.inl rfl)).andFL (Or.inl rfl)
      have gw : Wf (givH h p key m v) := Wf_same (h := h) rfl rfl wf
      have gz : hz (givH h p key m v) = hz h := rfl
      have gs : hs (givH h p key m v) = hs h := rfl
      rw [eS, hp] at hQ
      generalize givH h p key m v = h' at *
      have st := lgS' h' sm
      have fr := frS h' sm
      refine hQ h' (stv_cell hV0 hw gk hw ?_ ?_ ?_ ?_ ?_ ?_ ?_ ?_ ?_ ?_ gl) st gw fr gs gz ?_ gl
      · rw [gf]
        exact a1
      · rw [gf]
        exact a2
      · rw [gf]
        exact a3
      · rw [gf]
        rfl
      · rw [gf]
        exact a5
      · rw [gf]
        exact b4
      · rw [gf]
        exact b5
      · rw [gf]
        rfl
      · rw [gf]
        rfl
      · rw [gf]
        rfl
      · rw [gf]
        rfl
end L85
