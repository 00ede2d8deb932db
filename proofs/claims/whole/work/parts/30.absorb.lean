/-! 30: Window.absorb -/
/-- all of fs put into vs, one behind the other -/
def InsAll : List Int64 → List Int64 → Int32 → List Int64 → Prop
  | vs, [], _, vs' => vs' = vs
  | vs, x :: fs, again, vs' => ∃ v1, InsAt vs v1 x again ∧ InsAll v1 fs again vs'
theorem InsAt.len {vs vs' : List Int64} {x : Int64} {again : Int32} (h : InsAt vs vs' x again) : vs.length ≤ vs'.length ∧ vs'.length ≤ vs.length + 1 := by
  obtain ⟨low, hl, -, -, c⟩ := h
  rcases c with ⟨-, -, c⟩ | ⟨-, c⟩
  · rw [c]; omega
  · rw [c, insL_len hl]; omega
theorem InsAt.sorted {vs vs' : List Int64} {x : Int64} {again : Int32} (h : InsAt vs vs' x again) (hs : vs.Pairwise (· ≤ ·)) : vs'.Pairwise (· ≤ ·) := by
  obtain ⟨low, hl, h1, h2, c⟩ := h
  rcases c with ⟨-, -, c⟩ | ⟨-, c⟩
  · rw [c]; exact hs
  · rw [c]
    refine List.pairwise_append.mpr ⟨hs.sublist (List.take_sublist _ _), List.pairwise_cons.mpr ⟨fun y hy => ?_, hs.sublist (List.drop_sublist _ _)⟩, fun a ha b hb => ?_⟩
    · obtain ⟨i, hi⟩ := List.getElem?_of_mem hy
      rw [List.getElem?_drop] at hi
      exact h2 (low + i) y (by omega) hi
    · obtain ⟨i, hi⟩ := List.getElem?_of_mem ha
      rw [List.getElem?_take] at hi
      by_cases c : i < low
      · rw [if_pos c] at hi
        have ax := h1 i a c hi
        rcases List.mem_cons.mp hb with e | hb
        · rw [e]; exact Int64.le_of_lt ax
        · obtain ⟨j, hj⟩ := List.getElem?_of_mem hb
          rw [List.getElem?_drop] at hj
          exact Int64.le_trans (Int64.le_of_lt ax) (h2 (low + j) b (by omega) hj)
      · rw [if_neg c] at hi
        cases hi
section L30
variable {g : Gl} {d : Nat} {h : Hp} {Q : Option Value → Hp → Prop}
/-- the loop: the values of the row tf, from place k on, go into w -/
theorem ab_loop {w o tf t0 : Nat} {how : Nat} {fs : List Int64} (hh : how = 4 ∨ how = 5) (hne : tf ≠ t0) (hwf0 : tf ≠ w) (ktf : hK h tf = 22) (hft : ∀ i, i < fs.length → fs[i]? = some (aL h tf i)) (hfn : fs.length ≤ hN h tf) (hfN : hN h tf < 4000000) (hfz : tf < hz h) (wff : Wf h)
    :
    ∀ (m k : Nat) (hc : Hp) (t : Nat) (vs : List Int64), fs.length - k ≤ m → k ≤ fs.length → Vv hc w (some t) vs → vs.Pairwise (· ≤ ·) → vs.length + (fs.length - k) < 1000000 → Smo (fun a => a = w ∨ a = t0) h hc → Wf hc → OnlyV w h hc → (t = t0 ∨ hz h ≤ t) → hz hc ≤ hz h + k → hs hc + 2 * hN h t0 ≤ hs h + 2 * hN hc t → hN hc t ≤ max (hN h t0) (2 * vs.length) →
      (∀ vs', InsAll vs (fs.drop k) (if how = 5 then 1 else 0) vs' → ∀ h' t', Vv h' w (some t') vs' → Smo (fun a => a = w ∨ a = t0) h h' → Wf h' → OnlyV w h h' → (t' = t0 ∨ hz h ≤ t') → hz h' ≤ hz h + fs.length → hs h' + 2 * hN h t0 ≤ hs h + 2 * hN h' t' → hN h' t' ≤ max (hN h t0) (2 * vs'.length) → Q none h') →
      ∀ (u3 : Int32), V g mX7_absorb (d + 3) 108 [.ref w, .ref o, .int (nI how), .int u3, .ref tf, .int (nI fs.length), .int (nI k)] [] hc Q := by
  intro m
  induction m with
  | zero =>
    intro k hc t vs hm hk hV hs0 hlen sm wf ov ht hzc hsc hcap hfin u3
    have hke : k = fs.length := by omega
    subst hke
    refine v_ald4 (q := 110) dX7_absorb_108 rfl rfl ?_
    refine v_ifnull (r := some tf) (t := 145) (q := 113) dX7_absorb_110 (by decide) rfl (fun hc => by cases hc) (fun _ _ => ?_)
    refine v_ild6 (q := 115) dX7_absorb_113 rfl ?_
    refine v_ild5 (q := 117) dX7_absorb_115 rfl ?_
    refine v_icmp_ge (t := 145) (q := 120) dX7_absorb_117 (by decide) rfl (fun _ => ?_) (fun hc => absurd (Int32.le_refl _) hc)
    refine v_vret dX7_absorb_145 rfl ?_
    rw [List.drop_eq_nil_of_le (Nat.le_refl _)] at hfin
    exact hfin vs rfl hc t hV sm wf ov ht hzc hsc hcap
  | succ m ih =>
    intro k hc t vs hm hk hV hs0 hlen sm wf ov ht hzc hsc hcap hfin u3
    refine v_ald4 (q := 110) dX7_absorb_108 rfl rfl ?_
    refine v_ifnull (r := some tf) (t := 145) (q := 113) dX7_absorb_110 (by decide) rfl (fun hc => by cases hc) (fun _ _ => ?_)
    refine v_ild6 (q := 115) dX7_absorb_113 rfl ?_
    refine v_ild5 (q := 117) dX7_absorb_115 rfl ?_
    by_cases hke : k = fs.length
    · subst hke
      refine v_icmp_ge (t := 145) (q := 120) dX7_absorb_117 (by decide) rfl (fun _ => ?_) (fun hc => absurd (Int32.le_refl _) hc)
      refine v_vret dX7_absorb_145 rfl ?_
      rw [List.drop_eq_nil_of_le (Nat.le_refl _)] at hfin
      exact hfin vs rfl hc t hV sm wf ov ht hzc hsc hcap
    · have hlt : k < fs.length := by omega
      refine v_icmp_ge (t := 145) (q := 120) dX7_absorb_117 (by decide) rfl (fun hc => absurd hc (nI_ge hlt (by omega))) (fun _ => ?_)
      have sf := sm.2 tf hfz (fun e => e.elim hwf0 hne)
      have kf : hK hc tf = 22 := sf.1.trans ktf
      have nf : hN hc tf = hN h tf := sf.2.1
      have lf : aL hc tf = aL h tf := sf.2.2.2.2.2.2.1
      have hx := hft k hlt
      have hdr : fs.drop k = aL h tf k :: fs.drop (k + 1) := by
        rw [List.drop_eq_getElem_cons hlt]
        congr 1
        rw [List.getElem?_eq_getElem hlt] at hx
        exact Option.some.inj hx
      have kw := hV.1
      refine v_ald0 (q := 121) dX7_absorb_120 rfl rfl ?_
      refine v_ald4 (q := 123) dX7_absorb_121 rfl rfl ?_
      refine v_ild6 (q := 125) dX7_absorb_123 rfl ?_
      refine v_lald (q := 126) _ dX7_absorb_125 rfl kf rfl (by rw [nf]; omega) (by rw [nf]; omega) ?_
      refine v_ild2 (q := 127) dX7_absorb_126 rfl ?_
      refine v_iconst (q := 128) (v := 5) dX7_absorb_127 rfl (by decide) ?_
      rw [lf]
      have cont : ∀ b : Int32, b = (if how = 5 then 1 else 0) → V g mX7_absorb (d + 3) 136 [.ref w, .ref o, .int (nI how), .int u3, .ref tf, .int (nI fs.length), .int (nI k)] [.int b, .long (aL h tf k), .ref w] hc Q := by
        intro b hb
        refine v_callV (q := 139) (d' := d + 2) (av := [.long (aL h tf k), .int b]) dX7_absorb_136 rfl ok_X7_insert CL6 ml_X7_33 im_X7_insert se_X7_insert (by assumption) (by omega) rfl rfl (Nat.le_of_ble_eq_true rfl) ?_
        refine k_insert (d := d) hV (by omega) hs0 wf (fun h' t' vs' s1 s2 s3 s4 s5 s6 => ?_)
        refine v_inc6 (q := 142) dX7_absorb_139 rfl (by decide) rfl (inc1 k) ?_
        refine v_goto (q := 108) dX7_absorb_142 (by decide) ?_
        have il := s4.len
        have sm' : Smo (fun a => a = w ∨ a = t0) h h' := sm.tr s2 (fun a ha e => e.elim Or.inl (fun e2 => by
          have e3 : t = a := Option.some.inj e2
          rcases ht with q | q
          · exact Or.inr (e3.symm.trans q)
          · omega))
        have ov' : OnlyV w h h' := ⟨fun f hf => (s5.1 f hf).trans (ov.1 f hf), fun f => (s5.2.1 f).trans (ov.2.1 f), fun f hf => (s5.2.2 f hf).trans (ov.2.2 f hf)⟩
        have hz' := sm.1
        have c1 : t' = t0 ∨ hz h ≤ t' := by
          rcases s6 with ⟨e1, -⟩ | ⟨e1, -⟩
          · have e3 : t = t' := Option.some.inj e1
            rw [← e3]; exact ht
          · exact Or.inr (by omega)
        have c2 : hz h' ≤ hz h + (k + 1) := by
          rcases s6 with ⟨-, e2, -⟩ | ⟨-, e2, -⟩ <;> omega
        have c34 : hs h' + 2 * hN h t0 ≤ hs h + 2 * hN h' t' ∧ hN h' t' ≤ max (hN h t0) (2 * vs'.length) := by
          rcases s6 with ⟨e1, -, e3, e4⟩ | ⟨-, -, e3⟩
          · have e5 : t = t' := Option.some.inj e1
            subst e5
            refine ⟨by omega, by omega⟩
          · rcases e3 with ⟨e4, -⟩ | ⟨t2, e4, e5, e6, e7⟩
            · cases e4
            · have e8 : t = t2 := Option.some.inj e4
              subst e8
              refine ⟨by omega, by omega⟩
        clear s6
        refine ih (k + 1) h' t' vs' (by omega) (by omega) s1 (s4.sorted hs0) (by omega) sm' s3 ov' c1 c2 c34.1 c34.2 (fun v2 hv2 => ?_) u3
        refine hfin v2 ?_
        rw [hdr]
        exact ⟨vs', by rw [← hb]; exact s4, hv2⟩
      rcases hh with rfl | rfl
      · refine v_icmp_ne (t := 135) (q := 131) dX7_absorb_128 (by decide) rfl (fun _ => ?_) (fun hc => absurd hc (by decide))
        refine v_iconst (q := 136) (v := 0) dX7_absorb_135 rfl (by decide) ?_
        exact cont 0 rfl
      · refine v_icmp_ne (t := 135) (q := 131) dX7_absorb_128 (by decide) rfl (fun hc => absurd rfl hc) (fun _ => ?_)
        refine v_iconst (q := 132) (v := 1) dX7_absorb_131 rfl (by decide) ?_
        refine v_goto (q := 136) dX7_absorb_132 (by decide) ?_
        exact cont 1 rfl
end L30
