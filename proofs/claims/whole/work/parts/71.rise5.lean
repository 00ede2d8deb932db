/-! 71: Windowed: rise, of the whole stage -/
section L71
variable {g : Gl} {d : Nat} {h : Hp} {Q : Option Value → Hp → Prop} {ow : Nat → Nat} {s p lg A q1 q2 how ea k : Nat} {ses : Bool} {sp st lt mk to : Int32} {sty : Int} {rows rows1 : List Rw} {ln ln1 : Nat → List Wd} {D1 D2 D2' U Rst U2 R2 : List Int64}
theorem sm_add (f1 f2 : Nat → List Wd → Nat) : fb_sm (fun k => f1 k (ln k) + f2 k (ln k)) 1000 = fb_sm (fun k => f1 k (ln k)) 1000 + fb_sm (fun k => f2 k (ln k)) 1000 := fb_sm_add _ _ 1000
/-- the slots due, cut at the new mark: how it begins -/
theorem rise_begin (hI : ∀ k, k < 1000 → LnI ses s k sp mk rows (ln k)) (hD : DI sty mk ln D1 D2) (h1 : 1 ≤ sp.toInt) (hmt : mk.toInt ≤ to.toInt) (e1 : srt D1 = U ++ Rst) (hpw : (U ++ Rst).Pairwise (· < ·)) (hU : ∀ x ∈ U, cEnd x ≤ to) (hR : ∀ x ∈ Rst, ¬ cEnd x ≤ to) (hm : ∀ x, x ∈ D1 ↔ x ∈ U ∨ x ∈ Rst) :
    P1 ses s sp mk to sty U ln rows D2 ∧ U.countP (fun x => decide (x ∈ allS ln)) + sm (cD to) ln = sm (cD mk) ln ∧ U.filter (fun x => decide (x ∈ allS ln)) = srt (slo (fun w => decide (mk < wE w ∧ wE w ≤ to)) ln) := by
  obtain ⟨d1, d2, d3, d4, d5⟩ := hD
  have hUp := (List.pairwise_append.mp hpw).1
  have hUn : U.Nodup := hUp.imp (fun h e => by rw [e] at h; exact absurd h (Int64.lt_irrefl))
  have hin : ∀ k, k < 1000 → ∀ w ∈ ln k, mk < wE w → wE w ≤ to → sSl k w ∈ U := fun k hk w hw a b => by
    rcases (hm _).mp ((d5 k hk w hw).1 a) with q | q
    · exact q
    · have := hR _ q
      rw [show cEnd (cSlot (nI k) (wB w) (wE w)) = wE w from (slot_dec ((hI k hk).vb h1 hw) hk).2.2] at this
      exact absurd b this
  have hmem : ∀ x, (x ∈ U ∧ x ∈ allS ln) ↔ x ∈ slo (fun w => decide (mk < wE w ∧ wE w ≤ to)) ln := fun x => by
    rw [allS_mem, slo_mem]
    constructor
    · rintro ⟨hx, k, hk, w, hw, e⟩
      have hv := (hI k hk).vb h1 hw
      have a := (d3 x ((hm x).mpr (Or.inl hx))).end_
      have b := hU x hx
      rw [e] at a b
      rw [show cEnd (sSl k w) = wE w from (slot_dec hv hk).2.2] at a b
      exact ⟨k, hk, w, hw, decide_eq_true ⟨by rw [fa_lt]; exact a, b⟩, e⟩
    · rintro ⟨k, hk, w, hw, hP, e⟩
      have hP := of_decide_eq_true hP
      exact ⟨by rw [e]; exact hin k hk w hw hP.1 hP.2, k, hk, w, hw, e⟩
  refine ⟨⟨hI, fun k hk w hw => ⟨fun a b => Or.inl (hin k hk w hw a b), (d5 k hk w hw).2⟩, d2, fun x hx => (d4 x hx).imp (fun hP => ⟨by omega, hP.2⟩), fun x hx => ⟨fun hx2 => ?_, (d3 x ((hm x).mpr (Or.inl hx))).imp (fun hP => ⟨hP, ?_⟩)⟩, hUp⟩, ?_, ?_⟩
  · have a := (d3 x ((hm x).mpr (Or.inl hx))).end_
    have b := (d4 x hx2).end_
    omega
  · have := hU x hx
    rw [fa_le] at this
    exact this
  · have hs := sl_sum (fun x => if x ∈ allS ln then 1 else 0) hI h1 hUn (fun x _ hx => if_neg hx) hmem
    rw [count_sum, hs]
    have e2 : fb_sm (fun k => (((ln k).filter (fun w => decide (mk < wE w ∧ wE w ≤ to))).map (fun w => if sSl k w ∈ allS ln then 1 else 0)).sum) 1000 = fb_sm (fun k => (((ln k).filter (fun w => decide (mk < wE w ∧ wE w ≤ to))).map (fun _ => 1)).sum) 1000 := fb_sm_cong (fun k hk => by
      refine congrArg List.sum (List.map_congr_left (fun w hw => ?_))
      rw [if_pos (allS_mem.mpr ⟨k, hk, w, (List.mem_filter.mp hw).1, rfl⟩)])
    rw [e2]
    unfold sm
    rw [← fb_sm_add]
    exact fb_sm_cong (fun k hk => (cD_split (ln k) hmt).symm)
  · refine strict_ext _ _ (hUp.sublist List.filter_sublist) (srt_strict (slo_nodup hI h1)) (fun x => ?_)
    rw [List.mem_filter, decide_eq_true_iff, hmem x]
    exact (srt_perm _).mem_iff.symm
theorem atS_len {x : Int64} (hI : ∀ k, k < 1000 → LnI ses s k sp mk rows (ln k)) (h1 : 1 ≤ sp.toInt) (hk : k < 1000) {w : Wd} (hw : w ∈ ln k) (hx : x = sSl k w) : atS ln x = [w] := by
  obtain ⟨B, C, e⟩ := List.append_of_mem hw
  exact atS_hit hx ((hI k hk).vb h1 hw) hk e (hI k hk) rfl rfl
theorem atS_nil {x : Int64} (hs : isSl x) (hn : ¬ x ∈ allS ln) : atS ln x = [] := by
  obtain ⟨k, b, e, h1, h2, h3⟩ := hs
  exact atS_miss h3 h2 h1 (fun y hy hh => hn (allS_mem.mpr ⟨k, h1, y, hy, by rw [h3]; unfold sSl; rw [hh.1, hh.2]⟩))
/-- how it ends: the slots passed, cut where windows are let go -/
theorem rise_end {stI : Int32} (hP : P1 ses s sp mk to sty [] ln1 rows1 D2') (hD : DI sty mk ln D1 D2) (hx : ∀ k, k < 1000 → (ln1 k).map ext = (ln k).map ext) (h1 : 1 ≤ sp.toInt) (hs0 : 0 ≤ sty) (hs1 : sty ≤ 200000) (hmt : mk.toInt ≤ to.toInt) (hst : stI.toInt = sty) (hRst : ∀ x ∈ Rst, ¬ cEnd x ≤ to) (hU : ∀ x ∈ U, cEnd x ≤ to) (hpw : (U ++ Rst).Pairwise (· < ·)) (hm : ∀ x, x ∈ D1 ↔ x ∈ U ∨ x ∈ Rst)
    (hpw2 : (U2 ++ R2).Pairwise (· < ·)) (hU2 : ∀ x ∈ U2, cEnd x + stI ≤ to) (hR2 : ∀ x ∈ R2, ¬ cEnd x + stI ≤ to) (hm2 : ∀ x, x ∈ D2' ↔ x ∈ U2 ∨ x ∈ R2) :
    (∀ k, k < 1000 → LnI ses s k sp to rows1 (ln1 k)) ∧ DI sty to ln1 Rst R2 ∧ (U2.map (fun x => (atS ln1 x).length)).sum + sm (cT sty to) ln1 = sm (cT sty mk) ln ∧ (U2.map (fun x => vN (atS ln1 x))).sum + sm (cH sty to) ln1 = sm (cH sty mk) ln := by
  obtain ⟨p1, p2, p3, p4, p5, p6⟩ := hP
  obtain ⟨d1, d2, d3, d4, d5⟩ := hD
  have nd : ∀ {l : List Int64}, l.Pairwise (· < ·) → l.Nodup := fun hl => hl.imp (fun h e => by rw [e] at h; exact absurd h (Int64.lt_irrefl))
  have hRn : Rst.Nodup := nd (List.pairwise_append.mp hpw).2.1
  have hU2n : U2.Nodup := nd (List.pairwise_append.mp hpw2).1
  have hR2n : R2.Nodup := nd (List.pairwise_append.mp hpw2).2.1
  have eadd : ∀ x ∈ D2', (cEnd x + stI).toInt = (cEnd x).toInt + sty := fun x hx => by
    obtain ⟨k, b, e, a1, a2, a3, a4, a5⟩ := (p4 x hx).sl
    rw [i32_add (by rw [a4, hst]; have := a2.2.2.1; omega) (by rw [a4, hst]; have := a2.2.2.2; omega), hst]
  have hU2' : ∀ x ∈ U2, (cEnd x).toInt + sty ≤ to.toInt := fun x hx => by
    have := hU2 x hx
    rw [fa_le, eadd x ((hm2 x).mpr (Or.inl hx))] at this
    exact this
  have hR2' : ∀ x ∈ R2, to.toInt < (cEnd x).toInt + sty := fun x hx => by
    have := hR2 x hx
    rw [fa_le, eadd x ((hm2 x).mpr (Or.inr hx))] at this
    omega
  have dec : ∀ k, k < 1000 → ∀ w ∈ ln1 k, cEnd (sSl k w) = wE w := fun k hk w hw => (slot_dec ((p1 k hk).vb h1 hw) hk).2.2
  have inD2 : ∀ k, k < 1000 → ∀ w ∈ ln1 k, (wE w).toInt ≤ to.toInt → mk.toInt < (wE w).toInt + sty → sSl k w ∈ D2' := fun k hk w hw a b => by
    by_cases hmk : mk < wE w
    · rcases (p2 k hk w hw).1 hmk (by rw [fa_le]; exact a) with q | q
      · cases q
      · exact q.2
    · exact (p2 k hk w hw).2 hmk b
  have hmem : ∀ x, (x ∈ U2 ∧ x ∈ allS ln1) ↔ x ∈ slo (fun w => decide (mk.toInt < (wE w).toInt + sty ∧ (wE w).toInt + sty ≤ to.toInt)) ln1 := fun x => by
    rw [allS_mem, slo_mem]
    constructor
    · rintro ⟨hx, k, hk, w, hw, e⟩
      have a := (p4 x ((hm2 x).mpr (Or.inl hx))).end_
      have b := hU2' x hx
      rw [e, dec k hk w hw] at a b
      exact ⟨k, hk, w, hw, decide_eq_true ⟨a.2, b⟩, e⟩
    · rintro ⟨k, hk, w, hw, hP, e⟩
      have hP := of_decide_eq_true hP
      refine ⟨?_, k, hk, w, hw, e⟩
      have hin := inD2 k hk w hw (by omega) hP.1
      rw [e]
      rcases (hm2 _).mp hin with q | q
      · exact q
      · have := hR2' _ q
        rw [dec k hk w hw] at this
        omega
  have hsl : ∀ x ∈ U2, isSl x := fun x hx => by
    obtain ⟨k, b, e, a1, a2, a3, _⟩ := (p4 x ((hm2 x).mpr (Or.inl hx))).sl
    exact ⟨k, b, e, a1, a2, a3⟩
  refine ⟨fun k hk => ⟨fun w hw => ?_, (p1 k hk).2⟩, ⟨hRn, hR2n, fun x hx => ?_, fun x hx => ?_, fun k hk w hw => ⟨fun a => ?_, fun a b => ?_⟩⟩, ?_, ?_⟩
  · obtain ⟨a1, a2, a3, a4, a5, a6, a7, a8⟩ := (p1 k hk).1 w hw
    refine ⟨a1, a2, a3, a4, a5, a6, a7, fun hto => ?_⟩
    by_cases hmk : mk < wE w
    · rcases (p2 k hk w hw).1 hmk hto with q | q
      · cases q
      · exact q.1
    · exact a8 (Int32.not_lt.mp hmk)
  · refine ((d3 x ((hm x).mpr (Or.inr hx))).ext ‹_›).imp (fun _ => ?_)
    have := hRst x hx
    rw [fa_le] at this
    omega
  · refine (p4 x ((hm2 x).mpr (Or.inr hx))).imp (fun hP => ⟨hP.1, hR2' x hx⟩)
  · obtain ⟨w', hw', ee⟩ := ext_mem (hx k hk).symm hw
    have e1 : wB w' = wB w := congrArg (·.1) ee
    have e2 : wE w' = wE w := congrArg (·.2.1) ee
    have hin := (d5 k hk w' hw').1 (by rw [e2, fa_lt]; rw [fa_lt] at a; omega)
    rw [e1, e2] at hin
    rcases (hm _).mp hin with q | q
    · have := hU _ q
      rw [show cEnd (cSlot (nI k) (wB w) (wE w)) = wE w from dec k hk w hw] at this
      exact absurd a (Int32.not_lt.mpr this)
    · exact q
  · have hin := inD2 k hk w hw (by rw [fa_lt] at a; omega) (by omega)
    rcases (hm2 _).mp hin with q | q
    · have := hU2' _ q
      rw [dec k hk w hw] at this
      omega
    · exact q
  · have hs := sl_sum (fun x => (atS ln1 x).length) p1 h1 hU2n (fun x hx hn => by rw [atS_nil (hsl x hx) hn]; rfl) hmem
    have e0 : sm (cT sty mk) ln = sm (cT sty mk) ln1 := by
      unfold sm
      exact fb_sm_cong (fun k hk => (ext_cnt (hx k hk) sty mk).2.2.1.symm)
    rw [e0, hs]
    have e2 : fb_sm (fun k => (((ln1 k).filter (fun w => decide (mk.toInt < (wE w).toInt + sty ∧ (wE w).toInt + sty ≤ to.toInt))).map (fun w => (atS ln1 (sSl k w)).length)).sum) 1000 = fb_sm (fun k => (((ln1 k).filter (fun w => decide (mk.toInt < (wE w).toInt + sty ∧ (wE w).toInt + sty ≤ to.toInt))).map (fun _ => 1)).sum) 1000 := fb_sm_cong (fun k hk => by
      refine congrArg List.sum (List.map_congr_left (fun w hw => ?_))
      rw [atS_len p1 h1 hk (List.mem_filter.mp hw).1 rfl]
      rfl)
    rw [e2]
    unfold sm
    rw [← fb_sm_add]
    exact fb_sm_cong (fun k hk => (cT_split (ln1 k) hmt).1.symm)
  · have hs := sl_sum (fun x => vN (atS ln1 x)) p1 h1 hU2n (fun x hx hn => by rw [atS_nil (hsl x hx) hn]; rfl) hmem
    have e0 : sm (cH sty mk) ln = sm (cH sty mk) ln1 := by
      unfold sm
      exact fb_sm_cong (fun k hk => (ext_cnt (hx k hk) sty mk).2.2.2.1.symm)
    rw [e0, hs]
    have e2 : fb_sm (fun k => (((ln1 k).filter (fun w => decide (mk.toInt < (wE w).toInt + sty ∧ (wE w).toInt + sty ≤ to.toInt))).map (fun w => vN (atS ln1 (sSl k w)))).sum) 1000 = fb_sm (fun k => (((ln1 k).filter (fun w => decide (mk.toInt < (wE w).toInt + sty ∧ (wE w).toInt + sty ≤ to.toInt))).map (fun w => (wVs w).length)).sum) 1000 := fb_sm_cong (fun k hk => by
      refine congrArg List.sum (List.map_congr_left (fun w hw => ?_))
      rw [atS_len p1 h1 hk (List.mem_filter.mp hw).1 rfl]
      rfl)
    rw [e2]
    unfold sm
    rw [← fb_sm_add]
    exact fb_sm_cong (fun k hk => (cT_split (ln1 k) hmt).2.symm)
end L71
