/-! 70: rise, in lists: which slots, what is counted -/
section L70
variable {ses : Bool} {s k how : Nat} {sp mk to : Int32} {sty : Int} {rows : List Rw} {ln ln' : Nat → List Wd} {D1 D2 : List Int64}
theorem gvS_ext (X : (Nat → List Wd) × List Rw) (c : Int64) : ∀ k, ((gvS s how X c).1 k).map ext = (X.1 k).map ext := fun k => by
  unfold gvS
  show (upR X.1 (cKey c).toNatClampNeg _ k).map ext = _
  unfold upR
  split
  · rename_i e
    rw [gvL_ext, e]
  · rfl
theorem gvS_miss {X : (Nat → List Wd) × List Rw} {x : Int64} {b e : Int32} (hx : x = cSlot (nI k) b e) (hv : VB b e) (hk : k < 1000) (hn : ¬ x ∈ allS X.1) : gvS s how X x = X := by
  rw [hx, gvS_slot _ hv hk, gvL_miss (fun y hy hh => hn (allS_mem.mpr ⟨k, hk, y, hy, by rw [hx]; unfold sSl; rw [hh.1, hh.2]⟩))]
  show (upR X.1 k (X.1 k), X.2) = X
  rw [upR_self]
def isSl (x : Int64) : Prop := ∃ k b e, k < 1000 ∧ VB b e ∧ x = cSlot (nI k) b e
theorem gv_filter (A0 : List Int64) : ∀ (U : List Int64) (X : (Nat → List Wd) × List Rw), allS X.1 = A0 → (∀ x ∈ U, isSl x) → U.foldl (gvS s how) X = (U.filter (fun x => decide (x ∈ A0))).foldl (gvS s how) X := by
  intro U
  induction U with
  | nil =>
    intro X _ _
    rw [List.filter_nil]
  | cons x U ih =>
    intro X hA hS
    have hA' : allS (gvS s how X x).1 = A0 := (allS_ext (fun k _ => gvS_ext X x k)).trans hA
    rw [List.foldl_cons, List.filter_cons]
    by_cases hx : x ∈ A0
    · rw [if_pos (decide_eq_true hx), List.foldl_cons]
      exact ih _ hA' (fun y hy => hS y (List.mem_cons_of_mem _ hy))
    · rw [if_neg (fun q => hx (of_decide_eq_true q))]
      obtain ⟨k, b, e, h1, h2, h3⟩ := hS x List.mem_cons_self
      rw [gvS_miss h3 h2 h1 (by rw [hA]; exact hx)]
      exact ih X hA (fun y hy => hS y (List.mem_cons_of_mem _ hy))
theorem InW.sl {x : Int64} {P : Int → Prop} (h : InW ln x P) : ∃ k b e, k < 1000 ∧ VB b e ∧ x = cSlot (nI k) b e ∧ cEnd x = e ∧ P e.toInt := by
  obtain ⟨k, b, e, w, h1, h2, h3, h4, h5, h6, h7⟩ := h
  exact ⟨k, b, e, h1, h3, h2, by rw [h2]; exact (slot_dec h3 h1).2.2, h7⟩
theorem InW.end_ {x : Int64} {P : Int → Prop} (h : InW ln x P) : P (cEnd x).toInt := by
  obtain ⟨k, b, e, _, _, _, h1, h2⟩ := h.sl
  rw [h1]
  exact h2
theorem InW.imp {x : Int64} {P Q : Int → Prop} (h : InW ln x P) (hQ : P (cEnd x).toInt → Q (cEnd x).toInt) : InW ln x Q := by
  have he := h.end_
  obtain ⟨k, b, e, w, h1, h2, h3, h4, h5, h6, h7⟩ := h
  have hc : cEnd x = e := by rw [h2]; exact (slot_dec h3 h1).2.2
  exact ⟨k, b, e, w, h1, h2, h3, h4, h5, h6, by rw [← hc]; exact hQ he⟩
theorem sl_mono {x y : Int64} (hx : isSl x) (hy : isSl y) (h : x ≤ y) : (cEnd x).toInt ≤ (cEnd y).toInt := by
  obtain ⟨k, b, e, h1, h2, h3⟩ := hx
  obtain ⟨k', b', e', g1, g2, g3⟩ := hy
  have := cEnd_mono h3 g3 h2 g2 h1 g1 h
  rw [h3, g3, (slot_dec h2 h1).2.2, (slot_dec g2 g1).2.2]
  exact this
/-- a list of slots in rising order, cut where ends are beyond a bound -/
theorem cut_sl {D : List Int64} {q : Int32 → Bool} (hq : ∀ a b : Int32, a.toInt ≤ b.toInt → q b = true → q a = true) (hn : D.Nodup) (hS : ∀ x ∈ D, isSl x) :
    ∃ U R, srt D = U ++ R ∧ (U ++ R).Pairwise (· < ·) ∧ (∀ x ∈ U, q (cEnd x) = true) ∧ (∀ x ∈ R, q (cEnd x) = false) ∧ (∀ x, x ∈ D ↔ x ∈ U ∨ x ∈ R) := by
  have h1 := srt_strict hn
  have hm : ∀ x, x ∈ srt D ↔ x ∈ D := fun x => (srt_perm D).mem_iff
  refine ⟨(srt D).takeWhile (fun x => q (cEnd x)), (srt D).dropWhile (fun x => q (cEnd x)), List.takeWhile_append_dropWhile.symm, by rw [List.takeWhile_append_dropWhile]; exact h1, fun x hx => (tw_true _ x hx).1, fun x hx => ?_, fun x => ?_⟩
  · refine dw_false (p := fun x => q (cEnd x)) (srt D) (h1.imp_of_mem (fun {a b} ha hb hab hqb => ?_)) x hx
    exact hq _ _ (sl_mono (hS a ((hm a).mp ha)) (hS b ((hm b).mp hb)) (Int64.le_of_lt hab)) hqb
  · rw [← List.mem_append, List.takeWhile_append_dropWhile, hm]
theorem sum_filter (f : Int64 → Nat) (A0 : List Int64) : ∀ U : List Int64, (∀ x ∈ U, ¬ x ∈ A0 → f x = 0) → (U.map f).sum = ((U.filter (fun x => decide (x ∈ A0))).map f).sum
  | [], _ => rfl
  | x :: U, h => by
    rw [List.map_cons, List.sum_cons, List.filter_cons, sum_filter f A0 U (fun y hy => h y (List.mem_cons_of_mem _ hy))]
    by_cases hx : x ∈ A0
    · rw [if_pos (decide_eq_true hx), List.map_cons, List.sum_cons]
    · rw [if_neg (fun q => hx (of_decide_eq_true q)), h x List.mem_cons_self hx, Nat.zero_add]
theorem sum_perm {a b : List Int64} (f : Int64 → Nat) (h : a.Perm b) : (a.map f).sum = (b.map f).sum := (h.map f).sum_nat
/-- what the slots of U sum up to, where those of current windows are just the windows with P -/
theorem sl_sum {P : Wd → Bool} {U : List Int64} (f : Int64 → Nat) (hL : ∀ j, j < 1000 → LnI ses s j sp mk rows (ln j)) (h1 : 1 ≤ sp.toInt) (hU : U.Nodup) (h0 : ∀ x ∈ U, ¬ x ∈ allS ln → f x = 0) (hm : ∀ x, (x ∈ U ∧ x ∈ allS ln) ↔ x ∈ slo P ln) : (U.map f).sum = fb_sm (fun k => (((ln k).filter P).map (fun w => f (sSl k w))).sum) 1000 := by
  rw [sum_filter f (allS ln) U h0, ← slo_sum]
  refine sum_perm f (perm_nodup (hU.sublist List.filter_sublist) (slo_nodup hL h1) (fun x => ?_))
  rw [List.mem_filter, decide_eq_true_iff]
  exact hm x
theorem cT_split (L : List Wd) (h : mk.toInt ≤ to.toInt) : cT sty mk L = ((L.filter (fun w => decide (mk.toInt < (wE w).toInt + sty ∧ (wE w).toInt + sty ≤ to.toInt))).map (fun _ => 1)).sum + cT sty to L ∧ cH sty mk L = ((L.filter (fun w => decide (mk.toInt < (wE w).toInt + sty ∧ (wE w).toInt + sty ≤ to.toInt))).map (fun w => (wVs w).length)).sum + cH sty to L := by
  induction L with
  | nil => exact ⟨rfl, rfl⟩
  | cons x L ih =>
    rw [cH_cons, cH_cons, List.filter_cons]
    unfold cT at ih ⊢
    rw [List.countP_cons, List.countP_cons]
    unfold thr at ih ⊢
    by_cases h1 : to.toInt < (wE x).toInt + sty
    · rw [if_pos (decide_eq_true h1), if_pos (decide_eq_true (show mk.toInt < (wE x).toInt + sty by omega)), if_pos (decide_eq_true h1), if_pos (decide_eq_true (show mk.toInt < (wE x).toInt + sty by omega)), if_neg (fun q => by have := of_decide_eq_true q; omega)]
      omega
    · rw [if_neg (fun q => h1 (of_decide_eq_true q)), if_neg (fun q => h1 (of_decide_eq_true q))]
      by_cases h2 : mk.toInt < (wE x).toInt + sty
      · rw [if_pos (decide_eq_true h2), if_pos (decide_eq_true h2), if_pos (decide_eq_true ⟨h2, by omega⟩), List.map_cons, List.map_cons, List.sum_cons, List.sum_cons]
        omega
      · rw [if_neg (fun q => h2 (of_decide_eq_true q)), if_neg (fun q => h2 (of_decide_eq_true q)), if_neg (fun q => h2 (of_decide_eq_true q).1)]
        omega
theorem cD_split (L : List Wd) (h : mk.toInt ≤ to.toInt) : cD mk L = ((L.filter (fun w => decide (mk < wE w ∧ wE w ≤ to))).map (fun _ => 1)).sum + cD to L := by
  induction L with
  | nil => rfl
  | cons x L ih =>
    rw [List.filter_cons]
    unfold cD at ih ⊢
    rw [List.countP_cons, List.countP_cons]
    by_cases h1 : to < wE x
    · have h1' := h1
      rw [fa_lt] at h1'
      rw [if_pos (decide_eq_true h1), if_pos (decide_eq_true (show mk < wE x by rw [fa_lt]; omega)), if_neg (fun q => by have := (of_decide_eq_true q).2; rw [fa_le] at this; omega)]
      omega
    · rw [if_neg (fun q => h1 (of_decide_eq_true q))]
      by_cases h2 : mk < wE x
      · rw [if_pos (decide_eq_true h2), if_pos (decide_eq_true ⟨h2, Int32.not_lt.mp h1⟩), List.map_cons, List.sum_cons]
        omega
      · rw [if_neg (fun q => h2 (of_decide_eq_true q)), if_neg (fun q => h2 (of_decide_eq_true q).1)]
        omega
theorem count_sum (U A0 : List Int64) : U.countP (fun x => decide (x ∈ A0)) = (U.map (fun x => if x ∈ A0 then 1 else 0)).sum := by
  induction U with
  | nil => rfl
  | cons x U ih =>
    rw [List.countP_cons, List.map_cons, List.sum_cons, ih]
    by_cases h : x ∈ A0
    · rw [if_pos (decide_eq_true h), if_pos h]
      omega
    · rw [if_neg (fun q => h (of_decide_eq_true q)), if_neg h]
      omega
end L70
