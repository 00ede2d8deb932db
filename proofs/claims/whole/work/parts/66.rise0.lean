/-! 66: what rise does, in lists -/
def isAt (b e : Int32) (x : Wd) : Bool := decide (wB x = b ∧ wE x = e)
def gvL (s k how : Nat) (rows : List Rw) (b e : Int32) : List Wd → List Wd × List Rw
  | [] => ([], rows)
  | x :: L => if isAt b e x then ((finW s k how True rows x).1 :: L, (finW s k how True rows x).2) else (x :: (gvL s k how rows b e L).1, (gvL s k how rows b e L).2)
/-- the window of a slot is given, if it is one -/
def gvS (s how : Nat) (X : (Nat → List Wd) × List Rw) (c : Int64) : (Nat → List Wd) × List Rw :=
  (upR X.1 (cKey c).toNatClampNeg (gvL s (cKey c).toNatClampNeg how X.2 (cBegin c) (cEnd c) (X.1 (cKey c).toNatClampNeg)).1, (gvL s (cKey c).toNatClampNeg how X.2 (cBegin c) (cEnd c) (X.1 (cKey c).toNatClampNeg)).2)
def ext (x : Wd) : Int32 × Int32 × List Int64 := (wB x, wE x, wVs x)
def sSl (k : Nat) (w : Wd) : Int64 := cSlot (nI k) (wB w) (wE w)
def slo (P : Wd → Bool) (ln : Nat → List Wd) : List Int64 := (List.range 1000).flatMap (fun k => ((ln k).filter P).map (sSl k))
/-- rise of a stage: the windows that the mark passes are given, in the order of their slots -/
def rsS (s how : Nat) (mk to : Int32) (X : (Nat → List Wd) × List Rw) : (Nat → List Wd) × List Rw :=
  (srt (slo (fun w => decide (mk < wE w ∧ wE w ≤ to)) X.1)).foldl (gvS s how) X
theorem upR_self (ln : Nat → List Wd) (k : Nat) : upR ln k (ln k) = ln := funext fun j => by
  unfold upR
  split
  · rename_i e
    rw [e]
  · rfl
section L66
variable {ses : Bool} {s k how : Nat} {sp mk to : Int32} {rows : List Rw} {L : List Wd} {ln : Nat → List Wd}
theorem gvL_miss {b e : Int32} : ∀ {L : List Wd}, (∀ y ∈ L, ¬ (wB y = b ∧ wE y = e)) → gvL s k how rows b e L = (L, rows)
  | [], _ => rfl
  | x :: L, h => by
    unfold gvL
    rw [if_neg (show ¬ isAt b e x = true from fun q => h x List.mem_cons_self (of_decide_eq_true q)), gvL_miss (fun y hy => h y (List.mem_cons_of_mem _ hy))]
theorem gvL_hit {b e : Int32} {x : Wd} {B : List Wd} (hx : wB x = b ∧ wE x = e) : ∀ {A : List Wd}, (∀ y ∈ A, ¬ (wB y = b ∧ wE y = e)) → gvL s k how rows b e (A ++ x :: B) = (A ++ (finW s k how True rows x).1 :: B, (finW s k how True rows x).2)
  | [], _ => by
    rw [List.nil_append, List.nil_append]
    unfold gvL
    rw [if_pos (show isAt b e x = true from decide_eq_true hx)]
  | y :: A, h => by
    rw [List.cons_append]
    unfold gvL
    rw [if_neg (show ¬ isAt b e y = true from fun q => h y List.mem_cons_self (of_decide_eq_true q)), gvL_hit hx (fun z hz => h z (List.mem_cons_of_mem _ hz))]
    rfl
theorem gvS_slot (X : (Nat → List Wd) × List Rw) {b e : Int32} (hv : VB b e) (hk : k < 1000) : gvS s how X (cSlot (nI k) b e) = (upR X.1 k (gvL s k how X.2 b e (X.1 k)).1, (gvL s k how X.2 b e (X.1 k)).2) := by
  obtain ⟨d1, d2, d3⟩ := slot_dec hv hk
  unfold gvS
  rw [d1, d2, d3, nI_clamp (by omega)]
theorem finT_ext {x : Wd} : ext (finW s k how True rows x).1 = ext x := rfl
theorem gvL_ext {b e : Int32} : ∀ L : List Wd, (gvL s k how rows b e L).1.map ext = L.map ext
  | [] => rfl
  | x :: L => by
    unfold gvL
    split
    · rfl
    · rw [List.map_cons, List.map_cons, gvL_ext L]
theorem ext_cnt {L L' : List Wd} (he : L'.map ext = L.map ext) (sty : Int) (mk : Int32) : vN L' = vN L ∧ cD mk L' = cD mk L ∧ cT sty mk L' = cT sty mk L ∧ cH sty mk L' = cH sty mk L ∧ L'.length = L.length := by
  have a1 : ∀ M : List Wd, vN M = ((M.map ext).map (fun t => t.2.2.length)).sum := fun M => by
    unfold vN
    rw [List.map_map]
    rfl
  have a2 : ∀ M : List Wd, cD mk M = (M.map ext).countP (fun t => decide (mk < t.2.1)) := fun M => by
    unfold cD
    rw [List.countP_map]
    rfl
  have a3 : ∀ M : List Wd, cT sty mk M = (M.map ext).countP (fun t => decide (mk.toInt < t.2.1.toInt + sty)) := fun M => by
    unfold cT
    rw [List.countP_map]
    rfl
  have a4 : ∀ M : List Wd, cH sty mk M = ((M.map ext).map (fun t => if decide (mk.toInt < t.2.1.toInt + sty) then t.2.2.length else 0)).sum := fun M => by
    unfold cH
    rw [List.map_map]
    rfl
  have a5 : ∀ M : List Wd, M.length = (M.map ext).length := fun M => by rw [List.length_map]
  rw [a1 L', a2 L', a3 L', a4 L', a5 L', he, ← a1, ← a2, ← a3, ← a4, ← a5]
  exact ⟨rfl, rfl, rfl, rfl, rfl⟩
theorem ext_mem {L L' : List Wd} (he : L'.map ext = L.map ext) {x : Wd} (hx : x ∈ L) : ∃ x' ∈ L', ext x' = ext x := by
  have : ext x ∈ L'.map ext := by
    rw [he]
    exact List.mem_map_of_mem hx
  obtain ⟨x', h1, h2⟩ := List.mem_map.mp this
  exact ⟨x', h1, h2⟩
theorem InW.ext {x : Int64} {P : Int → Prop} {ln' : Nat → List Wd} (h : InW ln x P) (he : ∀ k, k < 1000 → (ln' k).map ext = (ln k).map ext) : InW ln' x P := by
  obtain ⟨j, b, e, w, h1, h2, h3, h4, h5, h6, h7⟩ := h
  obtain ⟨w', a1, a2⟩ := ext_mem (he j h1) h4
  have e1 : wB w' = wB w := congrArg (·.1) a2
  have e2 : wE w' = wE w := congrArg (·.2.1) a2
  exact ⟨j, b, e, w', h1, h2, h3, a1, by rw [e1]; exact h5, by rw [e2]; exact h6, h7⟩
/-- a window of a lane is given -/
theorem LnI.give {A B : List Wd} {x : Wd} (h : LnI ses s k sp mk rows (A ++ x :: B)) : LnI ses s k sp mk (finW s k how True rows x).2 (A ++ (finW s k how True rows x).1 :: B) ∧ (finW s k how True rows x).2.length + cR (A ++ (finW s k how True rows x).1 :: B) = rows.length + cR (A ++ x :: B) + 2 ∧ (∃ more, (finW s k how True rows x).2 = rows ++ more) ∧ wR (finW s k how True rows x).1 ≠ none := by
  have hx := h.1 x (by simp)
  obtain ⟨w1, w2, w3, w4, ⟨more, em⟩, w6, _⟩ := finW_p (how := how) (gv := True) hx.2.1
  have hl := backOf_len hx.2.1
  refine ⟨⟨fun y hy => ?_, ?_⟩, ?_, ⟨more, em⟩, w6 trivial⟩
  · rcases List.mem_append.mp hy with hy | hy
    · have := h.1 y (List.mem_append_left _ hy)
      rw [em]
      exact ⟨this.1, this.2.1.app, this.2.2⟩
    · rcases List.mem_cons.mp hy with e | hy
      · subst e
        rw [w1, w2, w3]
        exact ⟨hx.1, w4, hx.2.2.1, hx.2.2.2.1, hx.2.2.2.2.1, hx.2.2.2.2.2.1, hx.2.2.2.2.2.2.1, fun _ => w6 trivial⟩
      · have := h.1 y (List.mem_append_right _ (List.mem_cons_of_mem _ hy))
        rw [em]
        exact ⟨this.1, this.2.1.app, this.2.2⟩
  · refine pair_upd h.2 (fun y hy hq => ?_) (fun y hy hq => ?_)
    · rw [w1]
      exact hq
    · rw [w1, w2]
      exact hq
  · have e2 : (finW s k how True rows x).2.length = rows.length + (backOf s k rows x).length + 1 := by
      unfold finW
      rw [if_pos trivial, List.length_append, List.length_append, List.length_singleton]
    have e3 : (wR (finW s k how True rows x).1).isSome = true := Option.isSome_iff_ne_none.mpr (w6 trivial)
    unfold cR
    rw [List.countP_append, List.countP_append, List.countP_cons, List.countP_cons, e2, hl, if_pos e3]
    split <;> omega
theorem LnI.uniq {x y : Wd} (h : LnI ses s k sp mk rows L) (hx : x ∈ L) (hy : y ∈ L) (he : wB x = wB y) : x = y := by
  have hp := h.2
  clear h
  induction L with
  | nil => cases hx
  | cons z L ih =>
    have h1 := List.pairwise_cons.mp hp
    rcases List.mem_cons.mp hx with e1 | hx
    · rcases List.mem_cons.mp hy with e2 | hy
      · rw [e1, e2]
      · have := (h1.1 y hy).1
        rw [← e1, he] at this
        omega
    · rcases List.mem_cons.mp hy with e2 | hy
      · have := (h1.1 x hx).1
        rw [← e2, he] at this
        omega
      · exact ih hx hy h1.2
theorem srt_strict {l : List Int64} (h : l.Nodup) : (srt l).Pairwise (· < ·) := by
  have h1 := srt_sorted l
  have h2 : (srt l).Nodup := (srt_perm l).nodup_iff.mpr h
  exact (h1.and h2).imp (fun h => lt_of_le_ne64 h.1 h.2)
theorem perm_nodup {a b : List Int64} (ha : a.Nodup) (hb : b.Nodup) (h : ∀ x, x ∈ a ↔ x ∈ b) : a.Perm b := by
  have : srt a = srt b := strict_ext _ _ (srt_strict ha) (srt_strict hb) (fun x => (srt_perm a).mem_iff.trans ((h x).trans (srt_perm b).mem_iff.symm))
  exact (srt_perm a).symm.trans (this ▸ srt_perm b)
theorem slo_mem {P : Wd → Bool} {x : Int64} : x ∈ slo P ln ↔ ∃ k, k < 1000 ∧ ∃ w ∈ ln k, P w = true ∧ x = sSl k w := by
  unfold slo
  constructor
  · intro h
    obtain ⟨k, hk, h⟩ := List.mem_flatMap.mp h
    obtain ⟨w, hw, e⟩ := List.mem_map.mp h
    exact ⟨k, List.mem_range.mp hk, w, (List.mem_filter.mp hw).1, (List.mem_filter.mp hw).2, e.symm⟩
  · rintro ⟨k, hk, w, hw, hP, e⟩
    exact List.mem_flatMap.mpr ⟨k, List.mem_range.mpr hk, List.mem_map.mpr ⟨w, List.mem_filter.mpr ⟨hw, hP⟩, e.symm⟩⟩
theorem slo_nodup {P : Wd → Bool} (hL : ∀ j, j < 1000 → LnI ses s j sp mk rows (ln j)) (h1 : 1 ≤ sp.toInt) : (slo P ln).Nodup := by
  have key : ∀ n, n ≤ 1000 → ((List.range n).flatMap (fun k => ((ln k).filter P).map (sSl k))).Nodup ∧ ∀ x ∈ (List.range n).flatMap (fun k => ((ln k).filter P).map (sSl k)), ∃ k, k < n ∧ ∃ w ∈ ln k, x = sSl k w := by
    intro n
    induction n with
    | zero => exact fun _ => ⟨List.Pairwise.nil, fun x hx => by cases hx⟩
    | succ n ih =>
      intro hn
      obtain ⟨i1, i2⟩ := ih (by omega)
      have hIn := hL n (by omega)
      rw [List.range_succ, List.flatMap_append, List.flatMap_singleton]
      refine ⟨List.nodup_append.mpr ⟨i1, ?_, fun a ha b hb e => ?_⟩, fun x hx => ?_⟩
      · have hp : ((ln n).filter P).Pairwise (fun x y => (wB x).toInt < (wB y).toInt) := (hIn.2.imp (fun h => h.1)).sublist List.filter_sublist
        refine List.pairwise_map.mpr (hp.imp_of_mem (fun {x y} hx hy hlt e => ?_))
        obtain ⟨_, e2, _⟩ := slot_inj (hIn.vb h1 (List.mem_filter.mp hx).1) (hIn.vb h1 (List.mem_filter.mp hy).1) (by omega) (by omega) e
        rw [e2] at hlt
        omega
      · obtain ⟨j, hj, w, hw, ew⟩ := i2 a ha
        obtain ⟨w', hw', ew'⟩ := List.mem_map.mp hb
        rw [ew, ← ew'] at e
        obtain ⟨e1, _⟩ := slot_inj ((hL j (by omega)).vb h1 hw) (hIn.vb h1 (List.mem_filter.mp hw').1) (by omega) (by omega) e
        omega
      · rcases List.mem_append.mp hx with hx | hx
        · obtain ⟨j, hj, r⟩ := i2 x hx
          exact ⟨j, by omega, r⟩
        · obtain ⟨w, hw, e⟩ := List.mem_map.mp hx
          exact ⟨n, by omega, w, (List.mem_filter.mp hw).1, e.symm⟩
  exact (key 1000 (Nat.le_refl _)).1
theorem slo_sum {P : Wd → Bool} (f : Int64 → Nat) : ((slo P ln).map f).sum = fb_sm (fun k => (((ln k).filter P).map (fun w => f (sSl k w))).sum) 1000 := by
  have key : ∀ n, (((List.range n).flatMap (fun k => ((ln k).filter P).map (sSl k))).map f).sum = fb_sm (fun k => (((ln k).filter P).map (fun w => f (sSl k w))).sum) n := by
    intro n
    induction n with
    | zero => rfl
    | succ n ih =>
      rw [List.range_succ, List.flatMap_append, List.flatMap_singleton, List.map_append, List.sum_append, ih, fb_sm_succ, List.map_map]
      rfl
  exact key 1000
end L66
