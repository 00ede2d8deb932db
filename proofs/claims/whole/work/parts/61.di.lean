/-! 61: the slots that wait; enter keeps them as they must be -/
def InW (ln : Nat → List Wd) (x : Int64) (P : Int → Prop) : Prop := ∃ k b e w, k < 1000 ∧ x = cSlot (nI k) b e ∧ VB b e ∧ w ∈ ln k ∧ (wB w).toInt ≤ b.toInt ∧ e.toInt ≤ (wE w).toInt ∧ P e.toInt
def DI (sty : Int) (mk : Int32) (ln : Nat → List Wd) (D1 D2 : List Int64) : Prop :=
  D1.Nodup ∧ D2.Nodup ∧ (∀ x ∈ D1, InW ln x (fun e => mk.toInt < e)) ∧ (∀ x ∈ D2, InW ln x (fun e => e ≤ mk.toInt ∧ mk.toInt < e + sty)) ∧
  ∀ k, k < 1000 → ∀ w ∈ ln k, (mk < wE w → cSlot (nI k) (wB w) (wE w) ∈ D1) ∧ (¬ mk < wE w → mk.toInt < (wE w).toInt + sty → cSlot (nI k) (wB w) (wE w) ∈ D2)
section L61
variable {ses : Bool} {s k how ea : Nat} {sp mk b : Int32} {v : Int64} {rows : List Rw} {ln : Nat → List Wd} {D1 D2 : List Int64} {sty : Int}
theorem InW.on {x : Int64} {P : Int → Prop} {L' : List Wd} (h : InW ln x P) (hc : ∀ w ∈ ln k, ∃ w' ∈ L', (wB w').toInt ≤ (wB w).toInt ∧ (wE w).toInt ≤ (wE w').toInt) : InW (upR ln k L') x P := by
  obtain ⟨j, b, e, w, h1, h2, h3, h4, h5, h6, h7⟩ := h
  by_cases e0 : j = k
  · subst e0
    obtain ⟨w', a1, a2, a3⟩ := hc w h4
    refine ⟨j, b, e, w', h1, h2, h3, ?_, by omega, by omega, h7⟩
    rw [show upR ln j L' j = L' from if_pos rfl]
    exact a1
  · refine ⟨j, b, e, w, h1, h2, h3, ?_, h5, h6, h7⟩
    rw [show upR ln k L' j = ln j from if_neg e0]
    exact h4
theorem InW.mem {x : Int64} {P : Int → Prop} {b e : Int32} (h : InW ln x P) (hx : x = cSlot (nI k) b e) (hv : VB b e) (hk : k < 1000) : ∃ w ∈ ln k, (wB w).toInt ≤ b.toInt ∧ e.toInt ≤ (wE w).toInt ∧ P e.toInt := by
  obtain ⟨j, b', e', w, h1, h2, h3, h4, h5, h6, h7⟩ := h
  rw [hx] at h2
  obtain ⟨q1, q2, q3⟩ := slot_inj hv h3 hk h1 h2
  subst q1 q2 q3
  exact ⟨w, h4, h5, h6, h7⟩
theorem LnI.vb {L : List Wd} {w : Wd} (h : LnI ses s k sp mk rows L) (h1 : 1 ≤ sp.toInt) (hw : w ∈ L) : VB (wB w) (wE w) := by
  have := h.1 w hw
  exact ⟨by omega, by omega, by omega, by omega⟩
theorem DI.ent (hD : DI sty mk ln D1 D2) (hL : ∀ j, j < 1000 → LnI ses s j sp mk rows (ln j)) (hB : BdE sp b) (hk : k < 1000) (hst : mk.toInt < b.toInt + sp.toInt + sty) :
    DI sty mk (upR ln k (entLn ses s k how ea mk b (b + sp) v (ln k) rows)) (dueA (entC ses b (b + sp) v (entT ses b (b + sp) (ln k)) = true) mk k (wB (entX ses b (b + sp) v (entT ses b (b + sp) (ln k)))) (wE (entX ses b (b + sp) v (entT ses b (b + sp) (ln k)))) D1) (pasA (entC ses b (b + sp) v (entT ses b (b + sp) (ln k)) = true) mk k (wB (entX ses b (b + sp) v (entT ses b (b + sp) (ln k)))) (wE (entX ses b (b + sp) v (entT ses b (b + sp) (ln k)))) D2) := by
  have hI := hL k hk
  have b1 : 1 ≤ sp.toInt := hB.1
  obtain ⟨x1, x2, x3, x4, x5, x6, x7, hr⟩ := ent_x (v := v) hI hB
  obtain ⟨w1, w2, w3, w4, w5, w6, w7⟩ := finW_p (how := how) (gv := entG ses s k rows (entT ses b (b + sp) (ln k)) mk ea (entX ses b (b + sp) v (entT ses b (b + sp) (ln k))) = true) hr
  obtain ⟨pA, pT, pB, ppA, ppT, ppB, pAT, pAB, pTB⟩ := hI.parts b (b + sp)
  have sp0 := ent_split ses b (b + sp) (ln k)
  have hC : entC ses b (b + sp) v (entT ses b (b + sp) (ln k)) = true ∨ ∃ x ∈ entT ses b (b + sp) (ln k), wB (entX ses b (b + sp) v (entT ses b (b + sp) (ln k))) = wB x ∧ wE (entX ses b (b + sp) v (entT ses b (b + sp) (ln k))) = wE x := by
    match hT : entT ses b (b + sp) (ln k) with
    | [] => exact Or.inl rfl
    | x :: R =>
      cases ses with
      | false => exact Or.inr ⟨x, List.mem_cons_self, rfl, rfl⟩
      | true =>
        by_cases hq : wB (entX true b (b + sp) v (x :: R)) = wB x ∧ wE (entX true b (b + sp) v (x :: R)) = wE x
        · exact Or.inr ⟨x, List.mem_cons_self, hq⟩
        · refine Or.inl ?_
          show (true && !decide (wB (entX true b (b + sp) v (x :: R)) = wB x ∧ wE (entX true b (b + sp) v (x :: R)) = wE x)) = true
          rw [decide_eq_false hq]
          rfl
  have hCt : entC ses b (b + sp) v (entT ses b (b + sp) (ln k)) = true → ∀ w ∈ entT ses b (b + sp) (ln k), ¬ ((wB w).toInt ≤ (wB (entX ses b (b + sp) v (entT ses b (b + sp) (ln k)))).toInt ∧ (wE (entX ses b (b + sp) v (entT ses b (b + sp) (ln k)))).toInt ≤ (wE w).toInt) := fun hc w hw hh => by
    match hT : entT ses b (b + sp) (ln k) with
    | [] =>
      rw [hT] at hw
      cases hw
    | x :: R =>
      rw [hT] at hc hh x5 ppT hw
      cases ses with
      | false => cases hc
      | true =>
        have c0 := x5 x List.mem_cons_self
        have cw := x5 w hw
        have hw2 : w = x := by
          rcases List.mem_cons.mp hw with e | hw
          · exact e
          · have := (List.pairwise_cons.mp ppT).1 w hw
            omega
        subst hw2
        have hcc : (true && !decide (wB (entX true b (b + sp) v (w :: R)) = wB w ∧ wE (entX true b (b + sp) v (w :: R)) = wE w)) = true := hc
        have hq : wB (entX true b (b + sp) v (w :: R)) = wB w ∧ wE (entX true b (b + sp) v (w :: R)) = wE w := by
          rw [fa_eq, fa_eq]
          omega
        rw [decide_eq_true hq] at hcc
        cases hcc
  have eL : entLn ses s k how ea mk b (b + sp) v (ln k) rows = entA ses b (b + sp) (ln k) ++ (finW s k how (entG ses s k rows (entT ses b (b + sp) (ln k)) mk ea (entX ses b (b + sp) v (entT ses b (b + sp) (ln k))) = true) (entRw ses s k rows (entT ses b (b + sp) (ln k))) (entX ses b (b + sp) v (entT ses b (b + sp) (ln k)))).1 :: entB ses b (b + sp) (ln k) := rfl
  rw [eL]
  generalize (finW s k how (entG ses s k rows (entT ses b (b + sp) (ln k)) mk ea (entX ses b (b + sp) v (entT ses b (b + sp) (ln k))) = true) (entRw ses s k rows (entT ses b (b + sp) (ln k))) (entX ses b (b + sp) v (entT ses b (b + sp) (ln k)))).1 = y2 at *
  generalize entC ses b (b + sp) v (entT ses b (b + sp) (ln k)) = ch at *
  generalize entX ses b (b + sp) v (entT ses b (b + sp) (ln k)) = y1 at *
  generalize entA ses b (b + sp) (ln k) = A at *
  generalize entB ses b (b + sp) (ln k) = Bs at *
  generalize entT ses b (b + sp) (ln k) = T at *
  obtain ⟨d1, d2, d3, d4, d5⟩ := hD
  have hv : VB (wB y1) (wE y1) := ⟨by omega, by omega, by omega, by omega⟩
  have cov : ∀ w ∈ ln k, ∃ w' ∈ A ++ y2 :: Bs, (wB w').toInt ≤ (wB w).toInt ∧ (wE w).toInt ≤ (wE w').toInt := fun w hw => by
    rw [sp0] at hw
    rcases List.mem_append.mp hw with hw | hw
    · exact ⟨w, List.mem_append_left _ hw, Int.le_refl _, Int.le_refl _⟩
    · rcases List.mem_append.mp hw with hw | hw
      · refine ⟨y2, List.mem_append_right _ List.mem_cons_self, ?_⟩
        rw [w1, w2]
        exact x5 w hw
      · exact ⟨w, List.mem_append_right _ (List.mem_cons_of_mem _ hw), Int.le_refl _, Int.le_refl _⟩
  have self : ∀ P : Int → Prop, P (wE y1).toInt → InW (upR ln k (A ++ y2 :: Bs)) (cSlot (nI k) (wB y1) (wE y1)) P := fun P hP => by
    refine ⟨k, wB y1, wE y1, y2, hk, rfl, hv, ?_, by rw [w1]; exact Int.le_refl _, by rw [w2]; exact Int.le_refl _, hP⟩
    rw [show upR ln k (A ++ y2 :: Bs) k = A ++ y2 :: Bs from if_pos rfl]
    exact List.mem_append_right _ List.mem_cons_self
  have new : ch = true → ∀ P, ¬ InW ln (cSlot (nI k) (wB y1) (wE y1)) P := fun hc P hin => by
    obtain ⟨w, a1, a2, a3, _⟩ := hin.mem rfl hv hk
    rw [sp0] at a1
    rcases List.mem_append.mp a1 with a1 | a1
    · have q := x6 w a1
      have qw := hI.1 w (pA w a1)
      cases ses with
      | true =>
        have := q.2 rfl
        omega
      | false =>
        have := qw.2.2.2.2.2.2.1 rfl
        have := x3.2 rfl
        omega
    · rcases List.mem_append.mp a1 with a1 | a1
      · exact hCt hc w a1 ⟨a2, a3⟩
      · have := (x7 w a1).1
        omega
  have s1 : ∀ x ∈ D1, x ∈ dueA (ch = true) mk k (wB y1) (wE y1) D1 := fun x hx => by
    unfold dueA
    split
    · exact List.mem_cons_of_mem _ hx
    · exact hx
  have s2 : ∀ x ∈ D2, x ∈ pasA (ch = true) mk k (wB y1) (wE y1) D2 := fun x hx => by
    unfold pasA
    split
    · exact List.mem_cons_of_mem _ hx
    · exact hx
  refine ⟨?_, ?_, fun x hx => ?_, fun x hx => ?_, fun j hj w hw => ?_⟩
  · unfold dueA
    split
    · rename_i hc
      exact List.nodup_cons.mpr ⟨fun hin => new hc.1 _ (d3 _ hin), d1⟩
    · exact d1
  · unfold pasA
    split
    · rename_i hc
      exact List.nodup_cons.mpr ⟨fun hin => new hc.1 _ (d4 _ hin), d2⟩
    · exact d2
  · unfold dueA at hx
    split at hx
    · rename_i hc
      rcases List.mem_cons.mp hx with e | hx
      · rw [e]
        refine self _ ?_
        have := hc.2
        rw [fa_lt] at this
        exact this
      · exact (d3 x hx).on cov
    · exact (d3 x hx).on cov
  · unfold pasA at hx
    split at hx
    · rename_i hc
      rcases List.mem_cons.mp hx with e | hx
      · rw [e]
        refine self _ ?_
        have := hc.2
        rw [fa_lt] at this
        exact ⟨by omega, by omega⟩
      · exact (d4 x hx).on cov
    · exact (d4 x hx).on cov
  · by_cases e0 : j = k
    · subst e0
      rw [show upR ln j (A ++ y2 :: Bs) j = A ++ y2 :: Bs from if_pos rfl] at hw
      have old : w ∈ ln j → (mk < wE w → cSlot (nI j) (wB w) (wE w) ∈ dueA (ch = true) mk j (wB y1) (wE y1) D1) ∧ (¬ mk < wE w → mk.toInt < (wE w).toInt + sty → cSlot (nI j) (wB w) (wE w) ∈ pasA (ch = true) mk j (wB y1) (wE y1) D2) := fun hw => ⟨fun h => s1 _ ((d5 j hj w hw).1 h), fun h h' => s2 _ ((d5 j hj w hw).2 h h')⟩
      rcases List.mem_append.mp hw with hw | hw
      · exact old (pA w hw)
      · rcases List.mem_cons.mp hw with e | hw
        · subst e
          rw [w1, w2]
          rcases hC with hc | ⟨x, hx, hx1, hx2⟩
          · refine ⟨fun h => ?_, fun h h' => ?_⟩
            · unfold dueA
              rw [if_pos ⟨hc, h⟩]
              exact List.mem_cons_self
            · unfold pasA
              rw [if_pos ⟨hc, h⟩]
              exact List.mem_cons_self
          · rw [hx1, hx2]
            rw [hx1, hx2] at s1 s2
            exact ⟨fun h => s1 _ ((d5 j hj x (pT x hx)).1 h), fun h h' => s2 _ ((d5 j hj x (pT x hx)).2 h h')⟩
        · exact old (pB w hw)
    · rw [show upR ln k (A ++ y2 :: Bs) j = ln j from if_neg e0] at hw
      exact ⟨fun h => s1 _ ((d5 j hj w hw).1 h), fun h h' => s2 _ ((d5 j hj w hw).2 h h')⟩
end L61
