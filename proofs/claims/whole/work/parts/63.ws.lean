/-! 63: a stage with windows, whole: the state and enter -/
def styI (ses : Bool) (sp lt : Int32) : Int := lt.toInt + if ses then sp.toInt - 1 else 0
/-- the numbers of a stage with windows -/
def BdS (s how ea : Nat) (sp st lt mk : Int32) : Prop := s < 16 ∧ how ≤ 5 ∧ ea ≤ 1000 ∧ 1 ≤ sp.toInt ∧ sp.toInt ≤ 10001 ∧ 1 ≤ st.toInt ∧ st.toInt ≤ 10001 ∧ sp.toInt ≤ 4 * st.toInt ∧ 0 ≤ lt.toInt ∧ lt.toInt ≤ 100000 ∧ 0 ≤ mk.toInt ∧ mk.toInt ≤ 200000
def SS (s : Nat) : Nat → Prop := fun t => (1 + s * 1010 ≤ t ∧ t < 1 + s * 1010 + 1010) ∨ t = tL
def aS (ac : Nat → Nat × Nat) : Nat := fb_sm (fun k => (ac k).1) 1000
def aZ (ac : Nat → Nat × Nat) : Nat := fb_sm (fun k => (ac k).2) 1000
/-- stage s at p: lanes ln, rows; US and UZ are what it has cost -/
def WS (g : Gl) (h : Hp) (ow : Nat → Nat) (s p lg A q1 q2 : Nat) (ses : Bool) (how ea : Nat) (sp st lt mk : Int32) (dr : Nat) (ln : Nat → List Wd) (rows : List Rw) (US UZ : Nat) : Prop :=
  ∃ ac D1 D2 s1 c1 b1 s2 c2 b2, WG g h ow s p lg A q1 q2 how (if ses then 1 else 0) ln ac rows D1 D2 s1 c1 b1 s2 c2 b2 ∧
    (fI h 1 p = mk ∧ fI h 13 p = sp ∧ fI h 14 p = st ∧ fI h 15 p = (if ses then 1 else 0) ∧ fI h 21 p = lt ∧ fI h 22 p = nI ea ∧ fI h 23 p = nI dr) ∧
    (fI h 24 p = nI (sm (cT (styI ses sp lt) mk) ln) ∧ fI h 25 p = nI (sm (cH (styI ses sp lt) mk) ln) ∧ fI h 26 p = nI (sm cR ln)) ∧
    (∀ k, k < 1000 → LnI ses s k sp mk rows (ln k)) ∧ DI (styI ses sp lt) mk ln D1 D2 ∧ b1 ≤ sm vN ln ∧ b2 + D1.length ≤ 2 * sm vN ln ∧ US = aS ac + s1 + s2 ∧ UZ = aZ ac + c1 + c2
/-- what enter does to lanes, rows and the number of dropped ones -/
def enS (ses : Bool) (s how ea : Nat) (sp lt mk : Int32) (k : Nat) (v : Int64) (X : (Nat → List Wd) × List Rw × Nat) (b : Int32) : (Nat → List Wd) × List Rw × Nat :=
  if b + sp + lt ≤ mk then (X.1, X.2.1, X.2.2 + 1) else (upR X.1 k (entLn ses s k how ea mk b (b + sp) v (X.1 k) X.2.1), (entW ses s k how ea mk b (b + sp) v (X.1 k) X.2.1).2, X.2.2)
/-- the potential of rows -/
def ptR (mk : Int32) (ln : Nat → List Wd) (rows : List Rw) : Nat := rows.length + sm cR ln + 2 * sm (cD mk) ln
theorem acs_upd (ac : Nat → Nat × Nat) {k : Nat} (hk : k < 1000) (sl ce : Nat) : aS (upR ac k (sl, ce)) + (ac k).1 = aS ac + sl ∧ aZ (upR ac k (sl, ce)) + (ac k).2 = aZ ac + ce := by
  have h1 := fb_sm_upd (fun j => (ac j).1) sl hk
  have h2 := fb_sm_upd (fun j => (ac j).2) ce hk
  have e1 : (fun j => (upR ac k (sl, ce) j).1) = fun j => if j = k then sl else (ac j).1 := funext fun j => by
    unfold upR
    split <;> rfl
  have e2 : (fun j => (upR ac k (sl, ce) j).2) = fun j => if j = k then ce else (ac j).2 := funext fun j => by
    unfold upR
    split <;> rfl
  unfold aS aZ
  rw [e1, e2]
  exact ⟨h1, h2⟩
theorem lane_len {ses : Bool} {s k : Nat} {sp mk : Int32} {rows : List Rw} {L : List Wd} (h : LnI ses s k sp mk rows L) : L.length ≤ cR L + cD mk L := by
  have h1 := h.1
  clear h
  unfold cR cD
  induction L with
  | nil => exact Nat.le_refl _
  | cons x L ih =>
    have := ih (fun y hy => h1 y (List.mem_cons_of_mem _ hy))
    rw [List.length_cons, List.countP_cons, List.countP_cons]
    have hx := (h1 x List.mem_cons_self).2.2.2.2.2.2.2
    by_cases hm : mk < wE x
    · rw [if_pos (decide_eq_true hm)]
      omega
    · have hr := hx (Int32.not_lt.mp hm)
      rw [if_pos (Option.isSome_iff_ne_none.mpr hr)]
      omega
section L63
variable {g : Gl} {d : Nat} {h : Hp} {Q : Option Value → Hp → Prop} {ow : Nat → Nat} {s p lg A q1 q2 how ea k : Nat} {ses : Bool} {sp st lt mk : Int32}
theorem nI_sub {a c : Nat} (hc : c ≤ a) : nI a - nI c = nI (a - c) := by
  have : nI a = nI (a - c) + nI c := by rw [nI_add]; congr 1; omega
  rw [this]
  exact Int32.add_sub_cancel _ _
theorem vN_len (L : List Wd) (h : ∀ x ∈ L, wVs x ≠ []) : L.length ≤ vN L := by
  induction L with
  | nil => exact Nat.le_refl _
  | cons x L ih =>
    have h1 := ih (fun y hy => h y (List.mem_cons_of_mem _ hy))
    have h2 : 0 < (wVs x).length := List.length_pos_iff.mpr (h x List.mem_cons_self)
    rw [vN_cons, List.length_cons]
    omega
theorem k_enterS {b : Int32} {v : Int64} {dr US UZ : Nat} {ln : Nat → List Wd} {rows : List Rw} (hW : WS g h ow s p lg A q1 q2 ses how ea sp st lt mk dr ln rows US UZ) (hB : BdS s how ea sp st lt mk) (hk : k < 1000) (b3 : -10000 ≤ b.toInt) (b4 : b.toInt ≤ 100000) (b5 : 0 < b.toInt + sp.toInt) (hv : sm vN ln < 100000) (hr : ptR mk ln rows + 4 ≤ 192010)
    (hQ : ∀ h' ow' US' UZ', WS g h' ow' s p lg A q1 q2 ses how ea sp st lt mk (enS ses s how ea sp lt mk k v (ln, rows, dr) b).2.2 (enS ses s how ea sp lt mk k v (ln, rows, dr) b).1 (enS ses s how ea sp lt mk k v (ln, rows, dr) b).2.1 US' UZ' → Fr ow ow' (SS s) h h' → PFl [23, 24, 25, 26] p h h' → hs h' + US + lgS rows.length ≤ hs h + US' + lgS (enS ses s how ea sp lt mk k v (ln, rows, dr) b).2.1.length → hz h' + UZ + lgZ rows.length ≤ hz h + UZ' + lgZ (enS ses s how ea sp lt mk k v (ln, rows, dr) b).2.1.length →
      ptR mk (enS ses s how ea sp lt mk k v (ln, rows, dr) b).1 (enS ses s how ea sp lt mk k v (ln, rows, dr) b).2.1 + 4 * sm vN ln ≤ ptR mk ln rows + 4 * sm vN (enS ses s how ea sp lt mk k v (ln, rows, dr) b).1 → sm vN ln ≤ sm vN (enS ses s how ea sp lt mk k v (ln, rows, dr) b).1 ∧ sm vN (enS ses s how ea sp lt mk k v (ln, rows, dr) b).1 ≤ sm vN ln + 1 → (∃ more, (enS ses s how ea sp lt mk k v (ln, rows, dr) b).2.1 = rows ++ more) → Q none h') :
    Call g mX8_enter (d + 9) [.ref p, .int (nI k), .int b, .long v] h Q := by
  obtain ⟨ac, D1, D2, s1, c1, b1, s2, c2, b2, W, ⟨f1, f13, f14, f15, f21, f22, f23⟩, ⟨f24, f25, f26⟩, hI, hD, hb1, hb2, eS, eZ⟩ := hW
  obtain ⟨B1, B2, B3, B4, B5, B6, B7, B8, B9, B10, B11, B12⟩ := hB
  have hBd : BdE sp b := ⟨B4, B5, b3, b4, b5⟩
  have hIk := hI k hk
  have eE : (b + sp).toInt = b.toInt + sp.toInt := i32_add (by omega) (by omega)
  have eL : (b + sp + lt).toInt = b.toInt + sp.toInt + lt.toInt := by
    rw [i32_add (by omega) (by omega), eE]
  have hvk := sm_le vN ln hk
  have hRk := sm_le cR ln hk
  have hDk := sm_le (cD mk) ln hk
  have hlk := lane_len hIk
  unfold ptR at hr
  refine k_enter (d := d) (ses := ses) W B1 hk (fun e => by rw [e]; rfl) B2 (hIk.ok B4) (by omega) (by omega) f1 f13 f21 f22 (by omega) (by omega) (by omega) f15 (fun hd => ?_) (fun hd h' ow' sl' ce' s1' c1' s2' c2' W' fr pf l24 l25 l26 y1 y2 => ?_)
  · have eX : enS ses s how ea sp lt mk k v (ln, rows, dr) b = (ln, rows, dr + 1) := if_pos hd
    rw [eX] at hQ
    have W0 := W
    obtain ⟨hC, h20, hL, hLog, hD1, hD2, gd⟩ := W
    have frP : Fr ow ow (fun t => t = tP s) h (sFI h 23 p (fI h 23 p + 1)) := Fr.of0 (P := fun a => a = p) (Smo_sFI rfl) (fun a _ e => e ▸ hC.2.1)
    have pf : PFl [23] p h (sFI h 23 p (fI h 23 p + 1)) := ⟨rfl, fun f' hf => fi_ne _ _ _ _ (fun e => hf (by rw [e]; exact List.mem_singleton.mpr rfl)), fun _ => rfl⟩
    have n0 : ¬ (0 : Nat) = tP s := by unfold tP; omega
    refine hQ _ ow US UZ ⟨ac, D1, D2, s1, c1, b1, s2, c2, b2, ⟨hC.on pf (by decide) rfl rfl rfl rfl, (fi_ne _ _ _ _ (by decide)).trans h20, hL.fr gd frP (fun j hj => by unfold tP tg; omega) n0 rfl, hLog.fr gd.1 frP (by unfold tL tP; omega), hD1.fr gd.1 frP (by unfold tD tP; omega), hD2.fr gd.1 frP (by unfold tQ tP; omega), ⟨Wf_same rfl rfl gd.1, gd.2⟩⟩, ⟨(fi_ne _ _ _ _ (by decide)).trans f1, (fi_ne _ _ _ _ (by decide)).trans f13, (fi_ne _ _ _ _ (by decide)).trans f14, (fi_ne _ _ _ _ (by decide)).trans f15, (fi_ne _ _ _ _ (by decide)).trans f21, (fi_ne _ _ _ _ (by decide)).trans f22, ?_⟩, ⟨(fi_ne _ _ _ _ (by decide)).trans f24, (fi_ne _ _ _ _ (by decide)).trans f25, (fi_ne _ _ _ _ (by decide)).trans f26⟩, hI, hD, hb1, hb2, eS, eZ⟩ (frP.mono (fun t e => Or.inl (by rw [e]; unfold tP; omega))) (pf.mono (fun f hf => by simp at hf; simp [hf])) (Nat.le_refl _) (Nat.le_refl _) (Nat.le_refl _) ⟨Nat.le_refl _, Nat.le_succ _⟩ ⟨[], (List.append_nil _).symm⟩
    rw [fi_eq, f23]
    exact nI_1 _
  · have eX : enS ses s how ea sp lt mk k v (ln, rows, dr) b = (upR ln k (entLn ses s k how ea mk b (b + sp) v (ln k) rows), (entW ses s k how ea mk b (b + sp) v (ln k) rows).2, dr) := if_neg hd
    rw [eX] at hQ
    have hd2 : mk.toInt < b.toInt + sp.toInt + lt.toInt := by
      rw [fa_le, eL] at hd
      omega
    have hst : mk.toInt < b.toInt + sp.toInt + styI ses sp lt := by
      unfold styI
      split <;> omega
    have hst2 : ses = true → mk.toInt < b.toInt + 1 + styI ses sp lt := fun e => by
      unfold styI
      rw [if_pos e]
      omega
    obtain ⟨n1, n2, n3, n4, n5⟩ := ent_cnt (how := how) (ea := ea) (v := v) hIk hBd hst hst2
    obtain ⟨more, em⟩ := entW_app (how := how) (ea := ea) (v := v) hIk hBd
    have hI' : ∀ j, j < 1000 → LnI ses s j sp mk (entW ses s k how ea mk b (b + sp) v (ln k) rows).2 (upR ln k (entLn ses s k how ea mk b (b + sp) v (ln k) rows) j) := fun j hj => by
      by_cases e : j = k
      · subst e
        rw [show upR ln j (entLn ses s j how ea mk b (b + sp) v (ln j) rows) j = entLn ses s j how ea mk b (b + sp) v (ln j) rows from if_pos rfl]
        exact hIk.ent hBd
      · rw [show upR ln k (entLn ses s k how ea mk b (b + sp) v (ln k) rows) j = ln j from if_neg e, em]
        exact (hI j hj).app
    have hD' := hD.ent (how := how) (ea := ea) (v := v) hI hBd hk hst
    have u1 := sm_upd vN ln hk (entLn ses s k how ea mk b (b + sp) v (ln k) rows)
    have u2 := sm_upd cR ln hk (entLn ses s k how ea mk b (b + sp) v (ln k) rows)
    have u3 := sm_upd (cD mk) ln hk (entLn ses s k how ea mk b (b + sp) v (ln k) rows)
    have u4 := sm_upd (cT (styI ses sp lt) mk) ln hk (entLn ses s k how ea mk b (b + sp) v (ln k) rows)
    have u5 := sm_upd (cH (styI ses sp lt) mk) ln hk (entLn ses s k how ea mk b (b + sp) v (ln k) rows)
    have hTk := sm_le (cT (styI ses sp lt) mk) ln hk
    obtain ⟨a1, a2⟩ := acs_upd ac hk sl' ce'
    have hdl : (dueA (entC ses b (b + sp) v (entT ses b (b + sp) (ln k)) = true) mk k (wB (entX ses b (b + sp) v (entT ses b (b + sp) (ln k)))) (wE (entX ses b (b + sp) v (entT ses b (b + sp) (ln k)))) D1).length ≤ D1.length + 1 := by
      unfold dueA
      split
      · exact Nat.le_refl _
      · exact Nat.le_succ _
    refine hQ h' ow' (aS (upR ac k (sl', ce')) + s1' + s2') (aZ (upR ac k (sl', ce')) + c1' + c2') ⟨upR ac k (sl', ce'), _, _, s1', c1', b1 + 1, s2', c2', b2 + 1, W', ⟨(pf.2.1 1 (by decide)).trans f1, (pf.2.1 13 (by decide)).trans f13, (pf.2.1 14 (by decide)).trans f14, (pf.2.1 15 (by decide)).trans f15, (pf.2.1 21 (by decide)).trans f21, (pf.2.1 22 (by decide)).trans f22, (pf.2.1 23 (by decide)).trans f23⟩, ⟨?_, ?_, ?_⟩, hI', hD', ?_, ?_, rfl, rfl⟩ (fr.mono (fun t e => ?_)) (pf.mono (fun f hf => by simp at hf; rcases hf with e | e | e <;> simp [e])) ?_ ?_ ?_ ?_ ⟨more, em⟩
    · rw [l24, f24, nI_1, nI_sub (by show (entT ses b (b + sp) (ln k)).length ≤ sm (cT (styI ses sp lt) mk) ln + 1; omega)]
      refine congrArg nI ?_
      show _ = sm (cT (styI ses sp lt) mk) (upR ln k (entLn ses s k how ea mk b (b + sp) v (ln k) rows))
      omega
    · rw [l25, f25, nI_1]
      refine congrArg nI ?_
      show _ = sm (cH (styI ses sp lt) mk) (upR ln k (entLn ses s k how ea mk b (b + sp) v (ln k) rows))
      omega
    · rw [l26, f26, n5 _ hRk]
      refine congrArg nI ?_
      show _ = sm cR (upR ln k (entLn ses s k how ea mk b (b + sp) v (ln k) rows))
      omega
    · show b1 + 1 ≤ sm vN (upR ln k (entLn ses s k how ea mk b (b + sp) v (ln k) rows))
      omega
    · show _ ≤ 2 * sm vN (upR ln k (entLn ses s k how ea mk b (b + sp) v (ln k) rows))
      omega
    · unfold S6 S5 tg tP tL tD tQ tA at e
      unfold SS tL
      omega
    · show _ ≤ _ + lgS (entW ses s k how ea mk b (b + sp) v (ln k) rows).2.length
      omega
    · show _ ≤ _ + lgZ (entW ses s k how ea mk b (b + sp) v (ln k) rows).2.length
      omega
    · show ptR mk (upR ln k (entLn ses s k how ea mk b (b + sp) v (ln k) rows)) (entW ses s k how ea mk b (b + sp) v (ln k) rows).2 + _ ≤ _ + 4 * sm vN (upR ln k (entLn ses s k how ea mk b (b + sp) v (ln k) rows))
      unfold ptR
      omega
    · show sm vN ln ≤ sm vN (upR ln k (entLn ses s k how ea mk b (b + sp) v (ln k) rows)) ∧ sm vN (upR ln k (entLn ses s k how ea mk b (b + sp) v (ln k) rows)) ≤ _
      omega
end L63
