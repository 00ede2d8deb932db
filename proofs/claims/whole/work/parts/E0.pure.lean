/-! E0: what events and marks keep of lanes and rows, in lists -/
theorem back_rwb {s k : Nat} {rows : List Rw} {x : Wd} (hv : VB (wB x) (wE x)) (hk : k < 1000) (hs : s < 16) : ∀ r ∈ backOf s k rows x, RwB r := by
  intro r hr
  unfold backOf at hr
  split at hr
  · cases hr
  · split at hr
    · cases hr
    · rw [List.mem_singleton.mp hr]
      exact ⟨hv, hk, hs⟩
theorem fin_rwb {s k how : Nat} {gv : Prop} [Decidable gv] {rows : List Rw} {x : Wd} (hv : VB (wB x) (wE x)) (hk : k < 1000) (hs : s < 16) (hR : ∀ r ∈ rows, RwB r) : ∀ r ∈ (finW s k how gv rows x).2, RwB r := by
  intro r hr
  unfold finW at hr
  by_cases hg : gv
  · rw [if_pos hg] at hr
    rcases List.mem_append.mp hr with hr | hr
    · rcases List.mem_append.mp hr with hr | hr
      · exact hR r hr
      · exact back_rwb hv hk hs r hr
    · rw [List.mem_singleton.mp hr]
      exact ⟨hv, hk, hs⟩
  · rw [if_neg hg] at hr
    exact hR r hr
section LE0
variable {ses : Bool} {s k how ea : Nat} {sp mk to lt b : Int32} {v : Int64} {rows : List Rw} {L : List Wd} {ln : Nat → List Wd}
theorem ent_rwb (h : LnI ses s k sp mk rows L) (hB : BdE sp b) (hk : k < 1000) (hs : s < 16) (hR : ∀ r ∈ rows, RwB r) : ∀ r ∈ (entW ses s k how ea mk b (b + sp) v L rows).2, RwB r := by
  obtain ⟨x1, x2, x3, x4, x5, x6, x7, x8⟩ := ent_x (v := v) h hB
  have hB1 := hB.1
  refine fin_rwb ⟨x2.1, by omega, by omega, by omega⟩ hk hs (fun r hr => ?_)
  unfold entRw at hr
  split at hr
  · rcases List.mem_append.mp hr with hr | hr
    · exact hR r hr
    · obtain ⟨y, hy, hr⟩ := List.mem_flatMap.mp hr
      exact back_rwb (h.vb hB1 ((h.parts b (b + sp)).2.1 y hy)) hk hs r hr
  · exact hR r hr
/-- one window takes an event -/
theorem en_pure {T : (Nat → List Wd) × List Rw × Nat} (hI : ∀ j, j < 1000 → LnI ses s j sp mk T.2.1 (T.1 j)) (hB : BdE sp b) (hlt : 0 ≤ lt.toInt ∧ lt.toInt ≤ 100000) (hk : k < 1000) (hs : s < 16) (hR : ∀ r ∈ T.2.1, RwB r) :
    (∀ j, j < 1000 → LnI ses s j sp mk (enS ses s how ea sp lt mk k v T b).2.1 ((enS ses s how ea sp lt mk k v T b).1 j)) ∧ (∀ r ∈ (enS ses s how ea sp lt mk k v T b).2.1, RwB r) ∧
    ptR mk (enS ses s how ea sp lt mk k v T b).1 (enS ses s how ea sp lt mk k v T b).2.1 + 4 * sm vN T.1 ≤ ptR mk T.1 T.2.1 + 4 * sm vN (enS ses s how ea sp lt mk k v T b).1 ∧ sm vN T.1 ≤ sm vN (enS ses s how ea sp lt mk k v T b).1 ∧ sm vN (enS ses s how ea sp lt mk k v T b).1 ≤ sm vN T.1 + 1 ∧ ∃ more, (enS ses s how ea sp lt mk k v T b).2.1 = T.2.1 ++ more := by
  obtain ⟨b1, b2, b3, b4, b5⟩ := id hB
  have hIk := hI k hk
  have eE : (b + sp).toInt = b.toInt + sp.toInt := i32_add (by omega) (by omega)
  have eL : (b + sp + lt).toInt = b.toInt + sp.toInt + lt.toInt := by
    rw [i32_add (by omega) (by omega), eE]
  by_cases hd : b + sp + lt ≤ mk
  · have eX : enS ses s how ea sp lt mk k v T b = (T.1, T.2.1, T.2.2 + 1) := if_pos hd
    rw [eX]
    exact ⟨hI, hR, Nat.le_refl _, Nat.le_refl _, Nat.le_succ _, [], (List.append_nil _).symm⟩
  · have eX : enS ses s how ea sp lt mk k v T b = (upR T.1 k (entLn ses s k how ea mk b (b + sp) v (T.1 k) T.2.1), (entW ses s k how ea mk b (b + sp) v (T.1 k) T.2.1).2, T.2.2) := if_neg hd
    rw [eX]
    have hd2 : mk.toInt < b.toInt + sp.toInt + lt.toInt := by
      rw [fa_le, eL] at hd
      omega
    have hst : mk.toInt < b.toInt + sp.toInt + styI ses sp lt := by
      unfold styI
      split <;> omega
    have hst2 : ses = true → mk.toInt < b.toInt + 1 + styI ses sp lt := fun e => by
      unfold styI
      rw [if_pos e]
      omega
    obtain ⟨n1, n2, _⟩ := ent_cnt (how := how) (ea := ea) (v := v) hIk hB hst hst2
    obtain ⟨more, em⟩ := entW_app (how := how) (ea := ea) (v := v) hIk hB
    have u1 := sm_upd vN T.1 hk (entLn ses s k how ea mk b (b + sp) v (T.1 k) T.2.1)
    have u2 := sm_upd cR T.1 hk (entLn ses s k how ea mk b (b + sp) v (T.1 k) T.2.1)
    have u3 := sm_upd (cD mk) T.1 hk (entLn ses s k how ea mk b (b + sp) v (T.1 k) T.2.1)
    refine ⟨fun j hj => ?_, ent_rwb hIk hB hk hs hR, ?_, ?_, ?_, more, em⟩
    · show LnI ses s j sp mk (entW ses s k how ea mk b (b + sp) v (T.1 k) T.2.1).2 (upR T.1 k (entLn ses s k how ea mk b (b + sp) v (T.1 k) T.2.1) j)
      by_cases e : j = k
      · subst e
        rw [upR_at]
        exact hIk.ent hB
      · rw [upR_ne _ _ e, em]
        exact (hI j hj).app
    · show ptR mk (upR T.1 k (entLn ses s k how ea mk b (b + sp) v (T.1 k) T.2.1)) (entW ses s k how ea mk b (b + sp) v (T.1 k) T.2.1).2 + _ ≤ _ + 4 * sm vN (upR T.1 k (entLn ses s k how ea mk b (b + sp) v (T.1 k) T.2.1))
      unfold ptR
      omega
    · show sm vN T.1 ≤ sm vN (upR T.1 k (entLn ses s k how ea mk b (b + sp) v (T.1 k) T.2.1))
      omega
    · show sm vN (upR T.1 k (entLn ses s k how ea mk b (b + sp) v (T.1 k) T.2.1)) ≤ _
      omega
/-- windows hold at most N + 1 values, those from b on at most N -/
def WL (N : Nat) (b : Int) (ln : Nat → List Wd) : Prop := ∀ j, j < 1000 → ∀ w ∈ ln j, (wVs w).length ≤ N + 1 ∧ (b ≤ (wB w).toInt → (wVs w).length ≤ N)
theorem en_wl {N : Nat} {st : Int32} {T : (Nat → List Wd) × List Rw × Nat} (hI : LnI false s k sp mk T.2.1 (T.1 k)) (hB : BdE sp b) (hst : 1 ≤ st.toInt) (hW : WL N b.toInt T.1) : WL N (b.toInt + st.toInt) (enS false s how ea sp lt mk k v T b).1 := by
  by_cases hd : b + sp + lt ≤ mk
  · have eX : enS false s how ea sp lt mk k v T b = (T.1, T.2.1, T.2.2 + 1) := if_pos hd
    rw [eX]
    exact fun j hj w hw => ⟨(hW j hj w hw).1, fun h => (hW j hj w hw).2 (by omega)⟩
  · have eX : enS false s how ea sp lt mk k v T b = (upR T.1 k (entLn false s k how ea mk b (b + sp) v (T.1 k) T.2.1), (entW false s k how ea mk b (b + sp) v (T.1 k) T.2.1).2, T.2.2) := if_neg hd
    rw [eX]
    intro j hj w hw
    have hw : w ∈ upR T.1 k (entLn false s k how ea mk b (b + sp) v (T.1 k) T.2.1) j := hw
    by_cases e : j = k
    · subst e
      rw [upR_at] at hw
      obtain ⟨pA, pT, pB, _⟩ := hI.parts b (b + sp)
      have old : w ∈ T.1 j → (wVs w).length ≤ N + 1 ∧ (b.toInt + st.toInt ≤ (wB w).toInt → (wVs w).length ≤ N) := fun h => ⟨(hW j hj w h).1, fun h2 => (hW j hj w h).2 (by omega)⟩
      unfold entLn at hw
      rcases List.mem_append.mp hw with hw | hw
      · exact old (pA w hw)
      · rcases List.mem_cons.mp hw with e | hw
        · obtain ⟨x1, x2, x3, x4, x5, x6, x7, hrowX⟩ := ent_x (v := v) hI hB
          obtain ⟨y1, y2, y3, _⟩ := finW_p (how := how) (gv := entG false s j T.2.1 (entT false b (b + sp) (T.1 j)) mk ea (entX false b (b + sp) v (entT false b (b + sp) (T.1 j))) = true) hrowX
          have y1' : wB (entW false s j how ea mk b (b + sp) v (T.1 j) T.2.1).1 = wB (entX false b (b + sp) v (entT false b (b + sp) (T.1 j))) := y1
          have y3' : wVs (entW false s j how ea mk b (b + sp) v (T.1 j) T.2.1).1 = wVs (entX false b (b + sp) v (entT false b (b + sp) (T.1 j))) := y3
          rw [e, y1', y3']
          refine ⟨?_, fun h => by omega⟩
          rw [entX_len hI hB]
          obtain ⟨p1, p2, p3, p4⟩ := ent_pos hI hB
          have hl := p4 rfl
          match hT : entT false b (b + sp) (T.1 j) with
          | [] => exact Nat.le_add_left _ _
          | y :: r =>
            rw [hT] at hl
            have hr : r = [] := by
              rw [List.length_cons] at hl
              exact List.length_eq_zero_iff.mp (by omega)
            subst hr
            have hy : y ∈ entT false b (b + sp) (T.1 j) := by rw [hT]; exact List.mem_cons_self
            have h1 := p2 y hy
            have h2 := (hI.1 y (pT y hy)).2.2.2.2.2.2.1 rfl
            simp at h1
            have := (hW j hj y (pT y hy)).2 (by omega)
            show (wVs y).length + 0 + 1 ≤ N + 1
            omega
        · exact old (pB w hw)
    · rw [upR_ne _ _ e] at hw
      exact ⟨(hW j hj w hw).1, fun h2 => (hW j hj w hw).2 (by omega)⟩
/-- an event comes to a stage with windows -/
theorem tk_fold {st m : Int32} {N : Nat} (h1s : 1 ≤ sp.toInt) (h2s : sp.toInt ≤ 10001) (h1t : 1 ≤ st.toInt) (h2t : st.toInt ≤ 10001) (hlt : 0 ≤ lt.toInt ∧ lt.toInt ≤ 100000) (hk : k < 1000) (hs : s < 16) (hm : m.toInt ≤ 100000) :
    ∀ (n : Nat) (b : Int32) (T : (Nat → List Wd) × List Rw × Nat), n ≤ 4 → (∀ j, j < 1000 → LnI ses s j sp mk T.2.1 (T.1 j)) → (∀ r ∈ T.2.1, RwB r) → -10000 ≤ b.toInt → b.toInt ≤ 120000 → 0 < b.toInt + sp.toInt → (ses = false → WL N b.toInt T.1) →
      (∀ j, j < 1000 → LnI ses s j sp mk ((begs n b st m).foldl (enS ses s how ea sp lt mk k v) T).2.1 (((begs n b st m).foldl (enS ses s how ea sp lt mk k v) T).1 j)) ∧ (∀ r ∈ ((begs n b st m).foldl (enS ses s how ea sp lt mk k v) T).2.1, RwB r) ∧
      ptR mk ((begs n b st m).foldl (enS ses s how ea sp lt mk k v) T).1 ((begs n b st m).foldl (enS ses s how ea sp lt mk k v) T).2.1 + 4 * sm vN T.1 ≤ ptR mk T.1 T.2.1 + 4 * sm vN ((begs n b st m).foldl (enS ses s how ea sp lt mk k v) T).1 ∧ sm vN T.1 ≤ sm vN ((begs n b st m).foldl (enS ses s how ea sp lt mk k v) T).1 ∧ sm vN ((begs n b st m).foldl (enS ses s how ea sp lt mk k v) T).1 ≤ sm vN T.1 + (begs n b st m).length ∧
      (∃ more, ((begs n b st m).foldl (enS ses s how ea sp lt mk k v) T).2.1 = T.2.1 ++ more) ∧ (ses = false → ∀ j, j < 1000 → ∀ w ∈ ((begs n b st m).foldl (enS ses s how ea sp lt mk k v) T).1 j, (wVs w).length ≤ N + 1) := by
  intro n
  induction n with
  | zero =>
    intro b T hn hI hR b1 b2 b3 hW
    rw [show begs 0 b st m = [] from rfl, List.foldl_nil, List.length_nil, Nat.add_zero]
    exact ⟨hI, hR, Nat.le_refl _, Nat.le_refl _, Nat.le_refl _, ⟨[], (List.append_nil _).symm⟩, fun h j hj w hw => (hW h j hj w hw).1⟩
  | succ n ih =>
    intro b T hn hI hR b1 b2 b3 hW
    by_cases hle : b ≤ m
    · have eb : begs (n + 1) b st m = b :: begs n (b + st) st m := if_pos hle
      rw [eb, List.foldl_cons, List.length_cons]
      have hle2 := hle
      rw [fa_le] at hle2
      have hB : BdE sp b := ⟨h1s, h2s, b1, by omega, b3⟩
      obtain ⟨a1, a2, a3, a4, a5, ⟨more, a6⟩⟩ := en_pure (how := how) (ea := ea) (v := v) hI hB hlt hk hs hR
      have ebst : (b + st).toInt = b.toInt + st.toInt := i32_add (by omega) (by omega)
      obtain ⟨c1, c2, c3, c4, c5, ⟨more2, c6⟩, c7⟩ := ih (b + st) (enS ses s how ea sp lt mk k v T b) (by omega) a1 a2 (by omega) (by omega) (by omega) (fun h => by
        subst h
        rw [ebst]
        exact en_wl (hI k hk) hB h1t (hW rfl))
      exact ⟨c1, c2, by omega, by omega, by omega, ⟨more ++ more2, by rw [c6, a6, List.append_assoc]⟩, c7⟩
    · have eb : begs (n + 1) b st m = [] := if_neg hle
      rw [eb, List.foldl_nil, List.length_nil, Nat.add_zero]
      exact ⟨hI, hR, Nat.le_refl _, Nat.le_refl _, Nat.le_refl _, ⟨[], (List.append_nil _).symm⟩, fun h j hj w hw => (hW h j hj w hw).1⟩
/-- the windows that a mark reaches are given -/
theorem rs_fold (h1 : 1 ≤ sp.toInt) (hs : s < 16) : ∀ (U : List Int64) (ln : Nat → List Wd) (rows : List Rw) (D2 : List Int64), P1 ses s sp mk to 0 U ln rows D2 → (∀ r ∈ rows, RwB r) →
    (∃ D2', P1 ses s sp mk to 0 [] (U.foldl (gvS s how) (ln, rows)).1 (U.foldl (gvS s how) (ln, rows)).2 D2') ∧ (∀ r ∈ (U.foldl (gvS s how) (ln, rows)).2, RwB r) ∧ (U.foldl (gvS s how) (ln, rows)).2.length + sm cR (U.foldl (gvS s how) (ln, rows)).1 ≤ rows.length + sm cR ln + 2 * U.length ∧ ∃ more, (U.foldl (gvS s how) (ln, rows)).2 = rows ++ more := by
  intro U
  induction U with
  | nil =>
    intro ln rows D2 hP hR
    exact ⟨⟨D2, hP⟩, hR, Nat.le_refl _, [], (List.append_nil _).symm⟩
  | cons x U ih =>
    intro ln rows D2 hP hR
    rw [List.foldl_cons, List.length_cons]
    by_cases hx : ∃ k, k < 1000 ∧ ∃ w ∈ ln k, x = sSl k w
    · obtain ⟨k, hk, w, hw, ex⟩ := hx
      obtain ⟨A, B, hAB⟩ := List.append_of_mem hw
      obtain ⟨p1, p2⟩ := hP.hit (how := how) h1 (Int.le_refl 0) hk hAB ex
      have hI := hP.1 k hk
      have hvb := hI.vb h1 hw
      rw [hAB] at hI
      obtain ⟨g1, g2, ⟨more, g3⟩, g4⟩ := hI.give (how := how)
      rw [p2]
      have hR1 := fin_rwb (how := how) (gv := True) hvb hk hs hR
      have u1 := sm_upd cR ln hk (A ++ (finW s k how True rows w).1 :: B)
      rw [hAB] at u1
      obtain ⟨i1, i2, i3, ⟨more2, i4⟩⟩ := ih _ _ _ p1 hR1
      exact ⟨i1, i2, by omega, more ++ more2, by rw [i4, g3, List.append_assoc]⟩
    · have hn : ∀ k, k < 1000 → ∀ w ∈ ln k, x ≠ sSl k w := fun k hk w hw e => hx ⟨k, hk, w, hw, e⟩
      rw [hP.miss_gv hn]
      obtain ⟨i1, i2, i3, i4⟩ := ih _ _ _ (hP.skip hn) hR
      exact ⟨i1, i2, by omega, i4⟩
theorem fold_ext (how : Nat) : ∀ (U : List Int64) (X : (Nat → List Wd) × List Rw) (k : Nat), ((U.foldl (gvS s how) X).1 k).map ext = (X.1 k).map ext := by
  intro U
  induction U with
  | nil => exact fun _ _ => rfl
  | cons x U ih =>
    intro X k
    rw [List.foldl_cons, ih, gvS_ext]
theorem len_ones {α : Type} (l : List α) : (l.map (fun _ => 1)).sum = l.length := by
  induction l with
  | nil => rfl
  | cons x l ih =>
    rw [List.map_cons, List.sum_cons, ih, List.length_cons]
    omega
theorem rs_pure (hI : ∀ k, k < 1000 → LnI ses s k sp mk rows (ln k)) (h1 : 1 ≤ sp.toInt) (hs : s < 16) (hR : ∀ r ∈ rows, RwB r) (hmt : mk.toInt ≤ to.toInt) :
    (∀ k, k < 1000 → LnI ses s k sp to (rsS s how mk to (ln, rows)).2 ((rsS s how mk to (ln, rows)).1 k)) ∧ (∀ r ∈ (rsS s how mk to (ln, rows)).2, RwB r) ∧ (∀ k, ((rsS s how mk to (ln, rows)).1 k).map ext = (ln k).map ext) ∧ ptR to (rsS s how mk to (ln, rows)).1 (rsS s how mk to (ln, rows)).2 ≤ ptR mk ln rows ∧ sm vN (rsS s how mk to (ln, rows)).1 = sm vN ln ∧ ∃ more, (rsS s how mk to (ln, rows)).2 = rows ++ more := by
  have hnd := slo_nodup (P := fun w => decide (mk < wE w ∧ wE w ≤ to)) hI h1
  have hP : P1 ses s sp mk to 0 (srt (slo (fun w => decide (mk < wE w ∧ wE w ≤ to)) ln)) ln rows [] := by
    refine ⟨hI, fun k hk w hw => ⟨fun a b => Or.inl ?_, fun a b => ?_⟩, List.Pairwise.nil, fun x hx => (by cases hx), fun x hx => ⟨(by simp), ?_⟩, srt_strict hnd⟩
    · exact (srt_perm _).mem_iff.mpr (slo_mem.mpr ⟨k, hk, w, hw, decide_eq_true ⟨a, b⟩, rfl⟩)
    · rw [fa_lt] at a
      omega
    · obtain ⟨k, hk, w, hw, hp, ex⟩ := slo_mem.mp ((srt_perm _).mem_iff.mp hx)
      have hp := of_decide_eq_true hp
      rw [fa_lt, fa_le] at hp
      exact ⟨k, wB w, wE w, w, hk, ex, (hI k hk).vb h1 hw, hw, Int.le_refl _, Int.le_refl _, hp⟩
  obtain ⟨⟨D2', q1⟩, q2, q3, q4⟩ := rs_fold (how := how) h1 hs _ ln rows [] hP hR
  have eR : (srt (slo (fun w => decide (mk < wE w ∧ wE w ≤ to)) ln)).foldl (gvS s how) (ln, rows) = rsS s how mk to (ln, rows) := by
    unfold rsS
    rfl
  rw [eR] at q1 q2 q3 q4
  have q5 : ∀ k, ((rsS s how mk to (ln, rows)).1 k).map ext = (ln k).map ext := fun k => by
    unfold rsS
    exact fold_ext how _ (ln, rows) k
  have hlen : (srt (slo (fun w => decide (mk < wE w ∧ wE w ≤ to)) ln)).length + sm (cD to) ln = sm (cD mk) ln := by
    rw [(srt_perm _).length_eq, ← len_ones, slo_sum (fun _ => 1)]
    unfold sm
    rw [← fb_sm_add]
    exact fb_sm_cong (fun k _ => (cD_split (ln k) hmt).symm)
  have hcd : sm (cD to) (rsS s how mk to (ln, rows)).1 = sm (cD to) ln := by
    unfold sm
    exact fb_sm_cong (fun k _ => (ext_cnt (q5 k) 0 to).2.1)
  have hvn : sm vN (rsS s how mk to (ln, rows)).1 = sm vN ln := by
    unfold sm
    exact fb_sm_cong (fun k _ => (ext_cnt (q5 k) 0 to).1)
  refine ⟨fun k hk => ⟨fun x hx => ?_, (q1.1 k hk).2⟩, q2, q5, ?_, hvn, q4⟩
  · obtain ⟨a1, a2, a3, a4, a5, a6, a7, a8⟩ := (q1.1 k hk).1 x hx
    refine ⟨a1, a2, a3, a4, a5, a6, a7, fun hle => ?_⟩
    by_cases hm : mk < wE x
    · rcases (q1.2.1 k hk x hx).1 hm hle with z | z
      · cases z
      · exact z.1
    · exact a8 (Int32.not_lt.mp hm)
  · have q3' : (rsS s how mk to (ln, rows)).2.length + sm cR (rsS s how mk to (ln, rows)).1 ≤ rows.length + sm cR ln + 2 * (srt (slo (fun w => decide (mk < wE w ∧ wE w ≤ to)) ln)).length := q3
    unfold ptR
    omega
end LE0
