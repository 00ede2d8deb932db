/-! C6: the model: comeSession, the windows that an event is near to -/
def neO (s ky : Nat) (P : Wd → Bool) : Option Mw → Bool
  | some (s', k', w, _) => decide (s' = s ∧ k' = ky) && P w
  | none => false
def neL (ws : List (Option Mw)) (s ky : Nat) (P : Wd → Bool) (n : Nat) : List Nat := (List.range n).filter (fun k => neO s ky P ((ws[k]?).getD none))
theorem neL_succ (ws : List (Option Mw)) (s ky : Nat) (P : Wd → Bool) (n : Nat) : neL ws s ky P (n + 1) = neL ws s ky P n ++ if neO s ky P ((ws[n]?).getD none) then [n] else [] := by
  unfold neL
  rw [List.range_succ, List.filter_append]
  congr 1
  by_cases h : neO s ky P ((ws[n]?).getD none) = true
  · rw [if_pos h]
    simp [h]
  · rw [if_neg h]
    simp [h]
theorem neL_len (ws : List (Option Mw)) (s ky : Nat) (P : Wd → Bool) (n : Nat) : (neL ws s ky P n).length ≤ n := by
  unfold neL
  have := List.length_filter_le (fun k => neO s ky P ((ws[k]?).getD none)) (List.range n)
  rw [List.length_range] at this
  exact this
theorem neL_D {ws : List (Option Mw)} {s ky : Nat} {P : Wd → Bool} {n k : Nat} (hk : k ∈ neL ws s ky P n) (hn : n ≤ ws.length) : k < n ∧ ∃ w es, ws[k]? = some (some (s, ky, w, es)) ∧ P w = true := by
  obtain ⟨h1, h2⟩ := List.mem_filter.mp hk
  have hl : k < n := List.mem_range.mp h1
  have hl2 : k < ws.length := by omega
  refine ⟨hl, ?_⟩
  rw [List.getElem?_eq_getElem hl2] at h2 ⊢
  have h2 : neO s ky P ws[k] = true := h2
  generalize ws[k] = o at h2
  match o, h2 with
  | some (s', k', w, es), h2 =>
    have h3 : (decide (s' = s ∧ k' = ky) && P w) = true := h2
    rw [Bool.and_eq_true, decide_eq_true_iff] at h3
    obtain ⟨⟨rfl, rfl⟩, h4⟩ := h3
    exact ⟨w, es, rfl, h4⟩
/-- the begin of window k -/
def bgK (u : Mu) (k : Nat) : Int := (mI u 21 k).toInt
def lN0 (l : List Nat) (i : Nat) : Nat := (l[i]?).getD 0
theorem lN0_at {l : List Nat} {i : Nat} (hi : i < l.length) : l[i]? = some (lN0 l i) := by
  unfold lN0
  rw [List.getElem?_eq_getElem hi]
  rfl
theorem insK {f : Nat → Int} {l : List Nat} {k at_ : Nat} (hs : l.Pairwise (fun x y => f x ≤ f y)) (ha : at_ ≤ l.length) (h1 : ∀ j, j < at_ → f (lN0 l j) ≤ f k) (h2 : ∀ j, at_ ≤ j → j < l.length → f k < f (lN0 l j)) : (l.take at_ ++ k :: l.drop at_).Pairwise (fun x y => f x ≤ f y) ∧ (l.take at_ ++ k :: l.drop at_).Perm (l ++ [k]) := by
  have hm : ∀ y ∈ l.take at_, f y ≤ f k := fun y hy => by
    obtain ⟨i, hi, rfl⟩ := List.mem_iff_getElem.mp hy
    rw [List.length_take] at hi
    rw [List.getElem_take]
    have := h1 i (by omega)
    unfold lN0 at this
    rw [List.getElem?_eq_getElem (by omega)] at this
    exact this
  have hm2 : ∀ y ∈ l.drop at_, f k ≤ f y := fun y hy => by
    obtain ⟨i, hi, rfl⟩ := List.mem_iff_getElem.mp hy
    rw [List.length_drop] at hi
    rw [List.getElem_drop]
    have := h2 (at_ + i) (by omega) (by omega)
    unfold lN0 at this
    rw [List.getElem?_eq_getElem (by omega)] at this
    exact Int.le_of_lt this
  refine ⟨?_, ?_⟩
  · have hs' : (l.take at_ ++ l.drop at_).Pairwise (fun x y => f x ≤ f y) := by rw [List.take_append_drop]; exact hs
    obtain ⟨p1, p2, p3⟩ := List.pairwise_append.mp hs'
    refine List.pairwise_append.mpr ⟨p1, List.pairwise_cons.mpr ⟨hm2, p2⟩, fun y hy z hz => ?_⟩
    rcases List.mem_cons.mp hz with e | hz
    · exact e ▸ hm y hy
    · exact p3 y hy z hz
  · refine List.perm_middle.trans ?_
    rw [List.take_append_drop]
    exact (List.perm_append_singleton k l).symm
section LC6
variable {g : Gl} {d : Nat} {h : Hp} {m : Nat} {u : Mu} {Q : Option Value → Hp → Prop} {X : Sg} {ws : List (Option Mw)} {s ky : Nat}
theorem cs_in {n k : Nat} {l : List Nat} {mi near : Int32} {va : Int64} (hm : MK h m) (hn : n < 48100) (hk : k < 48100) (hs : l.Pairwise (fun x y => bgK u x ≤ bgK u y)) (hl : l.length = n) (hl48 : ∀ x ∈ l, x < 48100) :
    ∀ (t at_ : Nat) (v : Mu), at_ ≤ t → at_ ≤ n → Scr u v → (∀ j, j < at_ → mI v 36 j = nI (lN0 l j)) → (∀ j, at_ < j → j ≤ n → mI v 36 j = nI (lN0 l (j - 1))) → (∀ j, at_ ≤ j → j < n → bgK u k < bgK u (lN0 l j)) →
      (∀ v' l', Scr u v' → FO v' l' → l'.Pairwise (fun x y => bgK u x ≤ bgK u y) → l'.Perm (l ++ [k]) → V g mX10_comeSession (d + 4) 191 [.ref m, .int (nI s), .int (nI ky), .int mi, .long va, zz, .int (nI n), .int (nI k), zz, zz, zz, zz, zz] [] (mh h m v') Q) →
      V g mX10_comeSession (d + 4) 131 [.ref m, .int (nI s), .int (nI ky), .int mi, .long va, zz, .int (nI n), .int (nI k), .int near, .int (nI at_), zz, zz, zz] [] (mh h m v) Q := by
  have done : ∀ (at_ : Nat) (v : Mu), at_ ≤ n → Scr u v → (∀ j, j < at_ → mI v 36 j = nI (lN0 l j)) → (∀ j, at_ < j → j ≤ n → mI v 36 j = nI (lN0 l (j - 1))) → (∀ j, at_ ≤ j → j < n → bgK u k < bgK u (lN0 l j)) → (∀ j, j < at_ → bgK u (lN0 l j) ≤ bgK u k) →
      (∀ v' l', Scr u v' → FO v' l' → l'.Pairwise (fun x y => bgK u x ≤ bgK u y) → l'.Perm (l ++ [k]) → V g mX10_comeSession (d + 4) 191 [.ref m, .int (nI s), .int (nI ky), .int mi, .long va, zz, .int (nI n), .int (nI k), zz, zz, zz, zz, zz] [] (mh h m v') Q) →
      V g mX10_comeSession (d + 4) 182 [.ref m, .int (nI s), .int (nI ky), .int mi, .long va, zz, .int (nI n), .int (nI k), .int near, .int (nI at_), zz, zz, zz] [] (mh h m v) Q := fun at_ v han hc q1 q2 q3 q4 hQ => by
    refine v_ald0 (q := 183) dX10_comeSession_182 rfl rfl ?_
    refine w_ga (q := 186) (j := 36) dX10_comeSession_183 rfl hm (by decide) gf_X10_119_9 ?_
    refine v_ild9 (q := 188) dX10_comeSession_186 rfl ?_
    refine v_ild7 (q := 190) dX10_comeSession_188 rfl ?_
    refine w_iast (q := 191) (n := 48100) dX10_comeSession_190 rfl hm (by decide) rfl rfl rfl (by omega) ?_
    refine v_fg (FG.k (FG.k (FG.k (FG.k (FG.k (FG.k (FG.k (FG.k (FG.z (FG.z (FG.z (FG.z (FG.z FG.nil))))))))))))) ?_
    obtain ⟨p1, p2⟩ := insK (f := bgK u) (k := k) hs (by omega) q4 (fun j h1 h2 => q3 j h1 (by omega))
    refine hQ _ _ (hc.fo _ _) (fun j y hj => ?_) p1 p2
    have htl : (l.take at_).length = at_ := by rw [List.length_take]; omega
    by_cases e : j = at_
    · subst e
      rw [mI_at]
      rw [List.getElem?_append_right (by omega), htl, Nat.sub_self] at hj
      rw [Option.some.inj hj]
    · rw [mI_ni _ e]
      rcases Nat.lt_or_ge j at_ with b | b
      · rw [List.getElem?_append_left (by omega), List.getElem?_take_of_lt b, lN0_at (by omega)] at hj
        rw [q1 j b, Option.some.inj hj]
      · have hjl := (List.getElem?_eq_some_iff.mp hj).1
        rw [List.length_append, List.length_cons, htl, List.length_drop] at hjl
        rw [List.getElem?_append_right (by omega), htl, show j - at_ = (j - at_ - 1) + 1 by omega, List.getElem?_cons_succ, List.getElem?_drop, show at_ + (j - at_ - 1) = j - 1 by omega, lN0_at (by omega)] at hj
        rw [q2 j (by omega) (by omega), Option.some.inj hj]
  intro t
  induction t with
  | zero =>
    intro at_ v ht han hc q1 q2 q3 hQ
    have : at_ = 0 := by omega
    subst this
    refine v_ild9 (q := 133) dX10_comeSession_131 rfl ?_
    refine v_if_le (t := 182) (q := 136) dX10_comeSession_133 (by decide) rfl (fun _ => ?_) (fun z => absurd (show nI 0 ≤ nI 0 from Int32.le_refl _) z)
    exact done 0 v han hc q1 q2 q3 (fun j hj => absurd hj (Nat.not_lt_zero _)) hQ
  | succ t ih =>
    intro at_ v ht han hc q1 q2 q3 hQ
    refine v_ild9 (q := 133) dX10_comeSession_131 rfl ?_
    by_cases h0 : at_ = 0
    · subst h0
      refine v_if_le (t := 182) (q := 136) dX10_comeSession_133 (by decide) rfl (fun _ => ?_) (fun z => absurd (show nI 0 ≤ nI 0 from Int32.le_refl _) z)
      exact done 0 v han hc q1 q2 q3 (fun j hj => absurd hj (Nat.not_lt_zero _)) hQ
    refine v_if_le (t := 182) (q := 136) dX10_comeSession_133 (by decide) rfl (fun z => absurd z (show ¬ nI at_ ≤ nI 0 from nI_ge (by omega) (by omega))) (fun _ => ?_)
    have hmem : lN0 l (at_ - 1) < 48100 := hl48 _ (List.mem_of_getElem? (lN0_at (by omega)))
    refine v_ald0 (q := 137) dX10_comeSession_136 rfl rfl ?_
    refine w_ga (q := 140) (j := 21) dX10_comeSession_137 rfl hm (by decide) gf_X10_73_9 ?_
    refine v_ald0 (q := 141) dX10_comeSession_140 rfl rfl ?_
    refine w_ga (q := 144) (j := 36) dX10_comeSession_141 rfl hm (by decide) gf_X10_119_9 ?_
    refine v_ild9 (q := 146) dX10_comeSession_144 rfl ?_
    refine v_iconst (q := 147) (v := 1) dX10_comeSession_146 rfl (by decide) ?_
    refine v_isub (q := 148) dX10_comeSession_147 rfl ?_
    rw [show (1 : Int32) = nI 1 from rfl, nI_sub (by omega)]
    refine w_iald (q := 149) (n := 48100) dX10_comeSession_148 rfl hm (by decide) rfl rfl rfl (by omega) ?_
    rw [q1 (at_ - 1) (by omega)]
    refine w_iald (q := 150) (n := 48100) dX10_comeSession_149 rfl hm (by decide) rfl rfl rfl (by omega) ?_
    refine v_ald0 (q := 151) dX10_comeSession_150 rfl rfl ?_
    refine w_ga (q := 154) (j := 21) dX10_comeSession_151 rfl hm (by decide) gf_X10_73_9 ?_
    refine v_ild7 (q := 156) dX10_comeSession_154 rfl ?_
    refine w_iald (q := 157) (n := 48100) dX10_comeSession_156 rfl hm (by decide) rfl rfl rfl (by omega) ?_
    rw [hc.1 21 (by decide)]
    by_cases hle : mI u 21 (lN0 l (at_ - 1)) ≤ mI u 21 k
    · refine v_icmp_le (t := 182) (q := 160) dX10_comeSession_157 (by decide) rfl (fun _ => ?_) (fun z => absurd hle z)
      refine done at_ v han hc q1 q2 q3 (fun j hj => ?_) hQ
      have hle' : bgK u (lN0 l (at_ - 1)) ≤ bgK u k := by
        unfold bgK
        rw [fa_le] at hle
        exact hle
      by_cases e : j = at_ - 1
      · rw [e]
        exact hle'
      · have hp := List.pairwise_iff_getElem.mp hs j (at_ - 1) (by omega) (by omega) (by omega)
        have e1 := lN0_at (l := l) (i := j) (by omega)
        have e2 := lN0_at (l := l) (i := at_ - 1) (by omega)
        rw [List.getElem?_eq_getElem (by omega)] at e1 e2
        rw [Option.some.inj e1, Option.some.inj e2] at hp
        omega
    · refine v_icmp_le (t := 182) (q := 160) dX10_comeSession_157 (by decide) rfl (fun z => absurd z hle) (fun _ => ?_)
      refine v_ald0 (q := 161) dX10_comeSession_160 rfl rfl ?_
      refine w_ga (q := 164) (j := 36) dX10_comeSession_161 rfl hm (by decide) gf_X10_119_9 ?_
      refine v_ild9 (q := 166) dX10_comeSession_164 rfl ?_
      refine v_ald0 (q := 167) dX10_comeSession_166 rfl rfl ?_
      refine w_ga (q := 170) (j := 36) dX10_comeSession_167 rfl hm (by decide) gf_X10_119_9 ?_
      refine v_ild9 (q := 172) dX10_comeSession_170 rfl ?_
      refine v_iconst (q := 173) (v := 1) dX10_comeSession_172 rfl (by decide) ?_
      refine v_isub (q := 174) dX10_comeSession_173 rfl ?_
      rw [show (1 : Int32) = nI 1 from rfl, nI_sub (by omega)]
      refine w_iald (q := 175) (n := 48100) dX10_comeSession_174 rfl hm (by decide) rfl rfl rfl (by omega) ?_
      rw [q1 (at_ - 1) (by omega)]
      refine w_iast (q := 176) (n := 48100) dX10_comeSession_175 rfl hm (by decide) rfl rfl rfl (by omega) ?_
      refine v_inc9 (q := 179) dX10_comeSession_176 rfl (by decide) rfl rfl ?_
      rw [show nI at_ + Int32.ofInt (-1) = nI (at_ - 1) from by
        rw [show Int32.ofInt (-1) = - nI 1 from rfl, ← Int32.sub_eq_add_neg, nI_sub (by omega)]]
      refine v_goto (q := 131) dX10_comeSession_179 (by decide) ?_
      refine ih (at_ - 1) _ (by omega) (by omega) (hc.fo _ _) (fun j hj => ?_) (fun j h1 h2 => ?_) (fun j h1 h2 => ?_) hQ
      · rw [mI_ni _ (by omega)]
        exact q1 j (by omega)
      · by_cases e : j = at_
        · rw [e, mI_at]
        · rw [mI_ni _ e]
          exact q2 j (by omega) h2
      · by_cases e : j = at_ - 1
        · rw [e]
          unfold bgK
          rw [fa_le] at hle
          omega
        · exact q3 j (by omega) h2
theorem cs_find {mi a : Int32} {va : Int64} {P : Wd → Bool} (hm : MK h m) (hR : MR u X ws) (h16 : xM X ≤ 16) (hs : s < 16) (hky : ky < 1000) (hn : ws.length < 48100) (r4 : mI u 4 s = a)
    (hP : ∀ w es, some (s, ky, w, es) ∈ ws → (P w = true ↔ (thr (sSty (xS X s)) (gI (xS X s) 1) w = true ∧ wB w - a ≤ mi ∧ mi ≤ wE w - 1))) :
    ∀ (t k : Nat) (v : Mu) (l : List Nat), k + t = ws.length → Scr u v → FO v l → l.Pairwise (fun x y => bgK u x ≤ bgK u y) → l.Perm (neL ws s ky P k) →
      (∀ v' l', Scr u v' → FO v' l' → l'.Pairwise (fun x y => bgK u x ≤ bgK u y) → l'.Perm (neL ws s ky P ws.length) → V g mX10_comeSession (d + 4) 200 [.ref m, .int (nI s), .int (nI ky), .int mi, .long va, zz, .int (nI l'.length), zz, zz, zz, zz, zz, zz] [] (mh h m v') Q) →
      V g mX10_comeSession (d + 4) 43 [.ref m, .int (nI s), .int (nI ky), .int mi, .long va, zz, .int (nI l.length), .int (nI k), zz, zz, zz, zz, zz] [] (mh h m v) Q := by
  intro t
  induction t with
  | zero =>
    intro k v l hk hc hF hS hp hQ
    have : k = ws.length := by omega
    subst this
    refine v_ild7 (q := 45) dX10_comeSession_43 rfl ?_
    refine v_ald0 (q := 46) dX10_comeSession_45 rfl rfl ?_
    refine w_gi (q := 49) dX10_comeSession_46 rfl hm gf_X10_170_9 ?_
    rw [hc.2.2, hR.2.2.1]
    refine v_icmp_ge (t := 200) (q := 52) dX10_comeSession_49 (by decide) rfl (fun _ => ?_) (fun z => absurd (Int32.le_refl _) z)
    refine v_fg (FG.k (FG.k (FG.k (FG.k (FG.k (FG.k (FG.k (FG.z (FG.z (FG.z (FG.z (FG.z (FG.z FG.nil))))))))))))) ?_
    exact hQ v l hc hF hS hp
  | succ t ih =>
    intro k v l hk hc hF hS hp hQ
    have hkl : k < ws.length := by omega
    obtain ⟨o, ho, hd, hW⟩ := hR.2.2.at hkl
    have eo : (ws[k]?).getD none = o := by rw [ho]; rfl
    have fs := neL_succ ws s ky P k
    rw [eo] at fs
    have hll : l.length ≤ k := by
      rw [hp.length_eq]
      exact neL_len ws s ky P k
    refine v_ild7 (q := 45) dX10_comeSession_43 rfl ?_
    refine v_ald0 (q := 46) dX10_comeSession_45 rfl rfl ?_
    refine w_gi (q := 49) dX10_comeSession_46 rfl hm gf_X10_170_9 ?_
    rw [hc.2.2, hR.2.2.1]
    refine v_icmp_ge (t := 200) (q := 52) dX10_comeSession_49 (by decide) rfl (fun z => absurd z (nI_ge (by omega) (by omega))) (fun _ => ?_)
    have skip : neO s ky P o = false → V g mX10_comeSession (d + 4) 119 [.ref m, .int (nI s), .int (nI ky), .int mi, .long va, zz, .int (nI l.length), .int (nI k), zz, zz, zz, zz, zz] [] (mh h m v) Q := fun e => by
      rw [if_neg (by rw [e]; decide), List.append_nil] at fs
      refine v_iconst (q := 120) (v := 0) dX10_comeSession_119 rfl (by decide) ?_
      refine v_ist8 (q := 122) dX10_comeSession_120 rfl (by decide) rfl ?_
      refine v_ild8 (q := 124) dX10_comeSession_122 rfl ?_
      refine v_if_eq (t := 194) (q := 127) dX10_comeSession_124 (by decide) rfl (fun _ => ?_) (fun z => absurd rfl z)
      refine v_inc7 (q := 197) dX10_comeSession_194 rfl (by decide) rfl rfl ?_
      rw [inc1]
      refine v_goto (q := 43) dX10_comeSession_197 (by decide) ?_
      refine v_fg (FG.k (FG.k (FG.k (FG.k (FG.k (FG.k (FG.k (FG.k (FG.z (FG.z (FG.z (FG.z (FG.z FG.nil))))))))))))) ?_
      exact ih (k + 1) v l (by omega) hc hF hS (by rw [fs]; exact hp) hQ
    refine v_ald0 (q := 53) dX10_comeSession_52 rfl rfl ?_
    refine w_ga (q := 56) (j := 19) dX10_comeSession_53 rfl hm (by decide) gf_X10_67_9 ?_
    refine v_ild7 (q := 58) dX10_comeSession_56 rfl ?_
    refine w_iald (q := 59) (n := 48100) dX10_comeSession_58 rfl hm (by decide) rfl rfl rfl (by omega) ?_
    rw [hc.1 19 (by decide)]
    match o, hW, fs, ho with
    | none, hW, fs, ho =>
      rw [show mI u 19 k = -1 from hW]
      refine v_ild1 (q := 60) dX10_comeSession_59 rfl ?_
      refine v_icmp_ne (t := 119) (q := 63) dX10_comeSession_60 (by decide) rfl (fun _ => skip rfl) (fun z => absurd z.symm (nI_m1 (by omega)))
    | some (s', k', w, es), hW, fs, ho =>
      obtain ⟨w1, w2, w3, w4, w5, w6, w7, w8, w9⟩ := id hW
      have hx := List.mem_of_getElem? ho
      obtain ⟨q1, q2, q3⟩ := hR.2.2.2.2.1 s' k' w es hx
      rw [w1]
      refine v_ild1 (q := 60) dX10_comeSession_59 rfl ?_
      by_cases e1 : s' = s
      · subst e1
        refine v_icmp_ne (t := 119) (q := 63) dX10_comeSession_60 (by decide) rfl (fun z => absurd rfl z) (fun _ => ?_)
        refine v_ald0 (q := 64) dX10_comeSession_63 rfl rfl ?_
        refine w_ga (q := 67) (j := 23) dX10_comeSession_64 rfl hm (by decide) gf_X10_79_9 ?_
        refine v_ild7 (q := 69) dX10_comeSession_67 rfl ?_
        refine w_zald (q := 70) (n := 48100) dX10_comeSession_69 rfl hm (by decide) rfl rfl rfl (by omega) ?_
        rw [hc.1 23 (by decide), w5]
        have np : ∀ hh : ¬ (k' = ky ∧ thr (sSty (xS X s')) (gI (xS X s') 1) w = true ∧ wB w - a ≤ mi ∧ mi ≤ wE w - 1), neO s' ky P (some (s', k', w, es)) = false := fun hh => by
          show (decide (s' = s' ∧ k' = ky) && P w) = false
          by_cases ek : k' = ky
          · subst ek
            rw [decide_eq_true ⟨rfl, rfl⟩, Bool.true_and]
            exact Bool.eq_false_iff.mpr (fun z => hh ⟨rfl, (hP w es hx).mp z⟩)
          · rw [decide_eq_false (fun z => ek z.2), Bool.false_and]
        by_cases ht : thr (sSty (xS X s')) (gI (xS X s') 1) w = true
        · rw [if_pos ht]
          refine v_if_eq (t := 119) (q := 73) dX10_comeSession_70 (by decide) rfl (fun z => absurd z (by decide)) (fun _ => ?_)
          refine v_ald0 (q := 74) dX10_comeSession_73 rfl rfl ?_
          refine w_ga (q := 77) (j := 20) dX10_comeSession_74 rfl hm (by decide) gf_X10_70_9 ?_
          refine v_ild7 (q := 79) dX10_comeSession_77 rfl ?_
          refine w_iald (q := 80) (n := 48100) dX10_comeSession_79 rfl hm (by decide) rfl rfl rfl (by omega) ?_
          rw [hc.1 20 (by decide), w2]
          refine v_ild2 (q := 81) dX10_comeSession_80 rfl ?_
          by_cases e2 : k' = ky
          · subst e2
            refine v_icmp_ne (t := 119) (q := 84) dX10_comeSession_81 (by decide) rfl (fun z => absurd rfl z) (fun _ => ?_)
            refine v_ald0 (q := 85) dX10_comeSession_84 rfl rfl ?_
            refine w_ga (q := 88) (j := 21) dX10_comeSession_85 rfl hm (by decide) gf_X10_73_9 ?_
            refine v_ild7 (q := 90) dX10_comeSession_88 rfl ?_
            refine w_iald (q := 91) (n := 48100) dX10_comeSession_90 rfl hm (by decide) rfl rfl rfl (by omega) ?_
            rw [hc.1 21 (by decide), w3]
            refine v_ald0 (q := 92) dX10_comeSession_91 rfl rfl ?_
            refine w_ga (q := 95) (j := 4) dX10_comeSession_92 rfl hm (by decide) gf_X10_20_9 ?_
            refine v_ild1 (q := 96) dX10_comeSession_95 rfl ?_
            refine w_iald (q := 97) (n := 16) dX10_comeSession_96 rfl hm (by decide) rfl rfl rfl (by omega) ?_
            rw [hc.1 4 (by decide), r4]
            refine v_isub (q := 98) dX10_comeSession_97 rfl ?_
            refine v_ild3 (q := 99) dX10_comeSession_98 rfl ?_
            by_cases h3 : wB w - a ≤ mi
            · refine v_icmp_gt (t := 119) (q := 102) dX10_comeSession_99 (by decide) rfl (fun z => absurd h3 (Int32.not_le.mpr z)) (fun _ => ?_)
              refine v_ild3 (q := 103) dX10_comeSession_102 rfl ?_
              refine v_ald0 (q := 104) dX10_comeSession_103 rfl rfl ?_
              refine w_ga (q := 107) (j := 22) dX10_comeSession_104 rfl hm (by decide) gf_X10_76_9 ?_
              refine v_ild7 (q := 109) dX10_comeSession_107 rfl ?_
              refine w_iald (q := 110) (n := 48100) dX10_comeSession_109 rfl hm (by decide) rfl rfl rfl (by omega) ?_
              rw [hc.1 22 (by decide), w4]
              refine v_iconst (q := 111) (v := 1) dX10_comeSession_110 rfl (by decide) ?_
              refine v_isub (q := 112) dX10_comeSession_111 rfl ?_
              by_cases h4 : mi ≤ wE w - 1
              · refine v_icmp_gt (t := 119) (q := 115) dX10_comeSession_112 (by decide) rfl (fun z => absurd h4 (Int32.not_le.mpr z)) (fun _ => ?_)
                have ep : neO s' k' P (some (s', k', w, es)) = true := by
                  show (decide (s' = s' ∧ k' = k') && P w) = true
                  rw [decide_eq_true ⟨rfl, rfl⟩, (hP w es hx).mpr ⟨ht, h3, h4⟩]
                  rfl
                rw [if_pos ep] at fs
                refine v_iconst (q := 116) (v := 1) dX10_comeSession_115 rfl (by decide) ?_
                refine v_goto (q := 120) dX10_comeSession_116 (by decide) ?_
                refine v_ist8 (q := 122) dX10_comeSession_120 rfl (by decide) rfl ?_
                refine v_ild8 (q := 124) dX10_comeSession_122 rfl ?_
                refine v_if_eq (t := 194) (q := 127) dX10_comeSession_124 (by decide) rfl (fun z => absurd z (by decide)) (fun _ => ?_)
                refine v_ild6 (q := 129) dX10_comeSession_127 rfl ?_
                refine v_ist9 (q := 131) dX10_comeSession_129 rfl (by decide) rfl ?_
                refine cs_in (d := d) (u := u) hm (show l.length < 48100 by omega) (by omega) hS rfl (fun x hx' => ?_) l.length l.length v (Nat.le_refl _) (Nat.le_refl _) hc (fun j hj => hF j _ (lN0_at hj)) (fun j z1 z2 => by omega) (fun j z1 z2 => by omega) (fun v1 l1 c1 f1 s1 p1 => ?_)
                · have := (neL_D (hp.mem_iff.mp hx') (by omega)).1
                  omega
                have hl1 : l1.length = l.length + 1 := by rw [p1.length_eq, List.length_append, List.length_singleton]
                refine v_inc6 (q := 194) dX10_comeSession_191 rfl (by decide) rfl rfl ?_
                rw [inc1, ← hl1]
                refine v_inc7 (q := 197) dX10_comeSession_194 rfl (by decide) rfl rfl ?_
                rw [inc1]
                refine v_goto (q := 43) dX10_comeSession_197 (by decide) ?_
                refine ih (k + 1) v1 l1 (by omega) c1 f1 s1 ?_ hQ
                rw [fs]
                exact p1.trans (hp.append_right _)
              · refine v_icmp_gt (t := 119) (q := 115) dX10_comeSession_112 (by decide) rfl (fun _ => skip (np (fun z => h4 z.2.2.2))) (fun z => absurd (Int32.not_le.mp h4) z)
            · refine v_icmp_gt (t := 119) (q := 102) dX10_comeSession_99 (by decide) rfl (fun _ => skip (np (fun z => h3 z.2.2.1))) (fun z => absurd (Int32.not_le.mp h3) z)
          · refine v_icmp_ne (t := 119) (q := 84) dX10_comeSession_81 (by decide) rfl (fun _ => skip (np (fun z => e2 z.1))) (fun z => absurd ((nI_eq (by omega) (by omega)).mp z) e2)
        · rw [if_neg ht]
          refine v_if_eq (t := 119) (q := 73) dX10_comeSession_70 (by decide) rfl (fun _ => skip (np (fun z => ht z.2.1))) (fun z => absurd rfl z)
      · refine v_icmp_ne (t := 119) (q := 63) dX10_comeSession_60 (by decide) rfl (fun _ => skip ?_) (fun z => absurd ((nI_eq (by omega) (by omega)).mp z) e1)
        show (decide (s' = s ∧ k' = ky) && P w) = false
        rw [decide_eq_false (fun z => e1 z.1), Bool.false_and]
end LC6
