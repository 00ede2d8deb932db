/-! F3: the room of the class, out of what holds between calls -/
theorem lam13 {n : Nat} (h : n ≤ 12000) : lam n ≤ 13 * n := by
  unfold lam
  by_cases e : n = 0
  · subst e
    exact Nat.zero_le _
  · have h1 : Nat.log2 n < 14 := (Nat.log2_lt e).mpr (by omega)
    rw [Nat.mul_comm]
    exact Nat.mul_le_mul_right _ (by omega)
section LF3
variable {g : Gl} {h : Hp} {ow : Nat → Nat} {s k how c p lg A q1 q2 : Nat} {rows : List Rw}
theorem zC_room {T : Nat} (hc : c ≤ 1) : ∀ (Z : Zw), (∀ z ∈ Z, WdV h ow T how k z.1 z.2) → (∀ z ∈ Z, wVs z.2 ≠ []) → (c = 1 → zN Z ≤ 12000) → zC h c Z ≤ (16 + 104 * c) * zN Z ∧ zD c Z ≤ (3 + 13 * c) * zN Z
  | [], _, _, _ => ⟨Nat.zero_le _, Nat.zero_le _⟩
  | z :: Z, h1, h2, h3 => by
    have eN : zN (z :: Z) = (wVs z.2).length + zN Z := by
      unfold zN
      rw [List.map_cons, List.sum_cons]
    have eC : zC h c (z :: Z) = (8 * (wVs z.2).length + c * (8 * lam (wVs z.2).length) + 2 * capO h (fP h 40 z.1)) + zC h c Z := by
      unfold zC
      rw [List.map_cons, List.sum_cons]
    have eD : zD c (z :: Z) = (3 * (wVs z.2).length + c * lam (wVs z.2).length) + zD c Z := by
      unfold zD
      rw [List.map_cons, List.sum_cons]
    have ih := zC_room hc Z (fun y hy => h1 y (List.mem_cons_of_mem _ hy)) (fun y hy => h2 y (List.mem_cons_of_mem _ hy)) (fun e => by
      have := h3 e
      omega)
    have hp : 0 < (wVs z.2).length := List.length_pos_iff.mpr (h2 z List.mem_cons_self)
    have hcap : capO h (fP h 40 z.1) ≤ 4 * (wVs z.2).length := by
      obtain ⟨_, _, _, _, _, _, _, _, vs, _, _, hl, ht, _⟩ := h1 z List.mem_cons_self
      match e : fP h 40 z.1 with
      | none => exact Nat.zero_le _
      | some t =>
        have := (ht t e).2
        show hN h t ≤ _
        omega
    rw [eN, eC, eD]
    have e2 : c = 0 ∨ c = 1 := by omega
    rcases e2 with e2 | e2
    · subst e2
      omega
    · have hl := lam13 (n := (wVs z.2).length) (by
        have := h3 e2
        omega)
      subst e2
      omega
theorem zN_vN (Z : Zw) : vN (Z.map (·.2)) = zN Z := by
  unfold vN zN
  rw [List.map_map]
  rfl
theorem lane_room {o : Option Nat} {L : List Wd} {sl ce : Nat} (x : LaneO g h ow s k how c o L sl ce) (hc : c ≤ 1) (hv : ∀ w ∈ L, wVs w ≠ []) (hn : c = 1 → vN L ≤ 12000) : sl ≤ 45 + (22 + 104 * c) * vN L ∧ ce ≤ 2 + (3 + 13 * c) * vN L := by
  rcases x with ⟨_, _, e1, e2⟩ | ⟨la, al, e, Z, _, hS, eL, _, hC⟩
  · omega
  · subst eL
    rw [zN_vN] at hn ⊢
    obtain ⟨z1, z2⟩ := zC_room hc Z hS.2.2.2.2.1 (fun z hz => hv z.2 (List.mem_map.mpr ⟨z, hz, rfl⟩)) hn
    obtain ⟨c1, c2, c3⟩ := hC
    have e2 : c = 0 ∨ c = 1 := by omega
    rcases e2 with e2 | e2
    · subst e2
      omega
    · subst e2
      omega
theorem sm_mul (a b : Nat) (f : List Wd → Nat) (ln : Nat → List Wd) : ∀ n, fb_sm (fun k => a + b * f (ln k)) n = n * a + b * fb_sm (fun k => f (ln k)) n := by
  intro n
  induction n with
  | zero =>
    show 0 = 0 * a + b * 0
    omega
  | succ n ih =>
    rw [fb_sm_succ, fb_sm_succ, ih, Nat.mul_add, Nat.succ_mul]
    omega
/-- what a stage with windows has cost -/
theorem ws_room {ses : Bool} {ea dr US UZ : Nat} {sp st lt mk : Int32} {ln : Nat → List Wd} (hW : WS g h ow s p lg A q1 q2 ses how ea sp st lt mk dr ln rows US UZ) (hn : ses = true → sm vN ln ≤ 12000) :
    US ≤ 45064 + (34 + if ses then 104 else 0) * sm vN ln ∧ 8 * UZ ≤ 16032 + (27 + if ses then 104 else 0) * sm vN ln := by
  obtain ⟨ac, D1, D2, s1, c1, b1, s2, c2, b2, ⟨_, _, hL, _, hD1, hD2, _⟩, _, _, hI, _, hb1, hb2, e1, e2⟩ := hW
  obtain ⟨t1, _, _, _, _, x1, x2, _, x3⟩ := hD1
  obtain ⟨t2, _, _, _, _, y1, y2, _, y3⟩ := hD2
  have hl : ∀ k, k < 1000 → (ac k).1 ≤ 45 + (22 + 104 * (if ses then 1 else 0)) * vN (ln k) ∧ (ac k).2 ≤ 2 + (3 + 13 * (if ses then 1 else 0)) * vN (ln k) := fun k hk =>
    lane_room (hL k hk) (by split <;> omega) (fun w hw => ((hI k hk).1 w hw).1) (fun e => by
      have h1 := sm_le vN ln hk
      by_cases e2 : ses = true
      · have := hn e2
        omega
      · rw [if_neg e2] at e
        cases e)
  have hs1 : aS ac ≤ _ := fb_sm_le (fun k hk => (hl k hk).1)
  have hs2 : aZ ac ≤ _ := fb_sm_le (fun k hk => (hl k hk).2)
  rw [sm_mul] at hs1 hs2
  have e3 : fb_sm (fun k => vN (ln k)) 1000 = sm vN ln := rfl
  rw [e3] at hs1 hs2
  cases ses
  · simp only [Bool.false_eq_true, if_false] at hs1 hs2 ⊢
    omega
  · simp only [if_true] at hs1 hs2 ⊢
    omega
theorem fb_lin (a b : Nat) (f : Nat → Nat) : ∀ n, fb_sm (fun s => a + b * f s) n = n * a + b * fb_sm f n := by
  intro n
  induction n with
  | zero =>
    show 0 = 0 * a + b * 0
    omega
  | succ n ih =>
    rw [fb_sm_succ, fb_sm_succ, ih, Nat.mul_add, Nat.succ_mul]
    omega
theorem tot_ent {X : Sg} (hI : MI X) : tot entS X ≤ 4 * tot camS X := by
  have h1 : tot entS X ≤ fb_sm (fun s => 0 + 4 * camS (xS X s)) (xM X) := fb_sm_le (fun s hs => by
    by_cases e : isW (xS X s) = true
    · have := (hI.2.1.1 s hs e).1
      omega
    · unfold entS
      rw [if_neg e]
      exact Nat.zero_le _)
  rw [fb_lin] at h1
  unfold tot at h1 ⊢
  omega
/-- what all stages and the log have cost -/
theorem mv_room {cc SA ST WY : Nat} {po sp us uz : Nat → Nat} {X : Sg} (hM : MV g h ow cc lg SA ST WY po sp X us uz) (hI : MI X) :
    fb_sm us (xM X) ≤ 2377024 ∧ fb_sm uz (xM X) ≤ 236064 ∧ lgS (xR X).length ≤ 385024 ∧ lgZ (xR X).length ≤ 376 ∧ xM X ≤ 16 := by
  have h16 : xM X ≤ 16 := hM.2.2.2.2.1
  have ht : tot camS X ≤ 12000 := by
    have h1 := hI.2.2.1
    have h2 := hI.2.2.2.1
    omega
  have hst : ∀ s, s < xM X → us s ≤ 45064 + 138 * camS (xS X s) ∧ uz s ≤ 2004 + 17 * camS (xS X s) := fun s hs => by
    obtain ⟨_, _, hS⟩ := (hM.2.2.2.1 s (by omega)).1 hs
    rcases hS.2 with ⟨a1, _, _, A, q1, q2, w⟩ | ⟨a1, _, _, _, _, _, _, _, _, e1, e2⟩
    · obtain ⟨b1, b2, _⟩ := hI.2.1.1 s hs a1
      have hc : camS (xS X s) ≤ 12000 := by
        have := fb_sm_part (fun s => camS (xS X s)) hs
        unfold tot at ht
        omega
      have eE : entS (xS X s) = sm vN (gL (xS X s)) := by
        unfold entS
        rw [if_pos a1]
      obtain ⟨r1, r2⟩ := ws_room w (fun e => by
        have := b2 e
        omega)
      rw [← eE] at r1 r2
      by_cases e : sSes (xS X s) = true
      · have := b2 e
        rw [e] at r1 r2
        simp only [if_true] at r1 r2
        omega
      · have e' : sSes (xS X s) = false := by
          cases hh : sSes (xS X s)
          · rfl
          · exact absurd hh e
        rw [e'] at r1 r2
        simp only [Bool.false_eq_true, if_false] at r1 r2
        omega
    · omega
  have h1 : fb_sm us (xM X) ≤ _ := fb_sm_le (fun s hs => (hst s hs).1)
  have h2 : fb_sm uz (xM X) ≤ _ := fb_sm_le (fun s hs => (hst s hs).2)
  rw [fb_lin] at h1 h2
  have e3 : fb_sm (fun s => camS (xS X s)) (xM X) = tot camS X := rfl
  have hr := hI.2.1.2
  have he := tot_ent hI
  have h1' : fb_sm us (xM X) ≤ xM X * 45064 + 138 * tot camS X := h1
  have h2' : fb_sm uz (xM X) ≤ xM X * 2004 + 17 * tot camS X := h2
  unfold lgS lgZ
  omega
end LF3
