/-! 77: a new stage with windows -/
def owN (ow : Nat → Nat) (h : Hp) (s : Nat) : Nat → Nat := fun a => if a < hz h then ow a else if a = hz h then tP s else if a = hz h + 1 then tA s else if a < hz h + 4 then tD s else tQ s
section L77
variable {g : Gl} {h : Hp} {ow : Nat → Nat} {s lg : Nat} {kd a b : Int32} {rows : List Rw}
theorem sm_zero (f : List Wd → Nat) (h0 : f [] = 0) : sm f (fun _ => []) = 0 := by
  have e : sm f (fun _ => []) = fb_sm (fun _ => 0) 1000 := by
    unfold sm
    exact fb_sm_cong (fun _ _ => h0)
  rw [e, fb_sm_const]
theorem ws_new (gd : Gd g h ow) (hLog : LogV h ow lg rows) (hs6 : s < 16) :
    WS g (wgN h (nI s) kd a b lg) (owN ow h s) s (hz h) lg (hz h + 1) (hz h + 2) (hz h + 4) (decide (kd = 6)) 0 0 (spW kd a) (stW kd a b) 0 0 0 (fun _ => []) rows 36 4 ∧ Fr ow (owN ow h s) (fun _ => False) h (wgN h (nI s) kd a b lg) ∧ fI (wgN h (nI s) kd a b lg) 3 (hz h) = kd ∧ fI (wgN h (nI s) kd a b lg) 2 (hz h) = 1 ∧ fI (wgN h (nI s) kd a b lg) 4 (hz h) = 0 ∧ fI (wgN h (nI s) kd a b lg) 5 (hz h) = 0 := by
  obtain ⟨w1, w2, w3, w4, w5, ⟨w16, w17, w18, w19⟩, ⟨wa1, wa2, wa3⟩, wq, wk⟩ := wgN_f (h := h) (s0 := nI s) (kd := kd) (a := a) (b := b) (lg := lg)
  generalize wgN h (nI s) kd a b lg = h' at *
  have fr : Fr ow (owN ow h s) (fun _ => False) h h' := ⟨by omega, fun c hc => if_pos hc, fun c hc _ => w1 c hc⟩
  have wf' : Wf h' := fun c hc => by
    by_cases h1 : hz h + 6 ≤ c
    · rw [wk c h1] at hc
      have := gd.1 c hc
      omega
    · omega
  have op : owN ow h s (hz h) = tP s := by
    unfold owN
    rw [if_neg (by omega), if_pos rfl]
  have oA : owN ow h s (hz h + 1) = tA s := by
    unfold owN
    rw [if_neg (by omega), if_neg (by omega), if_pos rfl]
  have oD : ∀ c, c = hz h + 2 ∨ c = hz h + 3 → owN ow h s c = tD s := fun c hc => by
    unfold owN
    rw [if_neg (by omega), if_neg (by omega), if_neg (by omega), if_pos (by omega)]
  have oQ : ∀ c, c = hz h + 4 ∨ c = hz h + 5 → owN ow h s c = tQ s := fun c hc => by
    unfold owN
    rw [if_neg (by omega), if_neg (by omega), if_neg (by omega), if_neg (by omega)]
  have q1 := wq (hz h + 2) (Or.inl rfl)
  have q2 := wq (hz h + 4) (Or.inr rfl)
  have HO0 : ∀ r : Nat → Int64, HO r 0 := fun r i _ hi => absurd hi (Nat.not_lt_zero _)
  have D1 : HpL h' (owN ow h s) (tD s) (hz h + 2) [] 18 2 0 := ⟨hz h + 2 + 1, ⟨q1.1, HO0 _⟩, fun y => rfl, oD _ (Or.inl rfl), oD _ (Or.inr rfl), by rw [q1.2]; decide, by rw [q1.2]; decide, Nat.le_refl _, by rw [q1.2]; decide⟩
  have D2 : HpL h' (owN ow h s) (tQ s) (hz h + 4) [] 18 2 0 := ⟨hz h + 4 + 1, ⟨q2.1, HO0 _⟩, fun y => rfl, oQ _ (Or.inl rfl), oQ _ (Or.inr rfl), by rw [q2.2]; decide, by rw [q2.2]; decide, Nat.le_refl _, by rw [q2.2]; decide⟩
  have e15 : fI h' 15 (hz h) = if decide (kd = 6) = true then 1 else 0 := by
    rw [w5]
    by_cases h6 : kd = 6
    · rw [if_pos (decide_eq_true h6), if_pos h6]
      rfl
    · rw [if_neg (fun q => h6 (of_decide_eq_true q)), if_neg h6]
      rfl
  have z : ∀ f, f = 1 ∨ f = 4 ∨ f = 5 ∨ f = 20 ∨ f = 21 ∨ f = 22 ∨ f = 23 ∨ f = 24 ∨ f = 25 ∨ f = 26 → fI h' f (hz h) = 0 := fun f hf => by
    rw [w5, if_neg (by omega), if_neg (by omega), if_neg (by omega), if_neg (by omega), if_neg (by omega), if_neg (by omega)]
  refine ⟨⟨fun _ => (0, 0), [], [], 18, 2, 0, 18, 2, 0, ⟨⟨w4, op, by rw [w5]; rfl, w16, w17, w18, w19, wa1, wa2, oA⟩, z 20 (by decide), fun k hk => Or.inl ⟨by rw [wa3], rfl, rfl, rfl⟩, hLog.fr gd.1 fr (fun h => h), D1, D2, gd.fr fr (fun h => h) wf'⟩, ⟨z 1 (by decide), by rw [w5]; rfl, by rw [w5]; rfl, e15, z 21 (by decide), z 22 (by decide), z 23 (by decide)⟩, ⟨?_, ?_, ?_⟩, fun k hk => ⟨fun x hx => absurd hx List.not_mem_nil, List.Pairwise.nil⟩, ⟨List.Pairwise.nil, List.Pairwise.nil, fun x hx => absurd hx List.not_mem_nil, fun x hx => absurd hx List.not_mem_nil, fun k hk w hw => absurd hw List.not_mem_nil⟩, Nat.zero_le _, Nat.zero_le _, ?_, ?_⟩, fr, by rw [w5]; rfl, by rw [w5]; rfl, z 4 (by decide), z 5 (by decide)⟩
  · rw [sm_zero _ rfl]
    exact z 24 (by decide)
  · rw [sm_zero _ rfl]
    exact z 25 (by decide)
  · rw [sm_zero _ rfl]
    exact z 26 (by decide)
  · unfold aS
    rw [fb_sm_const]
    show 36 = 1000 * 0 + 18 + 18
    omega
  · unfold aZ
    rw [fb_sm_const]
    show 4 = 1000 * 0 + 2 + 2
    omega
end L77
