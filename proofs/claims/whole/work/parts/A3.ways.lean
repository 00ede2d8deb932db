/-! A3: the ways through a graph, counted from a port on and from the windows back -/
def srcW (p : Nat) (w : Nat → Nat) (f : Nat) : Nat := if f < 8 then (if f = p then 1 else 0) else w (f - 8)
def wyS (fd : Nat → Nat → Bool) (p : Nat) (w : Nat → Nat) (n : Nat) : Nat := fb_sm (fun f => if fd n f then srcW p w f else 0) (8 + n)
/-- the ways from port p to the first n stages -/
def wyA (fd : Nat → Nat → Bool) (p : Nat) : Nat → Nat → Nat
  | 0 => fun _ => 0
  | n + 1 => upR (wyA fd p n) n (wyS fd p (wyA fd p n) n)
theorem fb_sm_swap (F : Nat → Nat → Nat) (m : Nat) : ∀ n, fb_sm (fun s => fb_sm (fun f => F s f) n) m = fb_sm (fun f => fb_sm (fun s => F s f) m) n := by
  intro n
  induction n with
  | zero => exact (fb_sm_const 0 m).trans (Nat.mul_zero m)
  | succ n ih =>
    show fb_sm (fun s => fb_sm (fun f => F s f) n + F s n) m = _
    rw [fb_sm_add, ih, fb_sm_succ]
theorem fb_sm_mulR (f : Nat → Nat) (c : Nat) : ∀ n, fb_sm f n * c = fb_sm (fun k => f k * c) n := by
  intro n
  induction n with
  | zero => exact Nat.zero_mul c
  | succ n ih => rw [fb_sm_succ, Nat.add_mul, ih, fb_sm_succ]
theorem fb_sm_one (g : Nat → Nat) (p : Nat) : ∀ n, fb_sm (fun f => (if f = p then 1 else 0) * g f) n = if p < n then g p else 0 := by
  intro n
  induction n with
  | zero => rfl
  | succ n ih =>
    rw [fb_sm_succ, ih]
    by_cases e : n = p
    · subst e
      rw [if_neg (Nat.lt_irrefl _), if_pos rfl, if_pos (Nat.lt_succ_self _)]
      omega
    · rw [if_neg e]
      by_cases h : p < n
      · rw [if_pos h, if_pos (by omega)]
        omega
      · rw [if_neg h, if_neg (by omega)]
        omega
section LA3
variable {fd : Nat → Nat → Bool} {p : Nat}
theorem wyA_old (n : Nat) : ∀ t s, s < n → wyA fd p (n + t) s = wyA fd p n s := by
  intro t
  induction t with
  | zero => exact fun _ _ => rfl
  | succ t ih =>
    intro s hs
    show upR (wyA fd p (n + t)) (n + t) _ s = _
    rw [upR_ne _ _ (by omega)]
    exact ih s hs
theorem wyS_cong {w w' : Nat → Nat} {n : Nat} (h : ∀ s, s < n → w s = w' s) : wyS fd p w n = wyS fd p w' n := by
  unfold wyS
  refine fb_sm_cong (fun f hf => ?_)
  unfold srcW
  by_cases h8 : f < 8
  · rw [if_pos h8, if_pos h8]
  · rw [if_neg h8, if_neg h8, h (f - 8) (by omega)]
theorem wyA_eq {m s : Nat} (hs : s < m) : wyA fd p m s = wyS fd p (wyA fd p m) s := by
  obtain ⟨t, rfl⟩ : ∃ t, m = s + 1 + t := ⟨m - (s + 1), by omega⟩
  rw [wyA_old (s + 1) t s (by omega)]
  show upR (wyA fd p s) s _ s = _
  rw [upR_at]
  refine wyS_cong (fun i hi => ?_)
  rw [show s + 1 + t = s + (1 + t) by omega]
  exact (wyA_old s (1 + t) i hi).symm
theorem wyS_le {w : Nat → Nat} {n : Nat} : wyS fd p w n ≤ 1 + fb_sm w n := by
  unfold wyS
  rw [fb_sm_split]
  have h1 : fb_sm (fun f => if fd n f then srcW p w f else 0) 8 ≤ 1 := by
    have : fb_sm (fun f => if fd n f then srcW p w f else 0) 8 ≤ fb_sm (fun f => (if f = p then 1 else 0) * 1) 8 := fb_sm_le (fun f hf => by
      unfold srcW
      rw [if_pos hf]
      split <;> simp)
    rw [fb_sm_one (fun _ => 1) p 8] at this
    split at this <;> omega
  have h2 : fb_sm (fun k => if fd n (8 + k) then srcW p w (8 + k) else 0) n ≤ fb_sm w n := fb_sm_le (fun k hk => by
    unfold srcW
    rw [if_neg (show ¬ 8 + k < 8 by omega), show 8 + k - 8 = k by omega]
    split
    · exact Nat.le_refl _
    · exact Nat.zero_le _)
  omega
theorem wyA_sum (m : Nat) : ∀ n, n ≤ m → fb_sm (wyA fd p m) n + 1 ≤ 2 ^ n := by
  intro n
  induction n with
  | zero => exact fun _ => Nat.le_refl _
  | succ n ih =>
    intro hn
    rw [fb_sm_succ, wyA_eq (by omega), Nat.pow_succ]
    have := ih (by omega)
    have := wyS_le (fd := fd) (p := p) (w := wyA fd p m) (n := n)
    omega
end LA3
theorem wz_fuel {X : Sg} (hG : GO X) : ∀ n f, 24 ≤ n + f → wz X (n + 1) f = wz X n f := by
  intro n
  induction n with
  | zero =>
    intro f hf
    show fb_sm _ (xM X) = 0
    rw [fb_sm_cong (g := fun _ => 0) (fun s hs => ?_), fb_sm_const, Nat.mul_zero]
    refine if_neg (fun q => ?_)
    have := (hG.2.1 s hs f q).1
    have := hG.1
    omega
  | succ n ih =>
    intro f hf
    show fb_sm _ (xM X) = fb_sm _ (xM X)
    refine fb_sm_cong (fun s hs => ?_)
    by_cases hq : gF (xS X s) f = true
    · rw [if_pos hq, if_pos hq]
      have := (hG.2.1 s hs f hq).1
      rw [ih (8 + s) (by omega)]
    · rw [if_neg hq, if_neg hq]
theorem wz_step {X : Sg} (hG : GO X) (f : Nat) : wz X 17 f = fb_sm (fun s => if gF (xS X s) f then (if isW (xS X s) then 1 else 0) + wz X 17 (8 + s) else 0) (xM X) := by
  show fb_sm _ (xM X) = _
  refine fb_sm_cong (fun s hs => ?_)
  by_cases hq : gF (xS X s) f = true
  · rw [if_pos hq, if_pos hq]
    by_cases hw : isW (xS X s) = true
    · rw [if_pos hw, if_pos hw]
      have : wz X 17 (8 + s) = 0 := by
        show fb_sm _ (xM X) = 0
        rw [fb_sm_cong (g := fun _ => 0) (fun t ht => ?_), fb_sm_const, Nat.mul_zero]
        refine if_neg (fun z => ?_)
        have := (hG.2.1 t ht (8 + s) z).2 (by omega)
        rw [show 8 + s - 8 = s by omega, hw] at this
        cases this
      omega
    · rw [if_neg hw, if_neg hw, wz_fuel hG 16 (8 + s) (by omega)]
      exact (Nat.zero_add _).symm
  · rw [if_neg hq, if_neg hq]
/-- the ways to stages with windows, counted from both ends -/
theorem ways_both {X : Sg} (hG : GO X) {p : Nat} (hp : p < 8) : fb_sm (fun s => if isW (xS X s) then wyA (fun s f => gF (xS X s) f) p (xM X) s else 0) (xM X) = wz X 17 p := by
  generalize hW : wyA (fun s f => gF (xS X s) f) p (xM X) = W
  have eW : ∀ s, s < xM X → W s = fb_sm (fun f => if gF (xS X s) f then srcW p W f else 0) (8 + xM X) := fun s hs => by
    have h1 := wyA_eq (fd := fun s f => gF (xS X s) f) (p := p) hs
    rw [hW] at h1
    have e : 8 + xM X = 8 + s + (xM X - s) := by omega
    have e2 : fb_sm (fun f => if gF (xS X s) f then srcW p W f else 0) (8 + s + (xM X - s)) = fb_sm (fun f => if gF (xS X s) f then srcW p W f else 0) (8 + s) := by
      rw [fb_sm_split (fun f => if gF (xS X s) f then srcW p W f else 0) (8 + s) (xM X - s)]
      have e3 : fb_sm (fun k => if gF (xS X s) (8 + s + k) then srcW p W (8 + s + k) else 0) (xM X - s) = 0 := by
        rw [fb_sm_cong (g := fun _ => 0) (fun k hk => if_neg (fun z => ?_)), fb_sm_const, Nat.mul_zero]
        have := (hG.2.1 s hs _ z).1
        omega
      omega
    rw [e, e2]
    exact h1
  have z1 : fb_sm (fun s => W s * ((if isW (xS X s) then 1 else 0) + wz X 17 (8 + s))) (xM X) = fb_sm (fun s => if isW (xS X s) then W s else 0) (xM X) + fb_sm (fun s => W s * wz X 17 (8 + s)) (xM X) := by
    rw [← fb_sm_add]
    refine fb_sm_cong (fun s _ => ?_)
    rw [Nat.mul_add]
    split <;> omega
  have z2 : fb_sm (fun s => W s * ((if isW (xS X s) then 1 else 0) + wz X 17 (8 + s))) (xM X) = fb_sm (fun f => srcW p W f * wz X 17 f) (8 + xM X) := by
    have a1 : fb_sm (fun s => W s * ((if isW (xS X s) then 1 else 0) + wz X 17 (8 + s))) (xM X) = fb_sm (fun s => fb_sm (fun f => (if gF (xS X s) f then srcW p W f else 0) * ((if isW (xS X s) then 1 else 0) + wz X 17 (8 + s))) (8 + xM X)) (xM X) := by
      refine fb_sm_cong (fun s hs => ?_)
      rw [← fb_sm_mulR, ← eW s hs]
    rw [a1, fb_sm_swap]
    refine fb_sm_cong (fun f _ => ?_)
    rw [wz_step hG f, Nat.mul_comm, fb_sm_mulR]
    refine fb_sm_cong (fun s _ => ?_)
    split
    · exact Nat.mul_comm _ _
    · rw [Nat.zero_mul, Nat.zero_mul]
  have z3 : fb_sm (fun f => srcW p W f * wz X 17 f) (8 + xM X) = wz X 17 p + fb_sm (fun s => W s * wz X 17 (8 + s)) (xM X) := by
    rw [fb_sm_split]
    congr 1
    · rw [fb_sm_cong (g := fun f => (if f = p then 1 else 0) * wz X 17 f) (fun f hf => by unfold srcW; rw [if_pos hf]), fb_sm_one, if_pos hp]
    · refine fb_sm_cong (fun s _ => ?_)
      unfold srcW
      rw [if_neg (show ¬ 8 + s < 8 by omega), show 8 + s - 8 = s by omega]
  omega
