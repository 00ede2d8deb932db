/-! 44: a new lane, in the words of lanes -/
section L44
variable {g : Gl} {d : Nat} {h : Hp} {Q : Option Value → Hp → Prop} {ow : Nat → Nat} {s p lg A q1 q2 how c k la al e : Nat} {sl ce : Nat} {rows : List Rw}
theorem laneS_nil {T : Nat} (k1 : hK h la = 2) (k2 : fP h 27 la = some al) (k3 : hK h al = 1) (k4 : fI h 50 al = 0) (k5 : fP h 49 al = some g.2.2.2.2.1) (gd : Gd g h ow) (o1 : ow la = T) (o2 : ow al = T) : LaneS g h ow T how k la al g.2.2.2.2.1 [] := by
  have a : ALv g h al g.2.2.2.2.1 [] := ⟨k3, k4, k5, by show (0 : Nat) < 1000000; decide, Or.inl ⟨rfl, rfl⟩⟩
  have l : LNv g h la al g.2.2.2.2.1 [] := ⟨k1, k2, a, fun w hw => absurd hw List.not_mem_nil, Or.inr gd.2.2.2⟩
  exact ⟨l, o1, o2, fun he => absurd gd.2.2.2 he, fun z hz => absurd hz List.not_mem_nil, List.Pairwise.nil⟩
theorem lcost_nil (gd : Gd g h ow) : LCost h g.2.2.2.2.1 c [] 5 2 := by
  have e : capE h g.2.2.2.2.1 = 0 := by
    unfold capE
    rw [gd.2.2.2]
    rfl
  unfold LCost
  rw [e]
  exact ⟨Nat.le_add_right _ _, Nat.le_add_right _ _, Nat.zero_le _⟩
theorem wfAP {r : Nat → Option Nat} (w : Wf h) : Wf (sAP h A r) := Wf_same (hz_sAP h A r) (hK_sAP h A r) w
theorem laneN_fr {X : Hp} {r : Nat → Option Nat} (sX : ∀ a, a < hz h → sameAt h X a) (zX : hz h ≤ hz X) (hA : ow A = tA s) : Fr ow (owX ow h (tg s k)) (fun t => t = tg s k ∨ t = tA s) h (sAP X A r) := by
  refine ⟨?_, fun a ha => if_pos ha, fun a ha hn => (sX a ha).tr (same_sAP (fun e => hn (Or.inr (e ▸ hA))))⟩
  rw [hz_sAP]
  exact zX
theorem laneN_gd {X : Hp} {r : Nat → Option Nat} (sX : ∀ a, a < hz h → sameAt h X a) (zX : hz h ≤ hz X) (wX : Wf X) (hA : ow A = tA s) (gd : Gd g h ow) : Gd g (sAP X A r) (owX ow h (tg s k)) :=
  gd.fr (laneN_fr (k := k) sX zX hA) (fun hh => hh.elim (fun e => by unfold tg at e; omega) (fun e => by unfold tA at e; omega)) (wfAP wX)
theorem laneN_s {X : Hp} {r : Nat → Option Nat} (gd : Gd g (sAP X A r) (owX ow h (tg s k))) (k1 : hK X (hz h) = 2) (k2 : hK X (hz h + 1) = 1) (k3 : fP X 27 (hz h) = some (hz h + 1)) (k4 : fP X 49 (hz h + 1) = some g.2.2.2.2.1) (k5 : fI X 50 (hz h + 1) = 0) : LaneS g (sAP X A r) (owX ow h (tg s k)) (tg s k) how k (hz h) (hz h + 1) g.2.2.2.2.1 [] := by
  have o1 : owX ow h (tg s k) (hz h) = tg s k := if_neg (Nat.lt_irrefl _)
  have o2 : owX ow h (tg s k) (hz h + 1) = tg s k := if_neg (by omega)
  exact laneS_nil (h := sAP X A r) (by rw [hK_sAP]; exact k1) (by rw [fP_sAP]; exact k3) (by rw [hK_sAP]; exact k2) (by rw [fI_sAP]; exact k5) (by rw [fP_sAP]; exact k4) gd o1 o2
end L44
