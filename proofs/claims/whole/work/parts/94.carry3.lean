/-! 94: WindowMill: carry -/
section L94
variable {g : Gl} {d : Nat} {c lg SA ST WY : Nat} {po sp : Nat → Nat}
theorem cy_first : ∀ f, f < 24 → (if (0 : Int32) < nI f - 8 + 1 then nI f - 8 + 1 else 0) = nI (f - 7) := by decide +kernel
theorem fold_id {α β : Type} (F : α → β → α) (x : α) : ∀ l : List β, (∀ b ∈ l, F x b = x) → l.foldl F x = x := by
  intro l
  induction l with
  | nil => exact fun _ => rfl
  | cons b l ih =>
    intro h
    rw [List.foldl_cons, h b List.mem_cons_self]
    exact ih (fun y hy => h y (List.mem_cons_of_mem _ hy))
theorem k_carry : ∀ n, CyOK g d c lg SA ST WY po sp n := by
  intro n
  induction n with
  | zero =>
    intro h ow us uz X f k m v Q hM hG hB hf hfu hk m0 m1 hC hQ
    have := hG.1
    omega
  | succ n ih =>
    intro h ow us uz X f k m v Q hM hG hB hf hfu hk m0 m1 hC hQ
    have h16 := hG.1
    refine Call.of [.ref c, .int (nI f), .int (nI k), .int m, .long v, zz, zz, zz, zz, zz] (by decide) (Nat.le_of_ble_eq_true rfl) rfl ?_
    refine v_iconst (q := 1) (v := 0) dX9_carry_0 rfl (by decide) ?_
    refine v_ild1 (q := 2) dX9_carry_1 rfl ?_
    refine v_bipush (q := 4) (v := 8) dX9_carry_2 rfl (by decide) ?_
    refine v_isub (q := 5) dX9_carry_4 rfl ?_
    refine v_iconst (q := 6) (v := 1) dX9_carry_5 rfl (by decide) ?_
    refine v_iadd (q := 7) dX9_carry_6 rfl ?_
    refine v_callS (q := 10) (d' := d) (av := [.int 0, .int (nI f - 8 + 1)]) dX9_carry_7 rfl ok_J9_max_7cf53 ml_X9_201 st_J9_max_7cf53 (by omega) rfl rfl (Nat.le_of_ble_eq_true rfl) ?_
    refine k_maxI ?_
    rw [cy_first f (by omega)]
    refine v_ist6 (q := 12) dX9_carry_10 rfl (by decide) rfl ?_
    have hsplit : xM X = (f - 7) + (xM X - (f - 7)) := by omega
    have eF : (List.range (xM X)).foldl (cyF n f (nI k) m v) X = (List.range' (f - 7) (xM X - (f - 7))).foldl (cyF n f (nI k) m v) X := by
      rw [List.range_eq_range']
      have e1 : List.range' 0 (xM X) = List.range' 0 (f - 7) ++ List.range' (f - 7) (xM X - (f - 7)) := by
        have := (List.range'_append_1 (s := 0) (m := f - 7) (n := xM X - (f - 7)))
        rw [Nat.zero_add, ← hsplit] at this
        exact this.symm
      rw [e1, List.foldl_append, fold_id _ X (List.range' 0 (f - 7)) (fun s hs => ?_)]
      have hs2 := (List.mem_range'_1.mp hs).2
      unfold cyF
      refine if_neg (fun q => ?_)
      have := (hG.2.1 s (by omega) f q).1
      omega
    have eW : wz X (n + 1) f = fb_sm (cyW X n f) (xM X) := rfl
    have eR := fb_sm_range (cyW X n f) (f - 7) (xM X - (f - 7))
    rw [← hsplit] at eR
    have eC : cyS X n f (f - 7) (xM X - (f - 7)) ≤ wz X (n + 1) f := by
      rw [eW, eR]
      exact Nat.le_add_left _ _
    refine cy_loop (d := d) ih (by omega) (by omega) hk m0 m1 (xM X - (f - 7)) (f - 7) h ow us uz X Q (by omega) hM hG hB (by omega) (fun h' ow' us' uz' X' e hM' hX hB' hC' hF hL => ?_)
    refine hQ h' ow' us' uz' X' ?_ hM' hX hB' (by omega) hF hL
    rw [carryS_eq, eF]
    exact e
end L94
