/-! 05: fields: reads, writes; new objects and rows; reads and writes of rows -/
theorem tm {w : Cond} (i : Nat) (h : lw_tbl[i]? = some w) (hg : goodWord w = true) : w ∈ tb := List.mem_filter.mpr ⟨List.mem_of_getElem? h, hg⟩
theorem tmN {w : Cond} (i : Nat) (h : lw_tbl[i]? = some w) (hg : isN w = true) : w ∈ tbN := List.mem_filter.mpr ⟨List.mem_of_getElem? h, hg⟩
theorem tb_all {ws : List Cond} (h : ws.all (fun w => decide (w ∈ lw_tbl) && goodWord w) = true) : ∀ w ∈ ws, w ∈ tb := fun w hw => by
  have h1 := List.all_eq_true.mp h w hw
  simp only [Bool.and_eq_true, decide_eq_true_eq] at h1
  exact List.mem_filter.mpr h1
def dval (q : Nat × Nat) : Value := if q.1 = 0 then .int 0 else if q.1 = 1 then .long 0 else .null
/-- class ci of vwCl -/
def CL (ci : Nat) (C : String) (T : u_T) (N : Nat) (ty : Nat → FieldType) : Prop :=
  vwCl[ci]? = some (C, T, N) ∧ (∀ w ∈ u_ws C T N, w ∈ tb) ∧ (∀ k, k < N → parseFieldDescriptor (T k).2.2.1 = some (ty k)) ∧ (∀ a, a < N → ∀ b, b < N → a ≠ b → (T a).2.1 ≠ (T b).2.1) ∧ (cfl ci).length = N ∧ ci < 10 ∧ ((cfl ci).map (fun x => x.2)).Nodup ∧ ∀ j, j < N → defaultValue (ty j) = vp_V ((cfl ci).map dval) j
theorem CL0 : CL 0 RJx4a65c TJx4a65c 3 tyJx4a65c := ⟨rfl, tb_all (by decide +kernel), tyJx4a65c_ok, nmJx4a65c, rfl, by decide, by decide, by decide +kernel⟩
theorem CL1 : CL 1 RX1 TX1 2 tyX1 := ⟨rfl, tb_all (by decide +kernel), tyX1_ok, nmX1, rfl, by decide, by decide, by decide +kernel⟩
theorem CL2 : CL 2 RX2 TX2 2 tyX2 := ⟨rfl, tb_all (by decide +kernel), tyX2_ok, nmX2, rfl, by decide, by decide, by decide +kernel⟩
theorem CL3 : CL 3 RX3 TX3 3 tyX3 := ⟨rfl, tb_all (by decide +kernel), tyX3_ok, nmX3, rfl, by decide, by decide, by decide +kernel⟩
theorem CL4 : CL 4 RX4 TX4 11 tyX4 := ⟨rfl, tb_all (by decide +kernel), tyX4_ok, nmX4, rfl, by decide, by decide, by decide +kernel⟩
theorem CL5 : CL 5 RX5 TX5 2 tyX5 := ⟨rfl, tb_all (by decide +kernel), tyX5_ok, nmX5, rfl, by decide, by decide, by decide +kernel⟩
theorem CL6 : CL 6 RX7 TX7 8 tyX7 := ⟨rfl, tb_all (by decide +kernel), tyX7_ok, nmX7, rfl, by decide, by decide, by decide +kernel⟩
theorem CL7 : CL 7 RX8 TX8 20 tyX8 := ⟨rfl, tb_all (by decide +kernel), tyX8_ok, nmX8, rfl, by decide, by decide +kernel, by decide +kernel⟩
theorem CL8 : CL 8 RX9 TX9 6 tyX9 := ⟨rfl, tb_all (by decide +kernel), tyX9_ok, nmX9, rfl, by decide, by decide, by decide +kernel⟩
theorem CL9 : CL 9 RX10 TX10 41 tyX10 := ⟨rfl, tb_all (by decide +kernel), tyX10_ok, nmX10, rfl, by decide, by decide +kernel, by decide +kernel⟩
