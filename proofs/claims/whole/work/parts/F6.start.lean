/-! F6: the law's entry: what the tables and the premises say of the start -/
theorem isN_any {w : Cond} (hN : isN w = true) {A : Array Value} {U : State} (h : w.before A U = true) : w.before #[] U = true := by
  unfold isN at hN
  split at hN
  · exact va_any rfl h
  · exact va_any rfl h
  · exact va_any rfl h
  · exact va_any rfl h
  · exact h
  · exact h
  · cases hN
theorem arr_prim {s : State} {A : Array Value} {ty : FieldType} (h : (Cond.arrayClass ty).before A s = true) : ∃ cA, ArrOfT s cA ty ∧ s.vm.findClass ("[" ++ ty.toString) = some cA := by
  obtain ⟨c, k, comp, h1, h2, h3⟩ := Cond.arrayClass_spec h
  exact ⟨c, fun n z => ⟨fun j e => (by cases e), k, h2, comp, h3⟩, h1⟩
theorem arr_obj {s : State} {A : Array Value} {C : String} (h : (Cond.arrayOver (.object C)).before A s = true) : ∃ cA, ArrOfT s cA (.object C) ∧ va_RA s cA (.object C) := by
  obtain ⟨comp, c, k, h1, _, h2, h3, h4⟩ := Cond.arrayOver_spec h
  exact ⟨c, fun n z => ⟨fun j e => (by cases e), k, h2, comp, h3⟩, k, comp, h2, h3, h1, h4⟩
theorem arr_arr {s : State} {A : Array Value} (h : (Cond.arrayOver (.array .long)).before A s = true) : ∃ cA, ArrOfT s cA (.array .long) ∧ va_RA s cA (.array .long) := by
  unfold Cond.before Cond.holds at h
  simp only [Cond.value, beq_iff_eq] at h
  cases hc : s.vm.findClass (FieldType.array .long).toString with
  | none => simp [hc] at h
  | some comp =>
    simp only [hc, Option.bind_some, Option.bind_eq_some_iff, Option.map_eq_some_iff] at h
    obtain ⟨c, hi, k, hk, hb⟩ := h
    obtain ⟨hlt, hp, -⟩ := Array.findIdx?_eq_some_iff_getElem.mp hi
    have hkk : s.vm.classes[c] = k := (Array.getElem?_eq_some_iff.mp hk).2
    rw [hkk] at hp
    cases hkind : k.kind with
    | array component ty =>
      rw [hkind] at hb hp
      simp at hb hp
      exact ⟨c, fun n z => ⟨fun j e => (by cases e), k, hk, component, by rw [hkind, hb.1]⟩, hb.2⟩
    | _ => rw [hkind] at hb; simp at hb
abbrev emT : Term := .static "java/util/ArrayList" "DEFAULTCAPACITY_EMPTY_ELEMENTDATA" "[Ljava/lang/Object;"
/-- what is known at the entry -/
theorem lw_kn {s : State} {b L : Nat} {xs : Nat → Int32} (l : Launch) (hts : ∀ w ∈ lw_tbl, w.before #[Value.ref b] s = true) (hX : va_X b L xs s s.heap) (hbl : b < s.heap.size) (hgv : (Jvm.Cond.and given_1 narrow_1).before #[Value.ref b] s = true) :
    ∃ g : Gl, g.1 = l ∧ scB g = b ∧ scL g = L ∧ g.2.2.2.1 = s.heap.size ∧ g.2.2.2.2.1 < s.heap.size ∧ Kn g s := by
  have htb : ∀ w ∈ tb, w.before #[Value.ref b] s = true := fun w hw => hts w (List.mem_filter.mp hw).1
  have hgs := flat_of_before _ hgv
  obtain ⟨c0, i0, k0⟩ := u_known htb CL0.2.1 (hts (.instantiable RJx4a65c 3) (by decide +kernel))
  obtain ⟨c1, i1, k1⟩ := u_known htb CL1.2.1 (hts (.instantiable RX1 2) (by decide +kernel))
  obtain ⟨c2, i2, k2⟩ := u_known htb CL2.2.1 (hts (.instantiable RX2 2) (by decide +kernel))
  obtain ⟨c3, i3, k3⟩ := u_known htb CL3.2.1 (hts (.instantiable RX3 3) (by decide +kernel))
  obtain ⟨c4, i4, k4⟩ := u_known htb CL4.2.1 (hts (.instantiable RX4 11) (by decide +kernel))
  obtain ⟨c5, i5, k5⟩ := u_known htb CL5.2.1 (hts (.instantiable RX5 2) (by decide +kernel))
  obtain ⟨c6, i6, k6⟩ := u_known htb CL6.2.1 (hts (.instantiable RX7 8) (by decide +kernel))
  obtain ⟨c7, i7, k7⟩ := u_known htb CL7.2.1 (hts (.instantiable RX8 20) (by decide +kernel))
  obtain ⟨c8, i8, k8⟩ := u_known htb CL8.2.1 (hts (.instantiable RX9 6) (by decide +kernel))
  obtain ⟨c9, i9, k9⟩ := u_known htb CL9.2.1 (hts (.instantiable RX10 41) (by decide +kernel))
  obtain ⟨a1, x1, y1⟩ := arr_prim (htb _ ac_int)
  obtain ⟨a2, x2, y2⟩ := arr_prim (htb _ ac_long)
  obtain ⟨a3, x3, y3⟩ := arr_prim (htb _ ac_boolean)
  obtain ⟨a4, x4, y4⟩ := arr_obj (hts _ (List.mem_filter.mp lOverLane).1)
  obtain ⟨a5, x5, y5⟩ := arr_obj (hts _ (List.mem_filter.mp lOverSource).1)
  obtain ⟨a6, x6, y6⟩ := arr_obj (hts _ (List.mem_filter.mp lOverStage).1)
  obtain ⟨a7, x7, y7⟩ := arr_obj (hts _ (List.mem_filter.mp lOverObject).1)
  obtain ⟨a8, x8, y8⟩ := arr_arr (hts _ (List.mem_filter.mp lOverJ).1)
  have hAr : (Cond.arrayOf emT (.object "java/lang/Object")).before #[Value.ref b] s = true := hgs _ (by decide +kernel)
  have hLe : (Cond.eq (.length emT) (.int 0)).before #[Value.ref b] s = true := hgs _ (by decide +kernel)
  have hMi : (Cond.isRef (.mirror "[Ljava/lang/Object;")).before #[Value.ref b] s = true := hgs _ (by decide +kernel)
  obtain ⟨mi, kmi⟩ := va_Mi.of hMi
  obtain ⟨E, cell, q1, q2, q3⟩ := Term.length_spec (va_eqt hLe)
  obtain ⟨qc, -, -, -⟩ := State.arrayAt?_spec q2
  have qa := (Cond.arrayOf_spec hAr q1 qc).1
  have hE : E < s.heap.size := (Array.getElem?_eq_some_iff.mp qc).1
  have hZ : va_Z "java/util/ArrayList" "DEFAULTCAPACITY_EMPTY_ELEMENTDATA" "[Ljava/lang/Object;" (.ref E) (fun q => s.heap.size ≤ q) s s.heap := va_Zof (hts (.laysStatic "java/util/ArrayList" "DEFAULTCAPACITY_EMPTY_ELEMENTDATA" "[Ljava/lang/Object;") (by decide +kernel)) (hts (.initialized "java/util/ArrayList") (by decide +kernel)) q1 (fun a ha => Nat.not_le.mpr ha)
  have n1 : va_Nc "WindowMill$Source" "WindowMill$Windowed" s := va_Nc.of (hgs (.not (.castable "WindowMill$Source" "WindowMill$Windowed")) (by decide +kernel))
  have n2 : va_Nc "WindowMill$Passing" "WindowMill$Windowed" s := va_Nc.of (hgs (.not (.castable "WindowMill$Passing" "WindowMill$Windowed")) (by decide +kernel))
  have n3 : va_Nc "WindowMill$Windowed" "WindowMill$Passing" s := va_Nc.of (hgs (.not (.castable "WindowMill$Windowed" "WindowMill$Passing")) (by decide +kernel))
  refine ⟨(l, (fun k => [c0, c1, c2, c3, c4, c5, c6, c7, c8, c9].getD k c0, fun k => [i0, i1, i2, i3, i4, i5, i6, i7, i8, i9].getD k i0), fun k => [a1, a2, a3, a4, a5, a6, a7, a8].getD (k - 21) a1, s.heap.size, E, mi, b, L, xs), rfl, rfl, rfl, rfl, hE, fun w hw => isN_any (List.mem_filter.mp hw).2 (hts w (List.mem_filter.mp hw).1), ⟨fun c q hq => ?_, fun k q hq => ?_⟩, fun x hx => ?_, hZ, ⟨cell, qc, qa, (Value.int.inj q3).symm⟩, hE, Nat.le_refl _, kmi, hX, hbl⟩
  · match c, hq with
    | 0, hq => cases hq; exact k0
    | 1, hq => cases hq; exact k1
    | 2, hq => cases hq; exact k2
    | 3, hq => cases hq; exact k3
    | 4, hq => cases hq; exact k4
    | 5, hq => cases hq; exact k5
    | 6, hq => cases hq; exact k6
    | 7, hq => cases hq; exact k7
    | 8, hq => cases hq; exact k8
    | 9, hq => cases hq; exact k9
    | c + 10, hq => simp at hq
  · match k, hq with
    | 0, hq => cases hq; exact ⟨x1, y1⟩
    | 1, hq => cases hq; exact ⟨x2, y2⟩
    | 2, hq => cases hq; exact ⟨x3, y3⟩
    | 3, hq => cases hq; exact ⟨x4, y4⟩
    | 4, hq => cases hq; exact ⟨x5, y5⟩
    | 5, hq => cases hq; exact ⟨x6, y6⟩
    | 6, hq => cases hq; exact ⟨x7, y7⟩
    | 7, hq => cases hq; exact ⟨x8, y8⟩
    | k + 8, hq => simp [gtys] at hq
  · have hx' : x = ("WindowMill$Source", "WindowMill$Windowed") ∨ x = ("WindowMill$Passing", "WindowMill$Windowed") ∨ x = ("WindowMill$Windowed", "WindowMill$Passing") := by
      simpa [ncs] using hx
    rcases hx' with e | e | e <;> subst e
    · exact n1
    · exact n2
    · exact n3
/-- the heap of which nothing is known but its size -/
def hp0 (n : Nat) : Hp := (n, 0, [], fun _ => 0, fun _ => 0, fun _ _ => 0, fun _ _ => 0, fun _ _ => none, fun _ _ => 0, fun _ _ => 0, fun _ _ => none)
theorem hp0_Rh (g : Gl) (H : Heap) : Rh g (hp0 H.size) H := by
  refine ⟨rfl, fun k q hq => ?_, ⟨fun i j p q hp => ?_, fun k q hq => ?_⟩, fun a ha => absurd rfl ha⟩
  · simp [hp0, hL, va_pl] at hq
  · simp [hp0, hL, va_pl] at hp
  · simp [hp0, hL, va_pl] at hq
