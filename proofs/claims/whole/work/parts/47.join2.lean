/-! 47: Windowed: join, the loop -/
def bks (s k : Nat) (rows : List Rw) (R : Zw) : List Rw := R.flatMap (fun z => backOf s k rows z.2)
def jnR (x : Wd) (R : Zw) : Wd := R.foldl (fun a z => jn1 a z.2) x
section L47
variable {g : Gl} {d : Nat} {Q : Option Value → Hp → Prop} {s p lg A q1 q2 how c k la al e : Nat}
theorem RowOK.app {rows more : List Rw} {x : Wd} (h : RowOK s k rows x) : RowOK s k (rows ++ more) x := fun r hr => by
  obtain ⟨y, hy⟩ := h r hr
  exact ⟨y, by rw [List.getElem?_append_left (List.getElem?_eq_some_iff.mp hy).1]; exact hy⟩
theorem backOf_app {rows more : List Rw} {x : Wd} (h : RowOK s k rows x) : backOf s k (rows ++ more) x = backOf s k rows x := by
  unfold backOf
  match hr : wR x with
  | none => rfl
  | some r =>
    obtain ⟨y, hy⟩ := h r hr
    show (match (rows ++ more)[r]? with | none => [] | some q => [(true, s, k, wB x, wE x, rSum q)]) = (match rows[r]? with | none => [] | some q => [(true, s, k, wB x, wE x, rSum q)])
    rw [List.getElem?_append_left (List.getElem?_eq_some_iff.mp hy).1]
theorem bks_app {rows more : List Rw} {R : Zw} (h : ∀ z ∈ R, RowOK s k rows z.2) : bks s k (rows ++ more) R = bks s k rows R := by
  unfold bks
  induction R with
  | nil => rfl
  | cons z R ih =>
    rw [List.flatMap_cons, List.flatMap_cons, backOf_app (h z List.mem_cons_self), ih (fun y hy => h y (List.mem_cons_of_mem _ hy))]
theorem backOf_none {rows : List Rw} {x : Wd} (h : wR x = none) : backOf s k rows x = [] := by
  unfold backOf
  rw [h]
theorem backOf_some {rows : List Rw} {x : Wd} {r : Nat} {y : Int64} (h : wR x = some r) (hy : rows[r]? = some (false, s, k, wB x, wE x, y)) : backOf s k rows x = [(true, s, k, wB x, wE x, y)] := by
  unfold backOf
  rw [h]
  show (match rows[r]? with | none => [] | some q => [(true, s, k, wB x, wE x, rSum q)]) = _
  rw [hy]
  rfl
theorem sub_suc (a : Int32) (n : Nat) : a - 1 - nI n = a - nI (n + 1) := by
  rw [← nI_1 n]
  apply Int32.toBitVec_inj.mp
  simp only [Int32.toBitVec_sub, Int32.toBitVec_add]
  generalize (nI n).toBitVec = y
  generalize a.toBitVec = x
  have e : (1 : Int32).toBitVec = 1#32 := rfl
  rw [e]
  bv_omega
def tkB (took : Int32) (b : List Rw) : Int32 := if took = 1 ∨ b ≠ [] then 1 else 0
theorem jn_loop {Z1 Zb : Zw} {w : Nat} {b e0 wb we : Int32} (hs6 : s < 16) (hk : k < 1000) (hc : c = 1) (hh : how ≤ 5) (hl : Z1.length + 1 < 1000000) (hb : ∀ z, Zb.head? = some z → ¬ wB z.2 < e0) :
    ∀ (R : Zw) (h : Hp) (ow : Nat → Nat) (rows : List Rw) (sl ce : Nat) (x : Wd) (took : Int32) (m : Nat), LnF g h ow s p lg A q1 q2 how c k la al e (Z1 ++ (w, x) :: (R ++ Zb)) sl ce rows → wR x = none → wVs x ≠ [] → (∀ z ∈ R, wVs z.2 ≠ [] ∧ RowOK s k rows z.2 ∧ wB z.2 < e0) → R.length < m → m < 1000000 → (wVs x).length + zN R < 1000000 → rows.length + R.length < 192512 → (took = 0 ∨ took = 1) →
      (∀ h' ow' sl' ce' (r : Option Nat) (n : Int32), LnF g h' ow' s p lg A q1 q2 how c k la al e (Z1 ++ (w, jnR x R) :: Zb) sl' ce' (rows ++ bks s k rows R) → Fr ow ow' (S3 s k) h h' → PFl [24, 26] p h h' → fI h' 24 p = fI h 24 p - nI R.length → fI h' 26 p = fI h 26 p - nI (bks s k rows R).length → hs h' + sl + lgS rows.length ≤ hs h + sl' + lgS (rows ++ bks s k rows R).length → hz h' + ce + lgZ rows.length ≤ hz h + ce' + lgZ (rows ++ bks s k rows R).length → V g mX8_join (d + 8) 128 [.ref p, .ref la, .int (nI Z1.length), .int b, .int e0, .ref w, .int wb, .int we, .int (tkB took (bks s k rows R)), va_rf r, .int n] [] h' Q) →
      V g mX8_join (d + 8) 54 [.ref p, .ref la, .int (nI Z1.length), .int b, .int e0, .ref w, .int wb, .int we, .int took, va_rf ((R ++ Zb).map (·.1)).head?, .int (nI m)] [] h Q
  | [], h, ow, rows, sl, ce, x, took, m, hF, r1, n1, hR, hm, hm2, hN, hrl, ht, hQ => by
    have key := hQ h ow sl ce ((Zb.map (·.1)).head?) (nI m) (by rw [show bks s k rows [] = [] from rfl, List.append_nil]; exact hF) (Fr.rf h) (PFl.rf _ _ _) (by rw [show nI ([] : Zw).length = (0 : Int32) from rfl, Int32.sub_zero]) (by rw [show nI (bks s k rows []).length = (0 : Int32) from rfl, Int32.sub_zero]) (by rw [show bks s k rows [] = [] from rfl, List.append_nil]; omega) (by rw [show bks s k rows [] = [] from rfl, List.append_nil]; omega)
    have et : tkB took (bks s k rows []) = took := by
      rcases ht with e | e <;> subst e <;> rfl
    rw [et] at key
    refine v_ild10 (q := 56) dX8_join_54 rfl ?_
    refine v_if_le (t := 128) (q := 59) dX8_join_56 (by decide) rfl (fun _ => key) (fun _ => ?_)
    refine v_ald9 (q := 61) dX8_join_59 rfl (isRf_rf _) ?_
    refine v_ifnull (t := 128) (q := 64) dX8_join_61 (by decide) rfl (fun _ => key) (fun q hq => ?_)
    rw [List.nil_append] at hq ⊢
    rw [hq]
    obtain ⟨z, Zc, rfl⟩ : ∃ z Zc, Zb = z :: Zc := by
      match Zb, hq with
      | z :: Zc, _ => exact ⟨z, Zc, rfl⟩
    have eq : z.1 = q := by
      rw [List.map_cons, List.head?_cons] at hq
      exact Option.some.inj hq
    have hz := hF.2.2.2.1.2.2.2.2.1 z (by simp)
    rw [eq] at hz
    have kq : hK h q = 7 := hz.1
    refine v_ald9 (q := 66) dX8_join_64 rfl rfl ?_
    refine v_getI (q := 69) dX8_join_66 rfl gf_X8_156_6 (by assumption) ?_
    refine v_ild4 (q := 71) dX8_join_69 rfl ?_
    rw [hz.2.2.2.1]
    rw [hq] at key
    refine v_icmp_ge (t := 128) (q := 74) dX8_join_71 (by decide) rfl (fun _ => key) (fun hc => absurd (Int32.not_le.mp hc) (hb z rfl))
  | (q, y) :: R, h, ow, rows, sl, ce, x, took, m, hF, r1, n1, hR, hm, hm2, hN, hrl, ht, hQ => by
    obtain ⟨n2, ry, by1⟩ := hR (q, y) List.mem_cons_self
    have eZ : Z1 ++ (w, x) :: ((q, y) :: R ++ Zb) = (Z1 ++ [(w, x)]) ++ (q, y) :: (R ++ Zb) := by simp
    have hz := hF.2.2.2.1.2.2.2.2.1 (q, y) (by simp)
    have kq : hK h q = 7 := hz.1
    obtain ⟨m', rfl⟩ : ∃ m', m = m' + 1 := ⟨m - 1, by simp only [List.length_cons] at hm; omega⟩
    have kp : hK h p = 8 := hF.1.1
    have hNx : zN ((q, y) :: R) = (wVs y).length + zN R := by simp [zN]
    rw [hNx] at hN
    simp only [List.length_cons] at hm hrl
    refine v_ild10 (q := 56) dX8_join_54 rfl ?_
    refine v_if_le (t := 128) (q := 59) dX8_join_56 (by decide) rfl (fun hc => absurd hc (nI_nle (by omega) (by omega))) (fun _ => ?_)
    rw [show ((q, y) :: R ++ Zb).map (·.1) = q :: (R ++ Zb).map (·.1) from rfl, List.head?_cons]
    refine v_ald9 (q := 61) dX8_join_59 rfl rfl ?_
    refine v_ifnull (t := 128) (q := 64) dX8_join_61 (by decide) rfl (fun hc => by cases hc) (fun _ _ => ?_)
    refine v_ald9 (q := 66) dX8_join_64 rfl rfl ?_
    refine v_getI (q := 69) dX8_join_66 rfl gf_X8_156_6 (by assumption) ?_
    refine v_ild4 (q := 71) dX8_join_69 rfl ?_
    rw [hz.2.2.2.1]
    refine v_icmp_ge (t := 128) (q := 74) dX8_join_71 (by decide) rfl (fun hc => absurd by1 (Int32.not_lt.mpr hc)) (fun _ => ?_)
    refine v_ild8 (q := 76) dX8_join_74 rfl ?_
    refine v_ald0 (q := 77) dX8_join_76 rfl rfl ?_
    refine v_ald9 (q := 79) dX8_join_77 rfl rfl ?_
    refine v_callV (q := 82) (d' := d + 7) (av := [.ref q]) dX8_join_79 rfl ok_X8_takeBack CL7 ml_X8_179 im_X8_takeBack se_X8_takeBack (by assumption) (by omega) rfl rfl (Nat.le_of_ble_eq_true rfl) ?_
    have hF' := hF
    rw [eZ] at hF'
    have hRt : ∀ z ∈ R, wVs z.2 ≠ [] ∧ RowOK s k rows z.2 ∧ wB z.2 < e0 := fun z hz => hR z (List.mem_cons_of_mem _ hz)
    refine k_takeBack (d := d) hF' hs6 hk ry (by omega) (fun hro => ?_) (fun r v h1 ow1 hro hy F1 f1 p1 l1 c1 c2 => ?_)
    · have eb : bks s k rows ((q, y) :: R) = bks s k rows R := by
        unfold bks
        rw [List.flatMap_cons, backOf_none hro, List.nil_append]
      rw [eb] at hQ
      refine v_ior (q := 83) dX8_join_82 rfl ?_
      refine v_ist8 (q := 85) dX8_join_83 rfl (by decide) rfl ?_
      rw [show took ||| 0 = took by rcases ht with e | e <;> subst e <;> rfl]
      refine jn85 (d := d) (m := m') hF hs6 hk hc hh n1 n2 r1 hro (by omega) hl (fun h2 ow2 sl2 ce2 F2 f2 p2 o2 c3 c4 => ?_)
      refine jn_loop hs6 hk hc hh hl hb R h2 ow2 rows sl2 ce2 (jn1 x y) took m' F2 rfl (by simp [jn1, wVs]; exact fun e => absurd e n1) hRt (by omega) (by omega) (by simp only [jn1, wVs, List.length_append]; unfold wVs at hN; omega) (by omega) ht (fun h3 ow3 sl3 ce3 r3 nn F3 f3 p3 o3 l3 c5 c6 => ?_)
      refine hQ h3 ow3 sl3 ce3 r3 nn F3 (f2.tr f3) ((p2.mono (fun f hf => by simp at hf; simp [hf])).tr p3 (fun _ h => h) (fun _ h => h)) ?_ ?_ ?_ ?_
      · rw [o3, o2, List.length_cons]
        exact sub_suc _ _
      · rw [l3, p2.2.1 26 (by decide)]
      · omega
      · omega
    · have eb : bks s k rows ((q, y) :: R) = (true, s, k, wB y, wE y, v) :: bks s k rows R := by
        unfold bks
        rw [List.flatMap_cons, backOf_some hro hy]
        rfl
      rw [eb] at hQ
      refine v_ior (q := 83) dX8_join_82 rfl ?_
      refine v_ist8 (q := 85) dX8_join_83 rfl (by decide) rfl ?_
      rw [show took ||| 1 = 1 by rcases ht with e | e <;> subst e <;> rfl]
      have F1' : LnF g h1 ow1 s p lg A q1 q2 how c k la al e (Z1 ++ (w, x) :: (q, (wB y, wE y, none, wVs y)) :: (R ++ Zb)) sl ce (rows ++ [(true, s, k, wB y, wE y, v)]) := by
        rw [List.append_assoc] at F1
        exact F1
      refine jn85 (d := d) (m := m') F1' hs6 hk hc hh n1 n2 r1 rfl (by show (wVs x).length + (wVs y).length < 1000000; omega) hl (fun h2 ow2 sl2 ce2 F2 f2 p2 o2 c3 c4 => ?_)
      have ebk : bks s k (rows ++ [(true, s, k, wB y, wE y, v)]) R = bks s k rows R := bks_app (fun z hz => (hRt z hz).2.1)
      refine jn_loop hs6 hk hc hh hl hb R h2 ow2 (rows ++ [(true, s, k, wB y, wE y, v)]) sl2 ce2 (jn1 x y) 1 m' F2 rfl (by simp [jn1, wVs]; exact fun e => absurd e n1) (fun z hz => ⟨(hRt z hz).1, (hRt z hz).2.1.app, (hRt z hz).2.2⟩) (by omega) (by omega) (by simp only [jn1, wVs, List.length_append]; unfold wVs at hN; omega) (by rw [List.length_append, List.length_singleton]; omega) (Or.inr rfl) (fun h3 ow3 sl3 ce3 r3 nn F3 f3 p3 o3 l3 c5 c6 => ?_)
      rw [ebk] at F3 l3 c5 c6
      have et : tkB 1 (bks s k (rows ++ [(true, s, k, wB y, wE y, v)]) R) = tkB took ((true, s, k, wB y, wE y, v) :: bks s k rows R) := by
        unfold tkB
        rw [if_pos (Or.inl rfl), if_pos (Or.inr (List.cons_ne_nil _ _))]
      rw [et]
      rw [List.append_assoc, List.singleton_append] at F3 c5 c6
      refine hQ h3 ow3 sl3 ce3 r3 nn F3 (f1.tr (f2.tr f3)) ((p1.mono (fun f hf => by simp at hf; simp [hf])).tr ((p2.mono (fun f hf => by simp at hf; simp [hf])).tr p3 (fun _ h => h) (fun _ h => h)) (fun _ h => h) (fun _ h => h)) ?_ ?_ ?_ ?_
      · rw [o3, o2, List.length_cons, p1.2.1 24 (by decide)]
        exact sub_suc _ _
      · rw [l3, p2.2.1 26 (by decide), l1, List.length_cons]
        exact sub_suc _ _
      · rw [List.length_append, List.length_singleton] at c5
        omega
      · rw [List.length_append, List.length_singleton] at c6
        omega
end L47
