/-! 84: an event comes to a stage; a stage's mark rises -/
def stT (S : Stg) (ln' : Nat → List Wd) (dr' : Nat) : Stg := (upR (upR (gI S) 4 (gI S 4 + 1)) 23 (nI dr'), gV S, gF S, ln')
def stR (S : Stg) (to : Int32) (ln' : Nat → List Wd) : Stg := (upR (gI S) 1 to, gV S, gF S, ln')
section L84
variable {g : Gl} {d : Nat} {h : Hp} {Q : Option Value → Hp → Prop} {ow : Nat → Nat} {s p lg k US UZ : Nat} {S : Stg} {rows : List Rw}
theorem begs_len (st m : Int32) : ∀ (n : Nat) (b : Int32), (begs n b st m).length ≤ n := by
  intro n
  induction n with
  | zero => exact fun _ => Nat.le_refl _
  | succ n ih =>
    intro b
    unfold begs
    split
    · rw [List.length_cons]
      have := ih (b + st)
      omega
    · exact Nat.zero_le _
theorem tk_dr (ses : Bool) (s how ea : Nat) (sp st lt mk : Int32) (k : Nat) (m : Int32) (v : Int64) (X : (Nat → List Wd) × List Rw × Nat) : (tkS ses s how ea sp st lt mk k m v X).2.2 ≤ X.2.2 + 4 := by
  have key : ∀ (l : List Int32) (X : (Nat → List Wd) × List Rw × Nat), (l.foldl (enS ses s how ea sp lt mk k v) X).2.2 ≤ X.2.2 + l.length := by
    intro l
    induction l with
    | nil => exact fun _ => Nat.le_refl _
    | cons b l ih =>
      intro X
      rw [List.foldl_cons, List.length_cons]
      have h1 := ih (enS ses s how ea sp lt mk k v X b)
      have h2 : (enS ses s how ea sp lt mk k v X b).2.2 ≤ X.2.2 + 1 := by
        unfold enS
        split
        · exact Nat.le_refl _
        · exact Nat.le_succ _
      omega
  unfold tkS
  have := key (begs 4 (fstB ses sp st m) st m) X
  have := begs_len st m 4 (fstB ses sp st m)
  omega
theorem takeG_eq (X : Sg) (s : Nat) (key m : Int32) (v : Int64) (ln' : Nat → List Wd) (rows' : List Rw) (dr' : Nat) (e : (ln', rows', dr') = tkS (sSes (xS X s)) s (sHow (xS X s)) (sEa (xS X s)) (sSp (xS X s)) (sSt (xS X s)) (gI (xS X s) 21) (gI (xS X s) 1) key.toNatClampNeg m v (gL (xS X s), xR X, sDr (xS X s))) : takeG X s key m v = xSet X s (stT (xS X s) ln' dr') rows' := by
  unfold takeG stT
  rw [← e]
theorem k_takeV {m : Int32} {v : Int64} (hV : StV g h ow s p lg S rows US UZ) (hw : isW S = true) (hk : k < 1000) (m0 : 0 ≤ m.toInt) (m1 : m.toInt ≤ 100000) (hv : sm vN (gL S) + 4 < 100000) (hr : ptR (gI S 1) (gL S) rows + 16 ≤ 192010) (hd : sDr S < 1000000)
    (hQ : ∀ h' ow' US' UZ' ln' rows' dr', (ln', rows', dr') = tkS (sSes S) s (sHow S) (sEa S) (sSp S) (sSt S) (gI S 21) (gI S 1) k m v (gL S, rows, sDr S) → StV g h' ow' s p lg (stT S ln' dr') rows' US' UZ' → LogV h' ow' lg rows' → Wf h' → Fr ow ow' (SS s) h h' → hs h' + US + lgS rows.length ≤ hs h + US' + lgS rows'.length → hz h' + UZ + lgZ rows.length ≤ hz h + UZ' + lgZ rows'.length → ptR (gI S 1) ln' rows' + 4 * sm vN (gL S) ≤ ptR (gI S 1) (gL S) rows + 4 * sm vN ln' → sm vN (gL S) ≤ sm vN ln' ∧ sm vN ln' ≤ sm vN (gL S) + (begs 4 (fstB (sSes S) (sSp S) (sSt S) m) (sSt S) m).length → (∃ more, rows' = rows ++ more) → Q none h') :
    Call g mX8_take (d + 10) [.ref p, .int (nI k), .int m, .long v] h Q := by
  obtain ⟨⟨a1, a2, a3, a4, a5⟩, hV2⟩ := hV
  rcases hV2 with ⟨b1, b2, ⟨hB, e20, e22, e23, ek⟩, A, q1, q2, w⟩ | ⟨b1, _⟩
  · refine k_take (d := d) w hB hk m0 m1 hv hr (fun h' ow' US' UZ' ln' rows' dr' e W f pf l4 y1 y2 y3 y4 y5 => ?_)
    have hdr : dr' ≤ sDr S + 4 := by
      have := tk_dr (sSes S) s (sHow S) (sEa S) (sSp S) (sSt S) (gI S 21) (gI S 1) k m v (gL S, rows, sDr S)
      rw [← e] at this
      exact this
    have eD : sDr (stT S ln' dr') = dr' := nI_clamp (by omega)
    refine hQ h' ow' US' UZ' ln' rows' dr' e ⟨⟨(pf.2.1 1 (by decide)).trans a1, (pf.2.1 2 (by decide)).trans a2, (pf.2.1 3 (by decide)).trans a3, ?_, (pf.2.1 5 (by decide)).trans a5⟩, Or.inl ⟨b1, pf.1.trans b2, ⟨hB, e20, e22, ?_, ek⟩, A, q1, q2, ?_⟩⟩ W.log.1 W.log.2.1 f y1 y2 y3 y4 y5
    · rw [l4, a4]
      rfl
    · rw [eD]
      rfl
    · rw [eD]
      exact W
  · rw [hw] at b1
    cases b1
theorem k_riseV {to : Int32} (hV : StV g h ow s p lg S rows US UZ) (hw : isW S = true) (hmt : (gI S 1).toInt ≤ to.toInt) (ht : to.toInt ≤ 200000) (hv : sm vN (gL S) < 100000) (hr : ptR (gI S 1) (gL S) rows ≤ 192010)
    (hQ : ∀ h' ow' US' UZ' ln' rows', (ln', rows') = rsS s (sHow S) (gI S 1) to (gL S, rows) → StV g h' ow' s p lg (stR S to ln') rows' US' UZ' → LogV h' ow' lg rows' → Wf h' → Fr ow ow' (SS s) h h' → hs h' + US + lgS rows.length ≤ hs h + US' + lgS rows'.length → hz h' + UZ + lgZ rows.length ≤ hz h + UZ' + lgZ rows'.length → ptR to ln' rows' ≤ ptR (gI S 1) (gL S) rows → sm vN ln' = sm vN (gL S) → (∃ more, rows' = rows ++ more) → Q none h') :
    Call g mX8_rise (d + 9) [.ref p, .int to] h Q := by
  obtain ⟨⟨a1, a2, a3, a4, a5⟩, hV2⟩ := hV
  rcases hV2 with ⟨b1, b2, ⟨hB, e20, e22, e23, ek⟩, A, q1, q2, w⟩ | ⟨b1, _⟩
  · have hB' := hB
    obtain ⟨B1, B2, B3, B4, B5, B6, B7, B8, B9, B10, B11, B12⟩ := hB'
    refine k_rise (d := d) w hB hmt ht hv hr (fun h' ow' US' UZ' ln' rows' e W f pf y1 y2 y3 y4 y5 => ?_)
    exact hQ h' ow' US' UZ' ln' rows' e ⟨⟨W.kd.2.1, (pf.2.1 2 (by decide)).trans a2, (pf.2.1 3 (by decide)).trans a3, (pf.2.1 4 (by decide)).trans a4, (pf.2.1 5 (by decide)).trans a5⟩, Or.inl ⟨b1, pf.1.trans b2, ⟨⟨B1, B2, B3, B4, B5, B6, B7, B8, B9, B10, show 0 ≤ to.toInt by omega, ht⟩, e20, e22, e23, ek⟩, A, q1, q2, W⟩⟩ W.log.1 W.log.2.1 f y1 y2 y3 y4 y5
  · rw [hw] at b1
    cases b1
end L84
