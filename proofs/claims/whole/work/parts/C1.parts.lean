/-! C1: the model: addRow, takeBack, give, newWindow, addEvent, isEarly -/
/-- rows came to the list of rows; all else but the places of scratch is the same -/
def RwU (u u' : Mu) : Prop := (∀ j, j ≤ 28 → mI u' j = mI u j) ∧ (∀ j, j ≠ 34 → j ≠ 35 → mL u' j = mL u j) ∧ ∀ f, f ≠ 98 → mF u' f = mF u f
theorem RwU.rf (u : Mu) : RwU u u := ⟨fun _ _ => rfl, fun _ _ _ => rfl, fun _ _ => rfl⟩
theorem RwU.tr {u v w : Mu} (a : RwU u v) (b : RwU v w) : RwU u w := ⟨fun j hj => (b.1 j hj).trans (a.1 j hj), fun j h1 h2 => (b.2.1 j h1 h2).trans (a.2.1 j h1 h2), fun f hf => (b.2.2 f hf).trans (a.2.2 f hf)⟩
theorem RwU.scr {u v w : Mu} (a : RwU u v) (b : Scr v w) : RwU u w := ⟨fun j hj => (b.1 j (by omega)).trans (a.1 j hj), fun j h1 h2 => (b.2.1 j h2).trans (a.2.1 j h1 h2), fun f hf => (congrFun b.2.2 f).trans (a.2.2 f hf)⟩
/-- and the row of window k has changed -/
def GU (k : Nat) (u u' : Mu) : Prop := (∀ j, j ≤ 28 → j ≠ 24 → mI u' j = mI u j) ∧ (∀ i, i ≠ k → mI u' 24 i = mI u 24 i) ∧ (∀ j, j ≠ 34 → j ≠ 35 → mL u' j = mL u j) ∧ ∀ f, f ≠ 98 → mF u' f = mF u f
theorem GU.rf (k : Nat) (u : Mu) : GU k u u := ⟨fun _ _ _ => rfl, fun _ _ => rfl, fun _ _ _ => rfl, fun _ _ => rfl⟩
theorem GU.rw {k : Nat} {u v w : Mu} (a : GU k u v) (b : RwU v w) : GU k u w := ⟨fun j h1 h2 => (b.1 j h1).trans (a.1 j h1 h2), fun i hi => (congrFun (b.1 24 (by decide)) i).trans (a.2.1 i hi), fun j h1 h2 => (b.2.1 j h1 h2).trans (a.2.2.1 j h1 h2), fun f hf => (b.2.2 f hf).trans (a.2.2.2 f hf)⟩
theorem GU.tr {k : Nat} {u v w : Mu} (a : GU k u v) (b : GU k v w) : GU k u w := ⟨fun j h1 h2 => (b.1 j h1 h2).trans (a.1 j h1 h2), fun i hi => (b.2.1 i hi).trans (a.2.1 i hi), fun j h1 h2 => (b.2.2.1 j h1 h2).trans (a.2.2.1 j h1 h2), fun f hf => (b.2.2.2 f hf).trans (a.2.2.2 f hf)⟩
theorem GU.set {k : Nat} {u v : Mu} (a : GU k u v) (x : Int32) : GU k u (sI v 24 k x) := ⟨fun j h1 h2 => (mI_nr x h2).trans (a.1 j h1 h2), fun i hi => (mI_ni x hi).trans (a.2.1 i hi), a.2.2.1, a.2.2.2⟩
theorem MRr.scr {u v : Mu} {rows : List Rw} (h : MRr u rows) (c : Scr u v) : MRr v rows := h.same (fun j _ hj => c.1 j (by omega)) (c.2.1 34 (by decide)) (by rw [c.2.2])
section LC1
variable {g : Gl} {d : Nat} {h : Hp} {m : Nat} {u : Mu} {Q : Option Value → Hp → Prop} {X : Sg}
theorem q_addRow {k s ky : Nat} {bk : Bool} {b e : Int32} {x : Int64} {rows : List Rw} (hm : MK h m) (hk : k < 48100) (hr : MRr u rows) (hn : rows.length < 200000) (e19 : mI u 19 k = nI s) (e20 : mI u 20 k = nI ky) (e21 : mI u 21 k = b) (e22 : mI u 22 k = e)
    (hQ : ∀ u', RwU u u' → mI u' 36 = mI u 36 → MRr u' (rows ++ [(bk, s, ky, b, e, x)]) → Q none (mh h m u')) : Call g mX10_addRow d [.ref m, .int (if bk then 1 else 0), .int (nI k), .long x] (mh h m u) Q := by
  refine Call.of [.ref m, .int (if bk then 1 else 0), .int (nI k), .long x, zz] (by decide) (Nat.le_of_ble_eq_true rfl) rfl ?_
  have h98 := hr.1
  refine v_ald0 (q := 1) dX10_addRow_0 rfl rfl ?_
  refine w_ga (q := 4) (j := 29) dX10_addRow_1 rfl hm (by decide) gf_X10_98_9 ?_
  refine v_ald0 (q := 5) dX10_addRow_4 rfl rfl ?_
  refine w_gi (q := 8) dX10_addRow_5 rfl hm gf_X10_155_9 ?_
  refine v_ild1 (q := 9) dX10_addRow_8 rfl ?_
  refine w_iast (q := 10) (n := 200000) dX10_addRow_9 rfl hm (by decide) rfl rfl h98 (by omega) ?_
  refine v_ald0 (q := 11) dX10_addRow_10 rfl rfl ?_
  refine w_ga (q := 14) (j := 30) dX10_addRow_11 rfl hm (by decide) gf_X10_101_9 ?_
  refine v_ald0 (q := 15) dX10_addRow_14 rfl rfl ?_
  refine w_gi (q := 18) dX10_addRow_15 rfl hm gf_X10_155_9 ?_
  refine v_ald0 (q := 19) dX10_addRow_18 rfl rfl ?_
  refine w_ga (q := 22) (j := 19) dX10_addRow_19 rfl hm (by decide) gf_X10_67_9 ?_
  refine v_ild2 (q := 23) dX10_addRow_22 rfl ?_
  refine w_iald (q := 24) (n := 48100) dX10_addRow_23 rfl hm (by decide) rfl rfl rfl (by omega) ?_
  refine w_iast (q := 25) (n := 200000) dX10_addRow_24 rfl hm (by decide) rfl rfl h98 (by omega) ?_
  refine v_ald0 (q := 26) dX10_addRow_25 rfl rfl ?_
  refine w_ga (q := 29) (j := 31) dX10_addRow_26 rfl hm (by decide) gf_X10_104_9 ?_
  refine v_ald0 (q := 30) dX10_addRow_29 rfl rfl ?_
  refine w_gi (q := 33) dX10_addRow_30 rfl hm gf_X10_155_9 ?_
  refine v_ald0 (q := 34) dX10_addRow_33 rfl rfl ?_
  refine w_ga (q := 37) (j := 20) dX10_addRow_34 rfl hm (by decide) gf_X10_70_9 ?_
  refine v_ild2 (q := 38) dX10_addRow_37 rfl ?_
  refine w_iald (q := 39) (n := 48100) dX10_addRow_38 rfl hm (by decide) rfl rfl rfl (by omega) ?_
  refine w_iast (q := 40) (n := 200000) dX10_addRow_39 rfl hm (by decide) rfl rfl h98 (by omega) ?_
  refine v_ald0 (q := 41) dX10_addRow_40 rfl rfl ?_
  refine w_ga (q := 44) (j := 32) dX10_addRow_41 rfl hm (by decide) gf_X10_107_9 ?_
  refine v_ald0 (q := 45) dX10_addRow_44 rfl rfl ?_
  refine w_gi (q := 48) dX10_addRow_45 rfl hm gf_X10_155_9 ?_
  refine v_ald0 (q := 49) dX10_addRow_48 rfl rfl ?_
  refine w_ga (q := 52) (j := 21) dX10_addRow_49 rfl hm (by decide) gf_X10_73_9 ?_
  refine v_ild2 (q := 53) dX10_addRow_52 rfl ?_
  refine w_iald (q := 54) (n := 48100) dX10_addRow_53 rfl hm (by decide) rfl rfl rfl (by omega) ?_
  refine w_iast (q := 55) (n := 200000) dX10_addRow_54 rfl hm (by decide) rfl rfl h98 (by omega) ?_
  refine v_ald0 (q := 56) dX10_addRow_55 rfl rfl ?_
  refine w_ga (q := 59) (j := 33) dX10_addRow_56 rfl hm (by decide) gf_X10_110_9 ?_
  refine v_ald0 (q := 60) dX10_addRow_59 rfl rfl ?_
  refine w_gi (q := 63) dX10_addRow_60 rfl hm gf_X10_155_9 ?_
  refine v_ald0 (q := 64) dX10_addRow_63 rfl rfl ?_
  refine w_ga (q := 67) (j := 22) dX10_addRow_64 rfl hm (by decide) gf_X10_76_9 ?_
  refine v_ild2 (q := 68) dX10_addRow_67 rfl ?_
  refine w_iald (q := 69) (n := 48100) dX10_addRow_68 rfl hm (by decide) rfl rfl rfl (by omega) ?_
  refine w_iast (q := 70) (n := 200000) dX10_addRow_69 rfl hm (by decide) rfl rfl h98 (by omega) ?_
  refine v_ald0 (q := 71) dX10_addRow_70 rfl rfl ?_
  refine w_ga (q := 74) (j := 34) dX10_addRow_71 rfl hm (by decide) gf_X10_113_9 ?_
  refine v_ald0 (q := 75) dX10_addRow_74 rfl rfl ?_
  refine w_gi (q := 78) dX10_addRow_75 rfl hm gf_X10_155_9 ?_
  refine v_lld3 (q := 79) dX10_addRow_78 rfl ?_
  refine w_last (q := 80) (n := 200000) dX10_addRow_79 rfl hm (by decide) rfl rfl h98 (by omega) ?_
  refine v_ald0 (q := 81) dX10_addRow_80 rfl rfl ?_
  refine v_dup (q := 82) dX10_addRow_81 rfl rfl ?_
  refine w_gi (q := 85) dX10_addRow_82 rfl hm gf_X10_155_9 ?_
  refine v_iconst (q := 86) (v := 1) dX10_addRow_85 rfl (by decide) ?_
  refine v_iadd (q := 87) dX10_addRow_86 rfl ?_
  refine w_pi (q := 90) dX10_addRow_87 rfl hm pf_X10_155_9 ?_
  refine v_vret dX10_addRow_90 rfl ?_
  refine hQ _ ⟨fun j hj => ?_, fun j h1 h2 => ?_, fun f hf => ?_⟩ ?_ ⟨?_, fun i r hi => ?_⟩
  · rw [mI_sF, mI_sL, mI_nr _ (by omega), mI_nr _ (by omega), mI_nr _ (by omega), mI_nr _ (by omega), mI_nr _ (by omega)]
  · rw [mL_sF, mL_sL, if_neg h1]
    rfl
  · rw [mF_sF, if_neg hf]
    rfl
  · rw [mI_sF, mI_sL, mI_nr _ (by decide), mI_nr _ (by decide), mI_nr _ (by decide), mI_nr _ (by decide), mI_nr _ (by decide)]
  · rw [mF_sF, if_pos rfl]
    show mF u 98 + 1 = _
    rw [h98, nI_1, List.length_append, List.length_singleton]
  · by_cases ei : i < rows.length
    · rw [List.getElem?_append_left ei] at hi
      have := hr.2 i r hi
      have ne : i ≠ rows.length := by omega
      refine ⟨?_, ?_, ?_, ?_, ?_, ?_⟩
      · rw [mI_sF, mI_sL, mI_nr _ (by decide), mI_nr _ (by decide), mI_nr _ (by decide), mI_nr _ (by decide), mI_ni _ ne]
        exact this.1
      · rw [mI_sF, mI_sL, mI_nr _ (by decide), mI_nr _ (by decide), mI_nr _ (by decide), mI_ni _ ne, mI_nr _ (by decide)]
        exact this.2.1
      · rw [mI_sF, mI_sL, mI_nr _ (by decide), mI_nr _ (by decide), mI_ni _ ne, mI_nr _ (by decide), mI_nr _ (by decide)]
        exact this.2.2.1
      · rw [mI_sF, mI_sL, mI_nr _ (by decide), mI_ni _ ne, mI_nr _ (by decide), mI_nr _ (by decide), mI_nr _ (by decide)]
        exact this.2.2.2.1
      · rw [mI_sF, mI_sL, mI_ni _ ne, mI_nr _ (by decide), mI_nr _ (by decide), mI_nr _ (by decide), mI_nr _ (by decide)]
        exact this.2.2.2.2.1
      · rw [mL_sF, mL_sL, if_pos rfl, upR_ne _ _ ne]
        exact this.2.2.2.2.2
    · have hl := (List.getElem?_eq_some_iff.mp hi).1
      rw [List.length_append, List.length_singleton] at hl
      have : i = rows.length := by omega
      subst this
      rw [List.getElem?_append_right (Nat.le_refl _), Nat.sub_self] at hi
      have hr' := Option.some.inj hi
      subst hr'
      refine ⟨?_, ?_, ?_, ?_, ?_, ?_⟩
      · rw [mI_sF, mI_sL, mI_nr _ (by decide), mI_nr _ (by decide), mI_nr _ (by decide), mI_nr _ (by decide), mI_at]
      · rw [mI_sF, mI_sL, mI_nr _ (by decide), mI_nr _ (by decide), mI_nr _ (by decide), mI_at]
        exact e19
      · rw [mI_sF, mI_sL, mI_nr _ (by decide), mI_nr _ (by decide), mI_at]
        exact e20
      · rw [mI_sF, mI_sL, mI_nr _ (by decide), mI_at]
        exact e21
      · rw [mI_sF, mI_sL, mI_at]
        exact e22
      · rw [mL_sF, mL_sL, if_pos rfl, upR_at]
        rfl
theorem q_takeBack {k s ky : Nat} {w : Wd} {rows : List Rw} (hm : MK h m) (hk : k < 48100) (hr : MRr u rows) (hn : rows.length < 200000) (e19 : mI u 19 k = nI s) (e20 : mI u 20 k = nI ky) (e21 : mI u 21 k = wB w) (e22 : mI u 22 k = wE w) (e24 : mI u 24 k = rI (wR w)) (hrow : RowOK s ky rows w)
    (hQ : ∀ u', GU k u u' → mI u' 36 = mI u 36 → MRr u' (rows ++ backOf s ky rows w) → mI u' 24 k = -1 → Q none (mh h m u')) : Call g mX10_takeBack (d + 1) [.ref m, .int (nI k)] (mh h m u) Q := by
  refine Call.of [.ref m, .int (nI k)] (by decide) (Nat.le_of_ble_eq_true rfl) rfl ?_
  refine v_ald0 (q := 1) dX10_takeBack_0 rfl rfl ?_
  refine w_ga (q := 4) (j := 24) dX10_takeBack_1 rfl hm (by decide) gf_X10_82_9 ?_
  refine v_ild1 (q := 5) dX10_takeBack_4 rfl ?_
  refine w_iald (q := 6) (n := 48100) dX10_takeBack_5 rfl hm (by decide) rfl rfl rfl (by omega) ?_
  rw [e24]
  match hw : wR w with
  | none =>
    refine v_if_lt (t := 33) (q := 9) dX10_takeBack_6 (by decide) rfl (fun _ => ?_) (fun z => absurd (show rI none < 0 by decide) z)
    refine v_vret dX10_takeBack_33 rfl ?_
    refine hQ u (GU.rf k u) rfl ?_ (by rw [e24, hw]; rfl)
    rw [backOf_none hw, List.append_nil]
    exact hr
  | some r =>
    obtain ⟨y, hy⟩ := hrow r hw
    have hrl := (List.getElem?_eq_some_iff.mp hy).1
    have hro := hr.2 r _ hy
    refine v_if_lt (t := 33) (q := 9) dX10_takeBack_6 (by decide) rfl (fun z => absurd z (Int32.not_lt.mpr (show 0 ≤ nI r from nI_pos' (by omega)))) (fun _ => ?_)
    have er : mI u 24 k = nI r := by rw [e24, hw]; rfl
    refine v_ald0 (q := 10) dX10_takeBack_9 rfl rfl ?_
    refine v_iconst (q := 11) (v := 1) dX10_takeBack_10 rfl (by decide) ?_
    refine v_ild1 (q := 12) dX10_takeBack_11 rfl ?_
    refine v_ald0 (q := 13) dX10_takeBack_12 rfl rfl ?_
    refine w_ga (q := 16) (j := 34) dX10_takeBack_13 rfl hm (by decide) gf_X10_113_9 ?_
    refine v_ald0 (q := 17) dX10_takeBack_16 rfl rfl ?_
    refine w_ga (q := 20) (j := 24) dX10_takeBack_17 rfl hm (by decide) gf_X10_82_9 ?_
    refine v_ild1 (q := 21) dX10_takeBack_20 rfl ?_
    refine w_iald (q := 22) (n := 48100) dX10_takeBack_21 rfl hm (by decide) rfl rfl rfl (by omega) ?_
    rw [er]
    refine w_lald (q := 23) (n := 200000) (t := r) dX10_takeBack_22 rfl hm (by decide) rfl rfl rfl (by omega) ?_
    rw [hro.2.2.2.2.2]
    refine v_callV (q := 26) (d' := d) (av := [.int 1, .int (nI k), .long y]) dX10_takeBack_23 rfl ok_X10_addRow CL9 ml_X10_158 im_X10_addRow se_X10_addRow hm.1 (by omega) rfl rfl (Nat.le_of_ble_eq_true rfl) ?_
    refine q_addRow (bk := true) (s := s) (ky := ky) (b := wB w) (e := wE w) (x := y) hm hk hr hn e19 e20 e21 e22 (fun u1 g1 h36 r1 => ?_)
    refine v_ald0 (q := 27) dX10_takeBack_26 rfl rfl ?_
    refine w_ga (q := 30) (j := 24) dX10_takeBack_27 rfl hm (by decide) gf_X10_82_9 ?_
    refine v_ild1 (q := 31) dX10_takeBack_30 rfl ?_
    refine v_iconst (q := 32) (v := -1) dX10_takeBack_31 rfl (by decide) ?_
    refine w_iast (q := 33) (n := 48100) dX10_takeBack_32 rfl hm (by decide) rfl rfl rfl (by omega) ?_
    refine v_vret dX10_takeBack_33 rfl ?_
    refine hQ _ (((GU.rf k u).rw g1).set _) ((mI_nr _ (by decide)).trans h36) ?_ (mI_at _ _ _)
    rw [backOf_some hw hy]
    exact r1.same (fun j h1 h2 => mI_nr _ (by omega)) rfl rfl
theorem q_give {k s ky : Nat} {w : Wd} {es : List Nat} {rows : List Rw} (hm : MK h m) (hk : k < 48100) (hs : s < 16) (hW : MWk u X k (some (s, ky, w, es))) (hh : mI u 12 s = nI (sHow (xS X s))) (hh5 : sHow (xS X s) ≤ 5) (hi : ∀ i ∈ es, i < 48100) (hl : es.length ≤ 12000) (hne : wVs w ≠ []) (hr : MRr u rows) (hn : rows.length + 1 < 200000) (hrow : RowOK s ky rows w)
    (hQ : ∀ u', GU k u u' → mI u' 36 = mI u 36 → MRr u' (finW s ky (sHow (xS X s)) True rows w).2 → mI u' 24 k = rI (wR (finW s ky (sHow (xS X s)) True rows w).1) → Q none (mh h m u')) : Call g mX10_give (d + 2) [.ref m, .int (nI k)] (mh h m u) Q := by
  have hW0 := hW
  obtain ⟨w1, w2, w3, w4, w5, w6, w7, w8, w9⟩ := hW
  refine Call.of [.ref m, .int (nI k)] (by decide) (Nat.le_of_ble_eq_true rfl) rfl ?_
  refine v_ald0 (q := 1) dX10_give_0 rfl rfl ?_
  refine v_ild1 (q := 2) dX10_give_1 rfl ?_
  refine v_callV (q := 5) (d' := d + 1) (av := [.int (nI k)]) dX10_give_2 rfl ok_X10_takeBack CL9 ml_X10_162 im_X10_takeBack se_X10_takeBack hm.1 (by omega) rfl rfl (Nat.le_of_ble_eq_true rfl) ?_
  refine q_takeBack (d := d) hm hk hr (by omega) w1 w2 w3 w4 w6 hrow (fun u1 g1 h36 r1 z1 => ?_)
  have hbl : (rows ++ backOf s ky rows w).length < 200000 := by
    have : (backOf s ky rows w).length ≤ 1 := by
      rw [backOf_len hrow]
      split <;> omega
    rw [List.length_append]
    omega
  have e1 : finW s ky (sHow (xS X s)) True rows w = ((wB w, wE w, some (rows ++ backOf s ky rows w).length, wVs w), rows ++ backOf s ky rows w ++ [(false, s, ky, wB w, wE w, ansV (sHow (xS X s)) (wVs w))]) := if_pos trivial
  rw [e1] at hQ
  generalize rows ++ backOf s ky rows w = rows1 at *
  refine v_ald0 (q := 6) dX10_give_5 rfl rfl ?_
  refine w_ga (q := 9) (j := 24) dX10_give_6 rfl hm (by decide) gf_X10_82_9 ?_
  refine v_ild1 (q := 10) dX10_give_9 rfl ?_
  refine v_ald0 (q := 11) dX10_give_10 rfl rfl ?_
  refine w_gi (q := 14) dX10_give_11 rfl hm gf_X10_155_9 ?_
  rw [r1.1]
  refine w_iast (q := 15) (n := 48100) dX10_give_14 rfl hm (by decide) rfl rfl rfl (by omega) ?_
  have g2 : GU k u (sI u1 24 k (nI rows1.length)) := g1.set _
  have r2 : MRr (sI u1 24 k (nI rows1.length)) rows1 := r1.same (fun j h1 h2 => mI_nr _ (by omega)) rfl rfl
  have z2 : mI (sI u1 24 k (nI rows1.length)) 24 k = nI rows1.length := mI_at _ _ _
  have h36' : mI (sI u1 24 k (nI rows1.length)) 36 = mI u 36 := (mI_nr _ (by decide)).trans h36
  generalize sI u1 24 k (nI rows1.length) = u2 at *
  have W2 : MWk u2 X k (some (s, ky, (wB w, wE w, some rows1.length, wVs w), es)) := by
    refine ⟨by rw [g2.1 19 (by decide) (by decide)]; exact w1, by rw [g2.1 20 (by decide) (by decide)]; exact w2, by rw [g2.1 21 (by decide) (by decide)]; exact w3, by rw [g2.1 22 (by decide) (by decide)]; exact w4, by rw [g2.1 23 (by decide) (by decide)]; exact w5, z2, by rw [g2.1 26 (by decide) (by decide)]; exact w7, ?_, ?_⟩
    · rw [g2.1 28 (by decide) (by decide), g2.1 25 (by decide) (by decide)]
      exact w8
    · rw [g2.2.2.1 27 (by decide) (by decide)]
      exact w9
  refine v_ald0 (q := 16) dX10_give_15 rfl rfl ?_
  refine v_iconst (q := 17) (v := 0) dX10_give_16 rfl (by decide) ?_
  refine v_ild1 (q := 18) dX10_give_17 rfl ?_
  refine v_ald0 (q := 19) dX10_give_18 rfl rfl ?_
  refine v_ild1 (q := 20) dX10_give_19 rfl ?_
  refine v_callV (q := 23) (d' := d + 1) (av := [.int (nI k)]) dX10_give_20 rfl ok_X10_sumOf CL9 ml_X10_166 im_X10_sumOf se_X10_sumOf hm.1 (by omega) rfl rfl (Nat.le_of_ble_eq_true rfl) ?_
  refine q_sumOf (d := d) (X := X) (w := (wB w, wE w, some rows1.length, wVs w)) hm hk hs W2 (by rw [g2.1 12 (by decide) (by decide)]; exact hh) hh5 hi hl hne (fun u3 c3 c36 => ?_)
  refine v_callV (q := 26) (d' := d + 1) (av := [.int 0, .int (nI k), .long (ansV (sHow (xS X s)) (wVs (wB w, wE w, some rows1.length, wVs w)))]) dX10_give_23 rfl ok_X10_addRow CL9 ml_X10_158 im_X10_addRow se_X10_addRow hm.1 (by omega) rfl rfl (Nat.le_of_ble_eq_true rfl) ?_
  refine q_addRow (bk := false) (s := s) (ky := ky) (b := wB w) (e := wE w) hm hk (r2.scr c3) hbl (by rw [c3.1 19 (by decide)]; exact W2.1) (by rw [c3.1 20 (by decide)]; exact W2.2.1) (by rw [c3.1 21 (by decide)]; exact W2.2.2.1) (by rw [c3.1 22 (by decide)]; exact W2.2.2.2.1) (fun u4 g4 a36 r4 => ?_)
  refine v_vret dX10_give_26 rfl ?_
  have g3 : GU k u u3 := g2.rw ((RwU.rf u2).scr c3)
  refine hQ u4 (g3.rw g4) (a36.trans (c36.trans h36')) r4 ?_
  rw [g4.1 24 (by decide), c3.1 24 (by decide)]
  exact z2
def NwU (u u' : Mu) (n : Nat) (s ky : Nat) (b e : Int32) : Prop :=
  (mI u' 19 = upR (mI u 19) n (nI s) ∧ mI u' 20 = upR (mI u 20) n (nI ky) ∧ mI u' 21 = upR (mI u 21) n b ∧ mI u' 22 = upR (mI u 22) n e ∧ mI u' 23 = upR (mI u 23) n 1 ∧ mI u' 24 = upR (mI u 24) n (-1) ∧ mI u' 25 = upR (mI u 25) n (-1) ∧ mI u' 26 = upR (mI u 26) n 0) ∧ (∀ j, j < 19 ∨ 26 < j → mI u' j = mI u j) ∧ mL u' = mL u ∧ mF u' 88 = nI (n + 1) ∧ ∀ f, f ≠ 88 → mF u' f = mF u f
theorem mI_row {j i : Nat} {x : Int32} : mI (sI u j i x) j = upR (mI u j) i x := by rw [mI_sI, if_pos rfl]
theorem q_newWindow {n s ky : Nat} {b e : Int32} (hm : MK h m) (hn : n < 48100) (h88 : mF u 88 = nI n) (hQ : ∀ u', NwU u u' n s ky b e → Q (some (.int (nI n))) (mh h m u')) : Call g mX10_newWindow d [.ref m, .int (nI s), .int (nI ky), .int b, .int e] (mh h m u) Q := by
  refine Call.of [.ref m, .int (nI s), .int (nI ky), .int b, .int e, zz] (by decide) (Nat.le_of_ble_eq_true rfl) rfl ?_
  refine v_ald0 (q := 1) dX10_newWindow_0 rfl rfl ?_
  refine w_gi (q := 4) dX10_newWindow_1 rfl hm gf_X10_170_9 ?_
  rw [h88]
  refine v_ist5 (q := 6) dX10_newWindow_4 rfl (by decide) rfl ?_
  refine v_ald0 (q := 7) dX10_newWindow_6 rfl rfl ?_
  refine w_ga (q := 10) (j := 19) dX10_newWindow_7 rfl hm (by decide) gf_X10_67_9 ?_
  refine v_ild5 (q := 12) dX10_newWindow_10 rfl ?_
  refine v_ild1 (q := 13) dX10_newWindow_12 rfl ?_
  refine w_iast (q := 14) (n := 48100) dX10_newWindow_13 rfl hm (by decide) rfl rfl rfl (by omega) ?_
  refine v_ald0 (q := 15) dX10_newWindow_14 rfl rfl ?_
  refine w_ga (q := 18) (j := 20) dX10_newWindow_15 rfl hm (by decide) gf_X10_70_9 ?_
  refine v_ild5 (q := 20) dX10_newWindow_18 rfl ?_
  refine v_ild2 (q := 21) dX10_newWindow_20 rfl ?_
  refine w_iast (q := 22) (n := 48100) dX10_newWindow_21 rfl hm (by decide) rfl rfl rfl (by omega) ?_
  refine v_ald0 (q := 23) dX10_newWindow_22 rfl rfl ?_
  refine w_ga (q := 26) (j := 21) dX10_newWindow_23 rfl hm (by decide) gf_X10_73_9 ?_
  refine v_ild5 (q := 28) dX10_newWindow_26 rfl ?_
  refine v_ild3 (q := 29) dX10_newWindow_28 rfl ?_
  refine w_iast (q := 30) (n := 48100) dX10_newWindow_29 rfl hm (by decide) rfl rfl rfl (by omega) ?_
  refine v_ald0 (q := 31) dX10_newWindow_30 rfl rfl ?_
  refine w_ga (q := 34) (j := 22) dX10_newWindow_31 rfl hm (by decide) gf_X10_76_9 ?_
  refine v_ild5 (q := 36) dX10_newWindow_34 rfl ?_
  refine v_ild4 (q := 38) dX10_newWindow_36 rfl ?_
  refine w_iast (q := 39) (n := 48100) dX10_newWindow_38 rfl hm (by decide) rfl rfl rfl (by omega) ?_
  refine v_ald0 (q := 40) dX10_newWindow_39 rfl rfl ?_
  refine w_ga (q := 43) (j := 23) dX10_newWindow_40 rfl hm (by decide) gf_X10_79_9 ?_
  refine v_ild5 (q := 45) dX10_newWindow_43 rfl ?_
  refine v_iconst (q := 46) (v := 1) dX10_newWindow_45 rfl (by decide) ?_
  refine w_zast (q := 47) (n := 48100) dX10_newWindow_46 rfl hm (by decide) rfl rfl rfl (by omega) rfl ?_
  refine v_ald0 (q := 48) dX10_newWindow_47 rfl rfl ?_
  refine w_ga (q := 51) (j := 24) dX10_newWindow_48 rfl hm (by decide) gf_X10_82_9 ?_
  refine v_ild5 (q := 53) dX10_newWindow_51 rfl ?_
  refine v_iconst (q := 54) (v := -1) dX10_newWindow_53 rfl (by decide) ?_
  refine w_iast (q := 55) (n := 48100) dX10_newWindow_54 rfl hm (by decide) rfl rfl rfl (by omega) ?_
  refine v_ald0 (q := 56) dX10_newWindow_55 rfl rfl ?_
  refine w_ga (q := 59) (j := 25) dX10_newWindow_56 rfl hm (by decide) gf_X10_85_9 ?_
  refine v_ild5 (q := 61) dX10_newWindow_59 rfl ?_
  refine v_iconst (q := 62) (v := -1) dX10_newWindow_61 rfl (by decide) ?_
  refine w_iast (q := 63) (n := 48100) dX10_newWindow_62 rfl hm (by decide) rfl rfl rfl (by omega) ?_
  refine v_ald0 (q := 64) dX10_newWindow_63 rfl rfl ?_
  refine w_ga (q := 67) (j := 26) dX10_newWindow_64 rfl hm (by decide) gf_X10_88_9 ?_
  refine v_ild5 (q := 69) dX10_newWindow_67 rfl ?_
  refine v_iconst (q := 70) (v := 0) dX10_newWindow_69 rfl (by decide) ?_
  refine w_iast (q := 71) (n := 48100) dX10_newWindow_70 rfl hm (by decide) rfl rfl rfl (by omega) ?_
  refine v_ald0 (q := 72) dX10_newWindow_71 rfl rfl ?_
  refine v_dup (q := 73) dX10_newWindow_72 rfl rfl ?_
  refine w_gi (q := 76) dX10_newWindow_73 rfl hm gf_X10_170_9 ?_
  refine v_iconst (q := 77) (v := 1) dX10_newWindow_76 rfl (by decide) ?_
  refine v_iadd (q := 78) dX10_newWindow_77 rfl ?_
  refine w_pi (q := 81) dX10_newWindow_78 rfl hm pf_X10_170_9 ?_
  refine v_ild5 (q := 83) dX10_newWindow_81 rfl ?_
  refine v_iret dX10_newWindow_83 rfl ?_
  refine hQ _ ⟨⟨?_, ?_, ?_, ?_, ?_, ?_, ?_, ?_⟩, fun j hj => ?_, rfl, ?_, fun f hf => ?_⟩
  · rw [mI_sF, mI_nr _ (by decide), mI_nr _ (by decide), mI_nr _ (by decide), mI_nr _ (by decide), mI_nr _ (by decide), mI_nr _ (by decide), mI_nr _ (by decide), mI_row]
  · rw [mI_sF, mI_nr _ (by decide), mI_nr _ (by decide), mI_nr _ (by decide), mI_nr _ (by decide), mI_nr _ (by decide), mI_nr _ (by decide), mI_row, mI_nr _ (by decide)]
  · rw [mI_sF, mI_nr _ (by decide), mI_nr _ (by decide), mI_nr _ (by decide), mI_nr _ (by decide), mI_nr _ (by decide), mI_row, mI_nr _ (by decide), mI_nr _ (by decide)]
  · rw [mI_sF, mI_nr _ (by decide), mI_nr _ (by decide), mI_nr _ (by decide), mI_nr _ (by decide), mI_row, mI_nr _ (by decide), mI_nr _ (by decide), mI_nr _ (by decide)]
  · rw [mI_sF, mI_nr _ (by decide), mI_nr _ (by decide), mI_nr _ (by decide), mI_row, mI_nr _ (by decide), mI_nr _ (by decide), mI_nr _ (by decide), mI_nr _ (by decide)]
  · rw [mI_sF, mI_nr _ (by decide), mI_nr _ (by decide), mI_row, mI_nr _ (by decide), mI_nr _ (by decide), mI_nr _ (by decide), mI_nr _ (by decide), mI_nr _ (by decide)]
  · rw [mI_sF, mI_nr _ (by decide), mI_row, mI_nr _ (by decide), mI_nr _ (by decide), mI_nr _ (by decide), mI_nr _ (by decide), mI_nr _ (by decide), mI_nr _ (by decide)]
  · rw [mI_sF, mI_row, mI_nr _ (by decide), mI_nr _ (by decide), mI_nr _ (by decide), mI_nr _ (by decide), mI_nr _ (by decide), mI_nr _ (by decide), mI_nr _ (by decide)]
  · rw [mI_sF, mI_nr _ (by omega), mI_nr _ (by omega), mI_nr _ (by omega), mI_nr _ (by omega), mI_nr _ (by omega), mI_nr _ (by omega), mI_nr _ (by omega), mI_nr _ (by omega)]
  · rw [mF_sF, if_pos rfl]
    show mF u 88 + 1 = _
    rw [h88, nI_1]
  · rw [mF_sF, if_neg hf]
    rfl
def AeU (u u' : Mu) (k ne : Nat) (v : Int64) : Prop :=
  (mI u' 25 = upR (mI u 25) k (nI ne) ∧ mI u' 26 = upR (mI u 26) k (mI u 26 k + 1) ∧ mI u' 28 = upR (mI u 28) ne (mI u 25 k)) ∧ (∀ j, j ≠ 25 → j ≠ 26 → j ≠ 28 → mI u' j = mI u j) ∧ mL u' 27 = upR (mL u 27) ne v ∧ (∀ j, j ≠ 27 → mL u' j = mL u j) ∧ mF u' 91 = nI (ne + 1) ∧ ∀ f, f ≠ 91 → mF u' f = mF u f
theorem q_addEvent {k ne : Nat} {v : Int64} (hm : MK h m) (hk : k < 48100) (hne : ne < 48100) (h91 : mF u 91 = nI ne) (hQ : ∀ u', AeU u u' k ne v → Q none (mh h m u')) : Call g mX10_addEvent d [.ref m, .int (nI k), .long v] (mh h m u) Q := by
  refine Call.of [.ref m, .int (nI k), .long v, zz] (by decide) (Nat.le_of_ble_eq_true rfl) rfl ?_
  refine v_ald0 (q := 1) dX10_addEvent_0 rfl rfl ?_
  refine w_ga (q := 4) (j := 27) dX10_addEvent_1 rfl hm (by decide) gf_X10_91_9 ?_
  refine v_ald0 (q := 5) dX10_addEvent_4 rfl rfl ?_
  refine w_gi (q := 8) dX10_addEvent_5 rfl hm gf_X10_173_9 ?_
  refine v_lld2 (q := 9) dX10_addEvent_8 rfl ?_
  refine w_last (q := 10) (n := 48100) dX10_addEvent_9 rfl hm (by decide) rfl rfl h91 (by omega) ?_
  refine v_ald0 (q := 11) dX10_addEvent_10 rfl rfl ?_
  refine w_ga (q := 14) (j := 28) dX10_addEvent_11 rfl hm (by decide) gf_X10_94_9 ?_
  refine v_ald0 (q := 15) dX10_addEvent_14 rfl rfl ?_
  refine w_gi (q := 18) dX10_addEvent_15 rfl hm gf_X10_173_9 ?_
  refine v_ald0 (q := 19) dX10_addEvent_18 rfl rfl ?_
  refine w_ga (q := 22) (j := 25) dX10_addEvent_19 rfl hm (by decide) gf_X10_85_9 ?_
  refine v_ild1 (q := 23) dX10_addEvent_22 rfl ?_
  refine w_iald (q := 24) (n := 48100) dX10_addEvent_23 rfl hm (by decide) rfl rfl rfl (by omega) ?_
  refine w_iast (q := 25) (n := 48100) dX10_addEvent_24 rfl hm (by decide) rfl rfl h91 (by omega) ?_
  refine v_ald0 (q := 26) dX10_addEvent_25 rfl rfl ?_
  refine w_ga (q := 29) (j := 25) dX10_addEvent_26 rfl hm (by decide) gf_X10_85_9 ?_
  refine v_ild1 (q := 30) dX10_addEvent_29 rfl ?_
  refine v_ald0 (q := 31) dX10_addEvent_30 rfl rfl ?_
  refine w_gi (q := 34) dX10_addEvent_31 rfl hm gf_X10_173_9 ?_
  refine w_iast (q := 35) (n := 48100) dX10_addEvent_34 rfl hm (by decide) rfl rfl rfl (by omega) ?_
  refine v_ald0 (q := 36) dX10_addEvent_35 rfl rfl ?_
  refine w_ga (q := 39) (j := 26) dX10_addEvent_36 rfl hm (by decide) gf_X10_88_9 ?_
  refine v_ild1 (q := 40) dX10_addEvent_39 rfl ?_
  refine v_dup2 (q := 41) dX10_addEvent_40 rfl rfl rfl ?_
  refine w_iald (q := 42) (n := 48100) dX10_addEvent_41 rfl hm (by decide) rfl rfl rfl (by omega) ?_
  refine v_iconst (q := 43) (v := 1) dX10_addEvent_42 rfl (by decide) ?_
  refine v_iadd (q := 44) dX10_addEvent_43 rfl ?_
  refine w_iast (q := 45) (n := 48100) dX10_addEvent_44 rfl hm (by decide) rfl rfl rfl (by omega) ?_
  refine v_ald0 (q := 46) dX10_addEvent_45 rfl rfl ?_
  refine v_dup (q := 47) dX10_addEvent_46 rfl rfl ?_
  refine w_gi (q := 50) dX10_addEvent_47 rfl hm gf_X10_173_9 ?_
  refine v_iconst (q := 51) (v := 1) dX10_addEvent_50 rfl (by decide) ?_
  refine v_iadd (q := 52) dX10_addEvent_51 rfl ?_
  refine w_pi (q := 55) dX10_addEvent_52 rfl hm pf_X10_173_9 ?_
  refine v_vret dX10_addEvent_55 rfl ?_
  have e : mF (sI (sL u 27 ne v) 28 ne (mI (sL u 27 ne v) 25 k)) 91 = nI ne := h91
  refine hQ _ ⟨⟨?_, ?_, ?_⟩, fun j h1 h2 h3 => ?_, ?_, fun j hj => ?_, ?_, fun f hf => ?_⟩
  · rw [mI_sF, mI_nr _ (by decide), mI_row, mI_nr _ (by decide), mI_sL]
    exact congrArg (upR (mI u 25) k) h91
  · rw [mI_sF, mI_row, mI_nr _ (by decide), mI_nr _ (by decide), mI_sL]
  · rw [mI_sF, mI_nr _ (by decide), mI_nr _ (by decide), mI_row, mI_sL]
  · rw [mI_sF, mI_nr _ h2, mI_nr _ h1, mI_nr _ h3, mI_sL]
  · show mL (sL u 27 ne v) 27 = _
    rw [mL_sL, if_pos rfl]
  · show mL (sL u 27 ne v) j = _
    rw [mL_sL, if_neg hj]
  · rw [mF_sF, if_pos rfl]
    show mF u 91 + 1 = _
    rw [h91, nI_1]
  · rw [mF_sF, if_neg hf]
    rfl
theorem q_isEarly {k s n ea : Nat} (hm : MK h m) (hk : k < 48100) (hs : s < 16) (e19 : mI u 19 k = nI s) (e14 : mI u 14 s = nI ea) (e26 : mI u 26 k = nI n) (hea : ea ≤ 1000) (hn : n < 1000000) (hQ : Q (some (.int (if 0 < ea ∧ n % ea = 0 then 1 else 0))) (mh h m u)) : Call g mX10_isEarly d [.ref m, .int (nI k)] (mh h m u) Q := by
  refine Call.of [.ref m, .int (nI k), zz] (by decide) (Nat.le_of_ble_eq_true rfl) rfl ?_
  refine v_ald0 (q := 1) dX10_isEarly_0 rfl rfl ?_
  refine w_ga (q := 4) (j := 14) dX10_isEarly_1 rfl hm (by decide) gf_X10_50_9 ?_
  refine v_ald0 (q := 5) dX10_isEarly_4 rfl rfl ?_
  refine w_ga (q := 8) (j := 19) dX10_isEarly_5 rfl hm (by decide) gf_X10_67_9 ?_
  refine v_ild1 (q := 9) dX10_isEarly_8 rfl ?_
  refine w_iald (q := 10) (n := 48100) dX10_isEarly_9 rfl hm (by decide) rfl rfl rfl (by omega) ?_
  rw [e19]
  refine w_iald (q := 11) (n := 16) dX10_isEarly_10 rfl hm (by decide) rfl rfl rfl (by omega) ?_
  rw [e14]
  refine v_ist2 (q := 12) dX10_isEarly_11 rfl (by decide) rfl ?_
  refine v_ild2 (q := 13) dX10_isEarly_12 rfl ?_
  by_cases h0 : ea = 0
  · subst h0
    rw [if_neg (fun z => absurd z.1 (Nat.lt_irrefl _))] at hQ
    refine v_if_le (t := 31) (q := 16) dX10_isEarly_13 (by decide) rfl (fun _ => ?_) (fun z => absurd (show nI 0 ≤ nI 0 from Int32.le_refl _) z)
    refine v_iconst (q := 32) (v := 0) dX10_isEarly_31 rfl (by decide) ?_
    refine v_zret dX10_isEarly_32 rfl rfl ?_
    exact hQ
  refine v_if_le (t := 31) (q := 16) dX10_isEarly_13 (by decide) rfl (fun z => absurd z (show ¬ nI ea ≤ nI 0 from nI_ge (by omega) (by omega))) (fun _ => ?_)
  refine v_ald0 (q := 17) dX10_isEarly_16 rfl rfl ?_
  refine w_ga (q := 20) (j := 26) dX10_isEarly_17 rfl hm (by decide) gf_X10_88_9 ?_
  refine v_ild1 (q := 21) dX10_isEarly_20 rfl ?_
  refine w_iald (q := 22) (n := 48100) dX10_isEarly_21 rfl hm (by decide) rfl rfl rfl (by omega) ?_
  rw [e26]
  refine v_ild2 (q := 23) dX10_isEarly_22 rfl ?_
  refine v_irem (q := 24) dX10_isEarly_23 rfl (fun z => h0 ((nI_eq (a := ea) (b := 0) (by omega) (by decide)).mp z)) ?_
  rw [pk_rem (by omega) (by omega) (by omega)]
  by_cases hz : n % ea = 0
  · rw [if_pos ⟨by omega, hz⟩] at hQ
    rw [hz]
    refine v_if_ne (t := 31) (q := 27) dX10_isEarly_24 (by decide) rfl (fun z => absurd rfl z) (fun _ => ?_)
    refine v_iconst (q := 28) (v := 1) dX10_isEarly_27 rfl (by decide) ?_
    refine v_goto (q := 32) dX10_isEarly_28 (by decide) ?_
    refine v_zret dX10_isEarly_32 rfl rfl ?_
    exact hQ
  · rw [if_neg (fun z => hz z.2)] at hQ
    have := Nat.mod_lt n (show 0 < ea by omega)
    refine v_if_ne (t := 31) (q := 27) dX10_isEarly_24 (by decide) rfl (fun _ => ?_) (fun z => absurd ((nI_eq (a := n % ea) (b := 0) (by omega) (by decide)).mp z) hz)
    refine v_iconst (q := 32) (v := 0) dX10_isEarly_31 rfl (by decide) ?_
    refine v_zret dX10_isEarly_32 rfl rfl ?_
    exact hQ
end LC1
