/-! C7: the model: comeSession, windows become one -/
def ChU (n : Nat) (es : List Nat) (v v' : Mu) : Prop := (∀ j, j ≠ 25 → j ≠ 26 → j ≠ 28 → mI v' j = mI v j) ∧ (∀ i, i ≠ n → mI v' 25 i = mI v 25 i ∧ mI v' 26 i = mI v 26 i) ∧ (∀ i, i ∉ es → mI v' 28 i = mI v 28 i) ∧ mL v' = mL v ∧ mF v' = mF v
/-- a near window: where it is, it, its entries -/
abbrev Nw : Type := Nat × Wd × List Nat
/-- what has come of the windows J1; n is the new one -/
def JI (u v : Mu) (s ky n : Nat) (rows : List Rw) (l : List Nat) (J1 : List Nw) (B E : Int32) (ds : List Nat) : Prop :=
  MRr v (rows ++ bksL s ky rows (J1.map (·.2.1))) ∧ (mI v 19 n = nI s ∧ mI v 20 n = nI ky ∧ mI v 21 n = B ∧ mI v 22 n = E ∧ mI v 23 n = 1 ∧ mI v 24 n = -1 ∧ mI v 26 n = nI ds.length ∧ LK (mI v 28) (mI v 25 n) ds) ∧ ds.Perm (J1.flatMap (·.2.2)) ∧
  (∀ j, j ∉ J1.map (·.1) → j ≠ n → ∀ r, 19 ≤ r → r ≤ 26 → mI v r j = mI u r j) ∧ (∀ j ∈ J1.map (·.1), mI v 19 j = -1) ∧ (∀ i, i ∉ ds → mI v 28 i = mI u 28 i) ∧ (mL v 27 = mL u 27 ∧ mL v 18 = mL u 18 ∧ (∀ j, j ≤ 18 → mI v j = mI u j)) ∧ (mF v 78 = mF u 78 ∧ mF v 79 = mF u 79 ∧ mF v 91 = mF u 91 ∧ mF v 88 = nI (n + 1)) ∧ FO v l
section LC7
variable {g : Gl} {d : Nat} {h : Hp} {m : Nat} {Q : Option Value → Hp → Prop} {X : Sg} {s ky : Nat}
theorem cs_chain {n k c9 : Nat} {mi c6 c7 : Int32} {va : Int64} (hm : MK h m) (hn : n < 48100) : ∀ (is : List Nat) (e : Int32) (v : Mu) (ds : List Nat), LK (mI v 28) e is → LK (mI v 28) (mI v 25 n) ds → mI v 26 n = nI ds.length → (is ++ ds).Nodup → (∀ i ∈ is, i < 48100) →
    (∀ v', ChU n is v v' → LK (mI v' 28) (mI v' 25 n) (is.reverse ++ ds) → mI v' 26 n = nI (is.reverse ++ ds).length → V g mX10_comeSession (d + 4) 333 [.ref m, .int (nI s), .int (nI ky), .int mi, .long va, zz, .int c6, .int c7, .int (nI n), .int (nI c9), .int (nI k), zz, zz] [] (mh h m v') Q) →
    V g mX10_comeSession (d + 4) 278 [.ref m, .int (nI s), .int (nI ky), .int mi, .long va, zz, .int c6, .int c7, .int (nI n), .int (nI c9), .int (nI k), .int e, zz] [] (mh h m v) Q := by
  intro is
  induction is with
  | nil =>
    intro e v ds hL hD h26 hnd hi hQ
    have he : e = -1 := hL
    subst he
    refine v_ild11 (q := 280) dX10_comeSession_278 rfl ?_
    refine v_if_lt (t := 333) (q := 283) dX10_comeSession_280 (by decide) rfl (fun _ => ?_) (fun z => absurd (by decide) z)
    refine v_fg (FG.k (FG.k (FG.k (FG.k (FG.k (FG.k (FG.k (FG.k (FG.k (FG.k (FG.k (FG.z (FG.z FG.nil))))))))))))) ?_
    exact hQ v ⟨fun _ _ _ _ => rfl, fun _ _ => ⟨rfl, rfl⟩, fun _ _ => rfl, rfl, rfl⟩ hD h26
  | cons i is ih =>
    intro e v ds hL hD h26 hnd hi hQ
    obtain ⟨he, hL'⟩ := hL
    subst he
    have hi0 := hi i List.mem_cons_self
    rw [List.cons_append, List.nodup_cons, List.mem_append, not_or] at hnd
    refine v_ild11 (q := 280) dX10_comeSession_278 rfl ?_
    refine v_if_lt (t := 333) (q := 283) dX10_comeSession_280 (by decide) rfl (fun z => absurd z (Int32.not_lt.mpr (nI_pos' (by omega)))) (fun _ => ?_)
    refine v_ald0 (q := 284) dX10_comeSession_283 rfl rfl ?_
    refine w_ga (q := 287) (j := 28) dX10_comeSession_284 rfl hm (by decide) gf_X10_94_9 ?_
    refine v_ild11 (q := 289) dX10_comeSession_287 rfl ?_
    refine w_iald (q := 290) (n := 48100) dX10_comeSession_289 rfl hm (by decide) rfl rfl rfl (by omega) ?_
    refine v_ist12 (q := 292) dX10_comeSession_290 rfl (by decide) rfl ?_
    refine v_ald0 (q := 293) dX10_comeSession_292 rfl rfl ?_
    refine w_ga (q := 296) (j := 28) dX10_comeSession_293 rfl hm (by decide) gf_X10_94_9 ?_
    refine v_ild11 (q := 298) dX10_comeSession_296 rfl ?_
    refine v_ald0 (q := 299) dX10_comeSession_298 rfl rfl ?_
    refine w_ga (q := 302) (j := 25) dX10_comeSession_299 rfl hm (by decide) gf_X10_85_9 ?_
    refine v_ild8 (q := 304) dX10_comeSession_302 rfl ?_
    refine w_iald (q := 305) (n := 48100) dX10_comeSession_304 rfl hm (by decide) rfl rfl rfl (by omega) ?_
    refine w_iast (q := 306) (n := 48100) dX10_comeSession_305 rfl hm (by decide) rfl rfl rfl (by omega) ?_
    refine v_ald0 (q := 307) dX10_comeSession_306 rfl rfl ?_
    refine w_ga (q := 310) (j := 25) dX10_comeSession_307 rfl hm (by decide) gf_X10_85_9 ?_
    refine v_ild8 (q := 312) dX10_comeSession_310 rfl ?_
    refine v_ild11 (q := 314) dX10_comeSession_312 rfl ?_
    refine w_iast (q := 315) (n := 48100) dX10_comeSession_314 rfl hm (by decide) rfl rfl rfl (by omega) ?_
    refine v_ald0 (q := 316) dX10_comeSession_315 rfl rfl ?_
    refine w_ga (q := 319) (j := 26) dX10_comeSession_316 rfl hm (by decide) gf_X10_88_9 ?_
    refine v_ild8 (q := 321) dX10_comeSession_319 rfl ?_
    refine v_dup2 (q := 322) dX10_comeSession_321 rfl rfl rfl ?_
    refine w_iald (q := 323) (n := 48100) dX10_comeSession_322 rfl hm (by decide) rfl rfl rfl (by omega) ?_
    refine v_iconst (q := 324) (v := 1) dX10_comeSession_323 rfl (by decide) ?_
    refine v_iadd (q := 325) dX10_comeSession_324 rfl ?_
    refine w_iast (q := 326) (n := 48100) dX10_comeSession_325 rfl hm (by decide) rfl rfl rfl (by omega) ?_
    refine v_ild12 (q := 328) dX10_comeSession_326 rfl ?_
    refine v_ist11 (q := 330) dX10_comeSession_328 rfl (by decide) rfl ?_
    have a1 : ∀ j, j ≠ 25 → j ≠ 26 → j ≠ 28 → mI (sI (sI (sI v 28 i (mI v 25 n)) 25 n (nI i)) 26 n (mI (sI (sI v 28 i (mI v 25 n)) 25 n (nI i)) 26 n + 1)) j = mI v j := fun j h1 h2 h3 => by
      rw [mI_nr _ h2, mI_nr _ h1, mI_nr _ h3]
    have a2 : mI (sI (sI (sI v 28 i (mI v 25 n)) 25 n (nI i)) 26 n (mI (sI (sI v 28 i (mI v 25 n)) 25 n (nI i)) 26 n + 1)) 25 = upR (mI v 25) n (nI i) := by
      rw [mI_nr _ (by decide), mI_row, mI_nr _ (by decide)]
    have a3 : mI (sI (sI (sI v 28 i (mI v 25 n)) 25 n (nI i)) 26 n (mI (sI (sI v 28 i (mI v 25 n)) 25 n (nI i)) 26 n + 1)) 26 = upR (mI v 26) n (nI (ds.length + 1)) := by
      rw [mI_row, mI_nr _ (by decide), mI_nr _ (by decide), h26, show nI ds.length + 1 = nI (ds.length + 1) from nI_1 _]
    have a4 : mI (sI (sI (sI v 28 i (mI v 25 n)) 25 n (nI i)) 26 n (mI (sI (sI v 28 i (mI v 25 n)) 25 n (nI i)) 26 n + 1)) 28 = upR (mI v 28) i (mI v 25 n) := by
      rw [mI_nr _ (by decide), mI_nr _ (by decide), mI_row]
    have a5 : mL (sI (sI (sI v 28 i (mI v 25 n)) 25 n (nI i)) 26 n (mI (sI (sI v 28 i (mI v 25 n)) 25 n (nI i)) 26 n + 1)) = mL v := rfl
    have a6 : mF (sI (sI (sI v 28 i (mI v 25 n)) 25 n (nI i)) 26 n (mI (sI (sI v 28 i (mI v 25 n)) 25 n (nI i)) 26 n + 1)) = mF v := rfl
    show V g mX10_comeSession (d + 4) 330 _ _ (mh h m (sI (sI (sI v 28 i (mI v 25 n)) 25 n (nI i)) 26 n (mI (sI (sI v 28 i (mI v 25 n)) 25 n (nI i)) 26 n + 1))) Q
    generalize sI (sI (sI v 28 i (mI v 25 n)) 25 n (nI i)) 26 n (mI (sI (sI v 28 i (mI v 25 n)) 25 n (nI i)) 26 n + 1) = v1 at *
    refine v_goto (q := 278) dX10_comeSession_330 (by decide) ?_
    refine v_fg (FG.k (FG.k (FG.k (FG.k (FG.k (FG.k (FG.k (FG.k (FG.k (FG.k (FG.k (FG.k (FG.z FG.nil))))))))))))) ?_
    have hni : ∀ j ∈ is, j ≠ i := fun j hj e => hnd.1.1 (e ▸ hj)
    have hnd' : ∀ j ∈ ds, j ≠ i := fun j hj e => hnd.1.2 (e ▸ hj)
    refine ih (mI v 28 i) v1 (i :: ds) ?_ ?_ ?_ ?_ (fun j hj => hi j (List.mem_cons_of_mem _ hj)) (fun v' c1 c2 c3 => ?_)
    · rw [a4]
      exact hL'.on (fun j hj => upR_ne _ _ (hni j hj))
    · rw [a4, a2, upR_at]
      refine ⟨rfl, ?_⟩
      rw [upR_at]
      exact hD.on (fun j hj => upR_ne _ _ (hnd' j hj))
    · rw [a3, upR_at]
      rfl
    · exact List.perm_middle.nodup_iff.mpr (List.nodup_cons.mpr ⟨by rw [List.mem_append, not_or]; exact hnd.1, hnd.2⟩)
    · have e1 : is.reverse ++ i :: ds = (i :: is).reverse ++ ds := by
        rw [List.reverse_cons, List.append_assoc]
        rfl
      rw [e1] at c2 c3
      refine hQ v' ⟨fun j h1 h2 h3 => (c1.1 j h1 h2 h3).trans (a1 j h1 h2 h3), fun j hj => ⟨(c1.2.1 j hj).1.trans (by rw [a2, upR_ne _ _ hj]), (c1.2.1 j hj).2.trans (by rw [a3, upR_ne _ _ hj])⟩, fun j hj => ?_, c1.2.2.2.1.trans a5, c1.2.2.2.2.trans a6⟩ c2 c3
      rw [List.mem_cons, not_or] at hj
      rw [c1.2.2.1 j hj.2, a4, upR_ne _ _ hj.1]
theorem backOf_mor {rows more : List Rw} {w : Wd} (h : RowOK s ky rows w) : backOf s ky (rows ++ more) w = backOf s ky rows w ∧ RowOK s ky (rows ++ more) w := by
  match hw : wR w with
  | none => exact ⟨by rw [backOf_none hw, backOf_none hw], fun r hr => by rw [hw] at hr; cases hr⟩
  | some r =>
    obtain ⟨y, hy⟩ := h r hw
    have hl := (List.getElem?_eq_some_iff.mp hy).1
    have hy' : (rows ++ more)[r]? = some (false, s, ky, wB w, wE w, y) := by rw [List.getElem?_append_left hl]; exact hy
    refine ⟨by rw [backOf_some hw hy, backOf_some hw hy'], fun r' hr' => ?_⟩
    rw [hw] at hr'
    have := Option.some.inj hr'
    subst this
    exact ⟨y, hy'⟩
theorem bksL_one (rows : List Rw) (T : List Wd) (x : Wd) : bksL s ky rows (T ++ [x]) = bksL s ky rows T ++ backOf s ky rows x := by
  unfold bksL
  rw [List.flatMap_append, List.flatMap_singleton]
theorem bksL_le (rows : List Rw) (T : List Wd) : (bksL s ky rows T).length ≤ T.length := by
  unfold bksL
  induction T with
  | nil => exact Nat.le_refl _
  | cons x T ih =>
    rw [List.flatMap_cons, List.length_append, List.length_cons]
    have := backOf_le s ky rows x
    omega
def tkM (s ky : Nat) (rows : List Rw) (T : List Wd) : Int32 := if (bksL s ky rows T).length = 0 then 0 else 1
theorem cs_body {u v : Mu} {n i k : Nat} {x : Wd} {es ds l : List Nat} {J1 : List Nw} {rows : List Rw} {mi B E c6 : Int32} {va : Int64} (hm : MK h m) (hn : n < 48100) (hk : k < n) (hki : l[i]? = some k) (hkJ : k ∉ J1.map (·.1)) (hW : MWk u X k (some (s, ky, x, es))) (hrow : RowOK s ky rows x) (hr : (rows ++ bksL s ky rows (J1.map (·.2.1))).length < 200000) (hes : ∀ i ∈ es, i < 48100) (hnd : (es ++ ds).Nodup) (hi48 : i < 48100)
    (hJ : JI u v s ky n rows l J1 B E ds)
    (hQ : ∀ v', JI u v' s ky n rows l (J1 ++ [(k, x, es)]) (if wB x < B then wB x else B) (if E < wE x then wE x else E) (es.reverse ++ ds) → V g mX10_comeSession (d + 4) 431 [.ref m, .int (nI s), .int (nI ky), .int mi, .long va, zz, .int c6, .int (tkM s ky rows ((J1 ++ [(k, x, es)]).map (·.2.1))), .int (nI n), .int (nI i), zz, zz, zz] [] (mh h m v') Q) :
    V g mX10_comeSession (d + 4) 232 [.ref m, .int (nI s), .int (nI ky), .int mi, .long va, zz, .int c6, .int (tkM s ky rows (J1.map (·.2.1))), .int (nI n), .int (nI i), zz, zz, zz] [] (mh h m v) Q := by
  obtain ⟨j1, ⟨n19, n20, n21, n22, n23, n24, n26, nL⟩, j3, j4, j5, j6, ⟨jL27, jL18, j18⟩, ⟨f78, f79, f91, f88⟩, jF⟩ := hJ
  obtain ⟨w1, w2, w3, w4, w5, w6, w7, w8, w9⟩ := hW
  have vk : ∀ r, 19 ≤ r → r ≤ 26 → mI v r k = mI u r k := fun r h1 h2 => j4 k hkJ (by omega) r h1 h2
  have hdisj : ∀ e ∈ es, e ∉ ds := fun e he hd => by
    have := List.nodup_append.mp hnd
    exact this.2.2 e he e hd rfl
  have hbl := bksL_le (s := s) (ky := ky) rows (J1.map (·.2.1))
  rw [List.length_map] at hbl
  obtain ⟨hback, hrow'⟩ := backOf_mor (more := bksL s ky rows (J1.map (·.2.1))) hrow
  have hmap : (J1 ++ [(k, x, es)]).map (·.2.1) = J1.map (·.2.1) ++ [x] := by rw [List.map_append]; rfl
  have hb1 := bksL_one (s := s) (ky := ky) rows (J1.map (·.2.1)) x
  have hbx := backOf_len hrow
  refine v_ald0 (q := 233) dX10_comeSession_232 rfl rfl ?_
  refine w_ga (q := 236) (j := 36) dX10_comeSession_233 rfl hm (by decide) gf_X10_119_9 ?_
  refine v_ild9 (q := 238) dX10_comeSession_236 rfl ?_
  refine w_iald (q := 239) (n := 48100) dX10_comeSession_238 rfl hm (by decide) rfl rfl rfl (by omega) ?_
  rw [jF i k hki]
  refine v_ist10 (q := 241) dX10_comeSession_239 rfl (by decide) rfl ?_
  refine v_ild7 (q := 243) dX10_comeSession_241 rfl ?_
  -- the rest, behind tookBack
  have rest : V g mX10_comeSession (d + 4) 261 [.ref m, .int (nI s), .int (nI ky), .int mi, .long va, zz, .int c6, .int (tkM s ky rows (J1.map (·.2.1))), .int (nI n), .int (nI i), .int (nI k), zz, zz] [.int (tkM s ky rows ((J1 ++ [(k, x, es)]).map (·.2.1)))] (mh h m v) Q := by
    refine v_ist7 (q := 263) dX10_comeSession_261 rfl (by decide) rfl ?_
    refine v_ald0 (q := 264) dX10_comeSession_263 rfl rfl ?_
    refine v_ild10 (q := 266) dX10_comeSession_264 rfl ?_
    refine v_callV (q := 269) (d' := d + 3) (av := [.int (nI k)]) dX10_comeSession_266 rfl ok_X10_takeBack CL9 ml_X10_162 im_X10_takeBack se_X10_takeBack hm.1 (by omega) rfl rfl (Nat.le_of_ble_eq_true rfl) ?_
    refine q_takeBack (d := d + 2) (w := x) hm (by omega) j1 hr ((vk 19 (by decide) (by decide)).trans w1) ((vk 20 (by decide) (by decide)).trans w2) ((vk 21 (by decide) (by decide)).trans w3) ((vk 22 (by decide) (by decide)).trans w4) ((vk 24 (by decide) (by decide)).trans w6) hrow' (fun v1 g1 h36 r1 z1 => ?_)
    rw [hback, List.append_assoc, ← hb1, ← hmap] at r1
    refine v_ald0 (q := 270) dX10_comeSession_269 rfl rfl ?_
    refine w_ga (q := 273) (j := 25) dX10_comeSession_270 rfl hm (by decide) gf_X10_85_9 ?_
    refine v_ild10 (q := 275) dX10_comeSession_273 rfl ?_
    refine w_iald (q := 276) (n := 48100) dX10_comeSession_275 rfl hm (by decide) rfl rfl rfl (by omega) ?_
    rw [g1.1 25 (by decide) (by decide), vk 25 (by decide) (by decide)]
    refine v_ist11 (q := 278) dX10_comeSession_276 rfl (by decide) rfl ?_
    refine cs_chain (d := d) hm hn es _ v1 ds ?_ ?_ ?_ hnd hes (fun v2 c2 L2 N2 => ?_)
    · rw [g1.1 28 (by decide) (by decide)]
      exact w8.on (fun e he => j6 e (hdisj e he))
    · rw [g1.1 28 (by decide) (by decide), g1.1 25 (by decide) (by decide)]
      exact nL
    · rw [g1.1 26 (by decide) (by decide)]
      exact n26
    have e21 : mI v2 21 = mI v 21 := (c2.1 21 (by decide) (by decide) (by decide)).trans (g1.1 21 (by decide) (by decide))
    have e22 : mI v2 22 = mI v 22 := (c2.1 22 (by decide) (by decide) (by decide)).trans (g1.1 22 (by decide) (by decide))
    -- the last stores
    have fin : ∀ v3 : Mu, mI v3 21 = upR (mI v2 21) n (if wB x < B then wB x else B) → mI v3 22 = upR (mI v2 22) n (if E < wE x then wE x else E) → (∀ j, j ≠ 21 → j ≠ 22 → mI v3 j = mI v2 j) → mL v3 = mL v2 → mF v3 = mF v2 → V g mX10_comeSession (d + 4) 415 [.ref m, .int (nI s), .int (nI ky), .int mi, .long va, zz, .int c6, .int (tkM s ky rows ((J1 ++ [(k, x, es)]).map (·.2.1))), .int (nI n), .int (nI i), .int (nI k), zz, zz] [] (mh h m v3) Q := fun v3 p21 p22 pj pL pF => by
      refine v_ald0 (q := 416) dX10_comeSession_415 rfl rfl ?_
      refine w_ga (q := 419) (j := 19) dX10_comeSession_416 rfl hm (by decide) gf_X10_67_9 ?_
      refine v_ild10 (q := 421) dX10_comeSession_419 rfl ?_
      refine v_iconst (q := 422) (v := -1) dX10_comeSession_421 rfl (by decide) ?_
      refine w_iast (q := 423) (n := 48100) dX10_comeSession_422 rfl hm (by decide) rfl rfl rfl (by omega) ?_
      refine v_ald0 (q := 424) dX10_comeSession_423 rfl rfl ?_
      refine w_ga (q := 427) (j := 23) dX10_comeSession_424 rfl hm (by decide) gf_X10_79_9 ?_
      refine v_ild10 (q := 429) dX10_comeSession_427 rfl ?_
      refine v_iconst (q := 430) (v := 0) dX10_comeSession_429 rfl (by decide) ?_
      refine w_zast (q := 431) (n := 48100) dX10_comeSession_430 rfl hm (by decide) rfl rfl rfl (by omega) rfl ?_
      refine v_fg (FG.k (FG.k (FG.k (FG.k (FG.k (FG.k (FG.k (FG.k (FG.k (FG.k (FG.z (FG.z (FG.z FG.nil))))))))))))) ?_
      have q19 : mI (sI (sI v3 19 k (-1)) 23 k 0) 19 = upR (mI v3 19) k (-1) := by rw [mI_nr _ (by decide), mI_row]
      have q23 : mI (sI (sI v3 19 k (-1)) 23 k 0) 23 = upR (mI v3 23) k 0 := by rw [mI_row, mI_nr _ (by decide)]
      have qj : ∀ j, j ≠ 19 → j ≠ 23 → mI (sI (sI v3 19 k (-1)) 23 k 0) j = mI v3 j := fun j h1 h2 => by rw [mI_nr _ h2, mI_nr _ h1]
      have qL : mL (sI (sI v3 19 k (-1)) 23 k 0) = mL v3 := rfl
      have qF : mF (sI (sI v3 19 k (-1)) 23 k 0) = mF v3 := rfl
      show V g mX10_comeSession (d + 4) 431 _ _ (mh h m (sI (sI v3 19 k (-1)) 23 k 0)) Q
      generalize sI (sI v3 19 k (-1)) 23 k 0 = v4 at *
      have tr : ∀ j, j ≠ 19 → j ≠ 21 → j ≠ 22 → j ≠ 23 → j ≠ 25 → j ≠ 26 → j ≠ 28 → mI v4 j = mI v1 j := fun j h1 h2 h3 h4 h5 h6 h7 => (qj j h1 h4).trans ((pj j h2 h3).trans (c2.1 j h5 h6 h7))
      refine hQ v4 ⟨?_, ⟨?_, ?_, ?_, ?_, ?_, ?_, ?_, ?_⟩, ?_, fun j hj hjn r h1 h2 => ?_, fun j hj => ?_, fun e he => ?_, ⟨?_, ?_, fun j hj => ?_⟩, ⟨?_, ?_, ?_, ?_⟩, fun a y ha => ?_⟩
      · exact r1.same (fun j h1 h2 => tr j (by omega) (by omega) (by omega) (by omega) (by omega) (by omega) (by omega)) (by rw [qL, pL, c2.2.2.2.1]) (by rw [qF, pF, c2.2.2.2.2])
      · rw [q19, upR_ne _ _ (by omega), pj 19 (by decide) (by decide), c2.1 19 (by decide) (by decide) (by decide), g1.1 19 (by decide) (by decide)]
        exact n19
      · rw [tr 20 (by decide) (by decide) (by decide) (by decide) (by decide) (by decide) (by decide), g1.1 20 (by decide) (by decide)]
        exact n20
      · rw [qj 21 (by decide) (by decide), p21, upR_at]
      · rw [qj 22 (by decide) (by decide), p22, upR_at]
      · rw [q23, upR_ne _ _ (by omega), pj 23 (by decide) (by decide), c2.1 23 (by decide) (by decide) (by decide), g1.1 23 (by decide) (by decide)]
        exact n23
      · rw [tr 24 (by decide) (by decide) (by decide) (by decide) (by decide) (by decide) (by decide), g1.2.1 n (by omega)]
        exact n24
      · rw [qj 26 (by decide) (by decide), pj 26 (by decide) (by decide)]
        exact N2
      · rw [qj 28 (by decide) (by decide), pj 28 (by decide) (by decide), qj 25 (by decide) (by decide), pj 25 (by decide) (by decide)]
        exact L2
      · rw [List.flatMap_append, List.flatMap_singleton]
        exact ((List.reverse_perm es).append j3).trans List.perm_append_comm
      · rw [List.map_append, List.mem_append, not_or] at hj
        have hjk : j ≠ k := fun e => hj.2 (List.mem_singleton.mpr e)
        have old := j4 j hj.1 hjn r h1 h2
        have : r = 19 ∨ r = 20 ∨ r = 21 ∨ r = 22 ∨ r = 23 ∨ r = 24 ∨ r = 25 ∨ r = 26 := by omega
        rcases this with e | e | e | e | e | e | e | e <;> subst e
        · rw [q19, upR_ne _ _ hjk, pj 19 (by decide) (by decide), c2.1 19 (by decide) (by decide) (by decide), g1.1 19 (by decide) (by decide)]
          exact old
        · rw [tr 20 (by decide) (by decide) (by decide) (by decide) (by decide) (by decide) (by decide), g1.1 20 (by decide) (by decide)]
          exact old
        · rw [qj 21 (by decide) (by decide), p21, upR_ne _ _ hjn, e21]
          exact old
        · rw [qj 22 (by decide) (by decide), p22, upR_ne _ _ hjn, e22]
          exact old
        · rw [q23, upR_ne _ _ hjk, pj 23 (by decide) (by decide), c2.1 23 (by decide) (by decide) (by decide), g1.1 23 (by decide) (by decide)]
          exact old
        · rw [tr 24 (by decide) (by decide) (by decide) (by decide) (by decide) (by decide) (by decide), g1.2.1 j hjk]
          exact old
        · rw [qj 25 (by decide) (by decide), pj 25 (by decide) (by decide), (c2.2.1 j hjn).1, g1.1 25 (by decide) (by decide)]
          exact old
        · rw [qj 26 (by decide) (by decide), pj 26 (by decide) (by decide), (c2.2.1 j hjn).2, g1.1 26 (by decide) (by decide)]
          exact old
      · rw [q19]
        by_cases e : j = k
        · rw [e, upR_at]
        · rw [upR_ne _ _ e, pj 19 (by decide) (by decide), c2.1 19 (by decide) (by decide) (by decide), g1.1 19 (by decide) (by decide)]
          rw [List.map_append, List.mem_append] at hj
          exact j5 j (hj.resolve_right (fun z => e (List.mem_singleton.mp z)))
      · rw [List.mem_append, not_or] at he
        rw [qj 28 (by decide) (by decide), pj 28 (by decide) (by decide), c2.2.2.1 e (fun z => he.1 (List.mem_reverse.mpr z)), g1.1 28 (by decide) (by decide)]
        exact j6 e he.2
      · rw [qL, pL, c2.2.2.2.1, g1.2.2.1 27 (by decide) (by decide)]
        exact jL27
      · rw [qL, pL, c2.2.2.2.1, g1.2.2.1 18 (by decide) (by decide)]
        exact jL18
      · rw [tr j (by omega) (by omega) (by omega) (by omega) (by omega) (by omega) (by omega), g1.1 j (by omega) (by omega)]
        exact j18 j hj
      · rw [qF, pF, c2.2.2.2.2, g1.2.2.2 78 (by decide)]
        exact f78
      · rw [qF, pF, c2.2.2.2.2, g1.2.2.2 79 (by decide)]
        exact f79
      · rw [qF, pF, c2.2.2.2.2, g1.2.2.2 91 (by decide)]
        exact f91
      · rw [qF, pF, c2.2.2.2.2, g1.2.2.2 88 (by decide)]
        exact f88
      · rw [tr 36 (by decide) (by decide) (by decide) (by decide) (by decide) (by decide) (by decide), h36]
        exact jF a y ha
    refine v_ald0 (q := 334) dX10_comeSession_333 rfl rfl ?_
    refine w_ga (q := 337) (j := 21) dX10_comeSession_334 rfl hm (by decide) gf_X10_73_9 ?_
    refine v_ild8 (q := 339) dX10_comeSession_337 rfl ?_
    refine v_ald0 (q := 340) dX10_comeSession_339 rfl rfl ?_
    refine w_ga (q := 343) (j := 21) dX10_comeSession_340 rfl hm (by decide) gf_X10_73_9 ?_
    refine v_ild10 (q := 345) dX10_comeSession_343 rfl ?_
    refine w_iald (q := 346) (n := 48100) dX10_comeSession_345 rfl hm (by decide) rfl rfl rfl (by omega) ?_
    refine v_ald0 (q := 347) dX10_comeSession_346 rfl rfl ?_
    refine w_ga (q := 350) (j := 21) dX10_comeSession_347 rfl hm (by decide) gf_X10_73_9 ?_
    refine v_ild8 (q := 352) dX10_comeSession_350 rfl ?_
    refine w_iald (q := 353) (n := 48100) dX10_comeSession_352 rfl hm (by decide) rfl rfl rfl (by omega) ?_
    rw [e21, vk 21 (by decide) (by decide), w3, n21]
    have ends : ∀ v3 : Mu, mI v3 21 = upR (mI v2 21) n (if wB x < B then wB x else B) → (∀ j, j ≠ 21 → mI v3 j = mI v2 j) → mL v3 = mL v2 → mF v3 = mF v2 → V g mX10_comeSession (d + 4) 374 [.ref m, .int (nI s), .int (nI ky), .int mi, .long va, zz, .int c6, .int (tkM s ky rows ((J1 ++ [(k, x, es)]).map (·.2.1))), .int (nI n), .int (nI i), .int (nI k), zz, zz] [] (mh h m v3) Q := fun v3 p21 pj pL pF => by
      have e22' : mI v3 22 = mI v 22 := (pj 22 (by decide)).trans e22
      refine v_ald0 (q := 375) dX10_comeSession_374 rfl rfl ?_
      refine w_ga (q := 378) (j := 22) dX10_comeSession_375 rfl hm (by decide) gf_X10_76_9 ?_
      refine v_ild8 (q := 380) dX10_comeSession_378 rfl ?_
      refine v_ald0 (q := 381) dX10_comeSession_380 rfl rfl ?_
      refine w_ga (q := 384) (j := 22) dX10_comeSession_381 rfl hm (by decide) gf_X10_76_9 ?_
      refine v_ild10 (q := 386) dX10_comeSession_384 rfl ?_
      refine w_iald (q := 387) (n := 48100) dX10_comeSession_386 rfl hm (by decide) rfl rfl rfl (by omega) ?_
      refine v_ald0 (q := 388) dX10_comeSession_387 rfl rfl ?_
      refine w_ga (q := 391) (j := 22) dX10_comeSession_388 rfl hm (by decide) gf_X10_76_9 ?_
      refine v_ild8 (q := 393) dX10_comeSession_391 rfl ?_
      refine w_iald (q := 394) (n := 48100) dX10_comeSession_393 rfl hm (by decide) rfl rfl rfl (by omega) ?_
      rw [e22', vk 22 (by decide) (by decide), w4, n22]
      by_cases hlt : E < wE x
      · rw [if_pos hlt] at fin
        refine v_icmp_le (t := 407) (q := 397) dX10_comeSession_394 (by decide) rfl (fun z => absurd hlt (Int32.not_lt.mpr z)) (fun _ => ?_)
        refine v_ald0 (q := 398) dX10_comeSession_397 rfl rfl ?_
        refine w_ga (q := 401) (j := 22) dX10_comeSession_398 rfl hm (by decide) gf_X10_76_9 ?_
        refine v_ild10 (q := 403) dX10_comeSession_401 rfl ?_
        refine w_iald (q := 404) (n := 48100) dX10_comeSession_403 rfl hm (by decide) rfl rfl rfl (by omega) ?_
        rw [e22', vk 22 (by decide) (by decide), w4]
        refine v_goto (q := 414) dX10_comeSession_404 (by decide) ?_
        refine w_iast (q := 415) (n := 48100) dX10_comeSession_414 rfl hm (by decide) rfl rfl rfl (by omega) ?_
        refine fin _ ?_ ?_ (fun j h1 h2 => ?_) pL pF
        · rw [mI_nr _ (by decide)]
          exact p21
        · rw [mI_row, pj 22 (by decide)]
        · rw [mI_nr _ h2]
          exact pj j h1
      · rw [if_neg hlt] at fin
        refine v_icmp_le (t := 407) (q := 397) dX10_comeSession_394 (by decide) rfl (fun _ => ?_) (fun z => absurd (Int32.not_lt.mp hlt) z)
        refine v_ald0 (q := 408) dX10_comeSession_407 rfl rfl ?_
        refine w_ga (q := 411) (j := 22) dX10_comeSession_408 rfl hm (by decide) gf_X10_76_9 ?_
        refine v_ild8 (q := 413) dX10_comeSession_411 rfl ?_
        refine w_iald (q := 414) (n := 48100) dX10_comeSession_413 rfl hm (by decide) rfl rfl rfl (by omega) ?_
        rw [e22', n22]
        refine w_iast (q := 415) (n := 48100) dX10_comeSession_414 rfl hm (by decide) rfl rfl rfl (by omega) ?_
        refine fin _ ?_ ?_ (fun j h1 h2 => ?_) pL pF
        · rw [mI_nr _ (by decide)]
          exact p21
        · rw [mI_row, pj 22 (by decide)]
        · rw [mI_nr _ h2]
          exact pj j h1
    by_cases hlt : wB x < B
    · rw [if_pos hlt] at ends
      refine v_icmp_ge (t := 366) (q := 356) dX10_comeSession_353 (by decide) rfl (fun z => absurd hlt (Int32.not_lt.mpr z)) (fun _ => ?_)
      refine v_ald0 (q := 357) dX10_comeSession_356 rfl rfl ?_
      refine w_ga (q := 360) (j := 21) dX10_comeSession_357 rfl hm (by decide) gf_X10_73_9 ?_
      refine v_ild10 (q := 362) dX10_comeSession_360 rfl ?_
      refine w_iald (q := 363) (n := 48100) dX10_comeSession_362 rfl hm (by decide) rfl rfl rfl (by omega) ?_
      rw [e21, vk 21 (by decide) (by decide), w3]
      refine v_goto (q := 373) dX10_comeSession_363 (by decide) ?_
      refine w_iast (q := 374) (n := 48100) dX10_comeSession_373 rfl hm (by decide) rfl rfl rfl (by omega) ?_
      exact ends _ mI_row (fun j hj => mI_nr _ hj) rfl rfl
    · rw [if_neg hlt] at ends
      refine v_icmp_ge (t := 366) (q := 356) dX10_comeSession_353 (by decide) rfl (fun _ => ?_) (fun z => absurd (Int32.not_lt.mp hlt) z)
      refine v_ald0 (q := 367) dX10_comeSession_366 rfl rfl ?_
      refine w_ga (q := 370) (j := 21) dX10_comeSession_367 rfl hm (by decide) gf_X10_73_9 ?_
      refine v_ild8 (q := 372) dX10_comeSession_370 rfl ?_
      refine w_iald (q := 373) (n := 48100) dX10_comeSession_372 rfl hm (by decide) rfl rfl rfl (by omega) ?_
      rw [e21, n21]
      refine w_iast (q := 374) (n := 48100) dX10_comeSession_373 rfl hm (by decide) rfl rfl rfl (by omega) ?_
      exact ends _ mI_row (fun j hj => mI_nr _ hj) rfl rfl
  have etk : tkM s ky rows ((J1 ++ [(k, x, es)]).map (·.2.1)) = if tkM s ky rows (J1.map (·.2.1)) = 0 then (if (wR x).isSome then 1 else 0) else 1 := by
    unfold tkM
    rw [hmap, hb1, List.length_append, hbx]
    by_cases h0 : (bksL s ky rows (J1.map (·.2.1))).length = 0
    · rw [if_pos h0, if_pos rfl, h0, Nat.zero_add]
      by_cases hsm : (wR x).isSome = true
      · rw [if_pos hsm, if_pos hsm]
        rfl
      · rw [if_neg hsm, if_neg hsm]
        rfl
    · rw [if_neg h0, if_neg (show ¬ (1 : Int32) = 0 by decide)]
      exact if_neg (by omega)
  have hneg := rI_neg (o := wR x) (fun r hr' => by
    obtain ⟨y, hy⟩ := hrow r hr'
    have := (List.getElem?_eq_some_iff.mp hy).1
    rw [List.length_append] at hr
    omega)
  rw [etk] at rest
  by_cases ht : tkM s ky rows (J1.map (·.2.1)) = 0
  · rw [if_pos ht] at rest
    refine v_if_ne (t := 256) (q := 246) dX10_comeSession_243 (by decide) rfl (fun z => absurd ht z) (fun _ => ?_)
    refine v_ald0 (q := 247) dX10_comeSession_246 rfl rfl ?_
    refine w_ga (q := 250) (j := 24) dX10_comeSession_247 rfl hm (by decide) gf_X10_82_9 ?_
    refine v_ild10 (q := 252) dX10_comeSession_250 rfl ?_
    refine w_iald (q := 253) (n := 48100) dX10_comeSession_252 rfl hm (by decide) rfl rfl rfl (by omega) ?_
    rw [vk 24 (by decide) (by decide), w6]
    by_cases hsm : (wR x).isSome = true
    · rw [if_pos hsm] at rest
      refine v_if_lt (t := 260) (q := 256) dX10_comeSession_253 (by decide) rfl (fun z => absurd (hneg.mp z) (by rw [hsm]; decide)) (fun _ => ?_)
      refine v_iconst (q := 257) (v := 1) dX10_comeSession_256 rfl (by decide) ?_
      refine v_goto (q := 261) dX10_comeSession_257 (by decide) ?_
      exact rest
    · rw [if_neg hsm] at rest
      refine v_if_lt (t := 260) (q := 256) dX10_comeSession_253 (by decide) rfl (fun _ => ?_) (fun z => absurd (hneg.mpr (Bool.eq_false_iff.mpr hsm)) z)
      refine v_iconst (q := 261) (v := 0) dX10_comeSession_260 rfl (by decide) ?_
      exact rest
  · rw [if_neg ht] at rest
    refine v_if_ne (t := 256) (q := 246) dX10_comeSession_243 (by decide) rfl (fun _ => ?_) (fun z => absurd z ht)
    refine v_iconst (q := 257) (v := 1) dX10_comeSession_256 rfl (by decide) ?_
    refine v_goto (q := 261) dX10_comeSession_257 (by decide) ?_
    exact rest
end LC7
