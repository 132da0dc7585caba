section LAWC
variable {p : Program} {l : Launch} {e : Env} {s : State} {m : MethodId} {below : List Frame} {meth : Method} {c : Code} {b L : Nat} {xs : Nat → Int32} {D : va_G} {cI cS : ClassId} {qx qm : Nat} {a0 a1 a2 a3 : Nat → Nat} {b3 : Nat → Nat → Nat} {a4 : Nat → Nat} {m1 m2 m3 m5 m6 : Nat} {i : Nat} {Q : State → Prop}
variable {st sn tr : StT} {hi : HiT} {sc : ScT} {has : Int32} {t h : FnI} {k : Int32} {sm : FnI} {tk : Int32} {bf tx : FnI} {ln pl le on ot ca : Int32} {H : Heap} {locs : List Loc} {ls : Array Slot}
set_option maxHeartbeats 4000000 in
set_option maxRecDepth 100000 in
theorem law_restore (C0 : lw_At p s m meth c b L xs) (hE : EV D (tysA cI cS) s) (hSX : SX (Anew s) s s.heap) (hi4 : i + 4 ≤ L) (hL : L ≤ 2048) (R : TopR st sn hi sc has t h k sm tk tx ln) (hP : va_P D vwCl (fl (wX cI cS qx a0 a1 a2 a3 b3 a4 st sn tr hi sc has (wM cI qm m1 m2 m3 m5 m6 t h k sm tk bf tx ln pl le on ot ca))) H) (hD : va_D (Anew s) (fl (wX cI cS qx a0 a1 a2 a3 b3 a4 st sn tr hi sc has (wM cI qm m1 m2 m3 m5 m6 t h k sm tk bf tx ln pl le on ot ca)))) (hS : va_S (Anew s) s.heap H locs) (hl : lv_has ls 8 [(0, .ref b), (1, .ref qx), (2, .ref qm), (3, .int (nI i))]) (kk : LBack p l e s m b below meth c D cI cS qx qm a0 a1 a2 a3 b3 a4 m1 m2 m3 m5 m6 i Q) : W p l e room_1 s m #[Value.ref b] below meth c H locs 128 3083 Q (F0 m 449 ls []) := by
  have hkp := R.k5
  have hs := R.wc
  obtain ⟨hx, hb, hr, hml, hown, hts0, hX, hbl, hlocks, hgv⟩ := C0
  have hts : ∀ w ∈ wsL_law, w.before #[Value.ref b] s = true := fun w h => hts0 w (wsL_law_in w h)
  have hbA : ¬ Anew s b := Nat.not_le.mpr hbl
  obtain ⟨RPp, Rsn, Rhas, Rsm, Rtx⟩ := R
  have hw : WS st := RPp.1.1
  have hm : WM t := RPp.1.2.1
  have hh : WH hi := RPp.2.1
  have hbo : BL st.2.2.1 := hw.2.2
  have hbs : BL sn.2.2.1 := Rsn
  have hlb : Bd ln 80 := Rtx.2.1
  refine lv_aload_n hx hb dL_law_449 rfl (lv_at hl 1 rfl) ?_
  refine bIV (W0 := wX cI cS qx a0 a1 a2 a3 b3 a4 st sn tr hi sc has (wM cI qm m1 m2 m3 m5 m6 t h k sm tk bf tx ln pl le on ot ca)) (wc := [(qx, .inr (6, [.ref (a0 0), .ref (a1 0), .ref (a2 0), .ref (a3 0), .ref (a4 0), .int has]))] :: wSt cI a0 st :: wSt cI a1 sn :: wHi cI cS a3 b3 hi []) (w1 := fun u : TRT => [(qx, .inr (6, [.ref (a0 0), .ref (a1 0), .ref (a2 0), .ref (a3 0), .ref (a4 0), .int u.2.2.2]))] :: wSt cI a0 u.1 :: wSt cI a1 u.2.1 :: wHi cI cS a3 b3 u.2.2.1 []) ⟨hx, hb, hml, hown, hts⟩ (kX6_restore l D cI cS qx a0 a1 a3 b3 (a2 0) (a4 0) (st, sn, hi, has) hbo hbs hh) (cwV 0 hts gL_law_X6_restore rfl rfl rfl (by decide +kernel) ⟨Nat.le_of_ble_eq_true rfl, Nat.le_of_ble_eq_true rfl⟩) hE hP hD hS rfl rfl [0, 1, 2, 4, 5, 6, 7, 8, 9, 10, 11] rfl rfl (fun _ => rfl) (fun _ => rfl) rfl hl.1 rfl (Nat.le_of_ble_eq_true rfl) ⟨Nat.le_of_ble_eq_true rfl, Nat.le_of_ble_eq_true rfl⟩ dL_law_450 (fun r1 u1 H locs e1 hP hD hS => ?_)
  have hP : va_P D vwCl (fl (wX cI cS qx a0 a1 a2 a3 b3 a4 u1.1 u1.2.1 tr u1.2.2.1 sc u1.2.2.2 (wM cI qm m1 m2 m3 m5 m6 t h k sm tk bf tx ln pl le on ot ca))) H := hP
  have hD : va_D (Anew s) (fl (wX cI cS qx a0 a1 a2 a3 b3 a4 u1.1 u1.2.1 tr u1.2.2.1 sc u1.2.2.2 (wM cI qm m1 m2 m3 m5 m6 t h k sm tk bf tx ln pl le on ot ca))) := hD
  refine lv_aload_n hx hb dL_law_453 rfl (lv_at hl 2 rfl) ?_
  refine bIV (W0 := wX cI cS qx a0 a1 a2 a3 b3 a4 u1.1 u1.2.1 tr u1.2.2.1 sc u1.2.2.2 (wM cI qm m1 m2 m3 m5 m6 t h k sm tk bf tx ln pl le on ot ca)) (wc := [[(qm, .inr (7, [.ref m1, .ref m2, .int k, .ref m3, .int tk, .ref m5, .ref m6, .int ln, .int pl, .int le, .int on, .int ot, .int ca]))], [(m1, .inl (cI, 163, .inl t))], [(m2, .inl (cI, 815, .inl h))], [(m3, .inl (cI, 163, .inl sm))]]) (w1 := fun u : MWT => [[(qm, .inr (7, [.ref m1, .ref m2, .int u.2.2.1, .ref m3, .int u.2.2.2.2, .ref m5, .ref m6, .int ln, .int pl, .int le, .int on, .int ot, .int ca]))], [(m1, .inl (cI, 163, .inl u.1))], [(m2, .inl (cI, 815, .inl u.2.1))], [(m3, .inl (cI, 163, .inl u.2.2.2.1))]]) ⟨hx, hb, hml, hown, hts⟩ (kX7_restore l D cI cS qm m1 m2 m3 m5 m6 ln pl le on ot ca (t, h, k, sm, tk) hkp) (cwV 0 hts gL_law_X7_restore rfl rfl rfl (by decide +kernel) ⟨Nat.le_of_ble_eq_true rfl, Nat.le_of_ble_eq_true rfl⟩) hE hP hD hS rfl rfl [13, 14, 15, 16] rfl rfl (fun _ => rfl) (fun _ => rfl) rfl hl.1 rfl (Nat.le_of_ble_eq_true rfl) ⟨Nat.le_of_ble_eq_true rfl, Nat.le_of_ble_eq_true rfl⟩ dL_law_454 (fun r2 u2 H locs e2 hP hD hS => ?_)
  have hP : va_P D vwCl (fl (wX cI cS qx a0 a1 a2 a3 b3 a4 u1.1 u1.2.1 tr u1.2.2.1 sc u1.2.2.2 (wM cI qm m1 m2 m3 m5 m6 u2.1 u2.2.1 u2.2.2.1 u2.2.2.2.1 u2.2.2.2.2 bf tx ln pl le on ot ca))) H := hP
  have hD : va_D (Anew s) (fl (wX cI cS qx a0 a1 a2 a3 b3 a4 u1.1 u1.2.1 tr u1.2.2.1 sc u1.2.2.2 (wM cI qm m1 m2 m3 m5 m6 u2.1 u2.2.1 u2.2.2.1 u2.2.2.2.1 u2.2.2.2.2 bf tx ln pl le on ot ca))) := hD
  have hB := B_restore (τ := (st, sn, hi, has)) (m := (t, h, k, sm, tk)) RPp Rhas Rsm
  rw [e1, e2] at hB
  obtain ⟨hq, hR, g1, g2, g3⟩ := hB
  have hq : r1 = r2 := hq
  have g1 : u1.2.1 = sn := g1
  have g2 : u1.2.2.2 = has := g2
  have g3 : u2.2.2.2 = (sm, tk) := g3
  refine lv_icmp_eq (tgt := 789) hx hb dL_law_457 (by decide) (fun _ => ?_) (fun c9 => absurd hq c9)
  exact kk u1.1 u1.2.1 tr u1.2.2.1 sc u1.2.2.2 u2.1 u2.2.1 u2.2.2.1 u2.2.2.2.1 u2.2.2.2.2 bf tx ln pl le on ot ca _ _ _ ⟨hR, by rw [g1]; exact Rsn, by rw [g2, g3]; exact Rhas, by rw [g1, g3]; exact Rsm, Rtx⟩ hP hD hS hl
set_option maxHeartbeats 4000000 in
set_option maxRecDepth 100000 in
theorem law_value (C0 : lw_At p s m meth c b L xs) (hE : EV D (tysA cI cS) s) (hSX : SX (Anew s) s s.heap) (hi4 : i + 4 ≤ L) (hL : L ≤ 2048) (R : TopR st sn hi sc has t h k sm tk tx ln) (hP : va_P D vwCl (fl (wX cI cS qx a0 a1 a2 a3 b3 a4 st sn tr hi sc has (wM cI qm m1 m2 m3 m5 m6 t h k sm tk bf tx ln pl le on ot ca))) H) (hD : va_D (Anew s) (fl (wX cI cS qx a0 a1 a2 a3 b3 a4 st sn tr hi sc has (wM cI qm m1 m2 m3 m5 m6 t h k sm tk bf tx ln pl le on ot ca)))) (hS : va_S (Anew s) s.heap H locs) (hl : lv_has ls 8 [(0, .ref b), (1, .ref qx), (2, .ref qm), (3, .int (nI i))]) (kk : LBack p l e s m b below meth c D cI cS qx qm a0 a1 a2 a3 b3 a4 m1 m2 m3 m5 m6 i Q) : W p l e room_1 s m #[Value.ref b] below meth c H locs 128 3083 Q (F0 m 462 ls []) := by
  have hkp := R.k5
  have hs := R.wc
  obtain ⟨hx, hb, hr, hml, hown, hts0, hX, hbl, hlocks, hgv⟩ := C0
  have hts : ∀ w ∈ wsL_law, w.before #[Value.ref b] s = true := fun w h => hts0 w (wsL_law_in w h)
  have hbA : ¬ Anew s b := Nat.not_le.mpr hbl
  obtain ⟨RPp, Rsn, Rhas, Rsm, Rtx⟩ := R
  have hw : WS st := RPp.1.1
  have hm : WM t := RPp.1.2.1
  have hh : WH hi := RPp.2.1
  have hbo : BL st.2.2.1 := hw.2.2
  have hbs : BL sn.2.2.1 := Rsn
  have hlb : Bd ln 80 := Rtx.2.1
  refine lv_aload_n hx hb dL_law_462 rfl (lv_at hl 1 rfl) ?_
  refine lv_aload_n hx hb dL_law_463 rfl (lv_at hl 0 rfl) ?_
  refine lv_iload_n hx hb dL_law_464 rfl (lv_at hl 3 rfl) ?_
  refine lv_iconst (v := (1 : Int32)) hx hb dL_law_465 (by decide +kernel) ?_
  refine lv_iadd hx hb dL_law_466 ?_
  refine va_sld hx hb hX hbl hbA hS (zz_s1 hi4 hL) dL_law_467 ?_
  refine lv_aload_n hx hb dL_law_468 rfl (lv_at hl 0 rfl) ?_
  refine lv_iload_n hx hb dL_law_469 rfl (lv_at hl 3 rfl) ?_
  refine lv_iconst (v := (2 : Int32)) hx hb dL_law_470 (by decide +kernel) ?_
  refine lv_iadd hx hb dL_law_471 ?_
  refine va_sld hx hb hX hbl hbA hS (zz_s2 hi4 hL) dL_law_472 ?_
  refine bRV (W0 := wX cI cS qx a0 a1 a2 a3 b3 a4 st sn tr hi sc has (wM cI qm m1 m2 m3 m5 m6 t h k sm tk bf tx ln pl le on ot ca)) (wc := [(qx, .inr (6, [.ref (a0 0), .ref (a1 0), .ref (a2 0), .ref (a3 0), .ref (a4 0), .int has]))] :: wSt cI a0 st :: []) ⟨hx, hb, hml, hown, hts⟩ (kX6_value l D cI cS qx a0 (a1 0) (a2 0) (a3 0) (a4 0) has (xs (nI i + (1 : Int32)).toNatClampNeg) (xs (nI i + (2 : Int32)).toNatClampNeg) st) (cwV 2 hts gL_law_X6_value rfl rfl rfl (by decide +kernel) ⟨Nat.le_of_ble_eq_true rfl, Nat.le_of_ble_eq_true rfl⟩) hE hP rfl rfl [0, 1] rfl rfl rfl hl.1 rfl (Nat.le_of_ble_eq_true rfl) ⟨Nat.le_of_ble_eq_true rfl, Nat.le_of_ble_eq_true rfl⟩ dL_law_473 ?_
  refine lv_aload_n hx hb dL_law_476 rfl (lv_at hl 2 rfl) ?_
  refine lv_aload_n hx hb dL_law_477 rfl (lv_at hl 0 rfl) ?_
  refine lv_iload_n hx hb dL_law_478 rfl (lv_at hl 3 rfl) ?_
  refine lv_iconst (v := (1 : Int32)) hx hb dL_law_479 (by decide +kernel) ?_
  refine lv_iadd hx hb dL_law_480 ?_
  refine va_sld hx hb hX hbl hbA hS (zz_s1 hi4 hL) dL_law_481 ?_
  refine lv_aload_n hx hb dL_law_482 rfl (lv_at hl 0 rfl) ?_
  refine lv_iload_n hx hb dL_law_483 rfl (lv_at hl 3 rfl) ?_
  refine lv_iconst (v := (2 : Int32)) hx hb dL_law_484 (by decide +kernel) ?_
  refine lv_iadd hx hb dL_law_485 ?_
  refine va_sld hx hb hX hbl hbA hS (zz_s2 hi4 hL) dL_law_486 ?_
  refine bRV (W0 := wX cI cS qx a0 a1 a2 a3 b3 a4 st sn tr hi sc has (wM cI qm m1 m2 m3 m5 m6 t h k sm tk bf tx ln pl le on ot ca)) (wc := [[(qm, .inr (7, [.ref m1, .ref m2, .int k, .ref m3, .int tk, .ref m5, .ref m6, .int ln, .int pl, .int le, .int on, .int ot, .int ca]))], [(m1, .inl (cI, 163, .inl t))]]) ⟨hx, hb, hml, hown, hts⟩ (kX7_value l D cI cS qm m1 m2 k m3 tk m5 m6 ln pl le on ot ca (xs (nI i + (1 : Int32)).toNatClampNeg) (xs (nI i + (2 : Int32)).toNatClampNeg) t) (cwV 2 hts gL_law_X7_value rfl rfl rfl (by decide +kernel) ⟨Nat.le_of_ble_eq_true rfl, Nat.le_of_ble_eq_true rfl⟩) hE hP rfl rfl [13, 14] rfl rfl rfl hl.1 rfl (Nat.le_of_ble_eq_true rfl) ⟨Nat.le_of_ble_eq_true rfl, Nat.le_of_ble_eq_true rfl⟩ dL_law_487 ?_
  have hq : fX6_value (xs (nI i + (1 : Int32)).toNatClampNeg) (xs (nI i + (2 : Int32)).toNatClampNeg) st = fX7_value (xs (nI i + (1 : Int32)).toNatClampNeg) (xs (nI i + (2 : Int32)).toNatClampNeg) t := Q_value RPp.1 (xs (nI i + (1 : Int32)).toNatClampNeg) (xs (nI i + (2 : Int32)).toNatClampNeg)
  refine lv_icmp_eq (tgt := 789) hx hb dL_law_490 (by decide) (fun _ => ?_) (fun c9 => absurd hq c9)
  exact kk st sn tr hi sc has t h k sm tk bf tx ln pl le on ot ca _ _ _ ⟨RPp, Rsn, Rhas, Rsm, Rtx⟩ hP hD hS hl
set_option maxHeartbeats 4000000 in
set_option maxRecDepth 100000 in
theorem law_table (C0 : lw_At p s m meth c b L xs) (hE : EV D (tysA cI cS) s) (hSX : SX (Anew s) s s.heap) (hi4 : i + 4 ≤ L) (hL : L ≤ 2048) (R : TopR st sn hi sc has t h k sm tk tx ln) (hP : va_P D vwCl (fl (wX cI cS qx a0 a1 a2 a3 b3 a4 st sn tr hi sc has (wM cI qm m1 m2 m3 m5 m6 t h k sm tk bf tx ln pl le on ot ca))) H) (hD : va_D (Anew s) (fl (wX cI cS qx a0 a1 a2 a3 b3 a4 st sn tr hi sc has (wM cI qm m1 m2 m3 m5 m6 t h k sm tk bf tx ln pl le on ot ca)))) (hS : va_S (Anew s) s.heap H locs) (hl : lv_has ls 8 [(0, .ref b), (1, .ref qx), (2, .ref qm), (3, .int (nI i))]) (kk : LBack p l e s m b below meth c D cI cS qx qm a0 a1 a2 a3 b3 a4 m1 m2 m3 m5 m6 i Q) : W p l e room_1 s m #[Value.ref b] below meth c H locs 128 3083 Q (F0 m 495 ls []) := by
  have hkp := R.k5
  have hs := R.wc
  obtain ⟨hx, hb, hr, hml, hown, hts0, hX, hbl, hlocks, hgv⟩ := C0
  have hts : ∀ w ∈ wsL_law, w.before #[Value.ref b] s = true := fun w h => hts0 w (wsL_law_in w h)
  have hbA : ¬ Anew s b := Nat.not_le.mpr hbl
  obtain ⟨RPp, Rsn, Rhas, Rsm, Rtx⟩ := R
  have hw : WS st := RPp.1.1
  have hm : WM t := RPp.1.2.1
  have hh : WH hi := RPp.2.1
  have hbo : BL st.2.2.1 := hw.2.2
  have hbs : BL sn.2.2.1 := Rsn
  have hlb : Bd ln 80 := Rtx.2.1
  refine lv_aload_n hx hb dL_law_495 rfl (lv_at hl 1 rfl) ?_
  refine lv_aload_n hx hb dL_law_496 rfl (lv_at hl 0 rfl) ?_
  refine lv_iload_n hx hb dL_law_497 rfl (lv_at hl 3 rfl) ?_
  refine lv_iconst (v := (1 : Int32)) hx hb dL_law_498 (by decide +kernel) ?_
  refine lv_iadd hx hb dL_law_499 ?_
  refine va_sld hx hb hX hbl hbA hS (zz_s1 hi4 hL) dL_law_500 ?_
  refine lv_aload_n hx hb dL_law_501 rfl (lv_at hl 0 rfl) ?_
  refine lv_iload_n hx hb dL_law_502 rfl (lv_at hl 3 rfl) ?_
  refine lv_iconst (v := (2 : Int32)) hx hb dL_law_503 (by decide +kernel) ?_
  refine lv_iadd hx hb dL_law_504 ?_
  refine va_sld hx hb hX hbl hbA hS (zz_s2 hi4 hL) dL_law_505 ?_
  refine bRV (W0 := wX cI cS qx a0 a1 a2 a3 b3 a4 st sn tr hi sc has (wM cI qm m1 m2 m3 m5 m6 t h k sm tk bf tx ln pl le on ot ca)) (wc := [(qx, .inr (6, [.ref (a0 0), .ref (a1 0), .ref (a2 0), .ref (a3 0), .ref (a4 0), .int has]))] :: wSt cI a0 st :: []) ⟨hx, hb, hml, hown, hts⟩ (kX6_table l D cI cS qx a0 (a1 0) (a2 0) (a3 0) (a4 0) has (xs (nI i + (1 : Int32)).toNatClampNeg) (xs (nI i + (2 : Int32)).toNatClampNeg) st) (cwV 2 hts gL_law_X6_table rfl rfl rfl (by decide +kernel) ⟨Nat.le_of_ble_eq_true rfl, Nat.le_of_ble_eq_true rfl⟩) hE hP rfl rfl [0, 1] rfl rfl rfl hl.1 rfl (Nat.le_of_ble_eq_true rfl) ⟨Nat.le_of_ble_eq_true rfl, Nat.le_of_ble_eq_true rfl⟩ dL_law_506 ?_
  refine lv_aload_n hx hb dL_law_509 rfl (lv_at hl 2 rfl) ?_
  refine lv_aload_n hx hb dL_law_510 rfl (lv_at hl 0 rfl) ?_
  refine lv_iload_n hx hb dL_law_511 rfl (lv_at hl 3 rfl) ?_
  refine lv_iconst (v := (1 : Int32)) hx hb dL_law_512 (by decide +kernel) ?_
  refine lv_iadd hx hb dL_law_513 ?_
  refine va_sld hx hb hX hbl hbA hS (zz_s1 hi4 hL) dL_law_514 ?_
  refine lv_aload_n hx hb dL_law_515 rfl (lv_at hl 0 rfl) ?_
  refine lv_iload_n hx hb dL_law_516 rfl (lv_at hl 3 rfl) ?_
  refine lv_iconst (v := (2 : Int32)) hx hb dL_law_517 (by decide +kernel) ?_
  refine lv_iadd hx hb dL_law_518 ?_
  refine va_sld hx hb hX hbl hbA hS (zz_s2 hi4 hL) dL_law_519 ?_
  refine bRV (W0 := wX cI cS qx a0 a1 a2 a3 b3 a4 st sn tr hi sc has (wM cI qm m1 m2 m3 m5 m6 t h k sm tk bf tx ln pl le on ot ca)) (wc := [[(qm, .inr (7, [.ref m1, .ref m2, .int k, .ref m3, .int tk, .ref m5, .ref m6, .int ln, .int pl, .int le, .int on, .int ot, .int ca]))], [(m1, .inl (cI, 163, .inl t))]]) ⟨hx, hb, hml, hown, hts⟩ (kX7_table l D cI cS qm m1 m2 k m3 tk m5 m6 ln pl le on ot ca (xs (nI i + (1 : Int32)).toNatClampNeg) (xs (nI i + (2 : Int32)).toNatClampNeg) t) (cwV 2 hts gL_law_X7_table rfl rfl rfl (by decide +kernel) ⟨Nat.le_of_ble_eq_true rfl, Nat.le_of_ble_eq_true rfl⟩) hE hP rfl rfl [13, 14] rfl rfl rfl hl.1 rfl (Nat.le_of_ble_eq_true rfl) ⟨Nat.le_of_ble_eq_true rfl, Nat.le_of_ble_eq_true rfl⟩ dL_law_520 ?_
  have hq : fX6_table (xs (nI i + (1 : Int32)).toNatClampNeg) (xs (nI i + (2 : Int32)).toNatClampNeg) st = fX7_table (xs (nI i + (1 : Int32)).toNatClampNeg) (xs (nI i + (2 : Int32)).toNatClampNeg) t := Q_table RPp.1 (xs (nI i + (1 : Int32)).toNatClampNeg) (xs (nI i + (2 : Int32)).toNatClampNeg)
  refine lv_icmp_eq (tgt := 789) hx hb dL_law_523 (by decide) (fun _ => ?_) (fun c9 => absurd hq c9)
  exact kk st sn tr hi sc has t h k sm tk bf tx ln pl le on ot ca _ _ _ ⟨RPp, Rsn, Rhas, Rsm, Rtx⟩ hP hD hS hl
set_option maxHeartbeats 4000000 in
set_option maxRecDepth 100000 in
theorem law_copy (C0 : lw_At p s m meth c b L xs) (hE : EV D (tysA cI cS) s) (hSX : SX (Anew s) s s.heap) (hi4 : i + 4 ≤ L) (hL : L ≤ 2048) (R : TopR st sn hi sc has t h k sm tk tx ln) (hP : va_P D vwCl (fl (wX cI cS qx a0 a1 a2 a3 b3 a4 st sn tr hi sc has (wM cI qm m1 m2 m3 m5 m6 t h k sm tk bf tx ln pl le on ot ca))) H) (hD : va_D (Anew s) (fl (wX cI cS qx a0 a1 a2 a3 b3 a4 st sn tr hi sc has (wM cI qm m1 m2 m3 m5 m6 t h k sm tk bf tx ln pl le on ot ca)))) (hS : va_S (Anew s) s.heap H locs) (hl : lv_has ls 8 [(0, .ref b), (1, .ref qx), (2, .ref qm), (3, .int (nI i))]) (kk : LBack p l e s m b below meth c D cI cS qx qm a0 a1 a2 a3 b3 a4 m1 m2 m3 m5 m6 i Q) : W p l e room_1 s m #[Value.ref b] below meth c H locs 128 3083 Q (F0 m 528 ls []) := by
  have hkp := R.k5
  have hs := R.wc
  obtain ⟨hx, hb, hr, hml, hown, hts0, hX, hbl, hlocks, hgv⟩ := C0
  have hts : ∀ w ∈ wsL_law, w.before #[Value.ref b] s = true := fun w h => hts0 w (wsL_law_in w h)
  have hbA : ¬ Anew s b := Nat.not_le.mpr hbl
  obtain ⟨RPp, Rsn, Rhas, Rsm, Rtx⟩ := R
  have hw : WS st := RPp.1.1
  have hm : WM t := RPp.1.2.1
  have hh : WH hi := RPp.2.1
  have hbo : BL st.2.2.1 := hw.2.2
  have hbs : BL sn.2.2.1 := Rsn
  have hlb : Bd ln 80 := Rtx.2.1
  refine lv_aload_n hx hb dL_law_528 rfl (lv_at hl 1 rfl) ?_
  refine lv_aload_n hx hb dL_law_529 rfl (lv_at hl 0 rfl) ?_
  refine lv_iload_n hx hb dL_law_530 rfl (lv_at hl 3 rfl) ?_
  refine lv_iconst (v := (1 : Int32)) hx hb dL_law_531 (by decide +kernel) ?_
  refine lv_iadd hx hb dL_law_532 ?_
  refine va_sld hx hb hX hbl hbA hS (zz_s1 hi4 hL) dL_law_533 ?_
  refine bRV (W0 := wX cI cS qx a0 a1 a2 a3 b3 a4 st sn tr hi sc has (wM cI qm m1 m2 m3 m5 m6 t h k sm tk bf tx ln pl le on ot ca)) (wc := [(qx, .inr (6, [.ref (a0 0), .ref (a1 0), .ref (a2 0), .ref (a3 0), .ref (a4 0), .int has]))] :: wSt cI a0 st :: []) ⟨hx, hb, hml, hown, hts⟩ (kX6_copy l D cI cS qx a0 (a1 0) (a2 0) (a3 0) (a4 0) has (xs (nI i + (1 : Int32)).toNatClampNeg) st) (cwV 1 hts gL_law_X6_copy rfl rfl rfl (by decide +kernel) ⟨Nat.le_of_ble_eq_true rfl, Nat.le_of_ble_eq_true rfl⟩) hE hP rfl rfl [0, 1] rfl rfl rfl hl.1 rfl (Nat.le_of_ble_eq_true rfl) ⟨Nat.le_of_ble_eq_true rfl, Nat.le_of_ble_eq_true rfl⟩ dL_law_534 ?_
  refine lv_aload_n hx hb dL_law_537 rfl (lv_at hl 2 rfl) ?_
  refine lv_aload_n hx hb dL_law_538 rfl (lv_at hl 0 rfl) ?_
  refine lv_iload_n hx hb dL_law_539 rfl (lv_at hl 3 rfl) ?_
  refine lv_iconst (v := (1 : Int32)) hx hb dL_law_540 (by decide +kernel) ?_
  refine lv_iadd hx hb dL_law_541 ?_
  refine va_sld hx hb hX hbl hbA hS (zz_s1 hi4 hL) dL_law_542 ?_
  refine bRV (W0 := wX cI cS qx a0 a1 a2 a3 b3 a4 st sn tr hi sc has (wM cI qm m1 m2 m3 m5 m6 t h k sm tk bf tx ln pl le on ot ca)) (wc := [[(qm, .inr (7, [.ref m1, .ref m2, .int k, .ref m3, .int tk, .ref m5, .ref m6, .int ln, .int pl, .int le, .int on, .int ot, .int ca]))], [(m1, .inl (cI, 163, .inl t))]]) ⟨hx, hb, hml, hown, hts⟩ (kX7_copy l D cI cS qm m1 m2 k m3 tk m5 m6 ln pl le on ot ca (xs (nI i + (1 : Int32)).toNatClampNeg) t) (cwV 1 hts gL_law_X7_copy rfl rfl rfl (by decide +kernel) ⟨Nat.le_of_ble_eq_true rfl, Nat.le_of_ble_eq_true rfl⟩) hE hP rfl rfl [13, 14] rfl rfl rfl hl.1 rfl (Nat.le_of_ble_eq_true rfl) ⟨Nat.le_of_ble_eq_true rfl, Nat.le_of_ble_eq_true rfl⟩ dL_law_543 ?_
  have hq : fX6_copy (xs (nI i + (1 : Int32)).toNatClampNeg) st = fX7_copy (xs (nI i + (1 : Int32)).toNatClampNeg) t := Q_copy RPp.1 (xs (nI i + (1 : Int32)).toNatClampNeg)
  refine lv_icmp_eq (tgt := 789) hx hb dL_law_546 (by decide) (fun _ => ?_) (fun c9 => absurd hq c9)
  exact kk st sn tr hi sc has t h k sm tk bf tx ln pl le on ot ca _ _ _ ⟨RPp, Rsn, Rhas, Rsm, Rtx⟩ hP hD hS hl
set_option maxHeartbeats 4000000 in
set_option maxRecDepth 100000 in
theorem law_entry (C0 : lw_At p s m meth c b L xs) (hE : EV D (tysA cI cS) s) (hSX : SX (Anew s) s s.heap) (hi4 : i + 4 ≤ L) (hL : L ≤ 2048) (R : TopR st sn hi sc has t h k sm tk tx ln) (hP : va_P D vwCl (fl (wX cI cS qx a0 a1 a2 a3 b3 a4 st sn tr hi sc has (wM cI qm m1 m2 m3 m5 m6 t h k sm tk bf tx ln pl le on ot ca))) H) (hD : va_D (Anew s) (fl (wX cI cS qx a0 a1 a2 a3 b3 a4 st sn tr hi sc has (wM cI qm m1 m2 m3 m5 m6 t h k sm tk bf tx ln pl le on ot ca)))) (hS : va_S (Anew s) s.heap H locs) (hl : lv_has ls 8 [(0, .ref b), (1, .ref qx), (2, .ref qm), (3, .int (nI i))]) (kk : LBack p l e s m b below meth c D cI cS qx qm a0 a1 a2 a3 b3 a4 m1 m2 m3 m5 m6 i Q) : W p l e room_1 s m #[Value.ref b] below meth c H locs 128 3083 Q (F0 m 551 ls []) := by
  have hkp := R.k5
  have hs := R.wc
  obtain ⟨hx, hb, hr, hml, hown, hts0, hX, hbl, hlocks, hgv⟩ := C0
  have hts : ∀ w ∈ wsL_law, w.before #[Value.ref b] s = true := fun w h => hts0 w (wsL_law_in w h)
  have hbA : ¬ Anew s b := Nat.not_le.mpr hbl
  obtain ⟨RPp, Rsn, Rhas, Rsm, Rtx⟩ := R
  have hw : WS st := RPp.1.1
  have hm : WM t := RPp.1.2.1
  have hh : WH hi := RPp.2.1
  have hbo : BL st.2.2.1 := hw.2.2
  have hbs : BL sn.2.2.1 := Rsn
  have hlb : Bd ln 80 := Rtx.2.1
  refine lv_aload_n hx hb dL_law_551 rfl (lv_at hl 1 rfl) ?_
  refine lv_aload_n hx hb dL_law_552 rfl (lv_at hl 0 rfl) ?_
  refine lv_iload_n hx hb dL_law_553 rfl (lv_at hl 3 rfl) ?_
  refine lv_iconst (v := (1 : Int32)) hx hb dL_law_554 (by decide +kernel) ?_
  refine lv_iadd hx hb dL_law_555 ?_
  refine va_sld hx hb hX hbl hbA hS (zz_s1 hi4 hL) dL_law_556 ?_
  refine lv_aload_n hx hb dL_law_557 rfl (lv_at hl 0 rfl) ?_
  refine lv_iload_n hx hb dL_law_558 rfl (lv_at hl 3 rfl) ?_
  refine lv_iconst (v := (2 : Int32)) hx hb dL_law_559 (by decide +kernel) ?_
  refine lv_iadd hx hb dL_law_560 ?_
  refine va_sld hx hb hX hbl hbA hS (zz_s2 hi4 hL) dL_law_561 ?_
  refine bRV (W0 := wX cI cS qx a0 a1 a2 a3 b3 a4 st sn tr hi sc has (wM cI qm m1 m2 m3 m5 m6 t h k sm tk bf tx ln pl le on ot ca)) (wc := [(qx, .inr (6, [.ref (a0 0), .ref (a1 0), .ref (a2 0), .ref (a3 0), .ref (a4 0), .int has]))] :: wSt cI a0 st :: []) ⟨hx, hb, hml, hown, hts⟩ (kX6_entry l D cI cS qx a0 (a1 0) (a2 0) (a3 0) (a4 0) has (xs (nI i + (1 : Int32)).toNatClampNeg) (xs (nI i + (2 : Int32)).toNatClampNeg) st hw) (cwV 2 hts gL_law_X6_entry rfl rfl rfl (by decide +kernel) ⟨Nat.le_of_ble_eq_true rfl, Nat.le_of_ble_eq_true rfl⟩) hE hP rfl rfl [0, 1] rfl rfl rfl hl.1 rfl (Nat.le_of_ble_eq_true rfl) ⟨Nat.le_of_ble_eq_true rfl, Nat.le_of_ble_eq_true rfl⟩ dL_law_562 ?_
  refine lv_aload_n hx hb dL_law_565 rfl (lv_at hl 2 rfl) ?_
  refine lv_aload_n hx hb dL_law_566 rfl (lv_at hl 0 rfl) ?_
  refine lv_iload_n hx hb dL_law_567 rfl (lv_at hl 3 rfl) ?_
  refine lv_iconst (v := (1 : Int32)) hx hb dL_law_568 (by decide +kernel) ?_
  refine lv_iadd hx hb dL_law_569 ?_
  refine va_sld hx hb hX hbl hbA hS (zz_s1 hi4 hL) dL_law_570 ?_
  refine lv_aload_n hx hb dL_law_571 rfl (lv_at hl 0 rfl) ?_
  refine lv_iload_n hx hb dL_law_572 rfl (lv_at hl 3 rfl) ?_
  refine lv_iconst (v := (2 : Int32)) hx hb dL_law_573 (by decide +kernel) ?_
  refine lv_iadd hx hb dL_law_574 ?_
  refine va_sld hx hb hX hbl hbA hS (zz_s2 hi4 hL) dL_law_575 ?_
  refine bRV (W0 := wX cI cS qx a0 a1 a2 a3 b3 a4 st sn tr hi sc has (wM cI qm m1 m2 m3 m5 m6 t h k sm tk bf tx ln pl le on ot ca)) (wc := [[(qm, .inr (7, [.ref m1, .ref m2, .int k, .ref m3, .int tk, .ref m5, .ref m6, .int ln, .int pl, .int le, .int on, .int ot, .int ca]))], [(m1, .inl (cI, 163, .inl t))]]) ⟨hx, hb, hml, hown, hts⟩ (kX7_entry l D cI cS qm m1 m2 k m3 tk m5 m6 ln pl le on ot ca (xs (nI i + (1 : Int32)).toNatClampNeg) (xs (nI i + (2 : Int32)).toNatClampNeg) t hm) (cwV 2 hts gL_law_X7_entry rfl rfl rfl (by decide +kernel) ⟨Nat.le_of_ble_eq_true rfl, Nat.le_of_ble_eq_true rfl⟩) hE hP rfl rfl [13, 14] rfl rfl rfl hl.1 rfl (Nat.le_of_ble_eq_true rfl) ⟨Nat.le_of_ble_eq_true rfl, Nat.le_of_ble_eq_true rfl⟩ dL_law_576 ?_
  have hq : fX6_entry (xs (nI i + (1 : Int32)).toNatClampNeg) (xs (nI i + (2 : Int32)).toNatClampNeg) st = fX7_entry (xs (nI i + (1 : Int32)).toNatClampNeg) (xs (nI i + (2 : Int32)).toNatClampNeg) t := Q_entry RPp.1 (xs (nI i + (1 : Int32)).toNatClampNeg) (xs (nI i + (2 : Int32)).toNatClampNeg)
  refine lv_icmp_eq (tgt := 789) hx hb dL_law_579 (by decide) (fun _ => ?_) (fun c9 => absurd hq c9)
  exact kk st sn tr hi sc has t h k sm tk bf tx ln pl le on ot ca _ _ _ ⟨RPp, Rsn, Rhas, Rsm, Rtx⟩ hP hD hS hl
set_option maxHeartbeats 4000000 in
set_option maxRecDepth 100000 in
theorem law_changed (C0 : lw_At p s m meth c b L xs) (hE : EV D (tysA cI cS) s) (hSX : SX (Anew s) s s.heap) (hi4 : i + 4 ≤ L) (hL : L ≤ 2048) (R : TopR st sn hi sc has t h k sm tk tx ln) (hP : va_P D vwCl (fl (wX cI cS qx a0 a1 a2 a3 b3 a4 st sn tr hi sc has (wM cI qm m1 m2 m3 m5 m6 t h k sm tk bf tx ln pl le on ot ca))) H) (hD : va_D (Anew s) (fl (wX cI cS qx a0 a1 a2 a3 b3 a4 st sn tr hi sc has (wM cI qm m1 m2 m3 m5 m6 t h k sm tk bf tx ln pl le on ot ca)))) (hS : va_S (Anew s) s.heap H locs) (hl : lv_has ls 8 [(0, .ref b), (1, .ref qx), (2, .ref qm), (3, .int (nI i))]) (kk : LBack p l e s m b below meth c D cI cS qx qm a0 a1 a2 a3 b3 a4 m1 m2 m3 m5 m6 i Q) : W p l e room_1 s m #[Value.ref b] below meth c H locs 128 3083 Q (F0 m 584 ls []) := by
  have hkp := R.k5
  have hs := R.wc
  obtain ⟨hx, hb, hr, hml, hown, hts0, hX, hbl, hlocks, hgv⟩ := C0
  have hts : ∀ w ∈ wsL_law, w.before #[Value.ref b] s = true := fun w h => hts0 w (wsL_law_in w h)
  have hbA : ¬ Anew s b := Nat.not_le.mpr hbl
  obtain ⟨RPp, Rsn, Rhas, Rsm, Rtx⟩ := R
  have hw : WS st := RPp.1.1
  have hm : WM t := RPp.1.2.1
  have hh : WH hi := RPp.2.1
  have hbo : BL st.2.2.1 := hw.2.2
  have hbs : BL sn.2.2.1 := Rsn
  have hlb : Bd ln 80 := Rtx.2.1
  refine lv_aload_n hx hb dL_law_584 rfl (lv_at hl 1 rfl) ?_
  refine lv_aload_n hx hb dL_law_585 rfl (lv_at hl 0 rfl) ?_
  refine lv_iload_n hx hb dL_law_586 rfl (lv_at hl 3 rfl) ?_
  refine lv_iconst (v := (1 : Int32)) hx hb dL_law_587 (by decide +kernel) ?_
  refine lv_iadd hx hb dL_law_588 ?_
  refine va_sld hx hb hX hbl hbA hS (zz_s1 hi4 hL) dL_law_589 ?_
  refine lv_aload_n hx hb dL_law_590 rfl (lv_at hl 0 rfl) ?_
  refine lv_iload_n hx hb dL_law_591 rfl (lv_at hl 3 rfl) ?_
  refine lv_iconst (v := (2 : Int32)) hx hb dL_law_592 (by decide +kernel) ?_
  refine lv_iadd hx hb dL_law_593 ?_
  refine va_sld hx hb hX hbl hbA hS (zz_s2 hi4 hL) dL_law_594 ?_
  refine lv_aload_n hx hb dL_law_595 rfl (lv_at hl 0 rfl) ?_
  refine lv_iload_n hx hb dL_law_596 rfl (lv_at hl 3 rfl) ?_
  refine lv_iconst (v := (3 : Int32)) hx hb dL_law_597 (by decide +kernel) ?_
  refine lv_iadd hx hb dL_law_598 ?_
  refine va_sld hx hb hX hbl hbA hS (zz_s3 hi4 hL) dL_law_599 ?_
  refine cRV (W0 := fl (wX cI cS qx a0 a1 a2 a3 b3 a4 st sn tr hi sc has (wM cI qm m1 m2 m3 m5 m6 t h k sm tk bf tx ln pl le on ot ca))) ⟨hx, hb, hml, hown, hts⟩ (kX6_changed l D cI cS qx (xs (nI i + (1 : Int32)).toNatClampNeg) (xs (nI i + (2 : Int32)).toNatClampNeg) (xs (nI i + (3 : Int32)).toNatClampNeg)) (cwV 3 hts gL_law_X6_changed rfl rfl rfl (by decide +kernel) ⟨Nat.le_of_ble_eq_true rfl, Nat.le_of_ble_eq_true rfl⟩) hE hP 0 rfl rfl [] rfl rfl hl.1 rfl (Nat.le_of_ble_eq_true rfl) ⟨Nat.le_of_ble_eq_true rfl, Nat.le_of_ble_eq_true rfl⟩ dL_law_600 ?_
  refine lv_aload_n hx hb dL_law_603 rfl (lv_at hl 2 rfl) ?_
  refine lv_aload_n hx hb dL_law_604 rfl (lv_at hl 0 rfl) ?_
  refine lv_iload_n hx hb dL_law_605 rfl (lv_at hl 3 rfl) ?_
  refine lv_iconst (v := (1 : Int32)) hx hb dL_law_606 (by decide +kernel) ?_
  refine lv_iadd hx hb dL_law_607 ?_
  refine va_sld hx hb hX hbl hbA hS (zz_s1 hi4 hL) dL_law_608 ?_
  refine lv_aload_n hx hb dL_law_609 rfl (lv_at hl 0 rfl) ?_
  refine lv_iload_n hx hb dL_law_610 rfl (lv_at hl 3 rfl) ?_
  refine lv_iconst (v := (2 : Int32)) hx hb dL_law_611 (by decide +kernel) ?_
  refine lv_iadd hx hb dL_law_612 ?_
  refine va_sld hx hb hX hbl hbA hS (zz_s2 hi4 hL) dL_law_613 ?_
  refine lv_aload_n hx hb dL_law_614 rfl (lv_at hl 0 rfl) ?_
  refine lv_iload_n hx hb dL_law_615 rfl (lv_at hl 3 rfl) ?_
  refine lv_iconst (v := (3 : Int32)) hx hb dL_law_616 (by decide +kernel) ?_
  refine lv_iadd hx hb dL_law_617 ?_
  refine va_sld hx hb hX hbl hbA hS (zz_s3 hi4 hL) dL_law_618 ?_
  refine bRV (W0 := wX cI cS qx a0 a1 a2 a3 b3 a4 st sn tr hi sc has (wM cI qm m1 m2 m3 m5 m6 t h k sm tk bf tx ln pl le on ot ca)) (wc := [[(qm, .inr (7, [.ref m1, .ref m2, .int k, .ref m3, .int tk, .ref m5, .ref m6, .int ln, .int pl, .int le, .int on, .int ot, .int ca]))], [(m1, .inl (cI, 163, .inl t))]]) ⟨hx, hb, hml, hown, hts⟩ (kX7_changed l D cI cS qm m1 m2 k m3 tk m5 m6 ln pl le on ot ca (xs (nI i + (1 : Int32)).toNatClampNeg) (xs (nI i + (2 : Int32)).toNatClampNeg) (xs (nI i + (3 : Int32)).toNatClampNeg) t) (cwV 3 hts gL_law_X7_changed rfl rfl rfl (by decide +kernel) ⟨Nat.le_of_ble_eq_true rfl, Nat.le_of_ble_eq_true rfl⟩) hE hP rfl rfl [13, 14] rfl rfl rfl hl.1 rfl (Nat.le_of_ble_eq_true rfl) ⟨Nat.le_of_ble_eq_true rfl, Nat.le_of_ble_eq_true rfl⟩ dL_law_619 ?_
  have hq : fX6_changed (xs (nI i + (1 : Int32)).toNatClampNeg) (xs (nI i + (2 : Int32)).toNatClampNeg) (xs (nI i + (3 : Int32)).toNatClampNeg) = fX7_changed (xs (nI i + (1 : Int32)).toNatClampNeg) (xs (nI i + (2 : Int32)).toNatClampNeg) (xs (nI i + (3 : Int32)).toNatClampNeg) t := Q_changed (xs (nI i + (1 : Int32)).toNatClampNeg) (xs (nI i + (2 : Int32)).toNatClampNeg) (xs (nI i + (3 : Int32)).toNatClampNeg) t
  refine lv_icmp_eq (tgt := 789) hx hb dL_law_622 (by decide) (fun _ => ?_) (fun c9 => absurd hq c9)
  exact kk st sn tr hi sc has t h k sm tk bf tx ln pl le on ot ca _ _ _ ⟨RPp, Rsn, Rhas, Rsm, Rtx⟩ hP hD hS hl
set_option maxHeartbeats 4000000 in
set_option maxRecDepth 100000 in
theorem law_differences (C0 : lw_At p s m meth c b L xs) (hE : EV D (tysA cI cS) s) (hSX : SX (Anew s) s s.heap) (hi4 : i + 4 ≤ L) (hL : L ≤ 2048) (R : TopR st sn hi sc has t h k sm tk tx ln) (hP : va_P D vwCl (fl (wX cI cS qx a0 a1 a2 a3 b3 a4 st sn tr hi sc has (wM cI qm m1 m2 m3 m5 m6 t h k sm tk bf tx ln pl le on ot ca))) H) (hD : va_D (Anew s) (fl (wX cI cS qx a0 a1 a2 a3 b3 a4 st sn tr hi sc has (wM cI qm m1 m2 m3 m5 m6 t h k sm tk bf tx ln pl le on ot ca)))) (hS : va_S (Anew s) s.heap H locs) (hl : lv_has ls 8 [(0, .ref b), (1, .ref qx), (2, .ref qm), (3, .int (nI i))]) (kk : LBack p l e s m b below meth c D cI cS qx qm a0 a1 a2 a3 b3 a4 m1 m2 m3 m5 m6 i Q) : W p l e room_1 s m #[Value.ref b] below meth c H locs 128 3083 Q (F0 m 627 ls []) := by
  have hkp := R.k5
  have hs := R.wc
  obtain ⟨hx, hb, hr, hml, hown, hts0, hX, hbl, hlocks, hgv⟩ := C0
  have hts : ∀ w ∈ wsL_law, w.before #[Value.ref b] s = true := fun w h => hts0 w (wsL_law_in w h)
  have hbA : ¬ Anew s b := Nat.not_le.mpr hbl
  obtain ⟨RPp, Rsn, Rhas, Rsm, Rtx⟩ := R
  have hw : WS st := RPp.1.1
  have hm : WM t := RPp.1.2.1
  have hh : WH hi := RPp.2.1
  have hbo : BL st.2.2.1 := hw.2.2
  have hbs : BL sn.2.2.1 := Rsn
  have hlb : Bd ln 80 := Rtx.2.1
  refine lv_aload_n hx hb dL_law_627 rfl (lv_at hl 1 rfl) ?_
  refine bRV (W0 := wX cI cS qx a0 a1 a2 a3 b3 a4 st sn tr hi sc has (wM cI qm m1 m2 m3 m5 m6 t h k sm tk bf tx ln pl le on ot ca)) (wc := [(qx, .inr (6, [.ref (a0 0), .ref (a1 0), .ref (a2 0), .ref (a3 0), .ref (a4 0), .int has]))] :: wSt cI a0 st :: []) ⟨hx, hb, hml, hown, hts⟩ (kX6_differences l D cI cS qx a0 (a1 0) (a2 0) (a3 0) (a4 0) has st) (cwV 0 hts gL_law_X6_differences rfl rfl rfl (by decide +kernel) ⟨Nat.le_of_ble_eq_true rfl, Nat.le_of_ble_eq_true rfl⟩) hE hP rfl rfl [0, 1] rfl rfl rfl hl.1 rfl (Nat.le_of_ble_eq_true rfl) ⟨Nat.le_of_ble_eq_true rfl, Nat.le_of_ble_eq_true rfl⟩ dL_law_628 ?_
  refine lv_aload_n hx hb dL_law_631 rfl (lv_at hl 2 rfl) ?_
  refine bRV (W0 := wX cI cS qx a0 a1 a2 a3 b3 a4 st sn tr hi sc has (wM cI qm m1 m2 m3 m5 m6 t h k sm tk bf tx ln pl le on ot ca)) (wc := [[(qm, .inr (7, [.ref m1, .ref m2, .int k, .ref m3, .int tk, .ref m5, .ref m6, .int ln, .int pl, .int le, .int on, .int ot, .int ca]))], [(m1, .inl (cI, 163, .inl t))]]) ⟨hx, hb, hml, hown, hts⟩ (kX7_differences l D cI cS qm m1 m2 k m3 tk m5 m6 ln pl le on ot ca t) (cwV 0 hts gL_law_X7_differences rfl rfl rfl (by decide +kernel) ⟨Nat.le_of_ble_eq_true rfl, Nat.le_of_ble_eq_true rfl⟩) hE hP rfl rfl [13, 14] rfl rfl rfl hl.1 rfl (Nat.le_of_ble_eq_true rfl) ⟨Nat.le_of_ble_eq_true rfl, Nat.le_of_ble_eq_true rfl⟩ dL_law_632 ?_
  have hq : fX6_differences st = fX7_differences t := Q_differences RPp.1 
  refine lv_icmp_eq (tgt := 789) hx hb dL_law_635 (by decide) (fun _ => ?_) (fun c9 => absurd hq c9)
  exact kk st sn tr hi sc has t h k sm tk bf tx ln pl le on ot ca _ _ _ ⟨RPp, Rsn, Rhas, Rsm, Rtx⟩ hP hD hS hl
set_option maxHeartbeats 4000000 in
set_option maxRecDepth 100000 in
theorem law_firstDifference (C0 : lw_At p s m meth c b L xs) (hE : EV D (tysA cI cS) s) (hSX : SX (Anew s) s s.heap) (hi4 : i + 4 ≤ L) (hL : L ≤ 2048) (R : TopR st sn hi sc has t h k sm tk tx ln) (hP : va_P D vwCl (fl (wX cI cS qx a0 a1 a2 a3 b3 a4 st sn tr hi sc has (wM cI qm m1 m2 m3 m5 m6 t h k sm tk bf tx ln pl le on ot ca))) H) (hD : va_D (Anew s) (fl (wX cI cS qx a0 a1 a2 a3 b3 a4 st sn tr hi sc has (wM cI qm m1 m2 m3 m5 m6 t h k sm tk bf tx ln pl le on ot ca)))) (hS : va_S (Anew s) s.heap H locs) (hl : lv_has ls 8 [(0, .ref b), (1, .ref qx), (2, .ref qm), (3, .int (nI i))]) (kk : LBack p l e s m b below meth c D cI cS qx qm a0 a1 a2 a3 b3 a4 m1 m2 m3 m5 m6 i Q) : W p l e room_1 s m #[Value.ref b] below meth c H locs 128 3083 Q (F0 m 640 ls []) := by
  have hkp := R.k5
  have hs := R.wc
  obtain ⟨hx, hb, hr, hml, hown, hts0, hX, hbl, hlocks, hgv⟩ := C0
  have hts : ∀ w ∈ wsL_law, w.before #[Value.ref b] s = true := fun w h => hts0 w (wsL_law_in w h)
  have hbA : ¬ Anew s b := Nat.not_le.mpr hbl
  obtain ⟨RPp, Rsn, Rhas, Rsm, Rtx⟩ := R
  have hw : WS st := RPp.1.1
  have hm : WM t := RPp.1.2.1
  have hh : WH hi := RPp.2.1
  have hbo : BL st.2.2.1 := hw.2.2
  have hbs : BL sn.2.2.1 := Rsn
  have hlb : Bd ln 80 := Rtx.2.1
  refine lv_aload_n hx hb dL_law_640 rfl (lv_at hl 1 rfl) ?_
  refine bRV (W0 := wX cI cS qx a0 a1 a2 a3 b3 a4 st sn tr hi sc has (wM cI qm m1 m2 m3 m5 m6 t h k sm tk bf tx ln pl le on ot ca)) (wc := [(qx, .inr (6, [.ref (a0 0), .ref (a1 0), .ref (a2 0), .ref (a3 0), .ref (a4 0), .int has]))] :: wSt cI a0 st :: []) ⟨hx, hb, hml, hown, hts⟩ (kX6_firstDifference l D cI cS qx a0 (a1 0) (a2 0) (a3 0) (a4 0) has st) (cwV 0 hts gL_law_X6_firstDifference rfl rfl rfl (by decide +kernel) ⟨Nat.le_of_ble_eq_true rfl, Nat.le_of_ble_eq_true rfl⟩) hE hP rfl rfl [0, 1] rfl rfl rfl hl.1 rfl (Nat.le_of_ble_eq_true rfl) ⟨Nat.le_of_ble_eq_true rfl, Nat.le_of_ble_eq_true rfl⟩ dL_law_641 ?_
  refine lv_aload_n hx hb dL_law_644 rfl (lv_at hl 2 rfl) ?_
  refine bRV (W0 := wX cI cS qx a0 a1 a2 a3 b3 a4 st sn tr hi sc has (wM cI qm m1 m2 m3 m5 m6 t h k sm tk bf tx ln pl le on ot ca)) (wc := [[(qm, .inr (7, [.ref m1, .ref m2, .int k, .ref m3, .int tk, .ref m5, .ref m6, .int ln, .int pl, .int le, .int on, .int ot, .int ca]))], [(m1, .inl (cI, 163, .inl t))]]) ⟨hx, hb, hml, hown, hts⟩ (kX7_firstDifference l D cI cS qm m1 m2 k m3 tk m5 m6 ln pl le on ot ca t) (cwV 0 hts gL_law_X7_firstDifference rfl rfl rfl (by decide +kernel) ⟨Nat.le_of_ble_eq_true rfl, Nat.le_of_ble_eq_true rfl⟩) hE hP rfl rfl [13, 14] rfl rfl rfl hl.1 rfl (Nat.le_of_ble_eq_true rfl) ⟨Nat.le_of_ble_eq_true rfl, Nat.le_of_ble_eq_true rfl⟩ dL_law_645 ?_
  have hq : fX6_firstDifference st = fX7_firstDifference t := Q_firstDifference RPp.1 
  refine lv_icmp_eq (tgt := 789) hx hb dL_law_648 (by decide) (fun _ => ?_) (fun c9 => absurd hq c9)
  exact kk st sn tr hi sc has t h k sm tk bf tx ln pl le on ot ca _ _ _ ⟨RPp, Rsn, Rhas, Rsm, Rtx⟩ hP hD hS hl
set_option maxHeartbeats 4000000 in
set_option maxRecDepth 100000 in
theorem law_setting (C0 : lw_At p s m meth c b L xs) (hE : EV D (tysA cI cS) s) (hSX : SX (Anew s) s s.heap) (hi4 : i + 4 ≤ L) (hL : L ≤ 2048) (R : TopR st sn hi sc has t h k sm tk tx ln) (hP : va_P D vwCl (fl (wX cI cS qx a0 a1 a2 a3 b3 a4 st sn tr hi sc has (wM cI qm m1 m2 m3 m5 m6 t h k sm tk bf tx ln pl le on ot ca))) H) (hD : va_D (Anew s) (fl (wX cI cS qx a0 a1 a2 a3 b3 a4 st sn tr hi sc has (wM cI qm m1 m2 m3 m5 m6 t h k sm tk bf tx ln pl le on ot ca)))) (hS : va_S (Anew s) s.heap H locs) (hl : lv_has ls 8 [(0, .ref b), (1, .ref qx), (2, .ref qm), (3, .int (nI i))]) (kk : LBack p l e s m b below meth c D cI cS qx qm a0 a1 a2 a3 b3 a4 m1 m2 m3 m5 m6 i Q) : W p l e room_1 s m #[Value.ref b] below meth c H locs 128 3083 Q (F0 m 653 ls []) := by
  have hkp := R.k5
  have hs := R.wc
  obtain ⟨hx, hb, hr, hml, hown, hts0, hX, hbl, hlocks, hgv⟩ := C0
  have hts : ∀ w ∈ wsL_law, w.before #[Value.ref b] s = true := fun w h => hts0 w (wsL_law_in w h)
  have hbA : ¬ Anew s b := Nat.not_le.mpr hbl
  obtain ⟨RPp, Rsn, Rhas, Rsm, Rtx⟩ := R
  have hw : WS st := RPp.1.1
  have hm : WM t := RPp.1.2.1
  have hh : WH hi := RPp.2.1
  have hbo : BL st.2.2.1 := hw.2.2
  have hbs : BL sn.2.2.1 := Rsn
  have hlb : Bd ln 80 := Rtx.2.1
  refine lv_aload_n hx hb dL_law_653 rfl (lv_at hl 1 rfl) ?_
  refine lv_aload_n hx hb dL_law_654 rfl (lv_at hl 0 rfl) ?_
  refine lv_iload_n hx hb dL_law_655 rfl (lv_at hl 3 rfl) ?_
  refine lv_iconst (v := (1 : Int32)) hx hb dL_law_656 (by decide +kernel) ?_
  refine lv_iadd hx hb dL_law_657 ?_
  refine va_sld hx hb hX hbl hbA hS (zz_s1 hi4 hL) dL_law_658 ?_
  refine bRV (W0 := wX cI cS qx a0 a1 a2 a3 b3 a4 st sn tr hi sc has (wM cI qm m1 m2 m3 m5 m6 t h k sm tk bf tx ln pl le on ot ca)) (wc := [(qx, .inr (6, [.ref (a0 0), .ref (a1 0), .ref (a2 0), .ref (a3 0), .ref (a4 0), .int has]))] :: wSt cI a0 st :: []) ⟨hx, hb, hml, hown, hts⟩ (kX6_setting l D cI cS qx a0 (a1 0) (a2 0) (a3 0) (a4 0) has (xs (nI i + (1 : Int32)).toNatClampNeg) st) (cwV 1 hts gL_law_X6_setting rfl rfl rfl (by decide +kernel) ⟨Nat.le_of_ble_eq_true rfl, Nat.le_of_ble_eq_true rfl⟩) hE hP rfl rfl [0, 1] rfl rfl rfl hl.1 rfl (Nat.le_of_ble_eq_true rfl) ⟨Nat.le_of_ble_eq_true rfl, Nat.le_of_ble_eq_true rfl⟩ dL_law_659 ?_
  refine lv_aload_n hx hb dL_law_662 rfl (lv_at hl 2 rfl) ?_
  refine lv_aload_n hx hb dL_law_663 rfl (lv_at hl 0 rfl) ?_
  refine lv_iload_n hx hb dL_law_664 rfl (lv_at hl 3 rfl) ?_
  refine lv_iconst (v := (1 : Int32)) hx hb dL_law_665 (by decide +kernel) ?_
  refine lv_iadd hx hb dL_law_666 ?_
  refine va_sld hx hb hX hbl hbA hS (zz_s1 hi4 hL) dL_law_667 ?_
  refine bRV (W0 := wX cI cS qx a0 a1 a2 a3 b3 a4 st sn tr hi sc has (wM cI qm m1 m2 m3 m5 m6 t h k sm tk bf tx ln pl le on ot ca)) (wc := [[(qm, .inr (7, [.ref m1, .ref m2, .int k, .ref m3, .int tk, .ref m5, .ref m6, .int ln, .int pl, .int le, .int on, .int ot, .int ca]))], [(m1, .inl (cI, 163, .inl t))]]) ⟨hx, hb, hml, hown, hts⟩ (kX7_setting l D cI cS qm m1 m2 k m3 tk m5 m6 ln pl le on ot ca (xs (nI i + (1 : Int32)).toNatClampNeg) t) (cwV 1 hts gL_law_X7_setting rfl rfl rfl (by decide +kernel) ⟨Nat.le_of_ble_eq_true rfl, Nat.le_of_ble_eq_true rfl⟩) hE hP rfl rfl [13, 14] rfl rfl rfl hl.1 rfl (Nat.le_of_ble_eq_true rfl) ⟨Nat.le_of_ble_eq_true rfl, Nat.le_of_ble_eq_true rfl⟩ dL_law_668 ?_
  have hq : fX6_setting (xs (nI i + (1 : Int32)).toNatClampNeg) st = fX7_setting (xs (nI i + (1 : Int32)).toNatClampNeg) t := Q_setting RPp.1 (xs (nI i + (1 : Int32)).toNatClampNeg)
  refine lv_icmp_eq (tgt := 789) hx hb dL_law_671 (by decide) (fun _ => ?_) (fun c9 => absurd hq c9)
  exact kk st sn tr hi sc has t h k sm tk bf tx ln pl le on ot ca _ _ _ ⟨RPp, Rsn, Rhas, Rsm, Rtx⟩ hP hD hS hl
set_option maxHeartbeats 4000000 in
set_option maxRecDepth 100000 in
theorem law_total (C0 : lw_At p s m meth c b L xs) (hE : EV D (tysA cI cS) s) (hSX : SX (Anew s) s s.heap) (hi4 : i + 4 ≤ L) (hL : L ≤ 2048) (R : TopR st sn hi sc has t h k sm tk tx ln) (hP : va_P D vwCl (fl (wX cI cS qx a0 a1 a2 a3 b3 a4 st sn tr hi sc has (wM cI qm m1 m2 m3 m5 m6 t h k sm tk bf tx ln pl le on ot ca))) H) (hD : va_D (Anew s) (fl (wX cI cS qx a0 a1 a2 a3 b3 a4 st sn tr hi sc has (wM cI qm m1 m2 m3 m5 m6 t h k sm tk bf tx ln pl le on ot ca)))) (hS : va_S (Anew s) s.heap H locs) (hl : lv_has ls 8 [(0, .ref b), (1, .ref qx), (2, .ref qm), (3, .int (nI i))]) (kk : LBack p l e s m b below meth c D cI cS qx qm a0 a1 a2 a3 b3 a4 m1 m2 m3 m5 m6 i Q) : W p l e room_1 s m #[Value.ref b] below meth c H locs 128 3083 Q (F0 m 676 ls []) := by
  have hkp := R.k5
  have hs := R.wc
  obtain ⟨hx, hb, hr, hml, hown, hts0, hX, hbl, hlocks, hgv⟩ := C0
  have hts : ∀ w ∈ wsL_law, w.before #[Value.ref b] s = true := fun w h => hts0 w (wsL_law_in w h)
  have hbA : ¬ Anew s b := Nat.not_le.mpr hbl
  obtain ⟨RPp, Rsn, Rhas, Rsm, Rtx⟩ := R
  have hw : WS st := RPp.1.1
  have hm : WM t := RPp.1.2.1
  have hh : WH hi := RPp.2.1
  have hbo : BL st.2.2.1 := hw.2.2
  have hbs : BL sn.2.2.1 := Rsn
  have hlb : Bd ln 80 := Rtx.2.1
  refine lv_aload_n hx hb dL_law_676 rfl (lv_at hl 1 rfl) ?_
  refine lv_aload_n hx hb dL_law_677 rfl (lv_at hl 0 rfl) ?_
  refine lv_iload_n hx hb dL_law_678 rfl (lv_at hl 3 rfl) ?_
  refine lv_iconst (v := (1 : Int32)) hx hb dL_law_679 (by decide +kernel) ?_
  refine lv_iadd hx hb dL_law_680 ?_
  refine va_sld hx hb hX hbl hbA hS (zz_s1 hi4 hL) dL_law_681 ?_
  refine bRV (W0 := wX cI cS qx a0 a1 a2 a3 b3 a4 st sn tr hi sc has (wM cI qm m1 m2 m3 m5 m6 t h k sm tk bf tx ln pl le on ot ca)) (wc := [(qx, .inr (6, [.ref (a0 0), .ref (a1 0), .ref (a2 0), .ref (a3 0), .ref (a4 0), .int has]))] :: wSt cI a0 st :: []) ⟨hx, hb, hml, hown, hts⟩ (kX6_total l D cI cS qx a0 (a1 0) (a2 0) (a3 0) (a4 0) has (xs (nI i + (1 : Int32)).toNatClampNeg) st) (cwV 1 hts gL_law_X6_total rfl rfl rfl (by decide +kernel) ⟨Nat.le_of_ble_eq_true rfl, Nat.le_of_ble_eq_true rfl⟩) hE hP rfl rfl [0, 1] rfl rfl rfl hl.1 rfl (Nat.le_of_ble_eq_true rfl) ⟨Nat.le_of_ble_eq_true rfl, Nat.le_of_ble_eq_true rfl⟩ dL_law_682 ?_
  refine lv_aload_n hx hb dL_law_685 rfl (lv_at hl 2 rfl) ?_
  refine lv_aload_n hx hb dL_law_686 rfl (lv_at hl 0 rfl) ?_
  refine lv_iload_n hx hb dL_law_687 rfl (lv_at hl 3 rfl) ?_
  refine lv_iconst (v := (1 : Int32)) hx hb dL_law_688 (by decide +kernel) ?_
  refine lv_iadd hx hb dL_law_689 ?_
  refine va_sld hx hb hX hbl hbA hS (zz_s1 hi4 hL) dL_law_690 ?_
  refine bRV (W0 := wX cI cS qx a0 a1 a2 a3 b3 a4 st sn tr hi sc has (wM cI qm m1 m2 m3 m5 m6 t h k sm tk bf tx ln pl le on ot ca)) (wc := [[(qm, .inr (7, [.ref m1, .ref m2, .int k, .ref m3, .int tk, .ref m5, .ref m6, .int ln, .int pl, .int le, .int on, .int ot, .int ca]))], [(m1, .inl (cI, 163, .inl t))]]) ⟨hx, hb, hml, hown, hts⟩ (kX7_total l D cI cS qm m1 m2 k m3 tk m5 m6 ln pl le on ot ca (xs (nI i + (1 : Int32)).toNatClampNeg) t) (cwV 1 hts gL_law_X7_total rfl rfl rfl (by decide +kernel) ⟨Nat.le_of_ble_eq_true rfl, Nat.le_of_ble_eq_true rfl⟩) hE hP rfl rfl [13, 14] rfl rfl rfl hl.1 rfl (Nat.le_of_ble_eq_true rfl) ⟨Nat.le_of_ble_eq_true rfl, Nat.le_of_ble_eq_true rfl⟩ dL_law_691 ?_
  have hq : fX6_total (xs (nI i + (1 : Int32)).toNatClampNeg) st = fX7_total (xs (nI i + (1 : Int32)).toNatClampNeg) t := Q_total RPp.1 (xs (nI i + (1 : Int32)).toNatClampNeg)
  refine lv_icmp_eq (tgt := 789) hx hb dL_law_694 (by decide) (fun _ => ?_) (fun c9 => absurd hq c9)
  exact kk st sn tr hi sc has t h k sm tk bf tx ln pl le on ot ca _ _ _ ⟨RPp, Rsn, Rhas, Rsm, Rtx⟩ hP hD hS hl
set_option maxHeartbeats 4000000 in
set_option maxRecDepth 100000 in
theorem law_states (C0 : lw_At p s m meth c b L xs) (hE : EV D (tysA cI cS) s) (hSX : SX (Anew s) s s.heap) (hi4 : i + 4 ≤ L) (hL : L ≤ 2048) (R : TopR st sn hi sc has t h k sm tk tx ln) (hP : va_P D vwCl (fl (wX cI cS qx a0 a1 a2 a3 b3 a4 st sn tr hi sc has (wM cI qm m1 m2 m3 m5 m6 t h k sm tk bf tx ln pl le on ot ca))) H) (hD : va_D (Anew s) (fl (wX cI cS qx a0 a1 a2 a3 b3 a4 st sn tr hi sc has (wM cI qm m1 m2 m3 m5 m6 t h k sm tk bf tx ln pl le on ot ca)))) (hS : va_S (Anew s) s.heap H locs) (hl : lv_has ls 8 [(0, .ref b), (1, .ref qx), (2, .ref qm), (3, .int (nI i))]) (kk : LBack p l e s m b below meth c D cI cS qx qm a0 a1 a2 a3 b3 a4 m1 m2 m3 m5 m6 i Q) : W p l e room_1 s m #[Value.ref b] below meth c H locs 128 3083 Q (F0 m 699 ls []) := by
  have hkp := R.k5
  have hs := R.wc
  obtain ⟨hx, hb, hr, hml, hown, hts0, hX, hbl, hlocks, hgv⟩ := C0
  have hts : ∀ w ∈ wsL_law, w.before #[Value.ref b] s = true := fun w h => hts0 w (wsL_law_in w h)
  have hbA : ¬ Anew s b := Nat.not_le.mpr hbl
  obtain ⟨RPp, Rsn, Rhas, Rsm, Rtx⟩ := R
  have hw : WS st := RPp.1.1
  have hm : WM t := RPp.1.2.1
  have hh : WH hi := RPp.2.1
  have hbo : BL st.2.2.1 := hw.2.2
  have hbs : BL sn.2.2.1 := Rsn
  have hlb : Bd ln 80 := Rtx.2.1
  refine lv_aload_n hx hb dL_law_699 rfl (lv_at hl 1 rfl) ?_
  refine bRV (W0 := wX cI cS qx a0 a1 a2 a3 b3 a4 st sn tr hi sc has (wM cI qm m1 m2 m3 m5 m6 t h k sm tk bf tx ln pl le on ot ca)) (wc := [(qx, .inr (6, [.ref (a0 0), .ref (a1 0), .ref (a2 0), .ref (a3 0), .ref (a4 0), .int has]))] :: wHh a3 hi.2 :: []) ⟨hx, hb, hml, hown, hts⟩ (kX6_states l D cI cS qx a3 (a0 0) (a1 0) (a2 0) (a4 0) has hi.2) (cwV 0 hts gL_law_X6_states rfl rfl rfl (by decide +kernel) ⟨Nat.le_of_ble_eq_true rfl, Nat.le_of_ble_eq_true rfl⟩) hE hP rfl rfl [0, 4] rfl rfl rfl hl.1 rfl (Nat.le_of_ble_eq_true rfl) ⟨Nat.le_of_ble_eq_true rfl, Nat.le_of_ble_eq_true rfl⟩ dL_law_700 ?_
  refine lv_aload_n hx hb dL_law_703 rfl (lv_at hl 2 rfl) ?_
  refine bRV (W0 := wX cI cS qx a0 a1 a2 a3 b3 a4 st sn tr hi sc has (wM cI qm m1 m2 m3 m5 m6 t h k sm tk bf tx ln pl le on ot ca)) (wc := [[(qm, .inr (7, [.ref m1, .ref m2, .int k, .ref m3, .int tk, .ref m5, .ref m6, .int ln, .int pl, .int le, .int on, .int ot, .int ca]))]]) ⟨hx, hb, hml, hown, hts⟩ (kX7_states l D cI cS qm m1 m2 m3 tk m5 m6 ln pl le on ot ca k) (cwV 0 hts gL_law_X7_states rfl rfl rfl (by decide +kernel) ⟨Nat.le_of_ble_eq_true rfl, Nat.le_of_ble_eq_true rfl⟩) hE hP rfl rfl [13] rfl rfl rfl hl.1 rfl (Nat.le_of_ble_eq_true rfl) ⟨Nat.le_of_ble_eq_true rfl, Nat.le_of_ble_eq_true rfl⟩ dL_law_704 ?_
  have hq : fX6_states hi.2 = fX7_states k := RPp.2.2.1
  refine lv_icmp_eq (tgt := 789) hx hb dL_law_707 (by decide) (fun _ => ?_) (fun c9 => absurd hq c9)
  exact kk st sn tr hi sc has t h k sm tk bf tx ln pl le on ot ca _ _ _ ⟨RPp, Rsn, Rhas, Rsm, Rtx⟩ hP hD hS hl
set_option maxHeartbeats 4000000 in
set_option maxRecDepth 100000 in
theorem law_readyIn (C0 : lw_At p s m meth c b L xs) (hE : EV D (tysA cI cS) s) (hSX : SX (Anew s) s s.heap) (hi4 : i + 4 ≤ L) (hL : L ≤ 2048) (R : TopR st sn hi sc has t h k sm tk tx ln) (hP : va_P D vwCl (fl (wX cI cS qx a0 a1 a2 a3 b3 a4 st sn tr hi sc has (wM cI qm m1 m2 m3 m5 m6 t h k sm tk bf tx ln pl le on ot ca))) H) (hD : va_D (Anew s) (fl (wX cI cS qx a0 a1 a2 a3 b3 a4 st sn tr hi sc has (wM cI qm m1 m2 m3 m5 m6 t h k sm tk bf tx ln pl le on ot ca)))) (hS : va_S (Anew s) s.heap H locs) (hl : lv_has ls 8 [(0, .ref b), (1, .ref qx), (2, .ref qm), (3, .int (nI i))]) (kk : LBack p l e s m b below meth c D cI cS qx qm a0 a1 a2 a3 b3 a4 m1 m2 m3 m5 m6 i Q) : W p l e room_1 s m #[Value.ref b] below meth c H locs 128 3083 Q (F0 m 712 ls []) := by
  have hkp := R.k5
  have hs := R.wc
  obtain ⟨hx, hb, hr, hml, hown, hts0, hX, hbl, hlocks, hgv⟩ := C0
  have hts : ∀ w ∈ wsL_law, w.before #[Value.ref b] s = true := fun w h => hts0 w (wsL_law_in w h)
  have hbA : ¬ Anew s b := Nat.not_le.mpr hbl
  obtain ⟨RPp, Rsn, Rhas, Rsm, Rtx⟩ := R
  have hw : WS st := RPp.1.1
  have hm : WM t := RPp.1.2.1
  have hh : WH hi := RPp.2.1
  have hbo : BL st.2.2.1 := hw.2.2
  have hbs : BL sn.2.2.1 := Rsn
  have hlb : Bd ln 80 := Rtx.2.1
  refine lv_aload_n hx hb dL_law_712 rfl (lv_at hl 1 rfl) ?_
  refine bIV (W0 := wX cI cS qx a0 a1 a2 a3 b3 a4 st sn tr hi sc has (wM cI qm m1 m2 m3 m5 m6 t h k sm tk bf tx ln pl le on ot ca)) (wc := [(qx, .inr (6, [.ref (a0 0), .ref (a1 0), .ref (a2 0), .ref (a3 0), .ref (a4 0), .int has]))] :: wSt cI a0 st :: wSt cI a2 tr :: []) (w1 := fun u : TTT => [(qx, .inr (6, [.ref (a0 0), .ref (a1 0), .ref (a2 0), .ref (a3 0), .ref (a4 0), .int has]))] :: wSt cI a0 u.1 :: wSt cI a2 u.2 :: []) ⟨hx, hb, hml, hown, hts⟩ (kX6_readyIn l D cI cS qx a0 a2 (a1 0) (a3 0) (a4 0) has (st, tr) hw) (cwV 0 hts gL_law_X6_readyIn rfl rfl rfl (by decide +kernel) ⟨Nat.le_of_ble_eq_true rfl, Nat.le_of_ble_eq_true rfl⟩) hE hP hD hS rfl rfl [0, 1, 3] rfl rfl (fun _ => rfl) (fun _ => rfl) rfl hl.1 rfl (Nat.le_of_ble_eq_true rfl) ⟨Nat.le_of_ble_eq_true rfl, Nat.le_of_ble_eq_true rfl⟩ dL_law_713 (fun r1 u1 H locs e1 hP hD hS => ?_)
  have hP : va_P D vwCl (fl (wX cI cS qx a0 a1 a2 a3 b3 a4 u1.1 sn u1.2 hi sc has (wM cI qm m1 m2 m3 m5 m6 t h k sm tk bf tx ln pl le on ot ca))) H := hP
  have hD : va_D (Anew s) (fl (wX cI cS qx a0 a1 a2 a3 b3 a4 u1.1 sn u1.2 hi sc has (wM cI qm m1 m2 m3 m5 m6 t h k sm tk bf tx ln pl le on ot ca))) := hD
  refine lv_aload_n hx hb dL_law_716 rfl (lv_at hl 2 rfl) ?_
  refine bIV (W0 := wX cI cS qx a0 a1 a2 a3 b3 a4 u1.1 sn u1.2 hi sc has (wM cI qm m1 m2 m3 m5 m6 t h k sm tk bf tx ln pl le on ot ca)) (wc := [[(qm, .inr (7, [.ref m1, .ref m2, .int k, .ref m3, .int tk, .ref m5, .ref m6, .int ln, .int pl, .int le, .int on, .int ot, .int ca]))], [(m1, .inl (cI, 163, .inl t))], [(m5, .inl (cI, 163, .inl bf))]]) (w1 := fun u : MBT => [[(qm, .inr (7, [.ref m1, .ref m2, .int k, .ref m3, .int tk, .ref m5, .ref m6, .int ln, .int pl, .int le, .int on, .int ot, .int ca]))], [(m1, .inl (cI, 163, .inl u.1))], [(m5, .inl (cI, 163, .inl u.2))]]) ⟨hx, hb, hml, hown, hts⟩ (kX7_readyIn l D cI cS qm m1 m5 m2 k m3 tk m6 ln pl le on ot ca (t, bf) hm) (cwV 0 hts gL_law_X7_readyIn rfl rfl rfl (by decide +kernel) ⟨Nat.le_of_ble_eq_true rfl, Nat.le_of_ble_eq_true rfl⟩) hE hP hD hS rfl rfl [13, 14, 17] rfl rfl (fun _ => rfl) (fun _ => rfl) rfl hl.1 rfl (Nat.le_of_ble_eq_true rfl) ⟨Nat.le_of_ble_eq_true rfl, Nat.le_of_ble_eq_true rfl⟩ dL_law_717 (fun r2 u2 H locs e2 hP hD hS => ?_)
  have hP : va_P D vwCl (fl (wX cI cS qx a0 a1 a2 a3 b3 a4 u1.1 sn u1.2 hi sc has (wM cI qm m1 m2 m3 m5 m6 u2.1 h k sm tk u2.2 tx ln pl le on ot ca))) H := hP
  have hD : va_D (Anew s) (fl (wX cI cS qx a0 a1 a2 a3 b3 a4 u1.1 sn u1.2 hi sc has (wM cI qm m1 m2 m3 m5 m6 u2.1 h k sm tk u2.2 tx ln pl le on ot ca))) := hD
  have hB := A_ready (τ := (st, tr)) (m := (t, bf)) RPp.1
  rw [e1, e2] at hB
  have hq : r1 = r2 := hB.1
  have hR : RS u1.1 u2.1 := hB.2
  refine lv_icmp_eq (tgt := 789) hx hb dL_law_720 (by decide) (fun _ => ?_) (fun c9 => absurd hq c9)
  exact kk u1.1 sn u1.2 hi sc has u2.1 h k sm tk u2.2 tx ln pl le on ot ca _ _ _ ⟨⟨hR, RPp.2⟩, Rsn, Rhas, Rsm, Rtx⟩ hP hD hS hl
set_option maxHeartbeats 4000000 in
set_option maxRecDepth 100000 in
theorem law_leastLot (C0 : lw_At p s m meth c b L xs) (hE : EV D (tysA cI cS) s) (hSX : SX (Anew s) s s.heap) (hi4 : i + 4 ≤ L) (hL : L ≤ 2048) (R : TopR st sn hi sc has t h k sm tk tx ln) (hP : va_P D vwCl (fl (wX cI cS qx a0 a1 a2 a3 b3 a4 st sn tr hi sc has (wM cI qm m1 m2 m3 m5 m6 t h k sm tk bf tx ln pl le on ot ca))) H) (hD : va_D (Anew s) (fl (wX cI cS qx a0 a1 a2 a3 b3 a4 st sn tr hi sc has (wM cI qm m1 m2 m3 m5 m6 t h k sm tk bf tx ln pl le on ot ca)))) (hS : va_S (Anew s) s.heap H locs) (hl : lv_has ls 8 [(0, .ref b), (1, .ref qx), (2, .ref qm), (3, .int (nI i))]) (kk : LBack p l e s m b below meth c D cI cS qx qm a0 a1 a2 a3 b3 a4 m1 m2 m3 m5 m6 i Q) : W p l e room_1 s m #[Value.ref b] below meth c H locs 128 3083 Q (F0 m 725 ls []) := by
  have hkp := R.k5
  have hs := R.wc
  obtain ⟨hx, hb, hr, hml, hown, hts0, hX, hbl, hlocks, hgv⟩ := C0
  have hts : ∀ w ∈ wsL_law, w.before #[Value.ref b] s = true := fun w h => hts0 w (wsL_law_in w h)
  have hbA : ¬ Anew s b := Nat.not_le.mpr hbl
  obtain ⟨RPp, Rsn, Rhas, Rsm, Rtx⟩ := R
  have hw : WS st := RPp.1.1
  have hm : WM t := RPp.1.2.1
  have hh : WH hi := RPp.2.1
  have hbo : BL st.2.2.1 := hw.2.2
  have hbs : BL sn.2.2.1 := Rsn
  have hlb : Bd ln 80 := Rtx.2.1
  refine lv_aload_n hx hb dL_law_725 rfl (lv_at hl 1 rfl) ?_
  refine lv_aload_n hx hb dL_law_726 rfl (lv_at hl 0 rfl) ?_
  refine lv_iload_n hx hb dL_law_727 rfl (lv_at hl 3 rfl) ?_
  refine lv_iconst (v := (1 : Int32)) hx hb dL_law_728 (by decide +kernel) ?_
  refine lv_iadd hx hb dL_law_729 ?_
  refine va_sld hx hb hX hbl hbA hS (zz_s1 hi4 hL) dL_law_730 ?_
  refine bIV (W0 := wX cI cS qx a0 a1 a2 a3 b3 a4 st sn tr hi sc has (wM cI qm m1 m2 m3 m5 m6 t h k sm tk bf tx ln pl le on ot ca)) (wc := [(qx, .inr (6, [.ref (a0 0), .ref (a1 0), .ref (a2 0), .ref (a3 0), .ref (a4 0), .int has]))] :: wSt cI a0 st :: wSt cI a2 tr :: []) (w1 := fun u : TTT => [(qx, .inr (6, [.ref (a0 0), .ref (a1 0), .ref (a2 0), .ref (a3 0), .ref (a4 0), .int has]))] :: wSt cI a0 u.1 :: wSt cI a2 u.2 :: []) ⟨hx, hb, hml, hown, hts⟩ (kX6_leastLot l D cI cS qx a0 a2 (a1 0) (a3 0) (a4 0) has (xs (nI i + (1 : Int32)).toNatClampNeg) (st, tr) hw) (cwV 1 hts gL_law_X6_leastLot rfl rfl rfl (by decide +kernel) ⟨Nat.le_of_ble_eq_true rfl, Nat.le_of_ble_eq_true rfl⟩) hE hP hD hS rfl rfl [0, 1, 3] rfl rfl (fun _ => rfl) (fun _ => rfl) rfl hl.1 rfl (Nat.le_of_ble_eq_true rfl) ⟨Nat.le_of_ble_eq_true rfl, Nat.le_of_ble_eq_true rfl⟩ dL_law_731 (fun r1 u1 H locs e1 hP hD hS => ?_)
  have hP : va_P D vwCl (fl (wX cI cS qx a0 a1 a2 a3 b3 a4 u1.1 sn u1.2 hi sc has (wM cI qm m1 m2 m3 m5 m6 t h k sm tk bf tx ln pl le on ot ca))) H := hP
  have hD : va_D (Anew s) (fl (wX cI cS qx a0 a1 a2 a3 b3 a4 u1.1 sn u1.2 hi sc has (wM cI qm m1 m2 m3 m5 m6 t h k sm tk bf tx ln pl le on ot ca))) := hD
  refine lv_aload_n hx hb dL_law_734 rfl (lv_at hl 2 rfl) ?_
  refine lv_aload_n hx hb dL_law_735 rfl (lv_at hl 0 rfl) ?_
  refine lv_iload_n hx hb dL_law_736 rfl (lv_at hl 3 rfl) ?_
  refine lv_iconst (v := (1 : Int32)) hx hb dL_law_737 (by decide +kernel) ?_
  refine lv_iadd hx hb dL_law_738 ?_
  refine va_sld hx hb hX hbl hbA hS (zz_s1 hi4 hL) dL_law_739 ?_
  refine bIV (W0 := wX cI cS qx a0 a1 a2 a3 b3 a4 u1.1 sn u1.2 hi sc has (wM cI qm m1 m2 m3 m5 m6 t h k sm tk bf tx ln pl le on ot ca)) (wc := [[(qm, .inr (7, [.ref m1, .ref m2, .int k, .ref m3, .int tk, .ref m5, .ref m6, .int ln, .int pl, .int le, .int on, .int ot, .int ca]))], [(m1, .inl (cI, 163, .inl t))], [(m5, .inl (cI, 163, .inl bf))]]) (w1 := fun u : MBT => [[(qm, .inr (7, [.ref m1, .ref m2, .int k, .ref m3, .int tk, .ref m5, .ref m6, .int ln, .int pl, .int le, .int on, .int ot, .int ca]))], [(m1, .inl (cI, 163, .inl u.1))], [(m5, .inl (cI, 163, .inl u.2))]]) ⟨hx, hb, hml, hown, hts⟩ (kX7_leastLot l D cI cS qm m1 m5 m2 k m3 tk m6 ln pl le on ot ca (xs (nI i + (1 : Int32)).toNatClampNeg) (t, bf) hm) (cwV 1 hts gL_law_X7_leastLot rfl rfl rfl (by decide +kernel) ⟨Nat.le_of_ble_eq_true rfl, Nat.le_of_ble_eq_true rfl⟩) hE hP hD hS rfl rfl [13, 14, 17] rfl rfl (fun _ => rfl) (fun _ => rfl) rfl hl.1 rfl (Nat.le_of_ble_eq_true rfl) ⟨Nat.le_of_ble_eq_true rfl, Nat.le_of_ble_eq_true rfl⟩ dL_law_740 (fun r2 u2 H locs e2 hP hD hS => ?_)
  have hP : va_P D vwCl (fl (wX cI cS qx a0 a1 a2 a3 b3 a4 u1.1 sn u1.2 hi sc has (wM cI qm m1 m2 m3 m5 m6 u2.1 h k sm tk u2.2 tx ln pl le on ot ca))) H := hP
  have hD : va_D (Anew s) (fl (wX cI cS qx a0 a1 a2 a3 b3 a4 u1.1 sn u1.2 hi sc has (wM cI qm m1 m2 m3 m5 m6 u2.1 h k sm tk u2.2 tx ln pl le on ot ca))) := hD
  have hB := A_lot (τ := (st, tr)) (m := (t, bf)) (p := (xs (nI i + (1 : Int32)).toNatClampNeg)) RPp.1
  rw [e1, e2] at hB
  have hq : r1 = r2 := hB.1
  have hR : RS u1.1 u2.1 := hB.2
  refine lv_icmp_eq (tgt := 789) hx hb dL_law_743 (by decide) (fun _ => ?_) (fun c9 => absurd hq c9)
  exact kk u1.1 sn u1.2 hi sc has u2.1 h k sm tk u2.2 tx ln pl le on ot ca _ _ _ ⟨⟨hR, RPp.2⟩, Rsn, Rhas, Rsm, Rtx⟩ hP hD hS hl
theorem prog_d (τ : StT) : ∃ d : UInt64, fX6_progress τ = Value.double d := by
  unfold fX6_progress
  by_cases c : fX5_hasCopy τ = (0 : Int32)
  · rw [if_pos c]; exact ⟨_, rfl⟩
  · rw [if_neg c]; exact ⟨_, rfl⟩
set_option maxHeartbeats 4000000 in
set_option maxRecDepth 100000 in
theorem law_progress (C0 : lw_At p s m meth c b L xs) (hE : EV D (tysA cI cS) s) (hSX : SX (Anew s) s s.heap) (hi4 : i + 4 ≤ L) (hL : L ≤ 2048) (R : TopR st sn hi sc has t h k sm tk tx ln) (hP : va_P D vwCl (fl (wX cI cS qx a0 a1 a2 a3 b3 a4 st sn tr hi sc has (wM cI qm m1 m2 m3 m5 m6 t h k sm tk bf tx ln pl le on ot ca))) H) (hD : va_D (Anew s) (fl (wX cI cS qx a0 a1 a2 a3 b3 a4 st sn tr hi sc has (wM cI qm m1 m2 m3 m5 m6 t h k sm tk bf tx ln pl le on ot ca)))) (hS : va_S (Anew s) s.heap H locs) (hl : lv_has ls 8 [(0, .ref b), (1, .ref qx), (2, .ref qm), (3, .int (nI i))]) (kk : LBack p l e s m b below meth c D cI cS qx qm a0 a1 a2 a3 b3 a4 m1 m2 m3 m5 m6 i Q) : W p l e room_1 s m #[Value.ref b] below meth c H locs 128 3083 Q (F0 m 748 ls []) := by
  obtain ⟨hx, hb, hr, hml, hown, hts0, hX, hbl, hlocks, hgv⟩ := C0
  have hts : ∀ w ∈ wsL_law, w.before #[Value.ref b] s = true := fun w h => hts0 w (wsL_law_in w h)
  have hw : WS st := R.1.1.1
  have hm : WM t := R.1.1.2.1
  obtain ⟨dx, ex⟩ := prog_d st
  have ey : fX7_progress t = Value.double dx := (Q_progress R.1.1).symm.trans ex
  refine lv_aload_n hx hb dL_law_748 rfl (lv_at hl 1 rfl) ?_
  refine cAV (W0 := fl (wX cI cS qx a0 a1 a2 a3 b3 a4 st sn tr hi sc has (wM cI qm m1 m2 m3 m5 m6 t h k sm tk bf tx ln pl le on ot ca))) (wc := fl ([(qx, .inr (6, [.ref (a0 0), .ref (a1 0), .ref (a2 0), .ref (a3 0), .ref (a4 0), .int has]))] :: wSt cI a0 st :: [])) ⟨hx, hb, hml, hown, hts⟩ (kX6_progress l D cI cS qx a0 (a1 0) (a2 0) (a3 0) (a4 0) has st hw) (cwV 0 hts gL_law_X6_progress rfl rfl rfl (by decide +kernel) ⟨Nat.le_of_ble_eq_true rfl, Nat.le_of_ble_eq_true rfl⟩) hE hP 0 rfl rfl [0, 1, 2, 3, 4, 5, 6, 7, 8, 9, 10, 11, 12, 13] rfl rfl hl.1 rfl (Nat.le_of_ble_eq_true rfl) ⟨Nat.le_of_ble_eq_true rfl, Nat.le_of_ble_eq_true rfl⟩ dL_law_749 ?_
  rw [ex]
  refine lv_dstore (lv' := [(4, .double dx), (0, .ref b), (1, .ref qx), (2, .ref qm), (3, .int (nI i))]) hx hb dL_law_752 hl (by decide) rfl (fun ls hl => ?_)
  refine lv_aload_n hx hb dL_law_754 rfl (lv_at hl 3 rfl) ?_
  refine cAV (W0 := fl (wX cI cS qx a0 a1 a2 a3 b3 a4 st sn tr hi sc has (wM cI qm m1 m2 m3 m5 m6 t h k sm tk bf tx ln pl le on ot ca))) (wc := fl ([[(qm, .inr (7, [.ref m1, .ref m2, .int k, .ref m3, .int tk, .ref m5, .ref m6, .int ln, .int pl, .int le, .int on, .int ot, .int ca]))], [(m1, .inl (cI, 163, .inl t))]])) ⟨hx, hb, hml, hown, hts⟩ (kX7_progress l D cI cS qm m1 m2 k m3 tk m5 m6 ln pl le on ot ca t hm) (cwV 0 hts gL_law_X7_progress rfl rfl rfl (by decide +kernel) ⟨Nat.le_of_ble_eq_true rfl, Nat.le_of_ble_eq_true rfl⟩) hE hP 122 rfl rfl [122, 123] rfl rfl hl.1 rfl (Nat.le_of_ble_eq_true rfl) ⟨Nat.le_of_ble_eq_true rfl, Nat.le_of_ble_eq_true rfl⟩ dL_law_755 ?_
  rw [ey]
  refine lv_dstore (lv' := [(6, .double dx), (4, .double dx), (0, .ref b), (1, .ref qx), (2, .ref qm), (3, .int (nI i))]) hx hb dL_law_758 hl (by decide) rfl (fun ls hl => ?_)
  have hfin : ∀ ls : Array Slot, lv_has ls 8 [(6, .double dx), (4, .double dx), (0, .ref b), (1, .ref qx), (2, .ref qm), (3, .int (nI i))] → W p l e room_1 s m #[Value.ref b] below meth c H locs 128 3083 Q (F0 m 786 ls []) := by
    intro ls hl
    refine lv_goto (tgt := 789) hx hb dL_law_786 (by decide) ?_
    exact kk st sn tr hi sc has t h k sm tk bf tx ln pl le on ot ca _ _ _ R hP hD hS (lv_sub hl [2, 3, 4, 5] rfl)
  refine lv_dload hx hb dL_law_760 (lv_at hl 1 rfl) ?_
  refine lv_dload hx hb dL_law_762 (lv_at hl 0 rfl) ?_
  refine lv_dcmp hx hb dL_law_764 ?_
  refine lv_if_eq (tgt := 786) hx hb dL_law_765 (by decide) (fun _ => hfin ls hl) (fun c9 => ?_)
  refine lv_dload hx hb dL_law_768 (lv_at hl 1 rfl) ?_
  refine lv_dload hx hb dL_law_770 (lv_at hl 1 rfl) ?_
  refine lv_dcmp hx hb dL_law_772 ?_
  refine lv_if_eq (tgt := 784) hx hb dL_law_773 (by decide) (fun c8 => absurd c8 c9) (fun _ => ?_)
  refine lv_dload hx hb dL_law_776 (lv_at hl 0 rfl) ?_
  refine lv_dload hx hb dL_law_778 (lv_at hl 0 rfl) ?_
  refine lv_dcmp hx hb dL_law_780 ?_
  exact lv_if_ne (tgt := 786) hx hb dL_law_781 (by decide) (fun _ => hfin ls hl) (fun c8 => absurd c8 c9)
end LAWC
