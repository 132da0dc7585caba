section LAWC
variable {p : Program} {l : Launch} {e : Env} {s : State} {m : MethodId} {below : List Frame} {meth : Method} {c : Code} {b L : Nat} {xs : Nat → Int32} {D : va_G} {cI cS : ClassId} {qx qm : Nat} {a0 a1 a2 a3 : Nat → Nat} {b3 : Nat → Nat → Nat} {a4 : Nat → Nat} {m1 m2 m3 m5 m6 : Nat} {i : Nat} {Q : State → Prop}
variable {st sn tr : StT} {hi : HiT} {sc : ScT} {has : Int32} {t h : FnI} {k : Int32} {sm : FnI} {tk : Int32} {bf tx : FnI} {ln pl le on ot ca : Int32} {H : Heap} {locs : List Loc} {ls : Array Slot}
set_option maxHeartbeats 4000000 in
set_option maxRecDepth 100000 in
theorem law_put (C0 : lw_At p s m meth c b L xs) (hE : EV D (tysA cI cS) s) (hSX : SX (Anew s) s s.heap) (hi4 : i + 4 ≤ L) (hL : L ≤ 2048) (R : TopR st sn hi sc has t h k sm tk tx ln) (hP : va_P D vwCl (fl (wX cI cS qx a0 a1 a2 a3 b3 a4 st sn tr hi sc has (wM cI qm m1 m2 m3 m5 m6 t h k sm tk bf tx ln pl le on ot ca))) H) (hD : va_D (Anew s) (fl (wX cI cS qx a0 a1 a2 a3 b3 a4 st sn tr hi sc has (wM cI qm m1 m2 m3 m5 m6 t h k sm tk bf tx ln pl le on ot ca)))) (hS : va_S (Anew s) s.heap H locs) (hl : lv_has ls 8 [(0, .ref b), (1, .ref qx), (2, .ref qm), (3, .int (nI i))]) (kk : LBack p l e s m b below meth c D cI cS qx qm a0 a1 a2 a3 b3 a4 m1 m2 m3 m5 m6 i Q) : W p l e room_1 s m #[Value.ref b] below meth c H locs 128 3083 Q (F0 m 164 ls []) := by
  have hkp := R.k5
  have hs := R.wc
  obtain ⟨hx, hb, hr, hml, hown, hts0, hX, hbl, hlocks, hgv⟩ := C0
  have hts : ∀ w ∈ wsL_law, w.before #[Value.ref b] s = true := fun w h => hts0 w (wsL_law_in w h)
  have hbA : ¬ Anew s b := Nat.not_le.mpr hbl
  obtain ⟨RPp, Rsn, Rhas, Rsm, Rtx⟩ := R
  have hw : WS st := RPp.1.1
  have hm : WM t := RPp.1.2.1
  have hh : WH hi := RPp.2.1
  have hbo : BL st.2.2.1 := hw.2.2
  have hbs : BL sn.2.2.1 := Rsn
  have hlb : Bd ln 80 := Rtx.2.1
  refine lv_aload_n hx hb dL_law_164 rfl (lv_at hl 1 rfl) ?_
  refine lv_aload_n hx hb dL_law_165 rfl (lv_at hl 0 rfl) ?_
  refine lv_iload_n hx hb dL_law_166 rfl (lv_at hl 3 rfl) ?_
  refine lv_iconst (v := (1 : Int32)) hx hb dL_law_167 (by decide +kernel) ?_
  refine lv_iadd hx hb dL_law_168 ?_
  refine va_sld hx hb hX hbl hbA hS (zz_s1 hi4 hL) dL_law_169 ?_
  refine lv_aload_n hx hb dL_law_170 rfl (lv_at hl 0 rfl) ?_
  refine lv_iload_n hx hb dL_law_171 rfl (lv_at hl 3 rfl) ?_
  refine lv_iconst (v := (2 : Int32)) hx hb dL_law_172 (by decide +kernel) ?_
  refine lv_iadd hx hb dL_law_173 ?_
  refine va_sld hx hb hX hbl hbA hS (zz_s2 hi4 hL) dL_law_174 ?_
  refine bIV (W0 := wX cI cS qx a0 a1 a2 a3 b3 a4 st sn tr hi sc has (wM cI qm m1 m2 m3 m5 m6 t h k sm tk bf tx ln pl le on ot ca)) (wc := [(qx, .inr (6, [.ref (a0 0), .ref (a1 0), .ref (a2 0), .ref (a3 0), .ref (a4 0), .int has]))] :: wSt cI a0 st :: wHi cI cS a3 b3 hi []) (w1 := fun u : TPT => [(qx, .inr (6, [.ref (a0 0), .ref (a1 0), .ref (a2 0), .ref (a3 0), .ref (a4 0), .int has]))] :: wSt cI a0 u.1 :: wHi cI cS a3 b3 u.2 []) ⟨hx, hb, hml, hown, hts⟩ (kX6_put l D cI cS qx a0 a3 b3 (a1 0) (a2 0) (a4 0) has (xs (nI i + (1 : Int32)).toNatClampNeg) (xs (nI i + (2 : Int32)).toNatClampNeg) (st, hi) hw hh) (cwV 2 hts gL_law_X6_put rfl rfl rfl (by decide +kernel) ⟨Nat.le_of_ble_eq_true rfl, Nat.le_of_ble_eq_true rfl⟩) hE hP hD hS rfl rfl [0, 1, 4, 5, 6, 7, 8, 9, 10, 11] rfl rfl (fun _ => rfl) (fun _ => rfl) rfl hl.1 rfl (Nat.le_of_ble_eq_true rfl) ⟨Nat.le_of_ble_eq_true rfl, Nat.le_of_ble_eq_true rfl⟩ dL_law_175 (fun r1 u1 H locs e1 hP hD hS => ?_)
  have hP : va_P D vwCl (fl (wX cI cS qx a0 a1 a2 a3 b3 a4 u1.1 sn tr u1.2 sc has (wM cI qm m1 m2 m3 m5 m6 t h k sm tk bf tx ln pl le on ot ca))) H := hP
  have hD : va_D (Anew s) (fl (wX cI cS qx a0 a1 a2 a3 b3 a4 u1.1 sn tr u1.2 sc has (wM cI qm m1 m2 m3 m5 m6 t h k sm tk bf tx ln pl le on ot ca))) := hD
  refine lv_aload_n hx hb dL_law_178 rfl (lv_at hl 2 rfl) ?_
  refine lv_aload_n hx hb dL_law_179 rfl (lv_at hl 0 rfl) ?_
  refine lv_iload_n hx hb dL_law_180 rfl (lv_at hl 3 rfl) ?_
  refine lv_iconst (v := (1 : Int32)) hx hb dL_law_181 (by decide +kernel) ?_
  refine lv_iadd hx hb dL_law_182 ?_
  refine va_sld hx hb hX hbl hbA hS (zz_s1 hi4 hL) dL_law_183 ?_
  refine lv_aload_n hx hb dL_law_184 rfl (lv_at hl 0 rfl) ?_
  refine lv_iload_n hx hb dL_law_185 rfl (lv_at hl 3 rfl) ?_
  refine lv_iconst (v := (2 : Int32)) hx hb dL_law_186 (by decide +kernel) ?_
  refine lv_iadd hx hb dL_law_187 ?_
  refine va_sld hx hb hX hbl hbA hS (zz_s2 hi4 hL) dL_law_188 ?_
  refine bIV (W0 := wX cI cS qx a0 a1 a2 a3 b3 a4 u1.1 sn tr u1.2 sc has (wM cI qm m1 m2 m3 m5 m6 t h k sm tk bf tx ln pl le on ot ca)) (wc := [[(qm, .inr (7, [.ref m1, .ref m2, .int k, .ref m3, .int tk, .ref m5, .ref m6, .int ln, .int pl, .int le, .int on, .int ot, .int ca]))], [(m1, .inl (cI, 163, .inl t))], [(m2, .inl (cI, 815, .inl h))]]) (w1 := fun u : MHT => [[(qm, .inr (7, [.ref m1, .ref m2, .int u.2.2, .ref m3, .int tk, .ref m5, .ref m6, .int ln, .int pl, .int le, .int on, .int ot, .int ca]))], [(m1, .inl (cI, 163, .inl u.1))], [(m2, .inl (cI, 815, .inl u.2.1))]]) ⟨hx, hb, hml, hown, hts⟩ (kX7_put l D cI cS qm m1 m2 m3 tk m5 m6 ln pl le on ot ca (xs (nI i + (1 : Int32)).toNatClampNeg) (xs (nI i + (2 : Int32)).toNatClampNeg) (t, h, k) hm hkp) (cwV 2 hts gL_law_X7_put rfl rfl rfl (by decide +kernel) ⟨Nat.le_of_ble_eq_true rfl, Nat.le_of_ble_eq_true rfl⟩) hE hP hD hS rfl rfl [13, 14, 15] rfl rfl (fun _ => rfl) (fun _ => rfl) rfl hl.1 rfl (Nat.le_of_ble_eq_true rfl) ⟨Nat.le_of_ble_eq_true rfl, Nat.le_of_ble_eq_true rfl⟩ dL_law_189 (fun r2 u2 H locs e2 hP hD hS => ?_)
  have hP : va_P D vwCl (fl (wX cI cS qx a0 a1 a2 a3 b3 a4 u1.1 sn tr u1.2 sc has (wM cI qm m1 m2 m3 m5 m6 u2.1 u2.2.1 u2.2.2 sm tk bf tx ln pl le on ot ca))) H := hP
  have hD : va_D (Anew s) (fl (wX cI cS qx a0 a1 a2 a3 b3 a4 u1.1 sn tr u1.2 sc has (wM cI qm m1 m2 m3 m5 m6 u2.1 u2.2.1 u2.2.2 sm tk bf tx ln pl le on ot ca))) := hD
  have hB := B_put RPp (xs (nI i + (1 : Int32)).toNatClampNeg) (xs (nI i + (2 : Int32)).toNatClampNeg)
  rw [e1, e2] at hB
  have hq : r1 = r2 := hB.1
  have hR : RP u1 u2 := hB.2
  refine lv_icmp_eq (tgt := 789) hx hb dL_law_192 (by decide) (fun _ => ?_) (fun c9 => absurd hq c9)
  exact kk u1.1 sn tr u1.2 sc has u2.1 u2.2.1 u2.2.2 sm tk bf tx ln pl le on ot ca _ _ _ ⟨hR, Rsn, Rhas, Rsm, Rtx⟩ hP hD hS hl
set_option maxHeartbeats 4000000 in
set_option maxRecDepth 100000 in
theorem law_value (C0 : lw_At p s m meth c b L xs) (hE : EV D (tysA cI cS) s) (hSX : SX (Anew s) s s.heap) (hi4 : i + 4 ≤ L) (hL : L ≤ 2048) (R : TopR st sn hi sc has t h k sm tk tx ln) (hP : va_P D vwCl (fl (wX cI cS qx a0 a1 a2 a3 b3 a4 st sn tr hi sc has (wM cI qm m1 m2 m3 m5 m6 t h k sm tk bf tx ln pl le on ot ca))) H) (hD : va_D (Anew s) (fl (wX cI cS qx a0 a1 a2 a3 b3 a4 st sn tr hi sc has (wM cI qm m1 m2 m3 m5 m6 t h k sm tk bf tx ln pl le on ot ca)))) (hS : va_S (Anew s) s.heap H locs) (hl : lv_has ls 8 [(0, .ref b), (1, .ref qx), (2, .ref qm), (3, .int (nI i))]) (kk : LBack p l e s m b below meth c D cI cS qx qm a0 a1 a2 a3 b3 a4 m1 m2 m3 m5 m6 i Q) : W p l e room_1 s m #[Value.ref b] below meth c H locs 128 3083 Q (F0 m 462 ls []) := by
  have hkp := R.k5
  have hs := R.wc
  obtain ⟨hx, hb, hr, hml, hown, hts0, hX, hbl, hlocks, hgv⟩ := C0
  have hts : ∀ w ∈ wsL_law, w.before #[Value.ref b] s = true := fun w h => hts0 w (wsL_law_in w h)
  have hbA : ¬ Anew s b := Nat.not_le.mpr hbl
  obtain ⟨RPp, Rsn, Rhas, Rsm, Rtx⟩ := R
  have hw : WS st := RPp.1.1
  have hm : WM t := RPp.1.2.1
  have hh : WH hi := RPp.2.1
  have hbo : BL st.2.2.1 := hw.2.2
  have hbs : BL sn.2.2.1 := Rsn
  have hlb : Bd ln 80 := Rtx.2.1
  refine lv_aload_n hx hb dL_law_462 rfl (lv_at hl 1 rfl) ?_
  refine lv_aload_n hx hb dL_law_463 rfl (lv_at hl 0 rfl) ?_
  refine lv_iload_n hx hb dL_law_464 rfl (lv_at hl 3 rfl) ?_
  refine lv_iconst (v := (1 : Int32)) hx hb dL_law_465 (by decide +kernel) ?_
  refine lv_iadd hx hb dL_law_466 ?_
  refine va_sld hx hb hX hbl hbA hS (zz_s1 hi4 hL) dL_law_467 ?_
  refine lv_aload_n hx hb dL_law_468 rfl (lv_at hl 0 rfl) ?_
  refine lv_iload_n hx hb dL_law_469 rfl (lv_at hl 3 rfl) ?_
  refine lv_iconst (v := (2 : Int32)) hx hb dL_law_470 (by decide +kernel) ?_
  refine lv_iadd hx hb dL_law_471 ?_
  refine va_sld hx hb hX hbl hbA hS (zz_s2 hi4 hL) dL_law_472 ?_
  refine bRV (W0 := wX cI cS qx a0 a1 a2 a3 b3 a4 st sn tr hi sc has (wM cI qm m1 m2 m3 m5 m6 t h k sm tk bf tx ln pl le on ot ca)) (wc := [(qx, .inr (6, [.ref (a0 0), .ref (a1 0), .ref (a2 0), .ref (a3 0), .ref (a4 0), .int has]))] :: wSt cI a0 st :: []) ⟨hx, hb, hml, hown, hts⟩ (kX6_value l D cI cS qx a0 (a1 0) (a2 0) (a3 0) (a4 0) has (xs (nI i + (1 : Int32)).toNatClampNeg) (xs (nI i + (2 : Int32)).toNatClampNeg) st) (cwV 2 hts gL_law_X6_value rfl rfl rfl (by decide +kernel) ⟨Nat.le_of_ble_eq_true rfl, Nat.le_of_ble_eq_true rfl⟩) hE hP rfl rfl [0, 1] rfl rfl rfl hl.1 rfl (Nat.le_of_ble_eq_true rfl) ⟨Nat.le_of_ble_eq_true rfl, Nat.le_of_ble_eq_true rfl⟩ dL_law_473 ?_
  refine lv_aload_n hx hb dL_law_476 rfl (lv_at hl 2 rfl) ?_
  refine lv_aload_n hx hb dL_law_477 rfl (lv_at hl 0 rfl) ?_
  refine lv_iload_n hx hb dL_law_478 rfl (lv_at hl 3 rfl) ?_
  refine lv_iconst (v := (1 : Int32)) hx hb dL_law_479 (by decide +kernel) ?_
  refine lv_iadd hx hb dL_law_480 ?_
  refine va_sld hx hb hX hbl hbA hS (zz_s1 hi4 hL) dL_law_481 ?_
  refine lv_aload_n hx hb dL_law_482 rfl (lv_at hl 0 rfl) ?_
  refine lv_iload_n hx hb dL_law_483 rfl (lv_at hl 3 rfl) ?_
  refine lv_iconst (v := (2 : Int32)) hx hb dL_law_484 (by decide +kernel) ?_
  refine lv_iadd hx hb dL_law_485 ?_
  refine va_sld hx hb hX hbl hbA hS (zz_s2 hi4 hL) dL_law_486 ?_
  refine bRV (W0 := wX cI cS qx a0 a1 a2 a3 b3 a4 st sn tr hi sc has (wM cI qm m1 m2 m3 m5 m6 t h k sm tk bf tx ln pl le on ot ca)) (wc := [[(qm, .inr (7, [.ref m1, .ref m2, .int k, .ref m3, .int tk, .ref m5, .ref m6, .int ln, .int pl, .int le, .int on, .int ot, .int ca]))], [(m1, .inl (cI, 163, .inl t))]]) ⟨hx, hb, hml, hown, hts⟩ (kX7_value l D cI cS qm m1 m2 k m3 tk m5 m6 ln pl le on ot ca (xs (nI i + (1 : Int32)).toNatClampNeg) (xs (nI i + (2 : Int32)).toNatClampNeg) t) (cwV 2 hts gL_law_X7_value rfl rfl rfl (by decide +kernel) ⟨Nat.le_of_ble_eq_true rfl, Nat.le_of_ble_eq_true rfl⟩) hE hP rfl rfl [13, 14] rfl rfl rfl hl.1 rfl (Nat.le_of_ble_eq_true rfl) ⟨Nat.le_of_ble_eq_true rfl, Nat.le_of_ble_eq_true rfl⟩ dL_law_487 ?_
  have hq : fX6_value (xs (nI i + (1 : Int32)).toNatClampNeg) (xs (nI i + (2 : Int32)).toNatClampNeg) st = fX7_value (xs (nI i + (1 : Int32)).toNatClampNeg) (xs (nI i + (2 : Int32)).toNatClampNeg) t := Q_value RPp.1 (xs (nI i + (1 : Int32)).toNatClampNeg) (xs (nI i + (2 : Int32)).toNatClampNeg)
  refine lv_icmp_eq (tgt := 789) hx hb dL_law_490 (by decide) (fun _ => ?_) (fun c9 => absurd hq c9)
  exact kk st sn tr hi sc has t h k sm tk bf tx ln pl le on ot ca _ _ _ ⟨RPp, Rsn, Rhas, Rsm, Rtx⟩ hP hD hS hl
end LAWC
