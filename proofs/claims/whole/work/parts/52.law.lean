section LAWC
variable {p : Program} {l : Launch} {e : Env} {s : State} {m : MethodId} {below : List Frame} {meth : Method} {c : Code} {b L : Nat} {xs : Nat → Int32} {D : va_G} {cI cS : ClassId} {qx qm : Nat} {a0 a1 a2 a3 : Nat → Nat} {b3 : Nat → Nat → Nat} {a4 : Nat → Nat} {m1 m2 m3 m5 m6 : Nat} {i : Nat} {Q : State → Prop}
variable {st sn tr : StT} {hi : HiT} {sc : ScT} {has : Int32} {t h : FnI} {k : Int32} {sm : FnI} {tk : Int32} {bf tx : FnI} {ln pl le on ot ca : Int32} {H : Heap} {locs : List Loc} {ls : Array Slot}
set_option maxHeartbeats 4000000 in
set_option maxRecDepth 100000 in
theorem law_put (C0 : lw_At p s m meth c b L xs) (hE : EV D (tysA cI cS) s) (hSX : SX (Anew s) s s.heap) (hi4 : i + 4 ≤ L) (hL : L ≤ 2048) (R : TopR st sn hi sc has t h k sm tk tx ln) (hP : va_P D vwCl (fl (wX cI cS qx a0 a1 a2 a3 b3 a4 st sn tr hi sc has (wM cI qm m1 m2 m3 m5 m6 t h k sm tk bf tx ln pl le on ot ca))) H) (hD : va_D (Anew s) (fl (wX cI cS qx a0 a1 a2 a3 b3 a4 st sn tr hi sc has (wM cI qm m1 m2 m3 m5 m6 t h k sm tk bf tx ln pl le on ot ca)))) (hS : va_S (Anew s) s.heap H locs) (hl : lv_has ls 8 [(0, .ref b), (1, .ref qx), (2, .ref qm), (3, .int (nI i))]) (kk : LBack p l e s m b below meth c D cI cS qx qm a0 a1 a2 a3 b3 a4 m1 m2 m3 m5 m6 i Q) : W p l e room_1 s m #[Value.ref b] below meth c H locs 128 3083 Q (F0 m 164 ls []) := by
  have hkp := R.k5
  have hs := R.wc
  obtain ⟨hx, hb, hr, hml, hown, hts0, hX, hbl, hlocks, hgv⟩ := C0
  have hts : ∀ w ∈ wsL_law, w.before #[Value.ref b] s = true := fun w h => hts0 w (wsL_law_in w h)
  have hbA : ¬ Anew s b := Nat.not_le.mpr hbl
  obtain ⟨RPp, Rsn, Rhas, Rsm, Rtx⟩ := R
  have hw : WS st := RPp.1.1
  have hm : WM t := RPp.1.2.1
  have hh : WH hi := RPp.2.1
  have hbo : BL st.2.2.1 := hw.2.2
  have hbs : BL sn.2.2.1 := Rsn
  have hlb : Bd ln 80 := Rtx.2.1
  refine lv_aload_n hx hb dL_law_164 rfl (lv_at hl 1 rfl) ?_
  refine lv_aload_n hx hb dL_law_165 rfl (lv_at hl 0 rfl) ?_
  refine lv_iload_n hx hb dL_law_166 rfl (lv_at hl 3 rfl) ?_
  refine lv_iconst (v := (1 : Int32)) hx hb dL_law_167 (by decide +kernel) ?_
  refine lv_iadd hx hb dL_law_168 ?_
  refine va_sld hx hb hX hbl hbA hS (zz_s1 hi4 hL) dL_law_169 ?_
  refine lv_aload_n hx hb dL_law_170 rfl (lv_at hl 0 rfl) ?_
  refine lv_iload_n hx hb dL_law_171 rfl (lv_at hl 3 rfl) ?_
  refine lv_iconst (v := (2 : Int32)) hx hb dL_law_172 (by decide +kernel) ?_
  refine lv_iadd hx hb dL_law_173 ?_
  refine va_sld hx hb hX hbl hbA hS (zz_s2 hi4 hL) dL_law_174 ?_
  refine bIV (W0 := wX cI cS qx a0 a1 a2 a3 b3 a4 st sn tr hi sc has (wM cI qm m1 m2 m3 m5 m6 t h k sm tk bf tx ln pl le on ot ca)) (wc := [(qx, .inr (6, [.ref (a0 0), .ref (a1 0), .ref (a2 0), .ref (a3 0), .ref (a4 0), .int has]))] :: wSt cI a0 st :: wHi cI cS a3 b3 hi []) (w1 := fun u : TPT => [(qx, .inr (6, [.ref (a0 0), .ref (a1 0), .ref (a2 0), .ref (a3 0), .ref (a4 0), .int has]))] :: wSt cI a0 u.1 :: wHi cI cS a3 b3 u.2 []) ⟨hx, hb, hml, hown, hts⟩ (kX6_put l D cI cS qx a0 a3 b3 (a1 0) (a2 0) (a4 0) has (xs (nI i + (1 : Int32)).toNatClampNeg) (xs (nI i + (2 : Int32)).toNatClampNeg) (st, hi) hw hh) (cwV 2 hts gL_law_X6_put rfl rfl rfl (by decide +kernel) ⟨Nat.le_of_ble_eq_true rfl, Nat.le_of_ble_eq_true rfl⟩) hE hP hD hS rfl rfl [0, 1, 4, 5, 6, 7, 8, 9, 10, 11] rfl rfl (fun _ => rfl) (fun _ => rfl) rfl hl.1 rfl (Nat.le_of_ble_eq_true rfl) ⟨Nat.le_of_ble_eq_true rfl, Nat.le_of_ble_eq_true rfl⟩ dL_law_175 (fun r1 u1 H locs e1 hP hD hS => ?_)
  have hP : va_P D vwCl (fl (wX cI cS qx a0 a1 a2 a3 b3 a4 u1.1 sn tr u1.2 sc has (wM cI qm m1 m2 m3 m5 m6 t h k sm tk bf tx ln pl le on ot ca))) H := hP
  have hD : va_D (Anew s) (fl (wX cI cS qx a0 a1 a2 a3 b3 a4 u1.1 sn tr u1.2 sc has (wM cI qm m1 m2 m3 m5 m6 t h k sm tk bf tx ln pl le on ot ca))) := hD
  refine lv_aload_n hx hb dL_law_178 rfl (lv_at hl 2 rfl) ?_
  refine lv_aload_n hx hb dL_law_179 rfl (lv_at hl 0 rfl) ?_
  refine lv_iload_n hx hb dL_law_180 rfl (lv_at hl 3 rfl) ?_
  refine lv_iconst (v := (1 : Int32)) hx hb dL_law_181 (by decide +kernel) ?_
  refine lv_iadd hx hb dL_law_182 ?_
  refine va_sld hx hb hX hbl hbA hS (zz_s1 hi4 hL) dL_law_183 ?_
  refine lv_aload_n hx hb dL_law_184 rfl (lv_at hl 0 rfl) ?_
  refine lv_iload_n hx hb dL_law_185 rfl (lv_at hl 3 rfl) ?_
  refine lv_iconst (v := (2 : Int32)) hx hb dL_law_186 (by decide +kernel) ?_
  refine lv_iadd hx hb dL_law_187 ?_
  refine va_sld hx hb hX hbl hbA hS (zz_s2 hi4 hL) dL_law_188 ?_
  refine bIV (W0 := wX cI cS qx a0 a1 a2 a3 b3 a4 u1.1 sn tr u1.2 sc has (wM cI qm m1 m2 m3 m5 m6 t h k sm tk bf tx ln pl le on ot ca)) (wc := [[(qm, .inr (7, [.ref m1, .ref m2, .int k, .ref m3, .int tk, .ref m5, .ref m6, .int ln, .int pl, .int le, .int on, .int ot, .int ca]))], [(m1, .inl (cI, 163, .inl t))], [(m2, .inl (cI, 815, .inl h))]]) (w1 := fun u : MHT => [[(qm, .inr (7, [.ref m1, .ref m2, .int u.2.2, .ref m3, .int tk, .ref m5, .ref m6, .int ln, .int pl, .int le, .int on, .int ot, .int ca]))], [(m1, .inl (cI, 163, .inl u.1))], [(m2, .inl (cI, 815, .inl u.2.1))]]) ⟨hx, hb, hml, hown, hts⟩ (kX7_put l D cI cS qm m1 m2 m3 tk m5 m6 ln pl le on ot ca (xs (nI i + (1 : Int32)).toNatClampNeg) (xs (nI i + (2 : Int32)).toNatClampNeg) (t, h, k) hm hkp) (cwV 2 hts gL_law_X7_put rfl rfl rfl (by decide +kernel) ⟨Nat.le_of_ble_eq_true rfl, Nat.le_of_ble_eq_true rfl⟩) hE hP hD hS rfl rfl [13, 14, 15] rfl rfl (fun _ => rfl) (fun _ => rfl) rfl hl.1 rfl (Nat.le_of_ble_eq_true rfl) ⟨Nat.le_of_ble_eq_true rfl, Nat.le_of_ble_eq_true rfl⟩ dL_law_189 (fun r2 u2 H locs e2 hP hD hS => ?_)
  have hP : va_P D vwCl (fl (wX cI cS qx a0 a1 a2 a3 b3 a4 u1.1 sn tr u1.2 sc has (wM cI qm m1 m2 m3 m5 m6 u2.1 u2.2.1 u2.2.2 sm tk bf tx ln pl le on ot ca))) H := hP
  have hD : va_D (Anew s) (fl (wX cI cS qx a0 a1 a2 a3 b3 a4 u1.1 sn tr u1.2 sc has (wM cI qm m1 m2 m3 m5 m6 u2.1 u2.2.1 u2.2.2 sm tk bf tx ln pl le on ot ca))) := hD
  have hB := B_put RPp (xs (nI i + (1 : Int32)).toNatClampNeg) (xs (nI i + (2 : Int32)).toNatClampNeg)
  rw [e1, e2] at hB
  have hq : r1 = r2 := hB.1
  have hR : RP u1 u2 := hB.2
  refine lv_icmp_eq (tgt := 789) hx hb dL_law_192 (by decide) (fun _ => ?_) (fun c9 => absurd hq c9)
  exact kk u1.1 sn tr u1.2 sc has u2.1 u2.2.1 u2.2.2 sm tk bf tx ln pl le on ot ca _ _ _ ⟨hR, Rsn, Rhas, Rsm, Rtx⟩ hP hD hS hl
set_option maxHeartbeats 4000000 in
set_option maxRecDepth 100000 in
theorem law_erase (C0 : lw_At p s m meth c b L xs) (hE : EV D (tysA cI cS) s) (hSX : SX (Anew s) s s.heap) (hi4 : i + 4 ≤ L) (hL : L ≤ 2048) (R : TopR st sn hi sc has t h k sm tk tx ln) (hP : va_P D vwCl (fl (wX cI cS qx a0 a1 a2 a3 b3 a4 st sn tr hi sc has (wM cI qm m1 m2 m3 m5 m6 t h k sm tk bf tx ln pl le on ot ca))) H) (hD : va_D (Anew s) (fl (wX cI cS qx a0 a1 a2 a3 b3 a4 st sn tr hi sc has (wM cI qm m1 m2 m3 m5 m6 t h k sm tk bf tx ln pl le on ot ca)))) (hS : va_S (Anew s) s.heap H locs) (hl : lv_has ls 8 [(0, .ref b), (1, .ref qx), (2, .ref qm), (3, .int (nI i))]) (kk : LBack p l e s m b below meth c D cI cS qx qm a0 a1 a2 a3 b3 a4 m1 m2 m3 m5 m6 i Q) : W p l e room_1 s m #[Value.ref b] below meth c H locs 128 3083 Q (F0 m 197 ls []) := by
  have hkp := R.k5
  have hs := R.wc
  obtain ⟨hx, hb, hr, hml, hown, hts0, hX, hbl, hlocks, hgv⟩ := C0
  have hts : ∀ w ∈ wsL_law, w.before #[Value.ref b] s = true := fun w h => hts0 w (wsL_law_in w h)
  have hbA : ¬ Anew s b := Nat.not_le.mpr hbl
  obtain ⟨RPp, Rsn, Rhas, Rsm, Rtx⟩ := R
  have hw : WS st := RPp.1.1
  have hm : WM t := RPp.1.2.1
  have hh : WH hi := RPp.2.1
  have hbo : BL st.2.2.1 := hw.2.2
  have hbs : BL sn.2.2.1 := Rsn
  have hlb : Bd ln 80 := Rtx.2.1
  refine lv_aload_n hx hb dL_law_197 rfl (lv_at hl 1 rfl) ?_
  refine lv_aload_n hx hb dL_law_198 rfl (lv_at hl 0 rfl) ?_
  refine lv_iload_n hx hb dL_law_199 rfl (lv_at hl 3 rfl) ?_
  refine lv_iconst (v := (1 : Int32)) hx hb dL_law_200 (by decide +kernel) ?_
  refine lv_iadd hx hb dL_law_201 ?_
  refine va_sld hx hb hX hbl hbA hS (zz_s1 hi4 hL) dL_law_202 ?_
  refine bIV (W0 := wX cI cS qx a0 a1 a2 a3 b3 a4 st sn tr hi sc has (wM cI qm m1 m2 m3 m5 m6 t h k sm tk bf tx ln pl le on ot ca)) (wc := [(qx, .inr (6, [.ref (a0 0), .ref (a1 0), .ref (a2 0), .ref (a3 0), .ref (a4 0), .int has]))] :: wSt cI a0 st :: wHi cI cS a3 b3 hi []) (w1 := fun u : TPT => [(qx, .inr (6, [.ref (a0 0), .ref (a1 0), .ref (a2 0), .ref (a3 0), .ref (a4 0), .int has]))] :: wSt cI a0 u.1 :: wHi cI cS a3 b3 u.2 []) ⟨hx, hb, hml, hown, hts⟩ (kX6_erase l D cI cS qx a0 a3 b3 (a1 0) (a2 0) (a4 0) has (xs (nI i + (1 : Int32)).toNatClampNeg) (st, hi) hw hh) (cwV 1 hts gL_law_X6_erase rfl rfl rfl (by decide +kernel) ⟨Nat.le_of_ble_eq_true rfl, Nat.le_of_ble_eq_true rfl⟩) hE hP hD hS rfl rfl [0, 1, 4, 5, 6, 7, 8, 9, 10, 11] rfl rfl (fun _ => rfl) (fun _ => rfl) rfl hl.1 rfl (Nat.le_of_ble_eq_true rfl) ⟨Nat.le_of_ble_eq_true rfl, Nat.le_of_ble_eq_true rfl⟩ dL_law_203 (fun r1 u1 H locs e1 hP hD hS => ?_)
  have hP : va_P D vwCl (fl (wX cI cS qx a0 a1 a2 a3 b3 a4 u1.1 sn tr u1.2 sc has (wM cI qm m1 m2 m3 m5 m6 t h k sm tk bf tx ln pl le on ot ca))) H := hP
  have hD : va_D (Anew s) (fl (wX cI cS qx a0 a1 a2 a3 b3 a4 u1.1 sn tr u1.2 sc has (wM cI qm m1 m2 m3 m5 m6 t h k sm tk bf tx ln pl le on ot ca))) := hD
  refine lv_aload_n hx hb dL_law_206 rfl (lv_at hl 2 rfl) ?_
  refine lv_aload_n hx hb dL_law_207 rfl (lv_at hl 0 rfl) ?_
  refine lv_iload_n hx hb dL_law_208 rfl (lv_at hl 3 rfl) ?_
  refine lv_iconst (v := (1 : Int32)) hx hb dL_law_209 (by decide +kernel) ?_
  refine lv_iadd hx hb dL_law_210 ?_
  refine va_sld hx hb hX hbl hbA hS (zz_s1 hi4 hL) dL_law_211 ?_
  refine bIV (W0 := wX cI cS qx a0 a1 a2 a3 b3 a4 u1.1 sn tr u1.2 sc has (wM cI qm m1 m2 m3 m5 m6 t h k sm tk bf tx ln pl le on ot ca)) (wc := [[(qm, .inr (7, [.ref m1, .ref m2, .int k, .ref m3, .int tk, .ref m5, .ref m6, .int ln, .int pl, .int le, .int on, .int ot, .int ca]))], [(m1, .inl (cI, 163, .inl t))], [(m2, .inl (cI, 815, .inl h))]]) (w1 := fun u : MHT => [[(qm, .inr (7, [.ref m1, .ref m2, .int u.2.2, .ref m3, .int tk, .ref m5, .ref m6, .int ln, .int pl, .int le, .int on, .int ot, .int ca]))], [(m1, .inl (cI, 163, .inl u.1))], [(m2, .inl (cI, 815, .inl u.2.1))]]) ⟨hx, hb, hml, hown, hts⟩ (kX7_erase l D cI cS qm m1 m2 m3 tk m5 m6 ln pl le on ot ca (xs (nI i + (1 : Int32)).toNatClampNeg) (t, h, k) hm hkp) (cwV 1 hts gL_law_X7_erase rfl rfl rfl (by decide +kernel) ⟨Nat.le_of_ble_eq_true rfl, Nat.le_of_ble_eq_true rfl⟩) hE hP hD hS rfl rfl [13, 14, 15] rfl rfl (fun _ => rfl) (fun _ => rfl) rfl hl.1 rfl (Nat.le_of_ble_eq_true rfl) ⟨Nat.le_of_ble_eq_true rfl, Nat.le_of_ble_eq_true rfl⟩ dL_law_212 (fun r2 u2 H locs e2 hP hD hS => ?_)
  have hP : va_P D vwCl (fl (wX cI cS qx a0 a1 a2 a3 b3 a4 u1.1 sn tr u1.2 sc has (wM cI qm m1 m2 m3 m5 m6 u2.1 u2.2.1 u2.2.2 sm tk bf tx ln pl le on ot ca))) H := hP
  have hD : va_D (Anew s) (fl (wX cI cS qx a0 a1 a2 a3 b3 a4 u1.1 sn tr u1.2 sc has (wM cI qm m1 m2 m3 m5 m6 u2.1 u2.2.1 u2.2.2 sm tk bf tx ln pl le on ot ca))) := hD
  have hB := B_erase RPp (xs (nI i + (1 : Int32)).toNatClampNeg)
  rw [e1, e2] at hB
  have hq : r1 = r2 := hB.1
  have hR : RP u1 u2 := hB.2
  refine lv_icmp_eq (tgt := 789) hx hb dL_law_215 (by decide) (fun _ => ?_) (fun c9 => absurd hq c9)
  exact kk u1.1 sn tr u1.2 sc has u2.1 u2.2.1 u2.2.2 sm tk bf tx ln pl le on ot ca _ _ _ ⟨hR, Rsn, Rhas, Rsm, Rtx⟩ hP hD hS hl
set_option maxHeartbeats 4000000 in
set_option maxRecDepth 100000 in
theorem law_begin (C0 : lw_At p s m meth c b L xs) (hE : EV D (tysA cI cS) s) (hSX : SX (Anew s) s s.heap) (hi4 : i + 4 ≤ L) (hL : L ≤ 2048) (R : TopR st sn hi sc has t h k sm tk tx ln) (hP : va_P D vwCl (fl (wX cI cS qx a0 a1 a2 a3 b3 a4 st sn tr hi sc has (wM cI qm m1 m2 m3 m5 m6 t h k sm tk bf tx ln pl le on ot ca))) H) (hD : va_D (Anew s) (fl (wX cI cS qx a0 a1 a2 a3 b3 a4 st sn tr hi sc has (wM cI qm m1 m2 m3 m5 m6 t h k sm tk bf tx ln pl le on ot ca)))) (hS : va_S (Anew s) s.heap H locs) (hl : lv_has ls 8 [(0, .ref b), (1, .ref qx), (2, .ref qm), (3, .int (nI i))]) (kk : LBack p l e s m b below meth c D cI cS qx qm a0 a1 a2 a3 b3 a4 m1 m2 m3 m5 m6 i Q) : W p l e room_1 s m #[Value.ref b] below meth c H locs 128 3083 Q (F0 m 220 ls []) := by
  have hkp := R.k5
  have hs := R.wc
  obtain ⟨hx, hb, hr, hml, hown, hts0, hX, hbl, hlocks, hgv⟩ := C0
  have hts : ∀ w ∈ wsL_law, w.before #[Value.ref b] s = true := fun w h => hts0 w (wsL_law_in w h)
  have hbA : ¬ Anew s b := Nat.not_le.mpr hbl
  obtain ⟨RPp, Rsn, Rhas, Rsm, Rtx⟩ := R
  have hw : WS st := RPp.1.1
  have hm : WM t := RPp.1.2.1
  have hh : WH hi := RPp.2.1
  have hbo : BL st.2.2.1 := hw.2.2
  have hbs : BL sn.2.2.1 := Rsn
  have hlb : Bd ln 80 := Rtx.2.1
  refine lv_aload_n hx hb dL_law_220 rfl (lv_at hl 1 rfl) ?_
  refine lv_aload_n hx hb dL_law_221 rfl (lv_at hl 0 rfl) ?_
  refine lv_iload_n hx hb dL_law_222 rfl (lv_at hl 3 rfl) ?_
  refine lv_iconst (v := (1 : Int32)) hx hb dL_law_223 (by decide +kernel) ?_
  refine lv_iadd hx hb dL_law_224 ?_
  refine va_sld hx hb hX hbl hbA hS (zz_s1 hi4 hL) dL_law_225 ?_
  refine lv_aload_n hx hb dL_law_226 rfl (lv_at hl 0 rfl) ?_
  refine lv_iload_n hx hb dL_law_227 rfl (lv_at hl 3 rfl) ?_
  refine lv_iconst (v := (2 : Int32)) hx hb dL_law_228 (by decide +kernel) ?_
  refine lv_iadd hx hb dL_law_229 ?_
  refine va_sld hx hb hX hbl hbA hS (zz_s2 hi4 hL) dL_law_230 ?_
  refine bIV (W0 := wX cI cS qx a0 a1 a2 a3 b3 a4 st sn tr hi sc has (wM cI qm m1 m2 m3 m5 m6 t h k sm tk bf tx ln pl le on ot ca)) (wc := [(qx, .inr (6, [.ref (a0 0), .ref (a1 0), .ref (a2 0), .ref (a3 0), .ref (a4 0), .int has]))] :: wSt cI a0 st :: wHi cI cS a3 b3 hi []) (w1 := fun u : TPT => [(qx, .inr (6, [.ref (a0 0), .ref (a1 0), .ref (a2 0), .ref (a3 0), .ref (a4 0), .int has]))] :: wSt cI a0 u.1 :: wHi cI cS a3 b3 u.2 []) ⟨hx, hb, hml, hown, hts⟩ (kX6_begin l D cI cS qx a0 a3 b3 (a1 0) (a2 0) (a4 0) has (xs (nI i + (1 : Int32)).toNatClampNeg) (xs (nI i + (2 : Int32)).toNatClampNeg) (st, hi) hw hh) (cwV 2 hts gL_law_X6_begin rfl rfl rfl (by decide +kernel) ⟨Nat.le_of_ble_eq_true rfl, Nat.le_of_ble_eq_true rfl⟩) hE hP hD hS rfl rfl [0, 1, 4, 5, 6, 7, 8, 9, 10, 11] rfl rfl (fun _ => rfl) (fun _ => rfl) rfl hl.1 rfl (Nat.le_of_ble_eq_true rfl) ⟨Nat.le_of_ble_eq_true rfl, Nat.le_of_ble_eq_true rfl⟩ dL_law_231 (fun r1 u1 H locs e1 hP hD hS => ?_)
  have hP : va_P D vwCl (fl (wX cI cS qx a0 a1 a2 a3 b3 a4 u1.1 sn tr u1.2 sc has (wM cI qm m1 m2 m3 m5 m6 t h k sm tk bf tx ln pl le on ot ca))) H := hP
  have hD : va_D (Anew s) (fl (wX cI cS qx a0 a1 a2 a3 b3 a4 u1.1 sn tr u1.2 sc has (wM cI qm m1 m2 m3 m5 m6 t h k sm tk bf tx ln pl le on ot ca))) := hD
  refine lv_aload_n hx hb dL_law_234 rfl (lv_at hl 2 rfl) ?_
  refine lv_aload_n hx hb dL_law_235 rfl (lv_at hl 0 rfl) ?_
  refine lv_iload_n hx hb dL_law_236 rfl (lv_at hl 3 rfl) ?_
  refine lv_iconst (v := (1 : Int32)) hx hb dL_law_237 (by decide +kernel) ?_
  refine lv_iadd hx hb dL_law_238 ?_
  refine va_sld hx hb hX hbl hbA hS (zz_s1 hi4 hL) dL_law_239 ?_
  refine lv_aload_n hx hb dL_law_240 rfl (lv_at hl 0 rfl) ?_
  refine lv_iload_n hx hb dL_law_241 rfl (lv_at hl 3 rfl) ?_
  refine lv_iconst (v := (2 : Int32)) hx hb dL_law_242 (by decide +kernel) ?_
  refine lv_iadd hx hb dL_law_243 ?_
  refine va_sld hx hb hX hbl hbA hS (zz_s2 hi4 hL) dL_law_244 ?_
  refine bIV (W0 := wX cI cS qx a0 a1 a2 a3 b3 a4 u1.1 sn tr u1.2 sc has (wM cI qm m1 m2 m3 m5 m6 t h k sm tk bf tx ln pl le on ot ca)) (wc := [[(qm, .inr (7, [.ref m1, .ref m2, .int k, .ref m3, .int tk, .ref m5, .ref m6, .int ln, .int pl, .int le, .int on, .int ot, .int ca]))], [(m1, .inl (cI, 163, .inl t))], [(m2, .inl (cI, 815, .inl h))]]) (w1 := fun u : MHT => [[(qm, .inr (7, [.ref m1, .ref m2, .int u.2.2, .ref m3, .int tk, .ref m5, .ref m6, .int ln, .int pl, .int le, .int on, .int ot, .int ca]))], [(m1, .inl (cI, 163, .inl u.1))], [(m2, .inl (cI, 815, .inl u.2.1))]]) ⟨hx, hb, hml, hown, hts⟩ (kX7_begin l D cI cS qm m1 m2 m3 tk m5 m6 ln pl le on ot ca (xs (nI i + (1 : Int32)).toNatClampNeg) (xs (nI i + (2 : Int32)).toNatClampNeg) (t, h, k) hkp) (cwV 2 hts gL_law_X7_begin rfl rfl rfl (by decide +kernel) ⟨Nat.le_of_ble_eq_true rfl, Nat.le_of_ble_eq_true rfl⟩) hE hP hD hS rfl rfl [13, 14, 15] rfl rfl (fun _ => rfl) (fun _ => rfl) rfl hl.1 rfl (Nat.le_of_ble_eq_true rfl) ⟨Nat.le_of_ble_eq_true rfl, Nat.le_of_ble_eq_true rfl⟩ dL_law_245 (fun r2 u2 H locs e2 hP hD hS => ?_)
  have hP : va_P D vwCl (fl (wX cI cS qx a0 a1 a2 a3 b3 a4 u1.1 sn tr u1.2 sc has (wM cI qm m1 m2 m3 m5 m6 u2.1 u2.2.1 u2.2.2 sm tk bf tx ln pl le on ot ca))) H := hP
  have hD : va_D (Anew s) (fl (wX cI cS qx a0 a1 a2 a3 b3 a4 u1.1 sn tr u1.2 sc has (wM cI qm m1 m2 m3 m5 m6 u2.1 u2.2.1 u2.2.2 sm tk bf tx ln pl le on ot ca))) := hD
  have hB := B_begin RPp (xs (nI i + (1 : Int32)).toNatClampNeg) (xs (nI i + (2 : Int32)).toNatClampNeg)
  rw [e1, e2] at hB
  have hq : r1 = r2 := hB.1
  have hR : RP u1 u2 := hB.2
  refine lv_icmp_eq (tgt := 789) hx hb dL_law_248 (by decide) (fun _ => ?_) (fun c9 => absurd hq c9)
  exact kk u1.1 sn tr u1.2 sc has u2.1 u2.2.1 u2.2.2 sm tk bf tx ln pl le on ot ca _ _ _ ⟨hR, Rsn, Rhas, Rsm, Rtx⟩ hP hD hS hl
set_option maxHeartbeats 4000000 in
set_option maxRecDepth 100000 in
theorem law_tick (C0 : lw_At p s m meth c b L xs) (hE : EV D (tysA cI cS) s) (hSX : SX (Anew s) s s.heap) (hi4 : i + 4 ≤ L) (hL : L ≤ 2048) (R : TopR st sn hi sc has t h k sm tk tx ln) (hP : va_P D vwCl (fl (wX cI cS qx a0 a1 a2 a3 b3 a4 st sn tr hi sc has (wM cI qm m1 m2 m3 m5 m6 t h k sm tk bf tx ln pl le on ot ca))) H) (hD : va_D (Anew s) (fl (wX cI cS qx a0 a1 a2 a3 b3 a4 st sn tr hi sc has (wM cI qm m1 m2 m3 m5 m6 t h k sm tk bf tx ln pl le on ot ca)))) (hS : va_S (Anew s) s.heap H locs) (hl : lv_has ls 8 [(0, .ref b), (1, .ref qx), (2, .ref qm), (3, .int (nI i))]) (kk : LBack p l e s m b below meth c D cI cS qx qm a0 a1 a2 a3 b3 a4 m1 m2 m3 m5 m6 i Q) : W p l e room_1 s m #[Value.ref b] below meth c H locs 128 3083 Q (F0 m 253 ls []) := by
  have hkp := R.k5
  have hs := R.wc
  obtain ⟨hx, hb, hr, hml, hown, hts0, hX, hbl, hlocks, hgv⟩ := C0
  have hts : ∀ w ∈ wsL_law, w.before #[Value.ref b] s = true := fun w h => hts0 w (wsL_law_in w h)
  have hbA : ¬ Anew s b := Nat.not_le.mpr hbl
  obtain ⟨RPp, Rsn, Rhas, Rsm, Rtx⟩ := R
  have hw : WS st := RPp.1.1
  have hm : WM t := RPp.1.2.1
  have hh : WH hi := RPp.2.1
  have hbo : BL st.2.2.1 := hw.2.2
  have hbs : BL sn.2.2.1 := Rsn
  have hlb : Bd ln 80 := Rtx.2.1
  refine lv_aload_n hx hb dL_law_253 rfl (lv_at hl 1 rfl) ?_
  refine lv_aload_n hx hb dL_law_254 rfl (lv_at hl 0 rfl) ?_
  refine lv_iload_n hx hb dL_law_255 rfl (lv_at hl 3 rfl) ?_
  refine lv_iconst (v := (1 : Int32)) hx hb dL_law_256 (by decide +kernel) ?_
  refine lv_iadd hx hb dL_law_257 ?_
  refine va_sld hx hb hX hbl hbA hS (zz_s1 hi4 hL) dL_law_258 ?_
  refine bIV (W0 := wX cI cS qx a0 a1 a2 a3 b3 a4 st sn tr hi sc has (wM cI qm m1 m2 m3 m5 m6 t h k sm tk bf tx ln pl le on ot ca)) (wc := [(qx, .inr (6, [.ref (a0 0), .ref (a1 0), .ref (a2 0), .ref (a3 0), .ref (a4 0), .int has]))] :: wSt cI a0 st :: wHi cI cS a3 b3 hi []) (w1 := fun u : TPT => [(qx, .inr (6, [.ref (a0 0), .ref (a1 0), .ref (a2 0), .ref (a3 0), .ref (a4 0), .int has]))] :: wSt cI a0 u.1 :: wHi cI cS a3 b3 u.2 []) ⟨hx, hb, hml, hown, hts⟩ (kX6_tick l D cI cS qx a0 a3 b3 (a1 0) (a2 0) (a4 0) has (xs (nI i + (1 : Int32)).toNatClampNeg) (st, hi) hw hh) (cwV 1 hts gL_law_X6_tick rfl rfl rfl (by decide +kernel) ⟨Nat.le_of_ble_eq_true rfl, Nat.le_of_ble_eq_true rfl⟩) hE hP hD hS rfl rfl [0, 1, 4, 5, 6, 7, 8, 9, 10, 11] rfl rfl (fun _ => rfl) (fun _ => rfl) rfl hl.1 rfl (Nat.le_of_ble_eq_true rfl) ⟨Nat.le_of_ble_eq_true rfl, Nat.le_of_ble_eq_true rfl⟩ dL_law_259 (fun r1 u1 H locs e1 hP hD hS => ?_)
  have hP : va_P D vwCl (fl (wX cI cS qx a0 a1 a2 a3 b3 a4 u1.1 sn tr u1.2 sc has (wM cI qm m1 m2 m3 m5 m6 t h k sm tk bf tx ln pl le on ot ca))) H := hP
  have hD : va_D (Anew s) (fl (wX cI cS qx a0 a1 a2 a3 b3 a4 u1.1 sn tr u1.2 sc has (wM cI qm m1 m2 m3 m5 m6 t h k sm tk bf tx ln pl le on ot ca))) := hD
  refine lv_aload_n hx hb dL_law_262 rfl (lv_at hl 2 rfl) ?_
  refine lv_aload_n hx hb dL_law_263 rfl (lv_at hl 0 rfl) ?_
  refine lv_iload_n hx hb dL_law_264 rfl (lv_at hl 3 rfl) ?_
  refine lv_iconst (v := (1 : Int32)) hx hb dL_law_265 (by decide +kernel) ?_
  refine lv_iadd hx hb dL_law_266 ?_
  refine va_sld hx hb hX hbl hbA hS (zz_s1 hi4 hL) dL_law_267 ?_
  refine bIV (W0 := wX cI cS qx a0 a1 a2 a3 b3 a4 u1.1 sn tr u1.2 sc has (wM cI qm m1 m2 m3 m5 m6 t h k sm tk bf tx ln pl le on ot ca)) (wc := [[(qm, .inr (7, [.ref m1, .ref m2, .int k, .ref m3, .int tk, .ref m5, .ref m6, .int ln, .int pl, .int le, .int on, .int ot, .int ca]))], [(m1, .inl (cI, 163, .inl t))], [(m2, .inl (cI, 815, .inl h))]]) (w1 := fun u : MHT => [[(qm, .inr (7, [.ref m1, .ref m2, .int u.2.2, .ref m3, .int tk, .ref m5, .ref m6, .int ln, .int pl, .int le, .int on, .int ot, .int ca]))], [(m1, .inl (cI, 163, .inl u.1))], [(m2, .inl (cI, 815, .inl u.2.1))]]) ⟨hx, hb, hml, hown, hts⟩ (kX7_tick l D cI cS qm m1 m2 m3 tk m5 m6 ln pl le on ot ca (xs (nI i + (1 : Int32)).toNatClampNeg) (t, h, k) hm hkp) (cwV 1 hts gL_law_X7_tick rfl rfl rfl (by decide +kernel) ⟨Nat.le_of_ble_eq_true rfl, Nat.le_of_ble_eq_true rfl⟩) hE hP hD hS rfl rfl [13, 14, 15] rfl rfl (fun _ => rfl) (fun _ => rfl) rfl hl.1 rfl (Nat.le_of_ble_eq_true rfl) ⟨Nat.le_of_ble_eq_true rfl, Nat.le_of_ble_eq_true rfl⟩ dL_law_268 (fun r2 u2 H locs e2 hP hD hS => ?_)
  have hP : va_P D vwCl (fl (wX cI cS qx a0 a1 a2 a3 b3 a4 u1.1 sn tr u1.2 sc has (wM cI qm m1 m2 m3 m5 m6 u2.1 u2.2.1 u2.2.2 sm tk bf tx ln pl le on ot ca))) H := hP
  have hD : va_D (Anew s) (fl (wX cI cS qx a0 a1 a2 a3 b3 a4 u1.1 sn tr u1.2 sc has (wM cI qm m1 m2 m3 m5 m6 u2.1 u2.2.1 u2.2.2 sm tk bf tx ln pl le on ot ca))) := hD
  have hB := B_tick RPp (xs (nI i + (1 : Int32)).toNatClampNeg)
  rw [e1, e2] at hB
  have hq : r1 = r2 := hB.1
  have hR : RP u1 u2 := hB.2
  refine lv_icmp_eq (tgt := 789) hx hb dL_law_271 (by decide) (fun _ => ?_) (fun c9 => absurd hq c9)
  exact kk u1.1 sn tr u1.2 sc has u2.1 u2.2.1 u2.2.2 sm tk bf tx ln pl le on ot ca _ _ _ ⟨hR, Rsn, Rhas, Rsm, Rtx⟩ hP hD hS hl
set_option maxHeartbeats 4000000 in
set_option maxRecDepth 100000 in
theorem law_lock (C0 : lw_At p s m meth c b L xs) (hE : EV D (tysA cI cS) s) (hSX : SX (Anew s) s s.heap) (hi4 : i + 4 ≤ L) (hL : L ≤ 2048) (R : TopR st sn hi sc has t h k sm tk tx ln) (hP : va_P D vwCl (fl (wX cI cS qx a0 a1 a2 a3 b3 a4 st sn tr hi sc has (wM cI qm m1 m2 m3 m5 m6 t h k sm tk bf tx ln pl le on ot ca))) H) (hD : va_D (Anew s) (fl (wX cI cS qx a0 a1 a2 a3 b3 a4 st sn tr hi sc has (wM cI qm m1 m2 m3 m5 m6 t h k sm tk bf tx ln pl le on ot ca)))) (hS : va_S (Anew s) s.heap H locs) (hl : lv_has ls 8 [(0, .ref b), (1, .ref qx), (2, .ref qm), (3, .int (nI i))]) (kk : LBack p l e s m b below meth c D cI cS qx qm a0 a1 a2 a3 b3 a4 m1 m2 m3 m5 m6 i Q) : W p l e room_1 s m #[Value.ref b] below meth c H locs 128 3083 Q (F0 m 276 ls []) := by
  have hkp := R.k5
  have hs := R.wc
  obtain ⟨hx, hb, hr, hml, hown, hts0, hX, hbl, hlocks, hgv⟩ := C0
  have hts : ∀ w ∈ wsL_law, w.before #[Value.ref b] s = true := fun w h => hts0 w (wsL_law_in w h)
  have hbA : ¬ Anew s b := Nat.not_le.mpr hbl
  obtain ⟨RPp, Rsn, Rhas, Rsm, Rtx⟩ := R
  have hw : WS st := RPp.1.1
  have hm : WM t := RPp.1.2.1
  have hh : WH hi := RPp.2.1
  have hbo : BL st.2.2.1 := hw.2.2
  have hbs : BL sn.2.2.1 := Rsn
  have hlb : Bd ln 80 := Rtx.2.1
  refine lv_aload_n hx hb dL_law_276 rfl (lv_at hl 1 rfl) ?_
  refine bIV (W0 := wX cI cS qx a0 a1 a2 a3 b3 a4 st sn tr hi sc has (wM cI qm m1 m2 m3 m5 m6 t h k sm tk bf tx ln pl le on ot ca)) (wc := [(qx, .inr (6, [.ref (a0 0), .ref (a1 0), .ref (a2 0), .ref (a3 0), .ref (a4 0), .int has]))] :: wSt cI a0 st :: wHi cI cS a3 b3 hi []) (w1 := fun u : TPT => [(qx, .inr (6, [.ref (a0 0), .ref (a1 0), .ref (a2 0), .ref (a3 0), .ref (a4 0), .int has]))] :: wSt cI a0 u.1 :: wHi cI cS a3 b3 u.2 []) ⟨hx, hb, hml, hown, hts⟩ (kX6_lock l D cI cS qx a0 a3 b3 (a1 0) (a2 0) (a4 0) has (st, hi) hw hh) (cwV 0 hts gL_law_X6_lock rfl rfl rfl (by decide +kernel) ⟨Nat.le_of_ble_eq_true rfl, Nat.le_of_ble_eq_true rfl⟩) hE hP hD hS rfl rfl [0, 1, 4, 5, 6, 7, 8, 9, 10, 11] rfl rfl (fun _ => rfl) (fun _ => rfl) rfl hl.1 rfl (Nat.le_of_ble_eq_true rfl) ⟨Nat.le_of_ble_eq_true rfl, Nat.le_of_ble_eq_true rfl⟩ dL_law_277 (fun r1 u1 H locs e1 hP hD hS => ?_)
  have hP : va_P D vwCl (fl (wX cI cS qx a0 a1 a2 a3 b3 a4 u1.1 sn tr u1.2 sc has (wM cI qm m1 m2 m3 m5 m6 t h k sm tk bf tx ln pl le on ot ca))) H := hP
  have hD : va_D (Anew s) (fl (wX cI cS qx a0 a1 a2 a3 b3 a4 u1.1 sn tr u1.2 sc has (wM cI qm m1 m2 m3 m5 m6 t h k sm tk bf tx ln pl le on ot ca))) := hD
  refine lv_aload_n hx hb dL_law_280 rfl (lv_at hl 2 rfl) ?_
  refine bIV (W0 := wX cI cS qx a0 a1 a2 a3 b3 a4 u1.1 sn tr u1.2 sc has (wM cI qm m1 m2 m3 m5 m6 t h k sm tk bf tx ln pl le on ot ca)) (wc := [[(qm, .inr (7, [.ref m1, .ref m2, .int k, .ref m3, .int tk, .ref m5, .ref m6, .int ln, .int pl, .int le, .int on, .int ot, .int ca]))], [(m1, .inl (cI, 163, .inl t))], [(m2, .inl (cI, 815, .inl h))]]) (w1 := fun u : MHT => [[(qm, .inr (7, [.ref m1, .ref m2, .int u.2.2, .ref m3, .int tk, .ref m5, .ref m6, .int ln, .int pl, .int le, .int on, .int ot, .int ca]))], [(m1, .inl (cI, 163, .inl u.1))], [(m2, .inl (cI, 815, .inl u.2.1))]]) ⟨hx, hb, hml, hown, hts⟩ (kX7_lock l D cI cS qm m1 m2 m3 tk m5 m6 ln pl le on ot ca (t, h, k) hkp) (cwV 0 hts gL_law_X7_lock rfl rfl rfl (by decide +kernel) ⟨Nat.le_of_ble_eq_true rfl, Nat.le_of_ble_eq_true rfl⟩) hE hP hD hS rfl rfl [13, 14, 15] rfl rfl (fun _ => rfl) (fun _ => rfl) rfl hl.1 rfl (Nat.le_of_ble_eq_true rfl) ⟨Nat.le_of_ble_eq_true rfl, Nat.le_of_ble_eq_true rfl⟩ dL_law_281 (fun r2 u2 H locs e2 hP hD hS => ?_)
  have hP : va_P D vwCl (fl (wX cI cS qx a0 a1 a2 a3 b3 a4 u1.1 sn tr u1.2 sc has (wM cI qm m1 m2 m3 m5 m6 u2.1 u2.2.1 u2.2.2 sm tk bf tx ln pl le on ot ca))) H := hP
  have hD : va_D (Anew s) (fl (wX cI cS qx a0 a1 a2 a3 b3 a4 u1.1 sn tr u1.2 sc has (wM cI qm m1 m2 m3 m5 m6 u2.1 u2.2.1 u2.2.2 sm tk bf tx ln pl le on ot ca))) := hD
  have hB := B_lock RPp 
  rw [e1, e2] at hB
  have hq : r1 = r2 := hB.1
  have hR : RP u1 u2 := hB.2
  refine lv_icmp_eq (tgt := 789) hx hb dL_law_284 (by decide) (fun _ => ?_) (fun c9 => absurd hq c9)
  exact kk u1.1 sn tr u1.2 sc has u2.1 u2.2.1 u2.2.2 sm tk bf tx ln pl le on ot ca _ _ _ ⟨hR, Rsn, Rhas, Rsm, Rtx⟩ hP hD hS hl
set_option maxHeartbeats 4000000 in
set_option maxRecDepth 100000 in
theorem law_unlock (C0 : lw_At p s m meth c b L xs) (hE : EV D (tysA cI cS) s) (hSX : SX (Anew s) s s.heap) (hi4 : i + 4 ≤ L) (hL : L ≤ 2048) (R : TopR st sn hi sc has t h k sm tk tx ln) (hP : va_P D vwCl (fl (wX cI cS qx a0 a1 a2 a3 b3 a4 st sn tr hi sc has (wM cI qm m1 m2 m3 m5 m6 t h k sm tk bf tx ln pl le on ot ca))) H) (hD : va_D (Anew s) (fl (wX cI cS qx a0 a1 a2 a3 b3 a4 st sn tr hi sc has (wM cI qm m1 m2 m3 m5 m6 t h k sm tk bf tx ln pl le on ot ca)))) (hS : va_S (Anew s) s.heap H locs) (hl : lv_has ls 8 [(0, .ref b), (1, .ref qx), (2, .ref qm), (3, .int (nI i))]) (kk : LBack p l e s m b below meth c D cI cS qx qm a0 a1 a2 a3 b3 a4 m1 m2 m3 m5 m6 i Q) : W p l e room_1 s m #[Value.ref b] below meth c H locs 128 3083 Q (F0 m 289 ls []) := by
  have hkp := R.k5
  have hs := R.wc
  obtain ⟨hx, hb, hr, hml, hown, hts0, hX, hbl, hlocks, hgv⟩ := C0
  have hts : ∀ w ∈ wsL_law, w.before #[Value.ref b] s = true := fun w h => hts0 w (wsL_law_in w h)
  have hbA : ¬ Anew s b := Nat.not_le.mpr hbl
  obtain ⟨RPp, Rsn, Rhas, Rsm, Rtx⟩ := R
  have hw : WS st := RPp.1.1
  have hm : WM t := RPp.1.2.1
  have hh : WH hi := RPp.2.1
  have hbo : BL st.2.2.1 := hw.2.2
  have hbs : BL sn.2.2.1 := Rsn
  have hlb : Bd ln 80 := Rtx.2.1
  refine lv_aload_n hx hb dL_law_289 rfl (lv_at hl 1 rfl) ?_
  refine bIV (W0 := wX cI cS qx a0 a1 a2 a3 b3 a4 st sn tr hi sc has (wM cI qm m1 m2 m3 m5 m6 t h k sm tk bf tx ln pl le on ot ca)) (wc := [(qx, .inr (6, [.ref (a0 0), .ref (a1 0), .ref (a2 0), .ref (a3 0), .ref (a4 0), .int has]))] :: wSt cI a0 st :: wHi cI cS a3 b3 hi []) (w1 := fun u : TPT => [(qx, .inr (6, [.ref (a0 0), .ref (a1 0), .ref (a2 0), .ref (a3 0), .ref (a4 0), .int has]))] :: wSt cI a0 u.1 :: wHi cI cS a3 b3 u.2 []) ⟨hx, hb, hml, hown, hts⟩ (kX6_unlock l D cI cS qx a0 a3 b3 (a1 0) (a2 0) (a4 0) has (st, hi) hw hh) (cwV 0 hts gL_law_X6_unlock rfl rfl rfl (by decide +kernel) ⟨Nat.le_of_ble_eq_true rfl, Nat.le_of_ble_eq_true rfl⟩) hE hP hD hS rfl rfl [0, 1, 4, 5, 6, 7, 8, 9, 10, 11] rfl rfl (fun _ => rfl) (fun _ => rfl) rfl hl.1 rfl (Nat.le_of_ble_eq_true rfl) ⟨Nat.le_of_ble_eq_true rfl, Nat.le_of_ble_eq_true rfl⟩ dL_law_290 (fun r1 u1 H locs e1 hP hD hS => ?_)
  have hP : va_P D vwCl (fl (wX cI cS qx a0 a1 a2 a3 b3 a4 u1.1 sn tr u1.2 sc has (wM cI qm m1 m2 m3 m5 m6 t h k sm tk bf tx ln pl le on ot ca))) H := hP
  have hD : va_D (Anew s) (fl (wX cI cS qx a0 a1 a2 a3 b3 a4 u1.1 sn tr u1.2 sc has (wM cI qm m1 m2 m3 m5 m6 t h k sm tk bf tx ln pl le on ot ca))) := hD
  refine lv_aload_n hx hb dL_law_293 rfl (lv_at hl 2 rfl) ?_
  refine bIV (W0 := wX cI cS qx a0 a1 a2 a3 b3 a4 u1.1 sn tr u1.2 sc has (wM cI qm m1 m2 m3 m5 m6 t h k sm tk bf tx ln pl le on ot ca)) (wc := [[(qm, .inr (7, [.ref m1, .ref m2, .int k, .ref m3, .int tk, .ref m5, .ref m6, .int ln, .int pl, .int le, .int on, .int ot, .int ca]))], [(m1, .inl (cI, 163, .inl t))], [(m2, .inl (cI, 815, .inl h))]]) (w1 := fun u : MHT => [[(qm, .inr (7, [.ref m1, .ref m2, .int u.2.2, .ref m3, .int tk, .ref m5, .ref m6, .int ln, .int pl, .int le, .int on, .int ot, .int ca]))], [(m1, .inl (cI, 163, .inl u.1))], [(m2, .inl (cI, 815, .inl u.2.1))]]) ⟨hx, hb, hml, hown, hts⟩ (kX7_unlock l D cI cS qm m1 m2 m3 tk m5 m6 ln pl le on ot ca (t, h, k) hkp) (cwV 0 hts gL_law_X7_unlock rfl rfl rfl (by decide +kernel) ⟨Nat.le_of_ble_eq_true rfl, Nat.le_of_ble_eq_true rfl⟩) hE hP hD hS rfl rfl [13, 14, 15] rfl rfl (fun _ => rfl) (fun _ => rfl) rfl hl.1 rfl (Nat.le_of_ble_eq_true rfl) ⟨Nat.le_of_ble_eq_true rfl, Nat.le_of_ble_eq_true rfl⟩ dL_law_294 (fun r2 u2 H locs e2 hP hD hS => ?_)
  have hP : va_P D vwCl (fl (wX cI cS qx a0 a1 a2 a3 b3 a4 u1.1 sn tr u1.2 sc has (wM cI qm m1 m2 m3 m5 m6 u2.1 u2.2.1 u2.2.2 sm tk bf tx ln pl le on ot ca))) H := hP
  have hD : va_D (Anew s) (fl (wX cI cS qx a0 a1 a2 a3 b3 a4 u1.1 sn tr u1.2 sc has (wM cI qm m1 m2 m3 m5 m6 u2.1 u2.2.1 u2.2.2 sm tk bf tx ln pl le on ot ca))) := hD
  have hB := B_unlock RPp 
  rw [e1, e2] at hB
  have hq : r1 = r2 := hB.1
  have hR : RP u1 u2 := hB.2
  refine lv_icmp_eq (tgt := 789) hx hb dL_law_297 (by decide) (fun _ => ?_) (fun c9 => absurd hq c9)
  exact kk u1.1 sn tr u1.2 sc has u2.1 u2.2.1 u2.2.2 sm tk bf tx ln pl le on ot ca _ _ _ ⟨hR, Rsn, Rhas, Rsm, Rtx⟩ hP hD hS hl
set_option maxHeartbeats 4000000 in
set_option maxRecDepth 100000 in
theorem law_swap (C0 : lw_At p s m meth c b L xs) (hE : EV D (tysA cI cS) s) (hSX : SX (Anew s) s s.heap) (hi4 : i + 4 ≤ L) (hL : L ≤ 2048) (R : TopR st sn hi sc has t h k sm tk tx ln) (hP : va_P D vwCl (fl (wX cI cS qx a0 a1 a2 a3 b3 a4 st sn tr hi sc has (wM cI qm m1 m2 m3 m5 m6 t h k sm tk bf tx ln pl le on ot ca))) H) (hD : va_D (Anew s) (fl (wX cI cS qx a0 a1 a2 a3 b3 a4 st sn tr hi sc has (wM cI qm m1 m2 m3 m5 m6 t h k sm tk bf tx ln pl le on ot ca)))) (hS : va_S (Anew s) s.heap H locs) (hl : lv_has ls 8 [(0, .ref b), (1, .ref qx), (2, .ref qm), (3, .int (nI i))]) (kk : LBack p l e s m b below meth c D cI cS qx qm a0 a1 a2 a3 b3 a4 m1 m2 m3 m5 m6 i Q) : W p l e room_1 s m #[Value.ref b] below meth c H locs 128 3083 Q (F0 m 302 ls []) := by
  have hkp := R.k5
  have hs := R.wc
  obtain ⟨hx, hb, hr, hml, hown, hts0, hX, hbl, hlocks, hgv⟩ := C0
  have hts : ∀ w ∈ wsL_law, w.before #[Value.ref b] s = true := fun w h => hts0 w (wsL_law_in w h)
  have hbA : ¬ Anew s b := Nat.not_le.mpr hbl
  obtain ⟨RPp, Rsn, Rhas, Rsm, Rtx⟩ := R
  have hw : WS st := RPp.1.1
  have hm : WM t := RPp.1.2.1
  have hh : WH hi := RPp.2.1
  have hbo : BL st.2.2.1 := hw.2.2
  have hbs : BL sn.2.2.1 := Rsn
  have hlb : Bd ln 80 := Rtx.2.1
  refine lv_aload_n hx hb dL_law_302 rfl (lv_at hl 1 rfl) ?_
  refine bIV (W0 := wX cI cS qx a0 a1 a2 a3 b3 a4 st sn tr hi sc has (wM cI qm m1 m2 m3 m5 m6 t h k sm tk bf tx ln pl le on ot ca)) (wc := [(qx, .inr (6, [.ref (a0 0), .ref (a1 0), .ref (a2 0), .ref (a3 0), .ref (a4 0), .int has]))] :: wSt cI a0 st :: wHi cI cS a3 b3 hi []) (w1 := fun u : TPT => [(qx, .inr (6, [.ref (a0 0), .ref (a1 0), .ref (a2 0), .ref (a3 0), .ref (a4 0), .int has]))] :: wSt cI a0 u.1 :: wHi cI cS a3 b3 u.2 []) ⟨hx, hb, hml, hown, hts⟩ (kX6_swap l D cI cS qx a0 a3 b3 (a1 0) (a2 0) (a4 0) has (st, hi) hw hh) (cwV 0 hts gL_law_X6_swap rfl rfl rfl (by decide +kernel) ⟨Nat.le_of_ble_eq_true rfl, Nat.le_of_ble_eq_true rfl⟩) hE hP hD hS rfl rfl [0, 1, 4, 5, 6, 7, 8, 9, 10, 11] rfl rfl (fun _ => rfl) (fun _ => rfl) rfl hl.1 rfl (Nat.le_of_ble_eq_true rfl) ⟨Nat.le_of_ble_eq_true rfl, Nat.le_of_ble_eq_true rfl⟩ dL_law_303 (fun r1 u1 H locs e1 hP hD hS => ?_)
  have hP : va_P D vwCl (fl (wX cI cS qx a0 a1 a2 a3 b3 a4 u1.1 sn tr u1.2 sc has (wM cI qm m1 m2 m3 m5 m6 t h k sm tk bf tx ln pl le on ot ca))) H := hP
  have hD : va_D (Anew s) (fl (wX cI cS qx a0 a1 a2 a3 b3 a4 u1.1 sn tr u1.2 sc has (wM cI qm m1 m2 m3 m5 m6 t h k sm tk bf tx ln pl le on ot ca))) := hD
  refine lv_aload_n hx hb dL_law_306 rfl (lv_at hl 2 rfl) ?_
  refine bIV (W0 := wX cI cS qx a0 a1 a2 a3 b3 a4 u1.1 sn tr u1.2 sc has (wM cI qm m1 m2 m3 m5 m6 t h k sm tk bf tx ln pl le on ot ca)) (wc := [[(qm, .inr (7, [.ref m1, .ref m2, .int k, .ref m3, .int tk, .ref m5, .ref m6, .int ln, .int pl, .int le, .int on, .int ot, .int ca]))], [(m1, .inl (cI, 163, .inl t))], [(m2, .inl (cI, 815, .inl h))]]) (w1 := fun u : MHT => [[(qm, .inr (7, [.ref m1, .ref m2, .int u.2.2, .ref m3, .int tk, .ref m5, .ref m6, .int ln, .int pl, .int le, .int on, .int ot, .int ca]))], [(m1, .inl (cI, 163, .inl u.1))], [(m2, .inl (cI, 815, .inl u.2.1))]]) ⟨hx, hb, hml, hown, hts⟩ (kX7_swap l D cI cS qm m1 m2 m3 tk m5 m6 ln pl le on ot ca (t, h, k) hkp) (cwV 0 hts gL_law_X7_swap rfl rfl rfl (by decide +kernel) ⟨Nat.le_of_ble_eq_true rfl, Nat.le_of_ble_eq_true rfl⟩) hE hP hD hS rfl rfl [13, 14, 15] rfl rfl (fun _ => rfl) (fun _ => rfl) rfl hl.1 rfl (Nat.le_of_ble_eq_true rfl) ⟨Nat.le_of_ble_eq_true rfl, Nat.le_of_ble_eq_true rfl⟩ dL_law_307 (fun r2 u2 H locs e2 hP hD hS => ?_)
  have hP : va_P D vwCl (fl (wX cI cS qx a0 a1 a2 a3 b3 a4 u1.1 sn tr u1.2 sc has (wM cI qm m1 m2 m3 m5 m6 u2.1 u2.2.1 u2.2.2 sm tk bf tx ln pl le on ot ca))) H := hP
  have hD : va_D (Anew s) (fl (wX cI cS qx a0 a1 a2 a3 b3 a4 u1.1 sn tr u1.2 sc has (wM cI qm m1 m2 m3 m5 m6 u2.1 u2.2.1 u2.2.2 sm tk bf tx ln pl le on ot ca))) := hD
  have hB := B_swap RPp 
  rw [e1, e2] at hB
  have hq : r1 = r2 := hB.1
  have hR : RP u1 u2 := hB.2
  refine lv_icmp_eq (tgt := 789) hx hb dL_law_310 (by decide) (fun _ => ?_) (fun c9 => absurd hq c9)
  exact kk u1.1 sn tr u1.2 sc has u2.1 u2.2.1 u2.2.2 sm tk bf tx ln pl le on ot ca _ _ _ ⟨hR, Rsn, Rhas, Rsm, Rtx⟩ hP hD hS hl
set_option maxHeartbeats 4000000 in
set_option maxRecDepth 100000 in
theorem law_giveUp (C0 : lw_At p s m meth c b L xs) (hE : EV D (tysA cI cS) s) (hSX : SX (Anew s) s s.heap) (hi4 : i + 4 ≤ L) (hL : L ≤ 2048) (R : TopR st sn hi sc has t h k sm tk tx ln) (hP : va_P D vwCl (fl (wX cI cS qx a0 a1 a2 a3 b3 a4 st sn tr hi sc has (wM cI qm m1 m2 m3 m5 m6 t h k sm tk bf tx ln pl le on ot ca))) H) (hD : va_D (Anew s) (fl (wX cI cS qx a0 a1 a2 a3 b3 a4 st sn tr hi sc has (wM cI qm m1 m2 m3 m5 m6 t h k sm tk bf tx ln pl le on ot ca)))) (hS : va_S (Anew s) s.heap H locs) (hl : lv_has ls 8 [(0, .ref b), (1, .ref qx), (2, .ref qm), (3, .int (nI i))]) (kk : LBack p l e s m b below meth c D cI cS qx qm a0 a1 a2 a3 b3 a4 m1 m2 m3 m5 m6 i Q) : W p l e room_1 s m #[Value.ref b] below meth c H locs 128 3083 Q (F0 m 315 ls []) := by
  have hkp := R.k5
  have hs := R.wc
  obtain ⟨hx, hb, hr, hml, hown, hts0, hX, hbl, hlocks, hgv⟩ := C0
  have hts : ∀ w ∈ wsL_law, w.before #[Value.ref b] s = true := fun w h => hts0 w (wsL_law_in w h)
  have hbA : ¬ Anew s b := Nat.not_le.mpr hbl
  obtain ⟨RPp, Rsn, Rhas, Rsm, Rtx⟩ := R
  have hw : WS st := RPp.1.1
  have hm : WM t := RPp.1.2.1
  have hh : WH hi := RPp.2.1
  have hbo : BL st.2.2.1 := hw.2.2
  have hbs : BL sn.2.2.1 := Rsn
  have hlb : Bd ln 80 := Rtx.2.1
  refine lv_aload_n hx hb dL_law_315 rfl (lv_at hl 1 rfl) ?_
  refine bIV (W0 := wX cI cS qx a0 a1 a2 a3 b3 a4 st sn tr hi sc has (wM cI qm m1 m2 m3 m5 m6 t h k sm tk bf tx ln pl le on ot ca)) (wc := [(qx, .inr (6, [.ref (a0 0), .ref (a1 0), .ref (a2 0), .ref (a3 0), .ref (a4 0), .int has]))] :: wSt cI a0 st :: wHi cI cS a3 b3 hi []) (w1 := fun u : TPT => [(qx, .inr (6, [.ref (a0 0), .ref (a1 0), .ref (a2 0), .ref (a3 0), .ref (a4 0), .int has]))] :: wSt cI a0 u.1 :: wHi cI cS a3 b3 u.2 []) ⟨hx, hb, hml, hown, hts⟩ (kX6_giveUp l D cI cS qx a0 a3 b3 (a1 0) (a2 0) (a4 0) has (st, hi) hw hh) (cwV 0 hts gL_law_X6_giveUp rfl rfl rfl (by decide +kernel) ⟨Nat.le_of_ble_eq_true rfl, Nat.le_of_ble_eq_true rfl⟩) hE hP hD hS rfl rfl [0, 1, 4, 5, 6, 7, 8, 9, 10, 11] rfl rfl (fun _ => rfl) (fun _ => rfl) rfl hl.1 rfl (Nat.le_of_ble_eq_true rfl) ⟨Nat.le_of_ble_eq_true rfl, Nat.le_of_ble_eq_true rfl⟩ dL_law_316 (fun r1 u1 H locs e1 hP hD hS => ?_)
  have hP : va_P D vwCl (fl (wX cI cS qx a0 a1 a2 a3 b3 a4 u1.1 sn tr u1.2 sc has (wM cI qm m1 m2 m3 m5 m6 t h k sm tk bf tx ln pl le on ot ca))) H := hP
  have hD : va_D (Anew s) (fl (wX cI cS qx a0 a1 a2 a3 b3 a4 u1.1 sn tr u1.2 sc has (wM cI qm m1 m2 m3 m5 m6 t h k sm tk bf tx ln pl le on ot ca))) := hD
  refine lv_aload_n hx hb dL_law_319 rfl (lv_at hl 2 rfl) ?_
  refine bIV (W0 := wX cI cS qx a0 a1 a2 a3 b3 a4 u1.1 sn tr u1.2 sc has (wM cI qm m1 m2 m3 m5 m6 t h k sm tk bf tx ln pl le on ot ca)) (wc := [[(qm, .inr (7, [.ref m1, .ref m2, .int k, .ref m3, .int tk, .ref m5, .ref m6, .int ln, .int pl, .int le, .int on, .int ot, .int ca]))], [(m1, .inl (cI, 163, .inl t))], [(m2, .inl (cI, 815, .inl h))]]) (w1 := fun u : MHT => [[(qm, .inr (7, [.ref m1, .ref m2, .int u.2.2, .ref m3, .int tk, .ref m5, .ref m6, .int ln, .int pl, .int le, .int on, .int ot, .int ca]))], [(m1, .inl (cI, 163, .inl u.1))], [(m2, .inl (cI, 815, .inl u.2.1))]]) ⟨hx, hb, hml, hown, hts⟩ (kX7_giveUp l D cI cS qm m1 m2 m3 tk m5 m6 ln pl le on ot ca (t, h, k) hkp) (cwV 0 hts gL_law_X7_giveUp rfl rfl rfl (by decide +kernel) ⟨Nat.le_of_ble_eq_true rfl, Nat.le_of_ble_eq_true rfl⟩) hE hP hD hS rfl rfl [13, 14, 15] rfl rfl (fun _ => rfl) (fun _ => rfl) rfl hl.1 rfl (Nat.le_of_ble_eq_true rfl) ⟨Nat.le_of_ble_eq_true rfl, Nat.le_of_ble_eq_true rfl⟩ dL_law_320 (fun r2 u2 H locs e2 hP hD hS => ?_)
  have hP : va_P D vwCl (fl (wX cI cS qx a0 a1 a2 a3 b3 a4 u1.1 sn tr u1.2 sc has (wM cI qm m1 m2 m3 m5 m6 u2.1 u2.2.1 u2.2.2 sm tk bf tx ln pl le on ot ca))) H := hP
  have hD : va_D (Anew s) (fl (wX cI cS qx a0 a1 a2 a3 b3 a4 u1.1 sn tr u1.2 sc has (wM cI qm m1 m2 m3 m5 m6 u2.1 u2.2.1 u2.2.2 sm tk bf tx ln pl le on ot ca))) := hD
  have hB := B_giveUp RPp 
  rw [e1, e2] at hB
  have hq : r1 = r2 := hB.1
  have hR : RP u1 u2 := hB.2
  refine lv_icmp_eq (tgt := 789) hx hb dL_law_323 (by decide) (fun _ => ?_) (fun c9 => absurd hq c9)
  exact kk u1.1 sn tr u1.2 sc has u2.1 u2.2.1 u2.2.2 sm tk bf tx ln pl le on ot ca _ _ _ ⟨hR, Rsn, Rhas, Rsm, Rtx⟩ hP hD hS hl
set_option maxHeartbeats 4000000 in
set_option maxRecDepth 100000 in
theorem law_set (C0 : lw_At p s m meth c b L xs) (hE : EV D (tysA cI cS) s) (hSX : SX (Anew s) s s.heap) (hi4 : i + 4 ≤ L) (hL : L ≤ 2048) (R : TopR st sn hi sc has t h k sm tk tx ln) (hP : va_P D vwCl (fl (wX cI cS qx a0 a1 a2 a3 b3 a4 st sn tr hi sc has (wM cI qm m1 m2 m3 m5 m6 t h k sm tk bf tx ln pl le on ot ca))) H) (hD : va_D (Anew s) (fl (wX cI cS qx a0 a1 a2 a3 b3 a4 st sn tr hi sc has (wM cI qm m1 m2 m3 m5 m6 t h k sm tk bf tx ln pl le on ot ca)))) (hS : va_S (Anew s) s.heap H locs) (hl : lv_has ls 8 [(0, .ref b), (1, .ref qx), (2, .ref qm), (3, .int (nI i))]) (kk : LBack p l e s m b below meth c D cI cS qx qm a0 a1 a2 a3 b3 a4 m1 m2 m3 m5 m6 i Q) : W p l e room_1 s m #[Value.ref b] below meth c H locs 128 3083 Q (F0 m 328 ls []) := by
  have hkp := R.k5
  have hs := R.wc
  obtain ⟨hx, hb, hr, hml, hown, hts0, hX, hbl, hlocks, hgv⟩ := C0
  have hts : ∀ w ∈ wsL_law, w.before #[Value.ref b] s = true := fun w h => hts0 w (wsL_law_in w h)
  have hbA : ¬ Anew s b := Nat.not_le.mpr hbl
  obtain ⟨RPp, Rsn, Rhas, Rsm, Rtx⟩ := R
  have hw : WS st := RPp.1.1
  have hm : WM t := RPp.1.2.1
  have hh : WH hi := RPp.2.1
  have hbo : BL st.2.2.1 := hw.2.2
  have hbs : BL sn.2.2.1 := Rsn
  have hlb : Bd ln 80 := Rtx.2.1
  refine lv_aload_n hx hb dL_law_328 rfl (lv_at hl 1 rfl) ?_
  refine lv_aload_n hx hb dL_law_329 rfl (lv_at hl 0 rfl) ?_
  refine lv_iload_n hx hb dL_law_330 rfl (lv_at hl 3 rfl) ?_
  refine lv_iconst (v := (1 : Int32)) hx hb dL_law_331 (by decide +kernel) ?_
  refine lv_iadd hx hb dL_law_332 ?_
  refine va_sld hx hb hX hbl hbA hS (zz_s1 hi4 hL) dL_law_333 ?_
  refine lv_aload_n hx hb dL_law_334 rfl (lv_at hl 0 rfl) ?_
  refine lv_iload_n hx hb dL_law_335 rfl (lv_at hl 3 rfl) ?_
  refine lv_iconst (v := (2 : Int32)) hx hb dL_law_336 (by decide +kernel) ?_
  refine lv_iadd hx hb dL_law_337 ?_
  refine va_sld hx hb hX hbl hbA hS (zz_s2 hi4 hL) dL_law_338 ?_
  refine bISV (W0 := wX cI cS qx a0 a1 a2 a3 b3 a4 st sn tr hi sc has (wM cI qm m1 m2 m3 m5 m6 t h k sm tk bf tx ln pl le on ot ca)) (wc := [(qx, .inr (6, [.ref (a0 0), .ref (a1 0), .ref (a2 0), .ref (a3 0), .ref (a4 0), .int has]))] :: wSt cI a0 st :: wHi cI cS a3 b3 hi []) (w1 := fun u : TPT => [(qx, .inr (6, [.ref (a0 0), .ref (a1 0), .ref (a2 0), .ref (a3 0), .ref (a4 0), .int has]))] :: wSt cI a0 u.1 :: wHi cI cS a3 b3 u.2 []) ⟨hx, hb, hml, hown, hts⟩ (kX6_set l D cI cS qx a0 a3 b3 (a1 0) (a2 0) (a4 0) has (xs (nI i + (1 : Int32)).toNatClampNeg) (xs (nI i + (2 : Int32)).toNatClampNeg) (st, hi) hw hh) (cwV 2 hts gL_law_X6_set rfl rfl rfl (by decide +kernel) ⟨Nat.le_of_ble_eq_true rfl, Nat.le_of_ble_eq_true rfl⟩) hE hP hD hS hSX rfl rfl [0, 1, 4, 5, 6, 7, 8, 9, 10, 11] rfl rfl (fun _ => rfl) (fun _ => rfl) rfl hl.1 rfl (Nat.le_of_ble_eq_true rfl) ⟨Nat.le_of_ble_eq_true rfl, Nat.le_of_ble_eq_true rfl⟩ dL_law_339 (fun r1 u1 H locs e1 hP hD hS => ?_)
  have hP : va_P D vwCl (fl (wX cI cS qx a0 a1 a2 a3 b3 a4 u1.1 sn tr u1.2 sc has (wM cI qm m1 m2 m3 m5 m6 t h k sm tk bf tx ln pl le on ot ca))) H := hP
  have hD : va_D (Anew s) (fl (wX cI cS qx a0 a1 a2 a3 b3 a4 u1.1 sn tr u1.2 sc has (wM cI qm m1 m2 m3 m5 m6 t h k sm tk bf tx ln pl le on ot ca))) := hD
  refine lv_aload_n hx hb dL_law_342 rfl (lv_at hl 2 rfl) ?_
  refine lv_aload_n hx hb dL_law_343 rfl (lv_at hl 0 rfl) ?_
  refine lv_iload_n hx hb dL_law_344 rfl (lv_at hl 3 rfl) ?_
  refine lv_iconst (v := (1 : Int32)) hx hb dL_law_345 (by decide +kernel) ?_
  refine lv_iadd hx hb dL_law_346 ?_
  refine va_sld hx hb hX hbl hbA hS (zz_s1 hi4 hL) dL_law_347 ?_
  refine lv_aload_n hx hb dL_law_348 rfl (lv_at hl 0 rfl) ?_
  refine lv_iload_n hx hb dL_law_349 rfl (lv_at hl 3 rfl) ?_
  refine lv_iconst (v := (2 : Int32)) hx hb dL_law_350 (by decide +kernel) ?_
  refine lv_iadd hx hb dL_law_351 ?_
  refine va_sld hx hb hX hbl hbA hS (zz_s2 hi4 hL) dL_law_352 ?_
  refine bIV (W0 := wX cI cS qx a0 a1 a2 a3 b3 a4 u1.1 sn tr u1.2 sc has (wM cI qm m1 m2 m3 m5 m6 t h k sm tk bf tx ln pl le on ot ca)) (wc := [[(qm, .inr (7, [.ref m1, .ref m2, .int k, .ref m3, .int tk, .ref m5, .ref m6, .int ln, .int pl, .int le, .int on, .int ot, .int ca]))], [(m1, .inl (cI, 163, .inl t))], [(m2, .inl (cI, 815, .inl h))]]) (w1 := fun u : MHT => [[(qm, .inr (7, [.ref m1, .ref m2, .int u.2.2, .ref m3, .int tk, .ref m5, .ref m6, .int ln, .int pl, .int le, .int on, .int ot, .int ca]))], [(m1, .inl (cI, 163, .inl u.1))], [(m2, .inl (cI, 815, .inl u.2.1))]]) ⟨hx, hb, hml, hown, hts⟩ (kX7_set l D cI cS qm m1 m2 m3 tk m5 m6 ln pl le on ot ca (xs (nI i + (1 : Int32)).toNatClampNeg) (xs (nI i + (2 : Int32)).toNatClampNeg) (t, h, k) hkp) (cwV 2 hts gL_law_X7_set rfl rfl rfl (by decide +kernel) ⟨Nat.le_of_ble_eq_true rfl, Nat.le_of_ble_eq_true rfl⟩) hE hP hD hS rfl rfl [13, 14, 15] rfl rfl (fun _ => rfl) (fun _ => rfl) rfl hl.1 rfl (Nat.le_of_ble_eq_true rfl) ⟨Nat.le_of_ble_eq_true rfl, Nat.le_of_ble_eq_true rfl⟩ dL_law_353 (fun r2 u2 H locs e2 hP hD hS => ?_)
  have hP : va_P D vwCl (fl (wX cI cS qx a0 a1 a2 a3 b3 a4 u1.1 sn tr u1.2 sc has (wM cI qm m1 m2 m3 m5 m6 u2.1 u2.2.1 u2.2.2 sm tk bf tx ln pl le on ot ca))) H := hP
  have hD : va_D (Anew s) (fl (wX cI cS qx a0 a1 a2 a3 b3 a4 u1.1 sn tr u1.2 sc has (wM cI qm m1 m2 m3 m5 m6 u2.1 u2.2.1 u2.2.2 sm tk bf tx ln pl le on ot ca))) := hD
  have hB := B_set RPp (xs (nI i + (1 : Int32)).toNatClampNeg) (xs (nI i + (2 : Int32)).toNatClampNeg)
  rw [e1, e2] at hB
  have hq : r1 = r2 := hB.1
  have hR : RP u1 u2 := hB.2
  refine lv_icmp_eq (tgt := 789) hx hb dL_law_356 (by decide) (fun _ => ?_) (fun c9 => absurd hq c9)
  exact kk u1.1 sn tr u1.2 sc has u2.1 u2.2.1 u2.2.2 sm tk bf tx ln pl le on ot ca _ _ _ ⟨hR, Rsn, Rhas, Rsm, Rtx⟩ hP hD hS hl
set_option maxHeartbeats 4000000 in
set_option maxRecDepth 100000 in
theorem law_append (C0 : lw_At p s m meth c b L xs) (hE : EV D (tysA cI cS) s) (hSX : SX (Anew s) s s.heap) (hi4 : i + 4 ≤ L) (hL : L ≤ 2048) (R : TopR st sn hi sc has t h k sm tk tx ln) (hP : va_P D vwCl (fl (wX cI cS qx a0 a1 a2 a3 b3 a4 st sn tr hi sc has (wM cI qm m1 m2 m3 m5 m6 t h k sm tk bf tx ln pl le on ot ca))) H) (hD : va_D (Anew s) (fl (wX cI cS qx a0 a1 a2 a3 b3 a4 st sn tr hi sc has (wM cI qm m1 m2 m3 m5 m6 t h k sm tk bf tx ln pl le on ot ca)))) (hS : va_S (Anew s) s.heap H locs) (hl : lv_has ls 8 [(0, .ref b), (1, .ref qx), (2, .ref qm), (3, .int (nI i))]) (kk : LBack p l e s m b below meth c D cI cS qx qm a0 a1 a2 a3 b3 a4 m1 m2 m3 m5 m6 i Q) : W p l e room_1 s m #[Value.ref b] below meth c H locs 128 3083 Q (F0 m 361 ls []) := by
  have hkp := R.k5
  have hs := R.wc
  obtain ⟨hx, hb, hr, hml, hown, hts0, hX, hbl, hlocks, hgv⟩ := C0
  have hts : ∀ w ∈ wsL_law, w.before #[Value.ref b] s = true := fun w h => hts0 w (wsL_law_in w h)
  have hbA : ¬ Anew s b := Nat.not_le.mpr hbl
  obtain ⟨RPp, Rsn, Rhas, Rsm, Rtx⟩ := R
  have hw : WS st := RPp.1.1
  have hm : WM t := RPp.1.2.1
  have hh : WH hi := RPp.2.1
  have hbo : BL st.2.2.1 := hw.2.2
  have hbs : BL sn.2.2.1 := Rsn
  have hlb : Bd ln 80 := Rtx.2.1
  refine lv_aload_n hx hb dL_law_361 rfl (lv_at hl 1 rfl) ?_
  refine lv_aload_n hx hb dL_law_362 rfl (lv_at hl 0 rfl) ?_
  refine lv_iload_n hx hb dL_law_363 rfl (lv_at hl 3 rfl) ?_
  refine lv_iconst (v := (1 : Int32)) hx hb dL_law_364 (by decide +kernel) ?_
  refine lv_iadd hx hb dL_law_365 ?_
  refine va_sld hx hb hX hbl hbA hS (zz_s1 hi4 hL) dL_law_366 ?_
  refine bIV (W0 := wX cI cS qx a0 a1 a2 a3 b3 a4 st sn tr hi sc has (wM cI qm m1 m2 m3 m5 m6 t h k sm tk bf tx ln pl le on ot ca)) (wc := [(qx, .inr (6, [.ref (a0 0), .ref (a1 0), .ref (a2 0), .ref (a3 0), .ref (a4 0), .int has]))] :: wSc cI a4 sc :: []) (w1 := fun u : ScT => [(qx, .inr (6, [.ref (a0 0), .ref (a1 0), .ref (a2 0), .ref (a3 0), .ref (a4 0), .int has]))] :: wSc cI a4 u :: []) ⟨hx, hb, hml, hown, hts⟩ (kX6_append l D cI cS qx a4 (a0 0) (a1 0) (a2 0) (a3 0) has (xs (nI i + (1 : Int32)).toNatClampNeg) sc hs) (cwV 1 hts gL_law_X6_append rfl rfl rfl (by decide +kernel) ⟨Nat.le_of_ble_eq_true rfl, Nat.le_of_ble_eq_true rfl⟩) hE hP hD hS rfl rfl [0, 12] rfl rfl (fun _ => rfl) (fun _ => rfl) rfl hl.1 rfl (Nat.le_of_ble_eq_true rfl) ⟨Nat.le_of_ble_eq_true rfl, Nat.le_of_ble_eq_true rfl⟩ dL_law_367 (fun r1 u1 H locs e1 hP hD hS => ?_)
  have hP : va_P D vwCl (fl (wX cI cS qx a0 a1 a2 a3 b3 a4 st sn tr hi u1 has (wM cI qm m1 m2 m3 m5 m6 t h k sm tk bf tx ln pl le on ot ca))) H := hP
  have hD : va_D (Anew s) (fl (wX cI cS qx a0 a1 a2 a3 b3 a4 st sn tr hi u1 has (wM cI qm m1 m2 m3 m5 m6 t h k sm tk bf tx ln pl le on ot ca))) := hD
  refine lv_aload_n hx hb dL_law_370 rfl (lv_at hl 2 rfl) ?_
  refine lv_aload_n hx hb dL_law_371 rfl (lv_at hl 0 rfl) ?_
  refine lv_iload_n hx hb dL_law_372 rfl (lv_at hl 3 rfl) ?_
  refine lv_iconst (v := (1 : Int32)) hx hb dL_law_373 (by decide +kernel) ?_
  refine lv_iadd hx hb dL_law_374 ?_
  refine va_sld hx hb hX hbl hbA hS (zz_s1 hi4 hL) dL_law_375 ?_
  refine bIV (W0 := wX cI cS qx a0 a1 a2 a3 b3 a4 st sn tr hi u1 has (wM cI qm m1 m2 m3 m5 m6 t h k sm tk bf tx ln pl le on ot ca)) (wc := [[(qm, .inr (7, [.ref m1, .ref m2, .int k, .ref m3, .int tk, .ref m5, .ref m6, .int ln, .int pl, .int le, .int on, .int ot, .int ca]))], [(m6, .inl (cI, 80, .inl tx))]]) (w1 := fun u : MLT => [[(qm, .inr (7, [.ref m1, .ref m2, .int k, .ref m3, .int tk, .ref m5, .ref m6, .int u.2, .int pl, .int le, .int on, .int ot, .int ca]))], [(m6, .inl (cI, 80, .inl u.1))]]) ⟨hx, hb, hml, hown, hts⟩ (kX7_append l D cI cS qm m6 m1 m2 k m3 tk m5 pl le on ot ca (xs (nI i + (1 : Int32)).toNatClampNeg) (tx, ln) hlb) (cwV 1 hts gL_law_X7_append rfl rfl rfl (by decide +kernel) ⟨Nat.le_of_ble_eq_true rfl, Nat.le_of_ble_eq_true rfl⟩) hE hP hD hS rfl rfl [13, 18] rfl rfl (fun _ => rfl) (fun _ => rfl) rfl hl.1 rfl (Nat.le_of_ble_eq_true rfl) ⟨Nat.le_of_ble_eq_true rfl, Nat.le_of_ble_eq_true rfl⟩ dL_law_376 (fun r2 u2 H locs e2 hP hD hS => ?_)
  have hP : va_P D vwCl (fl (wX cI cS qx a0 a1 a2 a3 b3 a4 st sn tr hi u1 has (wM cI qm m1 m2 m3 m5 m6 t h k sm tk bf u2.1 u2.2 pl le on ot ca))) H := hP
  have hD : va_D (Anew s) (fl (wX cI cS qx a0 a1 a2 a3 b3 a4 st sn tr hi u1 has (wM cI qm m1 m2 m3 m5 m6 t h k sm tk bf u2.1 u2.2 pl le on ot ca))) := hD
  have hB := B_append (τ := sc) (m := (tx, ln)) Rtx (xs (nI i + (1 : Int32)).toNatClampNeg)
  rw [e1, e2] at hB
  have hq : r1 = r2 := hB.1
  refine lv_icmp_eq (tgt := 789) hx hb dL_law_379 (by decide) (fun _ => ?_) (fun c9 => absurd hq c9)
  exact kk st sn tr hi u1 has t h k sm tk bf u2.1 u2.2 pl le on ot ca _ _ _ ⟨RPp, Rsn, Rhas, Rsm, hB.2⟩ hP hD hS hl
set_option maxHeartbeats 4000000 in
set_option maxRecDepth 100000 in
theorem law_clearText (C0 : lw_At p s m meth c b L xs) (hE : EV D (tysA cI cS) s) (hSX : SX (Anew s) s s.heap) (hi4 : i + 4 ≤ L) (hL : L ≤ 2048) (R : TopR st sn hi sc has t h k sm tk tx ln) (hP : va_P D vwCl (fl (wX cI cS qx a0 a1 a2 a3 b3 a4 st sn tr hi sc has (wM cI qm m1 m2 m3 m5 m6 t h k sm tk bf tx ln pl le on ot ca))) H) (hD : va_D (Anew s) (fl (wX cI cS qx a0 a1 a2 a3 b3 a4 st sn tr hi sc has (wM cI qm m1 m2 m3 m5 m6 t h k sm tk bf tx ln pl le on ot ca)))) (hS : va_S (Anew s) s.heap H locs) (hl : lv_has ls 8 [(0, .ref b), (1, .ref qx), (2, .ref qm), (3, .int (nI i))]) (kk : LBack p l e s m b below meth c D cI cS qx qm a0 a1 a2 a3 b3 a4 m1 m2 m3 m5 m6 i Q) : W p l e room_1 s m #[Value.ref b] below meth c H locs 128 3083 Q (F0 m 384 ls []) := by
  have hkp := R.k5
  have hs := R.wc
  obtain ⟨hx, hb, hr, hml, hown, hts0, hX, hbl, hlocks, hgv⟩ := C0
  have hts : ∀ w ∈ wsL_law, w.before #[Value.ref b] s = true := fun w h => hts0 w (wsL_law_in w h)
  have hbA : ¬ Anew s b := Nat.not_le.mpr hbl
  obtain ⟨RPp, Rsn, Rhas, Rsm, Rtx⟩ := R
  have hw : WS st := RPp.1.1
  have hm : WM t := RPp.1.2.1
  have hh : WH hi := RPp.2.1
  have hbo : BL st.2.2.1 := hw.2.2
  have hbs : BL sn.2.2.1 := Rsn
  have hlb : Bd ln 80 := Rtx.2.1
  refine lv_aload_n hx hb dL_law_384 rfl (lv_at hl 1 rfl) ?_
  refine bIV (W0 := wX cI cS qx a0 a1 a2 a3 b3 a4 st sn tr hi sc has (wM cI qm m1 m2 m3 m5 m6 t h k sm tk bf tx ln pl le on ot ca)) (wc := [(qx, .inr (6, [.ref (a0 0), .ref (a1 0), .ref (a2 0), .ref (a3 0), .ref (a4 0), .int has]))] :: wSc cI a4 sc :: []) (w1 := fun u : ScT => [(qx, .inr (6, [.ref (a0 0), .ref (a1 0), .ref (a2 0), .ref (a3 0), .ref (a4 0), .int has]))] :: wSc cI a4 u :: []) ⟨hx, hb, hml, hown, hts⟩ (kX6_clearText l D cI cS qx a4 (a0 0) (a1 0) (a2 0) (a3 0) has sc) (cwV 0 hts gL_law_X6_clearText rfl rfl rfl (by decide +kernel) ⟨Nat.le_of_ble_eq_true rfl, Nat.le_of_ble_eq_true rfl⟩) hE hP hD hS rfl rfl [0, 12] rfl rfl (fun _ => rfl) (fun _ => rfl) rfl hl.1 rfl (Nat.le_of_ble_eq_true rfl) ⟨Nat.le_of_ble_eq_true rfl, Nat.le_of_ble_eq_true rfl⟩ dL_law_385 (fun r1 u1 H locs e1 hP hD hS => ?_)
  have hP : va_P D vwCl (fl (wX cI cS qx a0 a1 a2 a3 b3 a4 st sn tr hi u1 has (wM cI qm m1 m2 m3 m5 m6 t h k sm tk bf tx ln pl le on ot ca))) H := hP
  have hD : va_D (Anew s) (fl (wX cI cS qx a0 a1 a2 a3 b3 a4 st sn tr hi u1 has (wM cI qm m1 m2 m3 m5 m6 t h k sm tk bf tx ln pl le on ot ca))) := hD
  refine lv_aload_n hx hb dL_law_388 rfl (lv_at hl 2 rfl) ?_
  refine bIV (W0 := wX cI cS qx a0 a1 a2 a3 b3 a4 st sn tr hi u1 has (wM cI qm m1 m2 m3 m5 m6 t h k sm tk bf tx ln pl le on ot ca)) (wc := [[(qm, .inr (7, [.ref m1, .ref m2, .int k, .ref m3, .int tk, .ref m5, .ref m6, .int ln, .int pl, .int le, .int on, .int ot, .int ca]))], [(m6, .inl (cI, 80, .inl tx))]]) (w1 := fun u : MLT => [[(qm, .inr (7, [.ref m1, .ref m2, .int k, .ref m3, .int tk, .ref m5, .ref m6, .int u.2, .int pl, .int le, .int on, .int ot, .int ca]))], [(m6, .inl (cI, 80, .inl u.1))]]) ⟨hx, hb, hml, hown, hts⟩ (kX7_clearText l D cI cS qm m6 m1 m2 k m3 tk m5 pl le on ot ca (tx, ln)) (cwV 0 hts gL_law_X7_clearText rfl rfl rfl (by decide +kernel) ⟨Nat.le_of_ble_eq_true rfl, Nat.le_of_ble_eq_true rfl⟩) hE hP hD hS rfl rfl [13, 18] rfl rfl (fun _ => rfl) (fun _ => rfl) rfl hl.1 rfl (Nat.le_of_ble_eq_true rfl) ⟨Nat.le_of_ble_eq_true rfl, Nat.le_of_ble_eq_true rfl⟩ dL_law_389 (fun r2 u2 H locs e2 hP hD hS => ?_)
  have hP : va_P D vwCl (fl (wX cI cS qx a0 a1 a2 a3 b3 a4 st sn tr hi u1 has (wM cI qm m1 m2 m3 m5 m6 t h k sm tk bf u2.1 u2.2 pl le on ot ca))) H := hP
  have hD : va_D (Anew s) (fl (wX cI cS qx a0 a1 a2 a3 b3 a4 st sn tr hi u1 has (wM cI qm m1 m2 m3 m5 m6 t h k sm tk bf u2.1 u2.2 pl le on ot ca))) := hD
  have hB := B_clearText (τ := sc) (m := (tx, ln)) Rtx 
  rw [e1, e2] at hB
  have hq : r1 = r2 := hB.1
  refine lv_icmp_eq (tgt := 789) hx hb dL_law_392 (by decide) (fun _ => ?_) (fun c9 => absurd hq c9)
  exact kk st sn tr hi u1 has t h k sm tk bf u2.1 u2.2 pl le on ot ca _ _ _ ⟨RPp, Rsn, Rhas, Rsm, hB.2⟩ hP hD hS hl
set_option maxHeartbeats 4000000 in
set_option maxRecDepth 100000 in
theorem law_fault (C0 : lw_At p s m meth c b L xs) (hE : EV D (tysA cI cS) s) (hSX : SX (Anew s) s s.heap) (hi4 : i + 4 ≤ L) (hL : L ≤ 2048) (R : TopR st sn hi sc has t h k sm tk tx ln) (hP : va_P D vwCl (fl (wX cI cS qx a0 a1 a2 a3 b3 a4 st sn tr hi sc has (wM cI qm m1 m2 m3 m5 m6 t h k sm tk bf tx ln pl le on ot ca))) H) (hD : va_D (Anew s) (fl (wX cI cS qx a0 a1 a2 a3 b3 a4 st sn tr hi sc has (wM cI qm m1 m2 m3 m5 m6 t h k sm tk bf tx ln pl le on ot ca)))) (hS : va_S (Anew s) s.heap H locs) (hl : lv_has ls 8 [(0, .ref b), (1, .ref qx), (2, .ref qm), (3, .int (nI i))]) (kk : LBack p l e s m b below meth c D cI cS qx qm a0 a1 a2 a3 b3 a4 m1 m2 m3 m5 m6 i Q) : W p l e room_1 s m #[Value.ref b] below meth c H locs 128 3083 Q (F0 m 397 ls []) := by
  have hkp := R.k5
  have hs := R.wc
  obtain ⟨hx, hb, hr, hml, hown, hts0, hX, hbl, hlocks, hgv⟩ := C0
  have hts : ∀ w ∈ wsL_law, w.before #[Value.ref b] s = true := fun w h => hts0 w (wsL_law_in w h)
  have hbA : ¬ Anew s b := Nat.not_le.mpr hbl
  obtain ⟨RPp, Rsn, Rhas, Rsm, Rtx⟩ := R
  have hw : WS st := RPp.1.1
  have hm : WM t := RPp.1.2.1
  have hh : WH hi := RPp.2.1
  have hbo : BL st.2.2.1 := hw.2.2
  have hbs : BL sn.2.2.1 := Rsn
  have hlb : Bd ln 80 := Rtx.2.1
  refine lv_aload_n hx hb dL_law_397 rfl (lv_at hl 1 rfl) ?_
  refine bIV (W0 := wX cI cS qx a0 a1 a2 a3 b3 a4 st sn tr hi sc has (wM cI qm m1 m2 m3 m5 m6 t h k sm tk bf tx ln pl le on ot ca)) (wc := [(qx, .inr (6, [.ref (a0 0), .ref (a1 0), .ref (a2 0), .ref (a3 0), .ref (a4 0), .int has]))] :: wSc cI a4 sc :: []) (w1 := fun u : ScT => [(qx, .inr (6, [.ref (a0 0), .ref (a1 0), .ref (a2 0), .ref (a3 0), .ref (a4 0), .int has]))] :: wSc cI a4 u :: []) ⟨hx, hb, hml, hown, hts⟩ (kX6_fault l D cI cS qx a4 (a0 0) (a1 0) (a2 0) (a3 0) has sc hs) (cwV 0 hts gL_law_X6_fault rfl rfl rfl (by decide +kernel) ⟨Nat.le_of_ble_eq_true rfl, Nat.le_of_ble_eq_true rfl⟩) hE hP hD hS rfl rfl [0, 12] rfl rfl (fun _ => rfl) (fun _ => rfl) rfl hl.1 rfl (Nat.le_of_ble_eq_true rfl) ⟨Nat.le_of_ble_eq_true rfl, Nat.le_of_ble_eq_true rfl⟩ dL_law_398 (fun r1 u1 H locs e1 hP hD hS => ?_)
  have hP : va_P D vwCl (fl (wX cI cS qx a0 a1 a2 a3 b3 a4 st sn tr hi u1 has (wM cI qm m1 m2 m3 m5 m6 t h k sm tk bf tx ln pl le on ot ca))) H := hP
  have hD : va_D (Anew s) (fl (wX cI cS qx a0 a1 a2 a3 b3 a4 st sn tr hi u1 has (wM cI qm m1 m2 m3 m5 m6 t h k sm tk bf tx ln pl le on ot ca))) := hD
  refine lv_aload_n hx hb dL_law_401 rfl (lv_at hl 2 rfl) ?_
  refine bIV (W0 := wX cI cS qx a0 a1 a2 a3 b3 a4 st sn tr hi u1 has (wM cI qm m1 m2 m3 m5 m6 t h k sm tk bf tx ln pl le on ot ca)) (wc := [[(qm, .inr (7, [.ref m1, .ref m2, .int k, .ref m3, .int tk, .ref m5, .ref m6, .int ln, .int pl, .int le, .int on, .int ot, .int ca]))], [(m1, .inl (cI, 163, .inl t))], [(m6, .inl (cI, 80, .inl tx))]]) (w1 := fun u : MXT => [[(qm, .inr (7, [.ref m1, .ref m2, .int k, .ref m3, .int tk, .ref m5, .ref m6, .int u.2.2.1, .int u.2.2.2.1, .int u.2.2.2.2.1, .int u.2.2.2.2.2.1, .int u.2.2.2.2.2.2.1, .int u.2.2.2.2.2.2.2]))], [(m1, .inl (cI, 163, .inl u.1))], [(m6, .inl (cI, 80, .inl u.2.1))]]) ⟨hx, hb, hml, hown, hts⟩ (kX7_fault l D cI cS qm m1 m6 m2 k m3 tk m5 (t, tx, ln, pl, le, on, ot, ca) hm hlb) (cwV 0 hts gL_law_X7_fault rfl rfl rfl (by decide +kernel) ⟨Nat.le_of_ble_eq_true rfl, Nat.le_of_ble_eq_true rfl⟩) hE hP hD hS rfl rfl [13, 14, 18] rfl rfl (fun _ => rfl) (fun _ => rfl) rfl hl.1 rfl (Nat.le_of_ble_eq_true rfl) ⟨Nat.le_of_ble_eq_true rfl, Nat.le_of_ble_eq_true rfl⟩ dL_law_402 (fun r2 u2 H locs e2 hP hD hS => ?_)
  have hP : va_P D vwCl (fl (wX cI cS qx a0 a1 a2 a3 b3 a4 st sn tr hi u1 has (wM cI qm m1 m2 m3 m5 m6 u2.1 h k sm tk bf u2.2.1 u2.2.2.1 u2.2.2.2.1 u2.2.2.2.2.1 u2.2.2.2.2.2.1 u2.2.2.2.2.2.2.1 u2.2.2.2.2.2.2.2))) H := hP
  have hD : va_D (Anew s) (fl (wX cI cS qx a0 a1 a2 a3 b3 a4 st sn tr hi u1 has (wM cI qm m1 m2 m3 m5 m6 u2.1 h k sm tk bf u2.2.1 u2.2.2.1 u2.2.2.2.1 u2.2.2.2.2.1 u2.2.2.2.2.2.1 u2.2.2.2.2.2.2.1 u2.2.2.2.2.2.2.2))) := hD
  have hB := B_fault (τ := sc) (σ := (t, tx, ln, pl, le, on, ot, ca)) Rtx
  rw [e1, e2] at hB
  obtain ⟨hq, hT, g1, g2, g3⟩ := hB
  have hq : r1 = r2 := hq
  have hT : RTl u1 tx ln := hT
  have g1 : u2.1 = t := g1
  have g2 : u2.2.1 = tx := g2
  have g3 : u2.2.2.1 = ln := g3
  refine lv_icmp_eq (tgt := 789) hx hb dL_law_405 (by decide) (fun _ => ?_) (fun c9 => absurd hq c9)
  exact kk st sn tr hi u1 has u2.1 h k sm tk bf u2.2.1 u2.2.2.1 u2.2.2.2.1 u2.2.2.2.2.1 u2.2.2.2.2.2.1 u2.2.2.2.2.2.2.1 u2.2.2.2.2.2.2.2 _ _ _ ⟨by rw [g1]; exact RPp, Rsn, Rhas, Rsm, by rw [g2, g3]; exact hT⟩ hP hD hS hl
set_option maxHeartbeats 4000000 in
set_option maxRecDepth 100000 in
theorem law_run (C0 : lw_At p s m meth c b L xs) (hE : EV D (tysA cI cS) s) (hSX : SX (Anew s) s s.heap) (hi4 : i + 4 ≤ L) (hL : L ≤ 2048) (R : TopR st sn hi sc has t h k sm tk tx ln) (hP : va_P D vwCl (fl (wX cI cS qx a0 a1 a2 a3 b3 a4 st sn tr hi sc has (wM cI qm m1 m2 m3 m5 m6 t h k sm tk bf tx ln pl le on ot ca))) H) (hD : va_D (Anew s) (fl (wX cI cS qx a0 a1 a2 a3 b3 a4 st sn tr hi sc has (wM cI qm m1 m2 m3 m5 m6 t h k sm tk bf tx ln pl le on ot ca)))) (hS : va_S (Anew s) s.heap H locs) (hl : lv_has ls 8 [(0, .ref b), (1, .ref qx), (2, .ref qm), (3, .int (nI i))]) (kk : LBack p l e s m b below meth c D cI cS qx qm a0 a1 a2 a3 b3 a4 m1 m2 m3 m5 m6 i Q) : W p l e room_1 s m #[Value.ref b] below meth c H locs 128 3083 Q (F0 m 410 ls []) := by
  have hkp := R.k5
  have hs := R.wc
  obtain ⟨hx, hb, hr, hml, hown, hts0, hX, hbl, hlocks, hgv⟩ := C0
  have hts : ∀ w ∈ wsL_law, w.before #[Value.ref b] s = true := fun w h => hts0 w (wsL_law_in w h)
  have hbA : ¬ Anew s b := Nat.not_le.mpr hbl
  obtain ⟨RPp, Rsn, Rhas, Rsm, Rtx⟩ := R
  have hw : WS st := RPp.1.1
  have hm : WM t := RPp.1.2.1
  have hh : WH hi := RPp.2.1
  have hbo : BL st.2.2.1 := hw.2.2
  have hbs : BL sn.2.2.1 := Rsn
  have hlb : Bd ln 80 := Rtx.2.1
  refine lv_aload_n hx hb dL_law_410 rfl (lv_at hl 1 rfl) ?_
  refine bIV (W0 := wX cI cS qx a0 a1 a2 a3 b3 a4 st sn tr hi sc has (wM cI qm m1 m2 m3 m5 m6 t h k sm tk bf tx ln pl le on ot ca)) (wc := [(qx, .inr (6, [.ref (a0 0), .ref (a1 0), .ref (a2 0), .ref (a3 0), .ref (a4 0), .int has]))] :: wSt cI a0 st :: wHi cI cS a3 b3 hi (wSc cI a4 sc :: [])) (w1 := fun u : TXT => [(qx, .inr (6, [.ref (a0 0), .ref (a1 0), .ref (a2 0), .ref (a3 0), .ref (a4 0), .int has]))] :: wSt cI a0 u.1 :: wHi cI cS a3 b3 u.2.1 (wSc cI a4 u.2.2 :: [])) ⟨hx, hb, hml, hown, hts⟩ (kX6_run l D cI cS qx a0 a3 a4 b3 (a1 0) (a2 0) has (st, hi, sc) hw hh hs) (cwV 0 hts gL_law_X6_run rfl rfl rfl (by decide +kernel) ⟨Nat.le_of_ble_eq_true rfl, Nat.le_of_ble_eq_true rfl⟩) hE hP hD hS rfl rfl [0, 1, 4, 5, 6, 7, 8, 9, 10, 11, 12] rfl rfl (fun _ => rfl) (fun _ => rfl) rfl hl.1 rfl (Nat.le_of_ble_eq_true rfl) ⟨Nat.le_of_ble_eq_true rfl, Nat.le_of_ble_eq_true rfl⟩ dL_law_411 (fun r1 u1 H locs e1 hP hD hS => ?_)
  have hP : va_P D vwCl (fl (wX cI cS qx a0 a1 a2 a3 b3 a4 u1.1 sn tr u1.2.1 u1.2.2 has (wM cI qm m1 m2 m3 m5 m6 t h k sm tk bf tx ln pl le on ot ca))) H := hP
  have hD : va_D (Anew s) (fl (wX cI cS qx a0 a1 a2 a3 b3 a4 u1.1 sn tr u1.2.1 u1.2.2 has (wM cI qm m1 m2 m3 m5 m6 t h k sm tk bf tx ln pl le on ot ca))) := hD
  refine lv_aload_n hx hb dL_law_414 rfl (lv_at hl 2 rfl) ?_
  refine bIV (W0 := wX cI cS qx a0 a1 a2 a3 b3 a4 u1.1 sn tr u1.2.1 u1.2.2 has (wM cI qm m1 m2 m3 m5 m6 t h k sm tk bf tx ln pl le on ot ca)) (wc := [[(qm, .inr (7, [.ref m1, .ref m2, .int k, .ref m3, .int tk, .ref m5, .ref m6, .int ln, .int pl, .int le, .int on, .int ot, .int ca]))], [(m1, .inl (cI, 163, .inl t))], [(m2, .inl (cI, 815, .inl h))], [(m6, .inl (cI, 80, .inl tx))]]) (w1 := fun u : MRT => [[(qm, .inr (7, [.ref m1, .ref m2, .int u.2.2.1, .ref m3, .int tk, .ref m5, .ref m6, .int u.2.2.2.2.1, .int u.2.2.2.2.2.1, .int u.2.2.2.2.2.2.1, .int u.2.2.2.2.2.2.2.1, .int u.2.2.2.2.2.2.2.2.1, .int u.2.2.2.2.2.2.2.2.2]))], [(m1, .inl (cI, 163, .inl u.1))], [(m2, .inl (cI, 815, .inl u.2.1))], [(m6, .inl (cI, 80, .inl u.2.2.2.1))]]) ⟨hx, hb, hml, hown, hts⟩ (kX7_run l D cI cS qm m1 m2 m6 m3 tk m5 (t, h, k, tx, ln, pl, le, on, ot, ca) hm hkp hlb) (cwV 0 hts gL_law_X7_run rfl rfl rfl (by decide +kernel) ⟨Nat.le_of_ble_eq_true rfl, Nat.le_of_ble_eq_true rfl⟩) hE hP hD hS rfl rfl [13, 14, 15, 18] rfl rfl (fun _ => rfl) (fun _ => rfl) rfl hl.1 rfl (Nat.le_of_ble_eq_true rfl) ⟨Nat.le_of_ble_eq_true rfl, Nat.le_of_ble_eq_true rfl⟩ dL_law_415 (fun r2 u2 H locs e2 hP hD hS => ?_)
  have hP : va_P D vwCl (fl (wX cI cS qx a0 a1 a2 a3 b3 a4 u1.1 sn tr u1.2.1 u1.2.2 has (wM cI qm m1 m2 m3 m5 m6 u2.1 u2.2.1 u2.2.2.1 sm tk bf u2.2.2.2.1 u2.2.2.2.2.1 u2.2.2.2.2.2.1 u2.2.2.2.2.2.2.1 u2.2.2.2.2.2.2.2.1 u2.2.2.2.2.2.2.2.2.1 u2.2.2.2.2.2.2.2.2.2))) H := hP
  have hD : va_D (Anew s) (fl (wX cI cS qx a0 a1 a2 a3 b3 a4 u1.1 sn tr u1.2.1 u1.2.2 has (wM cI qm m1 m2 m3 m5 m6 u2.1 u2.2.1 u2.2.2.1 sm tk bf u2.2.2.2.1 u2.2.2.2.2.1 u2.2.2.2.2.2.1 u2.2.2.2.2.2.2.1 u2.2.2.2.2.2.2.2.1 u2.2.2.2.2.2.2.2.2.1 u2.2.2.2.2.2.2.2.2.2))) := hD
  have hB := B_run (τ := (st, hi, sc)) (σ := (t, h, k, tx, ln, pl, le, on, ot, ca)) RPp Rtx
  rw [e1, e2] at hB
  obtain ⟨hq, hR, hT, g2, g3⟩ := hB
  have hq : r1 = r2 := hq
  have hT : RTl u1.2.2 tx ln := hT
  have g2 : u2.2.2.2.1 = tx := g2
  have g3 : u2.2.2.2.2.1 = ln := g3
  refine lv_icmp_eq (tgt := 789) hx hb dL_law_418 (by decide) (fun _ => ?_) (fun c9 => absurd hq c9)
  exact kk u1.1 sn tr u1.2.1 u1.2.2 has u2.1 u2.2.1 u2.2.2.1 sm tk bf u2.2.2.2.1 u2.2.2.2.2.1 u2.2.2.2.2.2.1 u2.2.2.2.2.2.2.1 u2.2.2.2.2.2.2.2.1 u2.2.2.2.2.2.2.2.2.1 u2.2.2.2.2.2.2.2.2.2 _ _ _ ⟨hR, Rsn, Rhas, Rsm, by rw [g2, g3]; exact hT⟩ hP hD hS hl
set_option maxHeartbeats 4000000 in
set_option maxRecDepth 100000 in
theorem law_undo (C0 : lw_At p s m meth c b L xs) (hE : EV D (tysA cI cS) s) (hSX : SX (Anew s) s s.heap) (hi4 : i + 4 ≤ L) (hL : L ≤ 2048) (R : TopR st sn hi sc has t h k sm tk tx ln) (hP : va_P D vwCl (fl (wX cI cS qx a0 a1 a2 a3 b3 a4 st sn tr hi sc has (wM cI qm m1 m2 m3 m5 m6 t h k sm tk bf tx ln pl le on ot ca))) H) (hD : va_D (Anew s) (fl (wX cI cS qx a0 a1 a2 a3 b3 a4 st sn tr hi sc has (wM cI qm m1 m2 m3 m5 m6 t h k sm tk bf tx ln pl le on ot ca)))) (hS : va_S (Anew s) s.heap H locs) (hl : lv_has ls 8 [(0, .ref b), (1, .ref qx), (2, .ref qm), (3, .int (nI i))]) (kk : LBack p l e s m b below meth c D cI cS qx qm a0 a1 a2 a3 b3 a4 m1 m2 m3 m5 m6 i Q) : W p l e room_1 s m #[Value.ref b] below meth c H locs 128 3083 Q (F0 m 423 ls []) := by
  have hkp := R.k5
  have hs := R.wc
  obtain ⟨hx, hb, hr, hml, hown, hts0, hX, hbl, hlocks, hgv⟩ := C0
  have hts : ∀ w ∈ wsL_law, w.before #[Value.ref b] s = true := fun w h => hts0 w (wsL_law_in w h)
  have hbA : ¬ Anew s b := Nat.not_le.mpr hbl
  obtain ⟨RPp, Rsn, Rhas, Rsm, Rtx⟩ := R
  have hw : WS st := RPp.1.1
  have hm : WM t := RPp.1.2.1
  have hh : WH hi := RPp.2.1
  have hbo : BL st.2.2.1 := hw.2.2
  have hbs : BL sn.2.2.1 := Rsn
  have hlb : Bd ln 80 := Rtx.2.1
  refine lv_aload_n hx hb dL_law_423 rfl (lv_at hl 1 rfl) ?_
  refine bIV (W0 := wX cI cS qx a0 a1 a2 a3 b3 a4 st sn tr hi sc has (wM cI qm m1 m2 m3 m5 m6 t h k sm tk bf tx ln pl le on ot ca)) (wc := [(qx, .inr (6, [.ref (a0 0), .ref (a1 0), .ref (a2 0), .ref (a3 0), .ref (a4 0), .int has]))] :: wSt cI a0 st :: wHi cI cS a3 b3 hi []) (w1 := fun u : TPT => [(qx, .inr (6, [.ref (a0 0), .ref (a1 0), .ref (a2 0), .ref (a3 0), .ref (a4 0), .int has]))] :: wSt cI a0 u.1 :: wHi cI cS a3 b3 u.2 []) ⟨hx, hb, hml, hown, hts⟩ (kX6_undo l D cI cS qx a0 a3 b3 (a1 0) (a2 0) (a4 0) has (st, hi) hh) (cwV 0 hts gL_law_X6_undo rfl rfl rfl (by decide +kernel) ⟨Nat.le_of_ble_eq_true rfl, Nat.le_of_ble_eq_true rfl⟩) hE hP hD hS rfl rfl [0, 1, 4, 5, 6, 7, 8, 9, 10, 11] rfl rfl (fun _ => rfl) (fun _ => rfl) rfl hl.1 rfl (Nat.le_of_ble_eq_true rfl) ⟨Nat.le_of_ble_eq_true rfl, Nat.le_of_ble_eq_true rfl⟩ dL_law_424 (fun r1 u1 H locs e1 hP hD hS => ?_)
  have hP : va_P D vwCl (fl (wX cI cS qx a0 a1 a2 a3 b3 a4 u1.1 sn tr u1.2 sc has (wM cI qm m1 m2 m3 m5 m6 t h k sm tk bf tx ln pl le on ot ca))) H := hP
  have hD : va_D (Anew s) (fl (wX cI cS qx a0 a1 a2 a3 b3 a4 u1.1 sn tr u1.2 sc has (wM cI qm m1 m2 m3 m5 m6 t h k sm tk bf tx ln pl le on ot ca))) := hD
  refine lv_aload_n hx hb dL_law_427 rfl (lv_at hl 2 rfl) ?_
  refine bIV (W0 := wX cI cS qx a0 a1 a2 a3 b3 a4 u1.1 sn tr u1.2 sc has (wM cI qm m1 m2 m3 m5 m6 t h k sm tk bf tx ln pl le on ot ca)) (wc := [[(qm, .inr (7, [.ref m1, .ref m2, .int k, .ref m3, .int tk, .ref m5, .ref m6, .int ln, .int pl, .int le, .int on, .int ot, .int ca]))], [(m1, .inl (cI, 163, .inl t))], [(m2, .inl (cI, 815, .inl h))]]) (w1 := fun u : MHT => [[(qm, .inr (7, [.ref m1, .ref m2, .int u.2.2, .ref m3, .int tk, .ref m5, .ref m6, .int ln, .int pl, .int le, .int on, .int ot, .int ca]))], [(m1, .inl (cI, 163, .inl u.1))], [(m2, .inl (cI, 815, .inl u.2.1))]]) ⟨hx, hb, hml, hown, hts⟩ (kX7_undo l D cI cS qm m1 m2 m3 tk m5 m6 ln pl le on ot ca (t, h, k) hkp) (cwV 0 hts gL_law_X7_undo rfl rfl rfl (by decide +kernel) ⟨Nat.le_of_ble_eq_true rfl, Nat.le_of_ble_eq_true rfl⟩) hE hP hD hS rfl rfl [13, 14, 15] rfl rfl (fun _ => rfl) (fun _ => rfl) rfl hl.1 rfl (Nat.le_of_ble_eq_true rfl) ⟨Nat.le_of_ble_eq_true rfl, Nat.le_of_ble_eq_true rfl⟩ dL_law_428 (fun r2 u2 H locs e2 hP hD hS => ?_)
  have hP : va_P D vwCl (fl (wX cI cS qx a0 a1 a2 a3 b3 a4 u1.1 sn tr u1.2 sc has (wM cI qm m1 m2 m3 m5 m6 u2.1 u2.2.1 u2.2.2 sm tk bf tx ln pl le on ot ca))) H := hP
  have hD : va_D (Anew s) (fl (wX cI cS qx a0 a1 a2 a3 b3 a4 u1.1 sn tr u1.2 sc has (wM cI qm m1 m2 m3 m5 m6 u2.1 u2.2.1 u2.2.2 sm tk bf tx ln pl le on ot ca))) := hD
  have hB := B_undo RPp 
  rw [e1, e2] at hB
  have hq : r1 = r2 := hB.1
  have hR : RP u1 u2 := hB.2
  refine lv_icmp_eq (tgt := 789) hx hb dL_law_431 (by decide) (fun _ => ?_) (fun c9 => absurd hq c9)
  exact kk u1.1 sn tr u1.2 sc has u2.1 u2.2.1 u2.2.2 sm tk bf tx ln pl le on ot ca _ _ _ ⟨hR, Rsn, Rhas, Rsm, Rtx⟩ hP hD hS hl
set_option maxHeartbeats 4000000 in
set_option maxRecDepth 100000 in
theorem law_save (C0 : lw_At p s m meth c b L xs) (hE : EV D (tysA cI cS) s) (hSX : SX (Anew s) s s.heap) (hi4 : i + 4 ≤ L) (hL : L ≤ 2048) (R : TopR st sn hi sc has t h k sm tk tx ln) (hP : va_P D vwCl (fl (wX cI cS qx a0 a1 a2 a3 b3 a4 st sn tr hi sc has (wM cI qm m1 m2 m3 m5 m6 t h k sm tk bf tx ln pl le on ot ca))) H) (hD : va_D (Anew s) (fl (wX cI cS qx a0 a1 a2 a3 b3 a4 st sn tr hi sc has (wM cI qm m1 m2 m3 m5 m6 t h k sm tk bf tx ln pl le on ot ca)))) (hS : va_S (Anew s) s.heap H locs) (hl : lv_has ls 8 [(0, .ref b), (1, .ref qx), (2, .ref qm), (3, .int (nI i))]) (kk : LBack p l e s m b below meth c D cI cS qx qm a0 a1 a2 a3 b3 a4 m1 m2 m3 m5 m6 i Q) : W p l e room_1 s m #[Value.ref b] below meth c H locs 128 3083 Q (F0 m 436 ls []) := by
  have hkp := R.k5
  have hs := R.wc
  obtain ⟨hx, hb, hr, hml, hown, hts0, hX, hbl, hlocks, hgv⟩ := C0
  have hts : ∀ w ∈ wsL_law, w.before #[Value.ref b] s = true := fun w h => hts0 w (wsL_law_in w h)
  have hbA : ¬ Anew s b := Nat.not_le.mpr hbl
  obtain ⟨RPp, Rsn, Rhas, Rsm, Rtx⟩ := R
  have hw : WS st := RPp.1.1
  have hm : WM t := RPp.1.2.1
  have hh : WH hi := RPp.2.1
  have hbo : BL st.2.2.1 := hw.2.2
  have hbs : BL sn.2.2.1 := Rsn
  have hlb : Bd ln 80 := Rtx.2.1
  refine lv_aload_n hx hb dL_law_436 rfl (lv_at hl 1 rfl) ?_
  refine bIV (W0 := wX cI cS qx a0 a1 a2 a3 b3 a4 st sn tr hi sc has (wM cI qm m1 m2 m3 m5 m6 t h k sm tk bf tx ln pl le on ot ca)) (wc := [(qx, .inr (6, [.ref (a0 0), .ref (a1 0), .ref (a2 0), .ref (a3 0), .ref (a4 0), .int has]))] :: wSt cI a0 st :: wSt cI a1 sn :: []) (w1 := fun u : TST => [(qx, .inr (6, [.ref (a0 0), .ref (a1 0), .ref (a2 0), .ref (a3 0), .ref (a4 0), .int u.2.2]))] :: wSt cI a0 u.1 :: wSt cI a1 u.2.1 :: []) ⟨hx, hb, hml, hown, hts⟩ (kX6_save l D cI cS qx a0 a1 (a2 0) (a3 0) (a4 0) (st, sn, has) hbo) (cwV 0 hts gL_law_X6_save rfl rfl rfl (by decide +kernel) ⟨Nat.le_of_ble_eq_true rfl, Nat.le_of_ble_eq_true rfl⟩) hE hP hD hS rfl rfl [0, 1, 2] rfl rfl (fun _ => rfl) (fun _ => rfl) rfl hl.1 rfl (Nat.le_of_ble_eq_true rfl) ⟨Nat.le_of_ble_eq_true rfl, Nat.le_of_ble_eq_true rfl⟩ dL_law_437 (fun r1 u1 H locs e1 hP hD hS => ?_)
  have hP : va_P D vwCl (fl (wX cI cS qx a0 a1 a2 a3 b3 a4 u1.1 u1.2.1 tr hi sc u1.2.2 (wM cI qm m1 m2 m3 m5 m6 t h k sm tk bf tx ln pl le on ot ca))) H := hP
  have hD : va_D (Anew s) (fl (wX cI cS qx a0 a1 a2 a3 b3 a4 u1.1 u1.2.1 tr hi sc u1.2.2 (wM cI qm m1 m2 m3 m5 m6 t h k sm tk bf tx ln pl le on ot ca))) := hD
  refine lv_aload_n hx hb dL_law_440 rfl (lv_at hl 2 rfl) ?_
  refine bIV (W0 := wX cI cS qx a0 a1 a2 a3 b3 a4 u1.1 u1.2.1 tr hi sc u1.2.2 (wM cI qm m1 m2 m3 m5 m6 t h k sm tk bf tx ln pl le on ot ca)) (wc := [[(qm, .inr (7, [.ref m1, .ref m2, .int k, .ref m3, .int tk, .ref m5, .ref m6, .int ln, .int pl, .int le, .int on, .int ot, .int ca]))], [(m1, .inl (cI, 163, .inl t))], [(m3, .inl (cI, 163, .inl sm))]]) (w1 := fun u : MVT => [[(qm, .inr (7, [.ref m1, .ref m2, .int k, .ref m3, .int u.2.2, .ref m5, .ref m6, .int ln, .int pl, .int le, .int on, .int ot, .int ca]))], [(m1, .inl (cI, 163, .inl u.1))], [(m3, .inl (cI, 163, .inl u.2.1))]]) ⟨hx, hb, hml, hown, hts⟩ (kX7_save l D cI cS qm m1 m3 m2 k m5 m6 ln pl le on ot ca (t, sm, tk)) (cwV 0 hts gL_law_X7_save rfl rfl rfl (by decide +kernel) ⟨Nat.le_of_ble_eq_true rfl, Nat.le_of_ble_eq_true rfl⟩) hE hP hD hS rfl rfl [13, 14, 16] rfl rfl (fun _ => rfl) (fun _ => rfl) rfl hl.1 rfl (Nat.le_of_ble_eq_true rfl) ⟨Nat.le_of_ble_eq_true rfl, Nat.le_of_ble_eq_true rfl⟩ dL_law_441 (fun r2 u2 H locs e2 hP hD hS => ?_)
  have hP : va_P D vwCl (fl (wX cI cS qx a0 a1 a2 a3 b3 a4 u1.1 u1.2.1 tr hi sc u1.2.2 (wM cI qm m1 m2 m3 m5 m6 u2.1 h k u2.2.1 u2.2.2 bf tx ln pl le on ot ca))) H := hP
  have hD : va_D (Anew s) (fl (wX cI cS qx a0 a1 a2 a3 b3 a4 u1.1 u1.2.1 tr hi sc u1.2.2 (wM cI qm m1 m2 m3 m5 m6 u2.1 h k u2.2.1 u2.2.2 bf tx ln pl le on ot ca))) := hD
  have hB := B_save (τ := (st, sn, has)) (m := (t, sm, tk)) RPp.1
  rw [e1, e2] at hB
  obtain ⟨hq, g1, g2, g3, g4⟩ := hB
  have hq : r1 = r2 := hq
  have g1 : u1 = (st, st, (1 : Int32)) := g1
  have g2 : u2.1 = t := g2
  have g3 : u2.2.2 = (1 : Int32) := g3
  have g4 : RS st u2.2.1 := g4
  refine lv_icmp_eq (tgt := 789) hx hb dL_law_444 (by decide) (fun _ => ?_) (fun c9 => absurd hq c9)
  exact kk u1.1 u1.2.1 tr hi sc u1.2.2 u2.1 h k u2.2.1 u2.2.2 bf tx ln pl le on ot ca _ _ _ ⟨by rw [g1, g2]; exact RPp, by rw [g1]; exact hbo, by rw [g1, g3], fun _ => by rw [g1]; exact g4, Rtx⟩ hP hD hS hl
end LAWC
