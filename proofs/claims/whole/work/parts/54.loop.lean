/-! the law: its loop, its start -/
section LAWL
variable {p : Program} {l : Launch} {e : Env} {s : State} {m : MethodId} {below : List Frame} {meth : Method} {c : Code} {b L : Nat} {xs : Nat → Int32} {D : va_G} {cI cS : ClassId} {qx qm : Nat} {a0 a1 a2 a3 : Nat → Nat} {b3 : Nat → Nat → Nat} {a4 : Nat → Nat} {m1 m2 m3 m5 m6 : Nat} {i : Nat} {Q : State → Prop}
variable {st sn tr : StT} {hi : HiT} {sc : ScT} {has : Int32} {t h : FnI} {k : Int32} {sm : FnI} {tk : Int32} {bf tx : FnI} {ln pl le on ot ca : Int32} {H : Heap} {locs : List Loc} {ls : Array Slot}
theorem zz_l4 {i L : Nat} (hi : i ≤ L) (hL : L ≤ 2048) : (Int32.ofNat L - (4 : Int32) < nI i) ↔ ¬ i + 4 ≤ L := by
  have h1 : (Int32.ofNat L - (4 : Int32)).toInt = (L : Int) - 4 := by
    have e : (Int32.ofNat L).toInt = (L : Int) := nI_toInt (n := L) (by omega)
    rw [Int32.toInt_sub, e, show (4 : Int32).toInt = 4 from by decide]
    exact Int.bmod_eq_of_le (by omega) (by omega)
  rw [Int32.lt_iff_toInt_lt, h1, nI_toInt (by omega)]
  omega
set_option maxHeartbeats 4000000 in
set_option maxRecDepth 100000 in
theorem law_switch (C0 : lw_At p s m meth c b L xs) (hE : EV D (tysA cI cS) s) (hSX : SX (Anew s) s s.heap) (hi4 : i + 4 ≤ L) (hL : L ≤ 2048) (R : TopR st sn hi sc has t h k sm tk tx ln) (hP : va_P D vwCl (fl (wX cI cS qx a0 a1 a2 a3 b3 a4 st sn tr hi sc has (wM cI qm m1 m2 m3 m5 m6 t h k sm tk bf tx ln pl le on ot ca))) H) (hD : va_D (Anew s) (fl (wX cI cS qx a0 a1 a2 a3 b3 a4 st sn tr hi sc has (wM cI qm m1 m2 m3 m5 m6 t h k sm tk bf tx ln pl le on ot ca)))) (hS : va_S (Anew s) s.heap H locs) (hl : lv_has ls 8 [(0, .ref b), (1, .ref qx), (2, .ref qm), (3, .int (nI i))]) (kk : LBack p l e s m b below meth c D cI cS qx qm a0 a1 a2 a3 b3 a4 m1 m2 m3 m5 m6 i Q) (z : Int32) : W p l e room_1 s m #[Value.ref b] below meth c H locs 128 3083 Q (F0 m 32 ls [.int z]) := by
  have hx := C0.1
  have hb := C0.2.1
  by_cases c0 : z = (0 : Int32)
  · refine lv_tableIn (off := 132) (tgt := 164) hx hb dL_law_32 (by rw [c0]; decide +kernel) (by rw [c0]; decide +kernel) (by rw [c0]; decide +kernel) (by decide) ?_
    exact law_put C0 hE hSX hi4 hL R hP hD hS hl kk
  by_cases c1 : z = (1 : Int32)
  · refine lv_tableIn (off := 165) (tgt := 197) hx hb dL_law_32 (by rw [c1]; decide +kernel) (by rw [c1]; decide +kernel) (by rw [c1]; decide +kernel) (by decide) ?_
    exact law_erase C0 hE hSX hi4 hL R hP hD hS hl kk
  by_cases c2 : z = (2 : Int32)
  · refine lv_tableIn (off := 188) (tgt := 220) hx hb dL_law_32 (by rw [c2]; decide +kernel) (by rw [c2]; decide +kernel) (by rw [c2]; decide +kernel) (by decide) ?_
    exact law_begin C0 hE hSX hi4 hL R hP hD hS hl kk
  by_cases c3 : z = (3 : Int32)
  · refine lv_tableIn (off := 221) (tgt := 253) hx hb dL_law_32 (by rw [c3]; decide +kernel) (by rw [c3]; decide +kernel) (by rw [c3]; decide +kernel) (by decide) ?_
    exact law_tick C0 hE hSX hi4 hL R hP hD hS hl kk
  by_cases c4 : z = (4 : Int32)
  · refine lv_tableIn (off := 244) (tgt := 276) hx hb dL_law_32 (by rw [c4]; decide +kernel) (by rw [c4]; decide +kernel) (by rw [c4]; decide +kernel) (by decide) ?_
    exact law_lock C0 hE hSX hi4 hL R hP hD hS hl kk
  by_cases c5 : z = (5 : Int32)
  · refine lv_tableIn (off := 257) (tgt := 289) hx hb dL_law_32 (by rw [c5]; decide +kernel) (by rw [c5]; decide +kernel) (by rw [c5]; decide +kernel) (by decide) ?_
    exact law_unlock C0 hE hSX hi4 hL R hP hD hS hl kk
  by_cases c6 : z = (6 : Int32)
  · refine lv_tableIn (off := 270) (tgt := 302) hx hb dL_law_32 (by rw [c6]; decide +kernel) (by rw [c6]; decide +kernel) (by rw [c6]; decide +kernel) (by decide) ?_
    exact law_swap C0 hE hSX hi4 hL R hP hD hS hl kk
  by_cases c7 : z = (7 : Int32)
  · refine lv_tableIn (off := 283) (tgt := 315) hx hb dL_law_32 (by rw [c7]; decide +kernel) (by rw [c7]; decide +kernel) (by rw [c7]; decide +kernel) (by decide) ?_
    exact law_giveUp C0 hE hSX hi4 hL R hP hD hS hl kk
  by_cases c8 : z = (8 : Int32)
  · refine lv_tableIn (off := 296) (tgt := 328) hx hb dL_law_32 (by rw [c8]; decide +kernel) (by rw [c8]; decide +kernel) (by rw [c8]; decide +kernel) (by decide) ?_
    exact law_set C0 hE hSX hi4 hL R hP hD hS hl kk
  by_cases c9 : z = (9 : Int32)
  · refine lv_tableIn (off := 329) (tgt := 361) hx hb dL_law_32 (by rw [c9]; decide +kernel) (by rw [c9]; decide +kernel) (by rw [c9]; decide +kernel) (by decide) ?_
    exact law_append C0 hE hSX hi4 hL R hP hD hS hl kk
  by_cases c10 : z = (10 : Int32)
  · refine lv_tableIn (off := 352) (tgt := 384) hx hb dL_law_32 (by rw [c10]; decide +kernel) (by rw [c10]; decide +kernel) (by rw [c10]; decide +kernel) (by decide) ?_
    exact law_clearText C0 hE hSX hi4 hL R hP hD hS hl kk
  by_cases c11 : z = (11 : Int32)
  · refine lv_tableIn (off := 365) (tgt := 397) hx hb dL_law_32 (by rw [c11]; decide +kernel) (by rw [c11]; decide +kernel) (by rw [c11]; decide +kernel) (by decide) ?_
    exact law_fault C0 hE hSX hi4 hL R hP hD hS hl kk
  by_cases c12 : z = (12 : Int32)
  · refine lv_tableIn (off := 378) (tgt := 410) hx hb dL_law_32 (by rw [c12]; decide +kernel) (by rw [c12]; decide +kernel) (by rw [c12]; decide +kernel) (by decide) ?_
    exact law_run C0 hE hSX hi4 hL R hP hD hS hl kk
  by_cases c13 : z = (13 : Int32)
  · refine lv_tableIn (off := 391) (tgt := 423) hx hb dL_law_32 (by rw [c13]; decide +kernel) (by rw [c13]; decide +kernel) (by rw [c13]; decide +kernel) (by decide) ?_
    exact law_undo C0 hE hSX hi4 hL R hP hD hS hl kk
  by_cases c14 : z = (14 : Int32)
  · refine lv_tableIn (off := 404) (tgt := 436) hx hb dL_law_32 (by rw [c14]; decide +kernel) (by rw [c14]; decide +kernel) (by rw [c14]; decide +kernel) (by decide) ?_
    exact law_save C0 hE hSX hi4 hL R hP hD hS hl kk
  by_cases c15 : z = (15 : Int32)
  · refine lv_tableIn (off := 417) (tgt := 449) hx hb dL_law_32 (by rw [c15]; decide +kernel) (by rw [c15]; decide +kernel) (by rw [c15]; decide +kernel) (by decide) ?_
    exact law_restore C0 hE hSX hi4 hL R hP hD hS hl kk
  by_cases c16 : z = (16 : Int32)
  · refine lv_tableIn (off := 430) (tgt := 462) hx hb dL_law_32 (by rw [c16]; decide +kernel) (by rw [c16]; decide +kernel) (by rw [c16]; decide +kernel) (by decide) ?_
    exact law_value C0 hE hSX hi4 hL R hP hD hS hl kk
  by_cases c17 : z = (17 : Int32)
  · refine lv_tableIn (off := 463) (tgt := 495) hx hb dL_law_32 (by rw [c17]; decide +kernel) (by rw [c17]; decide +kernel) (by rw [c17]; decide +kernel) (by decide) ?_
    exact law_table C0 hE hSX hi4 hL R hP hD hS hl kk
  by_cases c18 : z = (18 : Int32)
  · refine lv_tableIn (off := 496) (tgt := 528) hx hb dL_law_32 (by rw [c18]; decide +kernel) (by rw [c18]; decide +kernel) (by rw [c18]; decide +kernel) (by decide) ?_
    exact law_copy C0 hE hSX hi4 hL R hP hD hS hl kk
  by_cases c19 : z = (19 : Int32)
  · refine lv_tableIn (off := 519) (tgt := 551) hx hb dL_law_32 (by rw [c19]; decide +kernel) (by rw [c19]; decide +kernel) (by rw [c19]; decide +kernel) (by decide) ?_
    exact law_entry C0 hE hSX hi4 hL R hP hD hS hl kk
  by_cases c20 : z = (20 : Int32)
  · refine lv_tableIn (off := 552) (tgt := 584) hx hb dL_law_32 (by rw [c20]; decide +kernel) (by rw [c20]; decide +kernel) (by rw [c20]; decide +kernel) (by decide) ?_
    exact law_changed C0 hE hSX hi4 hL R hP hD hS hl kk
  by_cases c21 : z = (21 : Int32)
  · refine lv_tableIn (off := 595) (tgt := 627) hx hb dL_law_32 (by rw [c21]; decide +kernel) (by rw [c21]; decide +kernel) (by rw [c21]; decide +kernel) (by decide) ?_
    exact law_differences C0 hE hSX hi4 hL R hP hD hS hl kk
  by_cases c22 : z = (22 : Int32)
  · refine lv_tableIn (off := 608) (tgt := 640) hx hb dL_law_32 (by rw [c22]; decide +kernel) (by rw [c22]; decide +kernel) (by rw [c22]; decide +kernel) (by decide) ?_
    exact law_firstDifference C0 hE hSX hi4 hL R hP hD hS hl kk
  by_cases c23 : z = (23 : Int32)
  · refine lv_tableIn (off := 621) (tgt := 653) hx hb dL_law_32 (by rw [c23]; decide +kernel) (by rw [c23]; decide +kernel) (by rw [c23]; decide +kernel) (by decide) ?_
    exact law_setting C0 hE hSX hi4 hL R hP hD hS hl kk
  by_cases c24 : z = (24 : Int32)
  · refine lv_tableIn (off := 644) (tgt := 676) hx hb dL_law_32 (by rw [c24]; decide +kernel) (by rw [c24]; decide +kernel) (by rw [c24]; decide +kernel) (by decide) ?_
    exact law_total C0 hE hSX hi4 hL R hP hD hS hl kk
  by_cases c25 : z = (25 : Int32)
  · refine lv_tableIn (off := 667) (tgt := 699) hx hb dL_law_32 (by rw [c25]; decide +kernel) (by rw [c25]; decide +kernel) (by rw [c25]; decide +kernel) (by decide) ?_
    exact law_states C0 hE hSX hi4 hL R hP hD hS hl kk
  by_cases c26 : z = (26 : Int32)
  · refine lv_tableIn (off := 680) (tgt := 712) hx hb dL_law_32 (by rw [c26]; decide +kernel) (by rw [c26]; decide +kernel) (by rw [c26]; decide +kernel) (by decide) ?_
    exact law_readyIn C0 hE hSX hi4 hL R hP hD hS hl kk
  by_cases c27 : z = (27 : Int32)
  · refine lv_tableIn (off := 693) (tgt := 725) hx hb dL_law_32 (by rw [c27]; decide +kernel) (by rw [c27]; decide +kernel) (by rw [c27]; decide +kernel) (by decide) ?_
    exact law_leastLot C0 hE hSX hi4 hL R hP hD hS hl kk
  by_cases c28 : z = (28 : Int32)
  · refine lv_tableIn (off := 716) (tgt := 748) hx hb dL_law_32 (by rw [c28]; decide +kernel) (by rw [c28]; decide +kernel) (by rw [c28]; decide +kernel) (by decide) ?_
    exact law_progress C0 hE hSX hi4 hL R hP hD hS hl kk
  refine xtabD (tgt := 789) hx hb dL_law_32 (xno_cons (a := 0) c0 (by decide) (xno_cons (a := 1) c1 (by decide) (xno_cons (a := 2) c2 (by decide) (xno_cons (a := 3) c3 (by decide) (xno_cons (a := 4) c4 (by decide) (xno_cons (a := 5) c5 (by decide) (xno_cons (a := 6) c6 (by decide) (xno_cons (a := 7) c7 (by decide) (xno_cons (a := 8) c8 (by decide) (xno_cons (a := 9) c9 (by decide) (xno_cons (a := 10) c10 (by decide) (xno_cons (a := 11) c11 (by decide) (xno_cons (a := 12) c12 (by decide) (xno_cons (a := 13) c13 (by decide) (xno_cons (a := 14) c14 (by decide) (xno_cons (a := 15) c15 (by decide) (xno_cons (a := 16) c16 (by decide) (xno_cons (a := 17) c17 (by decide) (xno_cons (a := 18) c18 (by decide) (xno_cons (a := 19) c19 (by decide) (xno_cons (a := 20) c20 (by decide) (xno_cons (a := 21) c21 (by decide) (xno_cons (a := 22) c22 (by decide) (xno_cons (a := 23) c23 (by decide) (xno_cons (a := 24) c24 (by decide) (xno_cons (a := 25) c25 (by decide) (xno_cons (a := 26) c26 (by decide) (xno_cons (a := 27) c27 (by decide) (xno_cons (a := 28) c28 (by decide) xno_nil))))))))))))))))))))))))))))) (by decide +kernel) (by decide) ?_
  exact kk st sn tr hi sc has t h k sm tk bf tx ln pl le on ot ca _ _ _ R hP hD hS hl
end LAWL
set_option maxHeartbeats 4000000 in
set_option maxRecDepth 100000 in
theorem law_loop {p : Program} {l : Launch} {e : Env} {s : State} {m : MethodId} {below : List Frame} {meth : Method} {c : Code} {b L : Nat} {xs : Nat → Int32} {D : va_G} {cI cS : ClassId} {qx qm : Nat} {a0 a1 a2 a3 : Nat → Nat} {b3 : Nat → Nat → Nat} {a4 : Nat → Nat} {m1 m2 m3 m5 m6 : Nat} (hL : L ≤ 2048) (C0 : lw_At p s m meth c b L xs) (hE : EV D (tysA cI cS) s) (hSX : SX (Anew s) s s.heap) : ∀ (n i : Nat), i ≤ L → L + 1 ≤ i + n → ∀ (st sn tr : StT) (hi : HiT) (sc : ScT) (has : Int32) (t h : FnI) (k : Int32) (sm : FnI) (tk : Int32) (bf tx : FnI) (ln pl le on ot ca : Int32) (H : Heap) (locs : List Loc) (ls : Array Slot), TopR st sn hi sc has t h k sm tk tx ln → va_P D vwCl (fl (wX cI cS qx a0 a1 a2 a3 b3 a4 st sn tr hi sc has (wM cI qm m1 m2 m3 m5 m6 t h k sm tk bf tx ln pl le on ot ca))) H → va_D (Anew s) (fl (wX cI cS qx a0 a1 a2 a3 b3 a4 st sn tr hi sc has (wM cI qm m1 m2 m3 m5 m6 t h k sm tk bf tx ln pl le on ot ca))) → va_S (Anew s) s.heap H locs → lv_has ls 8 [(0, .ref b), (1, .ref qx), (2, .ref qm), (3, .int (nI i))] → W p l e room_1 s m #[Value.ref b] below meth c H locs 128 3083 (lw_Z below #[Value.ref b] s) (F0 m 18 ls []) := by
  have C1 := C0
  obtain ⟨hx, hb, hr, hml, hown, hts0, hX, hbl, hlocks, hgv⟩ := C0
  have hbA : ¬ Anew s b := Nat.not_le.mpr hbl
  intro n
  induction n with
  | zero =>
    intro i h1 h2
    exact absurd h2 (by omega)
  | succ n ih =>
    intro i hiL hin st sn tr hi sc has t h k sm tk bf tx ln pl le on ot ca H locs ls R hP hD hS hl
    refine lv_iload_n hx hb dL_law_18 rfl (lv_at hl 3 rfl) ?_
    refine lv_aload_n hx hb dL_law_19 rfl (lv_at hl 0 rfl) ?_
    refine va_slen hx hb hX hbl hbA hS dL_law_20 ?_
    refine lv_iconst (v := (4 : Int32)) hx hb dL_law_21 (by decide +kernel) ?_
    refine lv_isub hx hb dL_law_22 ?_
    refine lv_icmp_gt (tgt := 795) hx hb dL_law_23 (by decide) (fun c_23 => ?_) (fun c_23 => ?_)
    · refine lv_iconst (v := 1) hx hb dL_law_795 (by decide +kernel) ?_
      refine va_forget (fun q hq => hS.2.2 q hq) ?_
      refine W.widen (k := 600000) (n := 7302250) (Nat.le_of_ble_eq_true rfl) (Nat.le_of_ble_eq_true rfl) ?_
      refine W.base ?_
      exact lw_ret (Drawn.sameBut.refl s.drawn lw_cs) hx hb hr hlocks dL_law_796
    · have hi4 : i + 4 ≤ L := Decidable.of_not_not (fun q => c_23 ((zz_l4 hiL hL).mpr q))
      refine lv_aload_n hx hb dL_law_26 rfl (lv_at hl 0 rfl) ?_
      refine lv_iload_n hx hb dL_law_27 rfl (lv_at hl 3 rfl) ?_
      refine va_sld hx hb hX hbl hbA hS (vp_in_nI (by omega) (by omega)) dL_law_28 ?_
      refine lv_bipush (v := (31 : Int32)) hx hb dL_law_29 (by decide +kernel) ?_
      refine lv_iand hx hb dL_law_31 ?_
      refine law_switch C1 hE hSX hi4 hL R hP hD hS hl ?_ _
      intro st sn tr hi sc has t h k sm tk bf tx ln pl le on ot ca H locs ls R hP hD hS hl
      refine lv_iinc (v := (nI (i + 4))) (lv' := [(3, .int (nI (i + 4))), (0, .ref b), (1, .ref qx), (2, .ref qm)]) hx hb dL_law_789 hl (k := 3) rfl (show nI i + (4 : Int32) = nI (i + 4) from nI_add i 4) (by decide) rfl (fun ls hl => ?_)
      refine lv_goto (tgt := 18) hx hb dL_law_792 (by decide) ?_
      exact ih (i + 4) (by omega) (by omega) st sn tr hi sc has t h k sm tk bf tx ln pl le on ot ca H locs ls R hP hD hS (lv_sub hl [1, 2, 3, 0] rfl)
