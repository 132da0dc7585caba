set_option maxHeartbeats 8000000 in
set_option maxRecDepth 100000 in
theorem kL_due (l : Launch) (D : va_G) (cI cS : ClassId) (qx : Nat) (a0 a1 a2 a3 : Nat → Nat) (a4 : Nat → Nat) (has : Int32) {e0 : Nat} (st : StT) (hI : IV e0 st) (h0 : ¬ st.2.2.2.1.2.2.1 = (0 : Int32)) (k : Nat) (hk : k < 32) : KR l yL_due wsL_due { frames := 3, cells := 0, slots := 0, locals := 65 } D (tysA cI cS) [.ref qx, .int (nI k)] (fl ([(qx, .inr (6, [.ref (a0 0), .ref (a1 0), .ref (a2 0), .ref (a3 0), .ref (a4 0), .int has]))] :: wSt cI a0 st :: [])) (chg st.2.2.2.1.2.2.2.1 k (st.1 k)) := by
  refine KR.of (cc := cL_due) (maxL := 3) (ty := .int) (by decide) rfl (Nat.le_of_ble_eq_true rfl) rfl (fun p e s m args below meth c ls Q hx hb hml hown hts hE hP hl hend => ?_)
  have hown : s.vm.findClass RL = some m.cls := hown
  have hl : lv_has ls 3 [(0, .ref qx), (1, .int (nI k))] := hl
  have hr : RW (st.1 k) := hI.1.2.2.2.1 k hk
  refine lv_aload_n hx hb dL_due_0 rfl (lv_at hl 0 rfl) ?_
  refine lv_iconst (v := (0 : Int32)) hx hb dL_due_1 (by decide +kernel) ?_
  refine lv_iload_n hx hb dL_due_2 rfl (lv_at hl 1 rfl) ?_
  refine bRV (W0 := [(qx, .inr (6, [.ref (a0 0), .ref (a1 0), .ref (a2 0), .ref (a3 0), .ref (a4 0), .int has]))] :: wSt cI a0 st :: []) (wc := [(qx, .inr (6, [.ref (a0 0), .ref (a1 0), .ref (a2 0), .ref (a3 0), .ref (a4 0), .int has]))] :: wSt cI a0 st :: []) (r := (st.1 k)) ⟨hx, hb, hml, hown, hts⟩ (KR.eq (kX6_value l D cI cS qx a0 (a1 0) (a2 0) (a3 0) (a4 0) has (0 : Int32) (nI k) st) (val_0 hk)) (cwV 2 hts gL_due_X6_value rfl rfl rfl (by decide +kernel) ⟨Nat.le_of_ble_eq_true rfl, Nat.le_of_ble_eq_true rfl⟩) hE hP rfl rfl [0, 1] rfl rfl rfl hl.1 rfl (Nat.le_of_ble_eq_true rfl) ⟨Nat.le_of_ble_eq_true rfl, Nat.le_of_ble_eq_true rfl⟩ dL_due_3 ?_
  refine lv_istore_n (lv' := [(2, .int ((st.1 k))), (0, .ref qx), (1, .int ((nI k)))]) hx hb dL_due_6 rfl hl (by decide) rfl (fun ls hl => ?_)
  refine lv_iload_n hx hb dL_due_7 rfl (lv_at hl 0 rfl) ?_
  refine lv_if_ge (tgt := 16) hx hb dL_due_8 (by decide) (fun c_8 => ?_) (fun c_8 => ?_)
  · refine lv_aload_n hx hb dL_due_16 rfl (lv_at hl 1 rfl) ?_
    refine lv_aload_n hx hb dL_due_17 rfl (lv_at hl 1 rfl) ?_
    refine lv_iconst (v := (1 : Int32)) hx hb dL_due_18 (by decide +kernel) ?_
    refine bRV (W0 := [(qx, .inr (6, [.ref (a0 0), .ref (a1 0), .ref (a2 0), .ref (a3 0), .ref (a4 0), .int has]))] :: wSt cI a0 st :: []) (wc := [(qx, .inr (6, [.ref (a0 0), .ref (a1 0), .ref (a2 0), .ref (a3 0), .ref (a4 0), .int has]))] :: wSt cI a0 st :: []) (r := st.2.2.2.1.2.2.2.1) ⟨hx, hb, hml, hown, hts⟩ (KR.eq (kX6_copy l D cI cS qx a0 (a1 0) (a2 0) (a3 0) (a4 0) has (1 : Int32) st) (cp_1 h0)) (cwV 1 hts gL_due_X6_copy rfl rfl rfl (by decide +kernel) ⟨Nat.le_of_ble_eq_true rfl, Nat.le_of_ble_eq_true rfl⟩) hE hP rfl rfl [0, 1] rfl rfl rfl hl.1 rfl (Nat.le_of_ble_eq_true rfl) ⟨Nat.le_of_ble_eq_true rfl, Nat.le_of_ble_eq_true rfl⟩ dL_due_19 ?_
    refine lv_iload_n hx hb dL_due_22 rfl (lv_at hl 2 rfl) ?_
    refine lv_iload_n hx hb dL_due_23 rfl (lv_at hl 0 rfl) ?_
    refine cRV (W0 := fl ([(qx, .inr (6, [.ref (a0 0), .ref (a1 0), .ref (a2 0), .ref (a3 0), .ref (a4 0), .int has]))] :: wSt cI a0 st :: [])) (r := (chg st.2.2.2.1.2.2.2.1 k (st.1 k))) ⟨hx, hb, hml, hown, hts⟩ (KR.eq (kX6_changed l D cI cS qx st.2.2.2.1.2.2.2.1 (nI k) (st.1 k)) (chd_is (hI.cp h0).1 hk (rw_pos hr (Int32.not_lt.mpr c_8)))) (cwV 3 hts gL_due_X6_changed rfl rfl rfl (by decide +kernel) ⟨Nat.le_of_ble_eq_true rfl, Nat.le_of_ble_eq_true rfl⟩) hE hP 0 rfl rfl [] rfl rfl hl.1 rfl (Nat.le_of_ble_eq_true rfl) ⟨Nat.le_of_ble_eq_true rfl, Nat.le_of_ble_eq_true rfl⟩ dL_due_24 ?_
    exact hend _ _ _ dL_due_27 rfl rfl
  · refine lv_bipush (v := (-5 : Int32)) hx hb dL_due_11 (by decide +kernel) ?_
    refine lv_goto (tgt := 27) hx hb dL_due_13 (by decide) ?_
    exact hend _ _ _ dL_due_27 rfl (by rw [rw_neg hr (Int32.not_le.mp c_8)]; exact chg_none _ _)
def taA (st : StT) : Nat → Nat → Int64 → Int64
  | 0, _, x => x
  | n + 1, k, x => taA st n (k + 1) (((31 : Int64) * x) + ((fX6_value ((nI k) / (32 : Int32)) ((nI k) - (nI k) / (32 : Int32) * (32 : Int32)) st)).toInt64)
def taB (st : StT) : Nat → Nat → Int64 → Int64
  | 0, _, x => x
  | n + 1, k, x => taB st n (k + 1) (((31 : Int64) * (((31 : Int64) * x) + ((fX6_total (nI k) st)).toInt64)) + (if (6 : Int32) ≤ nI k then (0 : Int32) else (fX6_copy (nI k) st)).toInt64)
def taC (st : StT) : Nat → Nat → Int64 → Int64
  | 0, _, x => x
  | n + 1, k, x => taC st n (k + 1) (((31 : Int64) * x) + ((fX6_entry ((nI k) / (2 : Int32)) ((nI k) - (nI k) / (2 : Int32) * (2 : Int32)) st)).toInt64)
def taD (st : StT) (x : Int64) : Int64 := (((31 : Int64) * (((31 : Int64) * (((31 : Int64) * (((31 : Int64) * x) + ((fX6_setting (0 : Int32) st)).toInt64)) + ((fX6_setting (1 : Int32) st)).toInt64)) + ((fX6_setting (2 : Int32) st)).toInt64)) + ((fX6_setting (3 : Int32) st)).toInt64)
def taF (st : StT) : Int64 := taD st (taC st 48 0 (taB st 8 0 (taA st 96 0 (17 : Int64))))
theorem taB_t (st : StT) (n k : Nat) (x : Int64) (c : (6 : Int32) ≤ nI k) : taB st (n + 1) k x = taB st n (k + 1) (((31 : Int64) * (((31 : Int64) * x) + ((fX6_total (nI k) st)).toInt64)) + ((0 : Int32)).toInt64) := by
  conv => lhs; unfold taB
  rw [if_pos c]
theorem taB_f (st : StT) (n k : Nat) (x : Int64) (c : ¬ (6 : Int32) ≤ nI k) : taB st (n + 1) k x = taB st n (k + 1) (((31 : Int64) * (((31 : Int64) * x) + ((fX6_total (nI k) st)).toInt64)) + ((fX6_copy (nI k) st)).toInt64) := by
  conv => lhs; unfold taB
  rw [if_neg c]
set_option maxHeartbeats 8000000 in
set_option maxRecDepth 100000 in
theorem kL_tale (l : Launch) (D : va_G) (cI cS : ClassId) (qx : Nat) (a0 a1 a2 a3 : Nat → Nat) (a4 : Nat → Nat) (has : Int32) (st : StT) (hw : WS st) : KL l yL_tale wsL_tale { frames := 3, cells := 0, slots := 0, locals := 65 } D (tysA cI cS) [.ref qx] (fl ([(qx, .inr (6, [.ref (a0 0), .ref (a1 0), .ref (a2 0), .ref (a3 0), .ref (a4 0), .int has]))] :: wSt cI a0 st :: [])) (taF st) := by
  refine KL.of (cc := cL_tale) (maxL := 4) (by decide) rfl (Nat.le_of_ble_eq_true rfl) rfl (fun p e s m args below meth c ls Q hx hb hml hown hts hE hP hl hend => ?_)
  have hown : s.vm.findClass RL = some m.cls := hown
  have hl : lv_has ls 4 [(0, .ref qx)] := hl
  have loop_88 : ∀ (n k : Nat) (x : Int64), k + n = 48 → taF st = taD st (taC st n k x) → ∀ ls : Array Slot, lv_has ls 4 [(3, .int (nI k)), (1, .long x), (0, .ref qx)] → W p l e { frames := 3, cells := 0, slots := 0, locals := 65 } s m args below meth c s.heap [] 0 0 Q (F0 m 88 ls []) := by
    intro n
    induction n with
    | zero =>
      intro k x hk hF ls hl
      refine lv_iload_n hx hb dL_tale_88 rfl (lv_at hl 0 rfl) ?_
      refine lv_bipush (v := (48 : Int32)) hx hb dL_tale_89 (by decide +kernel) ?_
      refine lv_icmp_ge (tgt := 118) hx hb dL_tale_91 (by decide) (fun _ => ?_) (fun c => absurd (show (48 : Int32) ≤ (nI k) from nI_le (a := 48) (by omega) (by omega)) c)
      refine lv_ldc2 (own := RL) (index := 52) (v := (31 : Int64)) hx hb hown (hts (.constantLong RL 52 (31)) (List.mem_of_getElem? (i := 2) rfl)) dL_tale_118 ?_
      refine lv_ldc2 (own := RL) (index := 52) (v := (31 : Int64)) hx hb hown (hts (.constantLong RL 52 (31)) (List.mem_of_getElem? (i := 2) rfl)) dL_tale_121 ?_
      refine lv_ldc2 (own := RL) (index := 52) (v := (31 : Int64)) hx hb hown (hts (.constantLong RL 52 (31)) (List.mem_of_getElem? (i := 2) rfl)) dL_tale_124 ?_
      refine lv_ldc2 (own := RL) (index := 52) (v := (31 : Int64)) hx hb hown (hts (.constantLong RL 52 (31)) (List.mem_of_getElem? (i := 2) rfl)) dL_tale_127 ?_
      refine lv_lload_n hx hb dL_tale_130 rfl (lv_at hl 1 rfl) ?_
      refine lv_lmul hx hb dL_tale_131 ?_
      refine lv_aload_n hx hb dL_tale_132 rfl (lv_at hl 2 rfl) ?_
      refine lv_iconst (v := (0 : Int32)) hx hb dL_tale_133 (by decide +kernel) ?_
      refine bRV (W0 := [(qx, .inr (6, [.ref (a0 0), .ref (a1 0), .ref (a2 0), .ref (a3 0), .ref (a4 0), .int has]))] :: wSt cI a0 st :: []) (wc := [(qx, .inr (6, [.ref (a0 0), .ref (a1 0), .ref (a2 0), .ref (a3 0), .ref (a4 0), .int has]))] :: wSt cI a0 st :: []) (r := (fX6_setting ((0 : Int32)) st)) ⟨hx, hb, hml, hown, hts⟩ (kX6_setting l D cI cS qx a0 (a1 0) (a2 0) (a3 0) (a4 0) has (0 : Int32) st) (cwV 1 hts gL_tale_X6_setting rfl rfl rfl (by decide +kernel) ⟨Nat.le_of_ble_eq_true rfl, Nat.le_of_ble_eq_true rfl⟩) hE hP rfl rfl [0, 1] rfl rfl rfl hl.1 rfl (Nat.le_of_ble_eq_true rfl) ⟨Nat.le_of_ble_eq_true rfl, Nat.le_of_ble_eq_true rfl⟩ dL_tale_134 ?_
      refine lv_i2l (v := ((fX6_setting ((0 : Int32)) st)).toInt64) hx hb dL_tale_137 rfl ?_
      refine lv_ladd hx hb dL_tale_138 ?_
      refine lv_lmul hx hb dL_tale_139 ?_
      refine lv_aload_n hx hb dL_tale_140 rfl (lv_at hl 2 rfl) ?_
      refine lv_iconst (v := (1 : Int32)) hx hb dL_tale_141 (by decide +kernel) ?_
      refine bRV (W0 := [(qx, .inr (6, [.ref (a0 0), .ref (a1 0), .ref (a2 0), .ref (a3 0), .ref (a4 0), .int has]))] :: wSt cI a0 st :: []) (wc := [(qx, .inr (6, [.ref (a0 0), .ref (a1 0), .ref (a2 0), .ref (a3 0), .ref (a4 0), .int has]))] :: wSt cI a0 st :: []) (r := (fX6_setting ((1 : Int32)) st)) ⟨hx, hb, hml, hown, hts⟩ (kX6_setting l D cI cS qx a0 (a1 0) (a2 0) (a3 0) (a4 0) has (1 : Int32) st) (cwV 1 hts gL_tale_X6_setting rfl rfl rfl (by decide +kernel) ⟨Nat.le_of_ble_eq_true rfl, Nat.le_of_ble_eq_true rfl⟩) hE hP rfl rfl [0, 1] rfl rfl rfl hl.1 rfl (Nat.le_of_ble_eq_true rfl) ⟨Nat.le_of_ble_eq_true rfl, Nat.le_of_ble_eq_true rfl⟩ dL_tale_142 ?_
      refine lv_i2l (v := ((fX6_setting ((1 : Int32)) st)).toInt64) hx hb dL_tale_145 rfl ?_
      refine lv_ladd hx hb dL_tale_146 ?_
      refine lv_lmul hx hb dL_tale_147 ?_
      refine lv_aload_n hx hb dL_tale_148 rfl (lv_at hl 2 rfl) ?_
      refine lv_iconst (v := (2 : Int32)) hx hb dL_tale_149 (by decide +kernel) ?_
      refine bRV (W0 := [(qx, .inr (6, [.ref (a0 0), .ref (a1 0), .ref (a2 0), .ref (a3 0), .ref (a4 0), .int has]))] :: wSt cI a0 st :: []) (wc := [(qx, .inr (6, [.ref (a0 0), .ref (a1 0), .ref (a2 0), .ref (a3 0), .ref (a4 0), .int has]))] :: wSt cI a0 st :: []) (r := (fX6_setting ((2 : Int32)) st)) ⟨hx, hb, hml, hown, hts⟩ (kX6_setting l D cI cS qx a0 (a1 0) (a2 0) (a3 0) (a4 0) has (2 : Int32) st) (cwV 1 hts gL_tale_X6_setting rfl rfl rfl (by decide +kernel) ⟨Nat.le_of_ble_eq_true rfl, Nat.le_of_ble_eq_true rfl⟩) hE hP rfl rfl [0, 1] rfl rfl rfl hl.1 rfl (Nat.le_of_ble_eq_true rfl) ⟨Nat.le_of_ble_eq_true rfl, Nat.le_of_ble_eq_true rfl⟩ dL_tale_150 ?_
      refine lv_i2l (v := ((fX6_setting ((2 : Int32)) st)).toInt64) hx hb dL_tale_153 rfl ?_
      refine lv_ladd hx hb dL_tale_154 ?_
      refine lv_lmul hx hb dL_tale_155 ?_
      refine lv_aload_n hx hb dL_tale_156 rfl (lv_at hl 2 rfl) ?_
      refine lv_iconst (v := (3 : Int32)) hx hb dL_tale_157 (by decide +kernel) ?_
      refine bRV (W0 := [(qx, .inr (6, [.ref (a0 0), .ref (a1 0), .ref (a2 0), .ref (a3 0), .ref (a4 0), .int has]))] :: wSt cI a0 st :: []) (wc := [(qx, .inr (6, [.ref (a0 0), .ref (a1 0), .ref (a2 0), .ref (a3 0), .ref (a4 0), .int has]))] :: wSt cI a0 st :: []) (r := (fX6_setting ((3 : Int32)) st)) ⟨hx, hb, hml, hown, hts⟩ (kX6_setting l D cI cS qx a0 (a1 0) (a2 0) (a3 0) (a4 0) has (3 : Int32) st) (cwV 1 hts gL_tale_X6_setting rfl rfl rfl (by decide +kernel) ⟨Nat.le_of_ble_eq_true rfl, Nat.le_of_ble_eq_true rfl⟩) hE hP rfl rfl [0, 1] rfl rfl rfl hl.1 rfl (Nat.le_of_ble_eq_true rfl) ⟨Nat.le_of_ble_eq_true rfl, Nat.le_of_ble_eq_true rfl⟩ dL_tale_158 ?_
      refine lv_i2l (v := ((fX6_setting ((3 : Int32)) st)).toInt64) hx hb dL_tale_161 rfl ?_
      refine lv_ladd hx hb dL_tale_162 ?_
      exact hend _ _ _ dL_tale_163 hF
    | succ n ih =>
      intro k x hk hF ls hl
      refine lv_iload_n hx hb dL_tale_88 rfl (lv_at hl 0 rfl) ?_
      refine lv_bipush (v := (48 : Int32)) hx hb dL_tale_89 (by decide +kernel) ?_
      refine lv_icmp_ge (tgt := 118) hx hb dL_tale_91 (by decide) (fun c => absurd c (show ¬ (48 : Int32) ≤ (nI k) from nI_ge (b := 48) (by omega) (by omega))) (fun _ => ?_)
      refine lv_ldc2 (own := RL) (index := 52) (v := (31 : Int64)) hx hb hown (hts (.constantLong RL 52 (31)) (List.mem_of_getElem? (i := 2) rfl)) dL_tale_94 ?_
      refine lv_lload_n hx hb dL_tale_97 rfl (lv_at hl 1 rfl) ?_
      refine lv_lmul hx hb dL_tale_98 ?_
      refine lv_aload_n hx hb dL_tale_99 rfl (lv_at hl 2 rfl) ?_
      refine lv_iload_n hx hb dL_tale_100 rfl (lv_at hl 0 rfl) ?_
      refine lv_iconst (v := (2 : Int32)) hx hb dL_tale_101 (by decide +kernel) ?_
      refine lv_idiv hx hb dL_tale_102 (by decide) ?_
      refine lv_iload_n hx hb dL_tale_103 rfl (lv_at hl 0 rfl) ?_
      refine lv_iconst (v := (2 : Int32)) hx hb dL_tale_104 (by decide +kernel) ?_
      refine lv_irem hx hb dL_tale_105 (by decide) ?_
      refine bRV (W0 := [(qx, .inr (6, [.ref (a0 0), .ref (a1 0), .ref (a2 0), .ref (a3 0), .ref (a4 0), .int has]))] :: wSt cI a0 st :: []) (wc := [(qx, .inr (6, [.ref (a0 0), .ref (a1 0), .ref (a2 0), .ref (a3 0), .ref (a4 0), .int has]))] :: wSt cI a0 st :: []) (r := (fX6_entry (((nI k) / (2 : Int32))) (((nI k) - (nI k) / (2 : Int32) * (2 : Int32))) st)) ⟨hx, hb, hml, hown, hts⟩ (kX6_entry l D cI cS qx a0 (a1 0) (a2 0) (a3 0) (a4 0) has ((nI k) / (2 : Int32)) ((nI k) - (nI k) / (2 : Int32) * (2 : Int32)) st hw) (cwV 2 hts gL_tale_X6_entry rfl rfl rfl (by decide +kernel) ⟨Nat.le_of_ble_eq_true rfl, Nat.le_of_ble_eq_true rfl⟩) hE hP rfl rfl [0, 1] rfl rfl rfl hl.1 rfl (Nat.le_of_ble_eq_true rfl) ⟨Nat.le_of_ble_eq_true rfl, Nat.le_of_ble_eq_true rfl⟩ dL_tale_106 ?_
      refine lv_i2l (v := ((fX6_entry (((nI k) / (2 : Int32))) (((nI k) - (nI k) / (2 : Int32) * (2 : Int32))) st)).toInt64) hx hb dL_tale_109 rfl ?_
      refine lv_ladd hx hb dL_tale_110 ?_
      refine lv_lstore_n (lv' := [(1, .long ((((31 : Int64) * x) + ((fX6_entry (((nI k) / (2 : Int32))) (((nI k) - (nI k) / (2 : Int32) * (2 : Int32))) st)).toInt64))), (3, .int ((nI k))), (0, .ref qx)]) hx hb dL_tale_111 rfl hl (by decide) rfl (fun ls hl => ?_)
      refine lv_iinc (v := (nI (k + 1))) (lv' := [(3, .int ((nI (k + 1)))), (1, .long ((((31 : Int64) * x) + ((fX6_entry (((nI k) / (2 : Int32))) (((nI k) - (nI k) / (2 : Int32) * (2 : Int32))) st)).toInt64))), (0, .ref qx)]) hx hb dL_tale_112 hl (k := 1) rfl (nI_1 _) (by decide) rfl (fun ls hl => ?_)
      refine lv_goto (tgt := 88) hx hb dL_tale_115 (by decide) ?_
      exact ih (k + 1) (((31 : Int64) * x) + ((fX6_entry (((nI k) / (2 : Int32))) (((nI k) - (nI k) / (2 : Int32) * (2 : Int32))) st)).toInt64) (by omega) hF _ (lv_sub hl [0, 1, 2] rfl)
  have loop_40 : ∀ (n k : Nat) (x : Int64), k + n = 8 → taF st = taD st (taC st 48 0 (taB st n k x)) → ∀ ls : Array Slot, lv_has ls 4 [(3, .int (nI k)), (1, .long x), (0, .ref qx)] → W p l e { frames := 3, cells := 0, slots := 0, locals := 65 } s m args below meth c s.heap [] 0 0 Q (F0 m 40 ls []) := by
    intro n
    induction n with
    | zero =>
      intro k x hk hF ls hl
      refine lv_iload_n hx hb dL_tale_40 rfl (lv_at hl 0 rfl) ?_
      refine lv_bipush (v := (8 : Int32)) hx hb dL_tale_41 (by decide +kernel) ?_
      refine lv_icmp_ge (tgt := 86) hx hb dL_tale_43 (by decide) (fun _ => ?_) (fun c => absurd (show (8 : Int32) ≤ (nI k) from nI_le (a := 8) (by omega) (by omega)) c)
      refine lv_iconst (v := (0 : Int32)) hx hb dL_tale_86 (by decide +kernel) ?_
      refine lv_istore_n (lv' := [(3, .int ((0 : Int32))), (1, .long x), (0, .ref qx)]) hx hb dL_tale_87 rfl hl (by decide) rfl (fun ls hl => ?_)
      exact loop_88 48 0 x (by omega) hF _ (lv_sub hl [0, 1, 2] rfl)
    | succ n ih =>
      intro k x hk hF ls hl
      refine lv_iload_n hx hb dL_tale_40 rfl (lv_at hl 0 rfl) ?_
      refine lv_bipush (v := (8 : Int32)) hx hb dL_tale_41 (by decide +kernel) ?_
      refine lv_icmp_ge (tgt := 86) hx hb dL_tale_43 (by decide) (fun c => absurd c (show ¬ (8 : Int32) ≤ (nI k) from nI_ge (b := 8) (by omega) (by omega))) (fun _ => ?_)
      refine lv_ldc2 (own := RL) (index := 52) (v := (31 : Int64)) hx hb hown (hts (.constantLong RL 52 (31)) (List.mem_of_getElem? (i := 2) rfl)) dL_tale_46 ?_
      refine lv_ldc2 (own := RL) (index := 52) (v := (31 : Int64)) hx hb hown (hts (.constantLong RL 52 (31)) (List.mem_of_getElem? (i := 2) rfl)) dL_tale_49 ?_
      refine lv_lload_n hx hb dL_tale_52 rfl (lv_at hl 1 rfl) ?_
      refine lv_lmul hx hb dL_tale_53 ?_
      refine lv_aload_n hx hb dL_tale_54 rfl (lv_at hl 2 rfl) ?_
      refine lv_iload_n hx hb dL_tale_55 rfl (lv_at hl 0 rfl) ?_
      refine bRV (W0 := [(qx, .inr (6, [.ref (a0 0), .ref (a1 0), .ref (a2 0), .ref (a3 0), .ref (a4 0), .int has]))] :: wSt cI a0 st :: []) (wc := [(qx, .inr (6, [.ref (a0 0), .ref (a1 0), .ref (a2 0), .ref (a3 0), .ref (a4 0), .int has]))] :: wSt cI a0 st :: []) (r := (fX6_total ((nI k)) st)) ⟨hx, hb, hml, hown, hts⟩ (kX6_total l D cI cS qx a0 (a1 0) (a2 0) (a3 0) (a4 0) has (nI k) st) (cwV 1 hts gL_tale_X6_total rfl rfl rfl (by decide +kernel) ⟨Nat.le_of_ble_eq_true rfl, Nat.le_of_ble_eq_true rfl⟩) hE hP rfl rfl [0, 1] rfl rfl rfl hl.1 rfl (Nat.le_of_ble_eq_true rfl) ⟨Nat.le_of_ble_eq_true rfl, Nat.le_of_ble_eq_true rfl⟩ dL_tale_56 ?_
      refine lv_i2l (v := ((fX6_total ((nI k)) st)).toInt64) hx hb dL_tale_59 rfl ?_
      refine lv_ladd hx hb dL_tale_60 ?_
      refine lv_lmul hx hb dL_tale_61 ?_
      refine lv_iload_n hx hb dL_tale_62 rfl (lv_at hl 0 rfl) ?_
      refine lv_bipush (v := (6 : Int32)) hx hb dL_tale_63 (by decide +kernel) ?_
      refine lv_icmp_ge (tgt := 76) hx hb dL_tale_65 (by decide) (fun c_65 => ?_) (fun c_65 => ?_)
      · refine lv_iconst (v := (0 : Int32)) hx hb dL_tale_76 (by decide +kernel) ?_
        refine lv_i2l (v := ((0 : Int32)).toInt64) hx hb dL_tale_77 rfl ?_
        refine lv_ladd hx hb dL_tale_78 ?_
        refine lv_lstore_n (lv' := [(1, .long ((((31 : Int64) * (((31 : Int64) * x) + ((fX6_total ((nI k)) st)).toInt64)) + ((0 : Int32)).toInt64))), (3, .int ((nI k))), (0, .ref qx)]) hx hb dL_tale_79 rfl hl (by decide) rfl (fun ls hl => ?_)
        refine lv_iinc (v := (nI (k + 1))) (lv' := [(3, .int ((nI (k + 1)))), (1, .long ((((31 : Int64) * (((31 : Int64) * x) + ((fX6_total ((nI k)) st)).toInt64)) + ((0 : Int32)).toInt64))), (0, .ref qx)]) hx hb dL_tale_80 hl (k := 1) rfl (nI_1 _) (by decide) rfl (fun ls hl => ?_)
        refine lv_goto (tgt := 40) hx hb dL_tale_83 (by decide) ?_
        exact ih (k + 1) (((31 : Int64) * (((31 : Int64) * x) + ((fX6_total ((nI k)) st)).toInt64)) + ((0 : Int32)).toInt64) (by omega) (hF.trans (congrArg (fun z => taD st (taC st 48 0 z)) (taB_t st n k x c_65))) _ (lv_sub hl [0, 1, 2] rfl)
      · refine lv_aload_n hx hb dL_tale_68 rfl (lv_at hl 2 rfl) ?_
        refine lv_iload_n hx hb dL_tale_69 rfl (lv_at hl 0 rfl) ?_
        refine bRV (W0 := [(qx, .inr (6, [.ref (a0 0), .ref (a1 0), .ref (a2 0), .ref (a3 0), .ref (a4 0), .int has]))] :: wSt cI a0 st :: []) (wc := [(qx, .inr (6, [.ref (a0 0), .ref (a1 0), .ref (a2 0), .ref (a3 0), .ref (a4 0), .int has]))] :: wSt cI a0 st :: []) (r := (fX6_copy ((nI k)) st)) ⟨hx, hb, hml, hown, hts⟩ (kX6_copy l D cI cS qx a0 (a1 0) (a2 0) (a3 0) (a4 0) has (nI k) st) (cwV 1 hts gL_tale_X6_copy rfl rfl rfl (by decide +kernel) ⟨Nat.le_of_ble_eq_true rfl, Nat.le_of_ble_eq_true rfl⟩) hE hP rfl rfl [0, 1] rfl rfl rfl hl.1 rfl (Nat.le_of_ble_eq_true rfl) ⟨Nat.le_of_ble_eq_true rfl, Nat.le_of_ble_eq_true rfl⟩ dL_tale_70 ?_
        refine lv_goto (tgt := 77) hx hb dL_tale_73 (by decide) ?_
        refine lv_i2l (v := ((fX6_copy ((nI k)) st)).toInt64) hx hb dL_tale_77 rfl ?_
        refine lv_ladd hx hb dL_tale_78 ?_
        refine lv_lstore_n (lv' := [(1, .long ((((31 : Int64) * (((31 : Int64) * x) + ((fX6_total ((nI k)) st)).toInt64)) + ((fX6_copy ((nI k)) st)).toInt64))), (3, .int ((nI k))), (0, .ref qx)]) hx hb dL_tale_79 rfl hl (by decide) rfl (fun ls hl => ?_)
        refine lv_iinc (v := (nI (k + 1))) (lv' := [(3, .int ((nI (k + 1)))), (1, .long ((((31 : Int64) * (((31 : Int64) * x) + ((fX6_total ((nI k)) st)).toInt64)) + ((fX6_copy ((nI k)) st)).toInt64))), (0, .ref qx)]) hx hb dL_tale_80 hl (k := 1) rfl (nI_1 _) (by decide) rfl (fun ls hl => ?_)
        refine lv_goto (tgt := 40) hx hb dL_tale_83 (by decide) ?_
        exact ih (k + 1) (((31 : Int64) * (((31 : Int64) * x) + ((fX6_total ((nI k)) st)).toInt64)) + ((fX6_copy ((nI k)) st)).toInt64) (by omega) (hF.trans (congrArg (fun z => taD st (taC st 48 0 z)) (taB_f st n k x c_65))) _ (lv_sub hl [0, 1, 2] rfl)
  have loop_6 : ∀ (n k : Nat) (x : Int64), k + n = 96 → taF st = taD st (taC st 48 0 (taB st 8 0 (taA st n k x))) → ∀ ls : Array Slot, lv_has ls 4 [(3, .int (nI k)), (1, .long x), (0, .ref qx)] → W p l e { frames := 3, cells := 0, slots := 0, locals := 65 } s m args below meth c s.heap [] 0 0 Q (F0 m 6 ls []) := by
    intro n
    induction n with
    | zero =>
      intro k x hk hF ls hl
      refine lv_iload_n hx hb dL_tale_6 rfl (lv_at hl 0 rfl) ?_
      refine lv_bipush (v := (96 : Int32)) hx hb dL_tale_7 (by decide +kernel) ?_
      refine lv_icmp_ge (tgt := 38) hx hb dL_tale_9 (by decide) (fun _ => ?_) (fun c => absurd (show (96 : Int32) ≤ (nI k) from nI_le (a := 96) (by omega) (by omega)) c)
      refine lv_iconst (v := (0 : Int32)) hx hb dL_tale_38 (by decide +kernel) ?_
      refine lv_istore_n (lv' := [(3, .int ((0 : Int32))), (1, .long x), (0, .ref qx)]) hx hb dL_tale_39 rfl hl (by decide) rfl (fun ls hl => ?_)
      exact loop_40 8 0 x (by omega) hF _ (lv_sub hl [0, 1, 2] rfl)
    | succ n ih =>
      intro k x hk hF ls hl
      refine lv_iload_n hx hb dL_tale_6 rfl (lv_at hl 0 rfl) ?_
      refine lv_bipush (v := (96 : Int32)) hx hb dL_tale_7 (by decide +kernel) ?_
      refine lv_icmp_ge (tgt := 38) hx hb dL_tale_9 (by decide) (fun c => absurd c (show ¬ (96 : Int32) ≤ (nI k) from nI_ge (b := 96) (by omega) (by omega))) (fun _ => ?_)
      refine lv_ldc2 (own := RL) (index := 52) (v := (31 : Int64)) hx hb hown (hts (.constantLong RL 52 (31)) (List.mem_of_getElem? (i := 2) rfl)) dL_tale_12 ?_
      refine lv_lload_n hx hb dL_tale_15 rfl (lv_at hl 1 rfl) ?_
      refine lv_lmul hx hb dL_tale_16 ?_
      refine lv_aload_n hx hb dL_tale_17 rfl (lv_at hl 2 rfl) ?_
      refine lv_iload_n hx hb dL_tale_18 rfl (lv_at hl 0 rfl) ?_
      refine lv_bipush (v := (32 : Int32)) hx hb dL_tale_19 (by decide +kernel) ?_
      refine lv_idiv hx hb dL_tale_21 (by decide) ?_
      refine lv_iload_n hx hb dL_tale_22 rfl (lv_at hl 0 rfl) ?_
      refine lv_bipush (v := (32 : Int32)) hx hb dL_tale_23 (by decide +kernel) ?_
      refine lv_irem hx hb dL_tale_25 (by decide) ?_
      refine bRV (W0 := [(qx, .inr (6, [.ref (a0 0), .ref (a1 0), .ref (a2 0), .ref (a3 0), .ref (a4 0), .int has]))] :: wSt cI a0 st :: []) (wc := [(qx, .inr (6, [.ref (a0 0), .ref (a1 0), .ref (a2 0), .ref (a3 0), .ref (a4 0), .int has]))] :: wSt cI a0 st :: []) (r := (fX6_value (((nI k) / (32 : Int32))) (((nI k) - (nI k) / (32 : Int32) * (32 : Int32))) st)) ⟨hx, hb, hml, hown, hts⟩ (kX6_value l D cI cS qx a0 (a1 0) (a2 0) (a3 0) (a4 0) has ((nI k) / (32 : Int32)) ((nI k) - (nI k) / (32 : Int32) * (32 : Int32)) st) (cwV 2 hts gL_tale_X6_value rfl rfl rfl (by decide +kernel) ⟨Nat.le_of_ble_eq_true rfl, Nat.le_of_ble_eq_true rfl⟩) hE hP rfl rfl [0, 1] rfl rfl rfl hl.1 rfl (Nat.le_of_ble_eq_true rfl) ⟨Nat.le_of_ble_eq_true rfl, Nat.le_of_ble_eq_true rfl⟩ dL_tale_26 ?_
      refine lv_i2l (v := ((fX6_value (((nI k) / (32 : Int32))) (((nI k) - (nI k) / (32 : Int32) * (32 : Int32))) st)).toInt64) hx hb dL_tale_29 rfl ?_
      refine lv_ladd hx hb dL_tale_30 ?_
      refine lv_lstore_n (lv' := [(1, .long ((((31 : Int64) * x) + ((fX6_value (((nI k) / (32 : Int32))) (((nI k) - (nI k) / (32 : Int32) * (32 : Int32))) st)).toInt64))), (3, .int ((nI k))), (0, .ref qx)]) hx hb dL_tale_31 rfl hl (by decide) rfl (fun ls hl => ?_)
      refine lv_iinc (v := (nI (k + 1))) (lv' := [(3, .int ((nI (k + 1)))), (1, .long ((((31 : Int64) * x) + ((fX6_value (((nI k) / (32 : Int32))) (((nI k) - (nI k) / (32 : Int32) * (32 : Int32))) st)).toInt64))), (0, .ref qx)]) hx hb dL_tale_32 hl (k := 1) rfl (nI_1 _) (by decide) rfl (fun ls hl => ?_)
      refine lv_goto (tgt := 6) hx hb dL_tale_35 (by decide) ?_
      exact ih (k + 1) (((31 : Int64) * x) + ((fX6_value (((nI k) / (32 : Int32))) (((nI k) - (nI k) / (32 : Int32) * (32 : Int32))) st)).toInt64) (by omega) hF _ (lv_sub hl [0, 1, 2] rfl)
  refine lv_ldc2 (own := RL) (index := 50) (v := (17 : Int64)) hx hb hown (hts (.constantLong RL 50 (17)) (List.mem_of_getElem? (i := 1) rfl)) dL_tale_0 ?_
  refine lv_lstore_n (lv' := [(1, .long ((17 : Int64))), (0, .ref qx)]) hx hb dL_tale_3 rfl hl (by decide) rfl (fun ls hl => ?_)
  refine lv_iconst (v := (0 : Int32)) hx hb dL_tale_4 (by decide +kernel) ?_
  refine lv_istore_n (lv' := [(3, .int ((0 : Int32))), (1, .long ((17 : Int64))), (0, .ref qx)]) hx hb dL_tale_5 rfl hl (by decide) rfl (fun ls hl => ?_)
  exact loop_6 96 0 (17 : Int64) (by omega) rfl _ (lv_sub hl [0, 1, 2] rfl)
