def fX7_progress (τ : FnI) : Value := (if (fX7_isCopy τ) = (0 : Int32) then (Value.double FP.dconst0) else (Value.double (FP.ddiv (FP.i2d (τ 3)) (4629700416936869888 : UInt64))))
theorem fX7_progress_p0 (τ : FnI) (c_4 : (fX7_isCopy τ) = (0 : Int32)) : (fX7_progress τ) = (Value.double FP.dconst0) := by
  simp only [fX7_progress, if_pos c_4]
theorem fX7_progress_p1 (τ : FnI) (c_4 : ¬ (fX7_isCopy τ) = (0 : Int32)) : (fX7_progress τ) = (Value.double (FP.ddiv (FP.i2d (τ 3)) (4629700416936869888 : UInt64))) := by
  simp only [fX7_progress, if_neg c_4]
set_option maxHeartbeats 4000000 in
set_option maxRecDepth 100000 in
theorem kX7_progress (l : Launch) (D : va_G) (cI cS : ClassId) (h0 h1 : Nat) (w1 : Nat) (w2 : Int32) (w3 : Nat) (w4 : Int32) (w5 : Nat) (w6 : Nat) (w7 : Int32) (w8 : Int32) (w9 : Int32) (w10 : Int32) (w11 : Int32) (w12 : Int32) (τ : FnI) (hw : WM τ) : KA l yX7_progress wsX7_progress { frames := 1, cells := 0, slots := 0, locals := 20 } D (tysA cI cS) [.ref h0] [(h0, .inr (7, [.ref h1, .ref w1, .int w2, .ref w3, .int w4, .ref w5, .ref w6, .int w7, .int w8, .int w9, .int w10, .int w11, .int w12])), (h1, .inl (cI, 163, .inl τ))] (fX7_progress τ) := by
  refine KA.of (cc := cX7_progress) (maxL := 1) (ty := .double) (by decide) rfl (Nat.le_of_ble_eq_true rfl) rfl (fun p e s m args below meth c ls Q hx hb hml hown hts hE hP hl hend hendD => ?_)
  have hown : s.vm.findClass RX7 = some m.cls := hown
  have hl : lv_has ls 1 [(0, .ref h0)] := hl
  refine lv_aload_n hx hb dX7_progress_0 rfl (lv_at hl 0 rfl) ?_
  refine cRV ⟨hx, hb, hml, hown, hts⟩ (kX7_isCopy l D cI cS h0 h1 w1 w2 w3 w4 w5 w6 w7 w8 w9 w10 w11 w12 τ) (cwV 0 hts gX7_progress_X7_isCopy rfl rfl rfl (by decide +kernel) ⟨Nat.le_of_ble_eq_true rfl, Nat.le_of_ble_eq_true rfl⟩) hE hP 0 rfl rfl [0, 1] rfl rfl hl.1 rfl (Nat.le_of_ble_eq_true rfl) ⟨Nat.zero_le _, Nat.zero_le _⟩ dX7_progress_1 ?_
  refine lv_if_eq (tgt := 21) hx hb dX7_progress_4 (by decide) (fun c_4 => ?_) (fun c_4 => ?_)
  · refine lv_dconst0 hx hb dX7_progress_21 ?_
    exact hendD _ _ _ dX7_progress_22 rfl (fX7_progress_p0 τ c_4)
  · refine lv_aload_n hx hb dX7_progress_7 rfl (lv_at hl 0 rfl) ?_
    refine va_get (D := D) (ci := 7) (v := .ref h1) (C := RX7) (T := TX7) (N := 13) hx hb hts (fun _ h9 => List.mem_cons_of_mem _ (List.mem_append_right _ h9)) hown hE.1 hP 0 rfl rfl 0 (by decide) (hts (.fieldLink RX7 7 "ShadowTableModel" "s" "[I") (List.mem_of_getElem? (i := 1) rfl)) (fun _ h9 => h9) rfl dX7_progress_8 ?_
    refine lv_iconst (v := (3 : Int32)) hx hb dX7_progress_11 (by decide +kernel) ?_
    refine xld (v := (τ 3)) (j := 3) hx hb hE hP 1 rfl rfl cl_3 (in_3 (by decide)) rfl dX7_progress_12 ?_
    refine lv_i2d hx hb dX7_progress_13 ?_
    refine lv_ldc2d hx hb hown (hts (.constantDouble RX7 199 (4629700416936869888)) (List.mem_of_getElem? (i := 2) rfl)) dX7_progress_14 ?_
    refine lv_ddiv hx hb dX7_progress_17 (zz_prog hw.2.1) ?_
    refine lv_goto (tgt := 22) hx hb dX7_progress_18 (by decide) ?_
    exact hendD _ _ _ dX7_progress_22 rfl (fX7_progress_p1 τ c_4)
