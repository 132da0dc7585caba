def fX7_init_75 : Nat → Nat → FnI → FnI
  | 0, k, σ => σ
  | n + 1, k, σ => (if (96 : Int32) ≤ (nI k) then σ else fX7_init_75 n (k + 1) (upd σ (19 + k) (-1 : Int32)))
theorem fX7_init_75_p0 (n : Nat) (k : Nat) (σ : FnI) (c : (96 : Int32) ≤ (nI k)) : fX7_init_75 (n + 1) k σ = σ := by
  simp only [fX7_init_75, if_pos c]
theorem fX7_init_75_p1 (n : Nat) (k : Nat) (σ : FnI) (c : ¬ (96 : Int32) ≤ (nI k)) : fX7_init_75 (n + 1) k σ = fX7_init_75 n (k + 1) (upd σ (19 + k) (-1 : Int32)) := by
  simp only [fX7_init_75, if_neg c]
def iMo : FnI := fX7_init_75 97 0 (upd (upd (upd (fun _ => (0 : Int32)) 7 (3 : Int32)) 8 (6 : Int32)) 9 (5 : Int32))
theorem iMo_is : iMo = fX7_init_75 97 0 (upd (upd (upd (fun _ => (0 : Int32)) 7 (3 : Int32)) 8 (6 : Int32)) 9 (5 : Int32)) := by rw [iMo]
theorem zz_19 {k : Nat} (hk : k < 96) : ((19 : Int32) + nI k).toNatClampNeg = 19 + k := by
  rw [show (19 : Int32) = nI 19 from rfl, nI_add, nI_clamp (by omega)]
theorem zz_19i {k : Nat} (hk : k < 96) : vp_in ((19 : Int32) + nI k) 163 := by
  rw [show (19 : Int32) = nI 19 from rfl, nI_add]
  exact vp_in_nI (by omega) (by omega)
set_option maxHeartbeats 4000000 in
set_option maxRecDepth 100000 in
theorem kX7_init (l : Launch) (D : va_G) (cI cS : ClassId) (h0 : Nat) : KC l yX7_init wsX7_init { frames := 1, cells := 5, slots := 1384, locals := 20 } D (tysA cI cS) h0 7 [.null, .null, .int (0 : Int32), .null, .int (0 : Int32), .null, .null, .int (0 : Int32), .int (0 : Int32), .int (0 : Int32), .int (0 : Int32), .int (0 : Int32), .int (0 : Int32)] 5 1384 (fun u : Nat → Nat => u 0) (fun u => [(u 0, .inr (7, [.ref (u 1), .ref (u 2), .int (0 : Int32), .ref (u 3), .int (0 : Int32), .ref (u 4), .ref (u 5), .int (0 : Int32), .int (0 : Int32), .int (0 : Int32), .int (0 : Int32), .int (0 : Int32), .int (0 : Int32)])), (u 1, .inl (cI, 163, .inl iMo)), (u 2, .inl (cI, 815, .inl iZ)), (u 3, .inl (cI, 163, .inl iZ)), (u 4, .inl (cI, 163, .inl iZ)), (u 5, .inl (cI, 80, .inl iZ))]) := by
  refine KC.of (cc := cX7_init) (maxL := 2) (by decide) rfl rfl (Nat.le_of_ble_eq_true rfl) (fun p e s m args below meth c ls Q A hx hb hml hown hts hin hE hO hP hD hA hS hl hend => ?_)
  have hown : s.vm.findClass RX7 = some m.cls := hown
  have hl : lv_has ls 2 [(0, .ref h0)] := hl
  refine lv_aload_n hx hb dX7_init_0 rfl (lv_at hl 0 rfl) ?_
  refine W.objInit hx hb hown (hts (.methodLink RX7 1 objectInit) (List.mem_of_getElem? (i := 1) rfl)) (hts (.instanceMethod objectInit) (List.mem_of_getElem? (i := 2) rfl)) (hts (.code objectInit ⟨#[0xb1]⟩ 1 none) (List.mem_of_getElem? (i := 3) rfl)) rfl (by rw [hml]; exact hl.1) rfl dX7_init_1 (Nat.le_of_ble_eq_true rfl) (Nat.le_of_ble_eq_true rfl) ?_
  refine W.eq (g2 := F0 m 4 ls []) rfl ?_
  refine lv_aload_n hx hb dX7_init_4 rfl (lv_at hl 0 rfl) ?_
  refine lv_sipush (v := (163 : Int32)) hx hb dX7_init_5 (by decide +kernel) ?_
  refine va_newa (atype := .int) (a0 := (163, .inl (fun _ => (0 : Int32)))) (N' := 163) hx hb (hts (.arrayClass .int) (List.mem_of_getElem? (i := 4) rfl)) rfl hE.1 hP hD hS hA (fun _ => rfl) (by decide) cl_163 (by decide) (by decide) (by decide) dX7_init_8 (fun q8 cA H hK hP hD hS => ?_)
  have hc := ty_int hK
  rw [hc] at hP hD
  have hP : va_P D vwCl [(h0, .inr (7, [.null, .null, .int (0 : Int32), .null, .int (0 : Int32), .null, .null, .int (0 : Int32), .int (0 : Int32), .int (0 : Int32), .int (0 : Int32), .int (0 : Int32), .int (0 : Int32)])), (q8, .inl (cI, 163, .inl (fun _ => (0 : Int32))))] H := hP
  have hD : va_D A [(h0, .inr (7, [.null, .null, .int (0 : Int32), .null, .int (0 : Int32), .null, .null, .int (0 : Int32), .int (0 : Int32), .int (0 : Int32), .int (0 : Int32), .int (0 : Int32), .int (0 : Int32)])), (q8, .inl (cI, 163, .inl (fun _ => (0 : Int32))))] := hD
  refine va_putF (D := D) (ci := 7) (v := .ref q8) (ty := (.array .int)) (C := RX7) (T := TX7) (N := 13) hx hb hts (fun _ h9 => List.mem_cons_of_mem _ (List.mem_append_right _ h9)) tyX7 tyX7_ok nmX7 hown hE.1 hP hD hS 0 rfl rfl 0 (by decide) (hts (.fieldLink RX7 7 "ShadowTableModel" "s" "[I") (List.mem_of_getElem? (i := 5) rfl)) (fun _ h9 => h9) rfl hin rfl (by decide +kernel) rfl rfl (Nat.le_of_ble_eq_true rfl) dX7_init_10 (fun H locs hP hD hS => ?_)
  have hP : va_P D vwCl [(h0, .inr (7, [.ref q8, .null, .int (0 : Int32), .null, .int (0 : Int32), .null, .null, .int (0 : Int32), .int (0 : Int32), .int (0 : Int32), .int (0 : Int32), .int (0 : Int32), .int (0 : Int32)])), (q8, .inl (cI, 163, .inl (fun _ => (0 : Int32))))] H := hP
  have hD : va_D A [(h0, .inr (7, [.ref q8, .null, .int (0 : Int32), .null, .int (0 : Int32), .null, .null, .int (0 : Int32), .int (0 : Int32), .int (0 : Int32), .int (0 : Int32), .int (0 : Int32), .int (0 : Int32)])), (q8, .inl (cI, 163, .inl (fun _ => (0 : Int32))))] := hD
  refine lv_aload_n hx hb dX7_init_13 rfl (lv_at hl 0 rfl) ?_
  refine lv_sipush (v := (815 : Int32)) hx hb dX7_init_14 (by decide +kernel) ?_
  refine va_newa (atype := .int) (a0 := (815, .inl (fun _ => (0 : Int32)))) (N' := 815) hx hb (hts (.arrayClass .int) (List.mem_of_getElem? (i := 4) rfl)) rfl hE.1 hP hD hS hA (fun _ => rfl) (by decide) cl_815 (by decide) (by decide) (by decide) dX7_init_17 (fun q17 cA H hK hP hD hS => ?_)
  have hc := ty_int hK
  rw [hc] at hP hD
  have hP : va_P D vwCl [(h0, .inr (7, [.ref q8, .null, .int (0 : Int32), .null, .int (0 : Int32), .null, .null, .int (0 : Int32), .int (0 : Int32), .int (0 : Int32), .int (0 : Int32), .int (0 : Int32), .int (0 : Int32)])), (q8, .inl (cI, 163, .inl (fun _ => (0 : Int32)))), (q17, .inl (cI, 815, .inl (fun _ => (0 : Int32))))] H := hP
  have hD : va_D A [(h0, .inr (7, [.ref q8, .null, .int (0 : Int32), .null, .int (0 : Int32), .null, .null, .int (0 : Int32), .int (0 : Int32), .int (0 : Int32), .int (0 : Int32), .int (0 : Int32), .int (0 : Int32)])), (q8, .inl (cI, 163, .inl (fun _ => (0 : Int32)))), (q17, .inl (cI, 815, .inl (fun _ => (0 : Int32))))] := hD
  refine va_putF (D := D) (ci := 7) (v := .ref q17) (ty := (.array .int)) (C := RX7) (T := TX7) (N := 13) hx hb hts (fun _ h9 => List.mem_cons_of_mem _ (List.mem_append_right _ h9)) tyX7 tyX7_ok nmX7 hown hE.1 hP hD hS 0 rfl rfl 1 (by decide) (hts (.fieldLink RX7 13 "ShadowTableModel" "history" "[I") (List.mem_of_getElem? (i := 6) rfl)) (fun _ h9 => h9) rfl hin rfl (by decide +kernel) rfl rfl (Nat.le_of_ble_eq_true rfl) dX7_init_19 (fun H locs hP hD hS => ?_)
  have hP : va_P D vwCl [(h0, .inr (7, [.ref q8, .ref q17, .int (0 : Int32), .null, .int (0 : Int32), .null, .null, .int (0 : Int32), .int (0 : Int32), .int (0 : Int32), .int (0 : Int32), .int (0 : Int32), .int (0 : Int32)])), (q8, .inl (cI, 163, .inl (fun _ => (0 : Int32)))), (q17, .inl (cI, 815, .inl (fun _ => (0 : Int32))))] H := hP
  have hD : va_D A [(h0, .inr (7, [.ref q8, .ref q17, .int (0 : Int32), .null, .int (0 : Int32), .null, .null, .int (0 : Int32), .int (0 : Int32), .int (0 : Int32), .int (0 : Int32), .int (0 : Int32), .int (0 : Int32)])), (q8, .inl (cI, 163, .inl (fun _ => (0 : Int32)))), (q17, .inl (cI, 815, .inl (fun _ => (0 : Int32))))] := hD
  refine lv_aload_n hx hb dX7_init_22 rfl (lv_at hl 0 rfl) ?_
  refine lv_sipush (v := (163 : Int32)) hx hb dX7_init_23 (by decide +kernel) ?_
  refine va_newa (atype := .int) (a0 := (163, .inl (fun _ => (0 : Int32)))) (N' := 163) hx hb (hts (.arrayClass .int) (List.mem_of_getElem? (i := 4) rfl)) rfl hE.1 hP hD hS hA (fun _ => rfl) (by decide) cl_163 (by decide) (by decide) (by decide) dX7_init_26 (fun q26 cA H hK hP hD hS => ?_)
  have hc := ty_int hK
  rw [hc] at hP hD
  have hP : va_P D vwCl [(h0, .inr (7, [.ref q8, .ref q17, .int (0 : Int32), .null, .int (0 : Int32), .null, .null, .int (0 : Int32), .int (0 : Int32), .int (0 : Int32), .int (0 : Int32), .int (0 : Int32), .int (0 : Int32)])), (q8, .inl (cI, 163, .inl (fun _ => (0 : Int32)))), (q17, .inl (cI, 815, .inl (fun _ => (0 : Int32)))), (q26, .inl (cI, 163, .inl (fun _ => (0 : Int32))))] H := hP
  have hD : va_D A [(h0, .inr (7, [.ref q8, .ref q17, .int (0 : Int32), .null, .int (0 : Int32), .null, .null, .int (0 : Int32), .int (0 : Int32), .int (0 : Int32), .int (0 : Int32), .int (0 : Int32), .int (0 : Int32)])), (q8, .inl (cI, 163, .inl (fun _ => (0 : Int32)))), (q17, .inl (cI, 815, .inl (fun _ => (0 : Int32)))), (q26, .inl (cI, 163, .inl (fun _ => (0 : Int32))))] := hD
  refine va_putF (D := D) (ci := 7) (v := .ref q26) (ty := (.array .int)) (C := RX7) (T := TX7) (N := 13) hx hb hts (fun _ h9 => List.mem_cons_of_mem _ (List.mem_append_right _ h9)) tyX7 tyX7_ok nmX7 hown hE.1 hP hD hS 0 rfl rfl 3 (by decide) (hts (.fieldLink RX7 16 "ShadowTableModel" "snapshot" "[I") (List.mem_of_getElem? (i := 7) rfl)) (fun _ h9 => h9) rfl hin rfl (by decide +kernel) rfl rfl (Nat.le_of_ble_eq_true rfl) dX7_init_28 (fun H locs hP hD hS => ?_)
  have hP : va_P D vwCl [(h0, .inr (7, [.ref q8, .ref q17, .int (0 : Int32), .ref q26, .int (0 : Int32), .null, .null, .int (0 : Int32), .int (0 : Int32), .int (0 : Int32), .int (0 : Int32), .int (0 : Int32), .int (0 : Int32)])), (q8, .inl (cI, 163, .inl (fun _ => (0 : Int32)))), (q17, .inl (cI, 815, .inl (fun _ => (0 : Int32)))), (q26, .inl (cI, 163, .inl (fun _ => (0 : Int32))))] H := hP
  have hD : va_D A [(h0, .inr (7, [.ref q8, .ref q17, .int (0 : Int32), .ref q26, .int (0 : Int32), .null, .null, .int (0 : Int32), .int (0 : Int32), .int (0 : Int32), .int (0 : Int32), .int (0 : Int32), .int (0 : Int32)])), (q8, .inl (cI, 163, .inl (fun _ => (0 : Int32)))), (q17, .inl (cI, 815, .inl (fun _ => (0 : Int32)))), (q26, .inl (cI, 163, .inl (fun _ => (0 : Int32))))] := hD
  refine lv_aload_n hx hb dX7_init_31 rfl (lv_at hl 0 rfl) ?_
  refine lv_sipush (v := (163 : Int32)) hx hb dX7_init_32 (by decide +kernel) ?_
  refine va_newa (atype := .int) (a0 := (163, .inl (fun _ => (0 : Int32)))) (N' := 163) hx hb (hts (.arrayClass .int) (List.mem_of_getElem? (i := 4) rfl)) rfl hE.1 hP hD hS hA (fun _ => rfl) (by decide) cl_163 (by decide) (by decide) (by decide) dX7_init_35 (fun q35 cA H hK hP hD hS => ?_)
  have hc := ty_int hK
  rw [hc] at hP hD
  have hP : va_P D vwCl [(h0, .inr (7, [.ref q8, .ref q17, .int (0 : Int32), .ref q26, .int (0 : Int32), .null, .null, .int (0 : Int32), .int (0 : Int32), .int (0 : Int32), .int (0 : Int32), .int (0 : Int32), .int (0 : Int32)])), (q8, .inl (cI, 163, .inl (fun _ => (0 : Int32)))), (q17, .inl (cI, 815, .inl (fun _ => (0 : Int32)))), (q26, .inl (cI, 163, .inl (fun _ => (0 : Int32)))), (q35, .inl (cI, 163, .inl (fun _ => (0 : Int32))))] H := hP
  have hD : va_D A [(h0, .inr (7, [.ref q8, .ref q17, .int (0 : Int32), .ref q26, .int (0 : Int32), .null, .null, .int (0 : Int32), .int (0 : Int32), .int (0 : Int32), .int (0 : Int32), .int (0 : Int32), .int (0 : Int32)])), (q8, .inl (cI, 163, .inl (fun _ => (0 : Int32)))), (q17, .inl (cI, 815, .inl (fun _ => (0 : Int32)))), (q26, .inl (cI, 163, .inl (fun _ => (0 : Int32)))), (q35, .inl (cI, 163, .inl (fun _ => (0 : Int32))))] := hD
  refine va_putF (D := D) (ci := 7) (v := .ref q35) (ty := (.array .int)) (C := RX7) (T := TX7) (N := 13) hx hb hts (fun _ h9 => List.mem_cons_of_mem _ (List.mem_append_right _ h9)) tyX7 tyX7_ok nmX7 hown hE.1 hP hD hS 0 rfl rfl 5 (by decide) (hts (.fieldLink RX7 19 "ShadowTableModel" "before" "[I") (List.mem_of_getElem? (i := 8) rfl)) (fun _ h9 => h9) rfl hin rfl (by decide +kernel) rfl rfl (Nat.le_of_ble_eq_true rfl) dX7_init_37 (fun H locs hP hD hS => ?_)
  have hP : va_P D vwCl [(h0, .inr (7, [.ref q8, .ref q17, .int (0 : Int32), .ref q26, .int (0 : Int32), .ref q35, .null, .int (0 : Int32), .int (0 : Int32), .int (0 : Int32), .int (0 : Int32), .int (0 : Int32), .int (0 : Int32)])), (q8, .inl (cI, 163, .inl (fun _ => (0 : Int32)))), (q17, .inl (cI, 815, .inl (fun _ => (0 : Int32)))), (q26, .inl (cI, 163, .inl (fun _ => (0 : Int32)))), (q35, .inl (cI, 163, .inl (fun _ => (0 : Int32))))] H := hP
  have hD : va_D A [(h0, .inr (7, [.ref q8, .ref q17, .int (0 : Int32), .ref q26, .int (0 : Int32), .ref q35, .null, .int (0 : Int32), .int (0 : Int32), .int (0 : Int32), .int (0 : Int32), .int (0 : Int32), .int (0 : Int32)])), (q8, .inl (cI, 163, .inl (fun _ => (0 : Int32)))), (q17, .inl (cI, 815, .inl (fun _ => (0 : Int32)))), (q26, .inl (cI, 163, .inl (fun _ => (0 : Int32)))), (q35, .inl (cI, 163, .inl (fun _ => (0 : Int32))))] := hD
  refine lv_aload_n hx hb dX7_init_40 rfl (lv_at hl 0 rfl) ?_
  refine lv_bipush (v := (80 : Int32)) hx hb dX7_init_41 (by decide +kernel) ?_
  refine va_newa (atype := .int) (a0 := (80, .inl (fun _ => (0 : Int32)))) (N' := 80) hx hb (hts (.arrayClass .int) (List.mem_of_getElem? (i := 4) rfl)) rfl hE.1 hP hD hS hA (fun _ => rfl) (by decide) cl_80 (by decide) (by decide) (by decide) dX7_init_43 (fun q43 cA H hK hP hD hS => ?_)
  have hc := ty_int hK
  rw [hc] at hP hD
  have hP : va_P D vwCl [(h0, .inr (7, [.ref q8, .ref q17, .int (0 : Int32), .ref q26, .int (0 : Int32), .ref q35, .null, .int (0 : Int32), .int (0 : Int32), .int (0 : Int32), .int (0 : Int32), .int (0 : Int32), .int (0 : Int32)])), (q8, .inl (cI, 163, .inl (fun _ => (0 : Int32)))), (q17, .inl (cI, 815, .inl (fun _ => (0 : Int32)))), (q26, .inl (cI, 163, .inl (fun _ => (0 : Int32)))), (q35, .inl (cI, 163, .inl (fun _ => (0 : Int32)))), (q43, .inl (cI, 80, .inl (fun _ => (0 : Int32))))] H := hP
  have hD : va_D A [(h0, .inr (7, [.ref q8, .ref q17, .int (0 : Int32), .ref q26, .int (0 : Int32), .ref q35, .null, .int (0 : Int32), .int (0 : Int32), .int (0 : Int32), .int (0 : Int32), .int (0 : Int32), .int (0 : Int32)])), (q8, .inl (cI, 163, .inl (fun _ => (0 : Int32)))), (q17, .inl (cI, 815, .inl (fun _ => (0 : Int32)))), (q26, .inl (cI, 163, .inl (fun _ => (0 : Int32)))), (q35, .inl (cI, 163, .inl (fun _ => (0 : Int32)))), (q43, .inl (cI, 80, .inl (fun _ => (0 : Int32))))] := hD
  refine va_putF (D := D) (ci := 7) (v := .ref q43) (ty := (.array .int)) (C := RX7) (T := TX7) (N := 13) hx hb hts (fun _ h9 => List.mem_cons_of_mem _ (List.mem_append_right _ h9)) tyX7 tyX7_ok nmX7 hown hE.1 hP hD hS 0 rfl rfl 6 (by decide) (hts (.fieldLink RX7 22 "ShadowTableModel" "text" "[I") (List.mem_of_getElem? (i := 9) rfl)) (fun _ h9 => h9) rfl hin rfl (by decide +kernel) rfl rfl (Nat.le_of_ble_eq_true rfl) dX7_init_45 (fun H locs hP hD hS => ?_)
  have hP : va_P D vwCl [(h0, .inr (7, [.ref q8, .ref q17, .int (0 : Int32), .ref q26, .int (0 : Int32), .ref q35, .ref q43, .int (0 : Int32), .int (0 : Int32), .int (0 : Int32), .int (0 : Int32), .int (0 : Int32), .int (0 : Int32)])), (q8, .inl (cI, 163, .inl (fun _ => (0 : Int32)))), (q17, .inl (cI, 815, .inl (fun _ => (0 : Int32)))), (q26, .inl (cI, 163, .inl (fun _ => (0 : Int32)))), (q35, .inl (cI, 163, .inl (fun _ => (0 : Int32)))), (q43, .inl (cI, 80, .inl (fun _ => (0 : Int32))))] H := hP
  have hD : va_D A [(h0, .inr (7, [.ref q8, .ref q17, .int (0 : Int32), .ref q26, .int (0 : Int32), .ref q35, .ref q43, .int (0 : Int32), .int (0 : Int32), .int (0 : Int32), .int (0 : Int32), .int (0 : Int32), .int (0 : Int32)])), (q8, .inl (cI, 163, .inl (fun _ => (0 : Int32)))), (q17, .inl (cI, 815, .inl (fun _ => (0 : Int32)))), (q26, .inl (cI, 163, .inl (fun _ => (0 : Int32)))), (q35, .inl (cI, 163, .inl (fun _ => (0 : Int32)))), (q43, .inl (cI, 80, .inl (fun _ => (0 : Int32))))] := hD
  refine lv_aload_n hx hb dX7_init_48 rfl (lv_at hl 0 rfl) ?_
  refine va_get (D := D) (ci := 7) (v := .ref q8) (C := RX7) (T := TX7) (N := 13) hx hb hts (fun _ h9 => List.mem_cons_of_mem _ (List.mem_append_right _ h9)) hown hE.1 hP 0 rfl rfl 0 (by decide) (hts (.fieldLink RX7 7 "ShadowTableModel" "s" "[I") (List.mem_of_getElem? (i := 5) rfl)) (fun _ h9 => h9) rfl dX7_init_49 ?_
  refine lv_bipush (v := (7 : Int32)) hx hb dX7_init_52 (by decide +kernel) ?_
  refine lv_iconst (v := (3 : Int32)) hx hb dX7_init_54 (by decide +kernel) ?_
  refine xst (j := 7) hx hb hE hP hD hS 1 rfl rfl cl_7 (in_7 (by decide)) [(h0, .inr (7, [.ref q8, .ref q17, .int (0 : Int32), .ref q26, .int (0 : Int32), .ref q35, .ref q43, .int (0 : Int32), .int (0 : Int32), .int (0 : Int32), .int (0 : Int32), .int (0 : Int32), .int (0 : Int32)])), (q8, .inl (cI, 163, .inl (upd (fun _ => (0 : Int32)) 7 (3 : Int32)))), (q17, .inl (cI, 815, .inl (fun _ => (0 : Int32)))), (q26, .inl (cI, 163, .inl (fun _ => (0 : Int32)))), (q35, .inl (cI, 163, .inl (fun _ => (0 : Int32)))), (q43, .inl (cI, 80, .inl (fun _ => (0 : Int32))))] rfl dX7_init_55 (fun H locs hP hD hS => ?_)
  refine lv_aload_n hx hb dX7_init_56 rfl (lv_at hl 0 rfl) ?_
  refine va_get (D := D) (ci := 7) (v := .ref q8) (C := RX7) (T := TX7) (N := 13) hx hb hts (fun _ h9 => List.mem_cons_of_mem _ (List.mem_append_right _ h9)) hown hE.1 hP 0 rfl rfl 0 (by decide) (hts (.fieldLink RX7 7 "ShadowTableModel" "s" "[I") (List.mem_of_getElem? (i := 5) rfl)) (fun _ h9 => h9) rfl dX7_init_57 ?_
  refine lv_bipush (v := (8 : Int32)) hx hb dX7_init_60 (by decide +kernel) ?_
  refine lv_bipush (v := (6 : Int32)) hx hb dX7_init_62 (by decide +kernel) ?_
  refine xst (j := 8) hx hb hE hP hD hS 1 rfl rfl cl_8 (in_8 (by decide)) [(h0, .inr (7, [.ref q8, .ref q17, .int (0 : Int32), .ref q26, .int (0 : Int32), .ref q35, .ref q43, .int (0 : Int32), .int (0 : Int32), .int (0 : Int32), .int (0 : Int32), .int (0 : Int32), .int (0 : Int32)])), (q8, .inl (cI, 163, .inl (upd (upd (fun _ => (0 : Int32)) 7 (3 : Int32)) 8 (6 : Int32)))), (q17, .inl (cI, 815, .inl (fun _ => (0 : Int32)))), (q26, .inl (cI, 163, .inl (fun _ => (0 : Int32)))), (q35, .inl (cI, 163, .inl (fun _ => (0 : Int32)))), (q43, .inl (cI, 80, .inl (fun _ => (0 : Int32))))] rfl dX7_init_64 (fun H locs hP hD hS => ?_)
  refine lv_aload_n hx hb dX7_init_65 rfl (lv_at hl 0 rfl) ?_
  refine va_get (D := D) (ci := 7) (v := .ref q8) (C := RX7) (T := TX7) (N := 13) hx hb hts (fun _ h9 => List.mem_cons_of_mem _ (List.mem_append_right _ h9)) hown hE.1 hP 0 rfl rfl 0 (by decide) (hts (.fieldLink RX7 7 "ShadowTableModel" "s" "[I") (List.mem_of_getElem? (i := 5) rfl)) (fun _ h9 => h9) rfl dX7_init_66 ?_
  refine lv_bipush (v := (9 : Int32)) hx hb dX7_init_69 (by decide +kernel) ?_
  refine lv_iconst (v := (5 : Int32)) hx hb dX7_init_71 (by decide +kernel) ?_
  refine xst (j := 9) hx hb hE hP hD hS 1 rfl rfl cl_9 (in_9 (by decide)) [(h0, .inr (7, [.ref q8, .ref q17, .int (0 : Int32), .ref q26, .int (0 : Int32), .ref q35, .ref q43, .int (0 : Int32), .int (0 : Int32), .int (0 : Int32), .int (0 : Int32), .int (0 : Int32), .int (0 : Int32)])), (q8, .inl (cI, 163, .inl (upd (upd (upd (fun _ => (0 : Int32)) 7 (3 : Int32)) 8 (6 : Int32)) 9 (5 : Int32)))), (q17, .inl (cI, 815, .inl (fun _ => (0 : Int32)))), (q26, .inl (cI, 163, .inl (fun _ => (0 : Int32)))), (q35, .inl (cI, 163, .inl (fun _ => (0 : Int32)))), (q43, .inl (cI, 80, .inl (fun _ => (0 : Int32))))] rfl dX7_init_72 (fun H locs hP hD hS => ?_)
  refine lv_iconst (v := (0 : Int32)) hx hb dX7_init_73 (by decide +kernel) ?_
  refine lv_istore_n (lv' := [(1, .int (0 : Int32)), (0, .ref h0)]) hx hb dX7_init_74 rfl hl (by decide) rfl (fun ls hl => ?_)
  have loop_75 : ∀ (n : Nat) (k : Nat) (σ : FnI), k ≤ 96 → 96 - k < n → iMo = fX7_init_75 n k σ → ∀ (H : Heap) (locs : List Loc), va_P D vwCl [(h0, .inr (7, [.ref q8, .ref q17, .int (0 : Int32), .ref q26, .int (0 : Int32), .ref q35, .ref q43, .int (0 : Int32), .int (0 : Int32), .int (0 : Int32), .int (0 : Int32), .int (0 : Int32), .int (0 : Int32)])), (q8, .inl (cI, 163, .inl σ)), (q17, .inl (cI, 815, .inl (fun _ => (0 : Int32)))), (q26, .inl (cI, 163, .inl (fun _ => (0 : Int32)))), (q35, .inl (cI, 163, .inl (fun _ => (0 : Int32)))), (q43, .inl (cI, 80, .inl (fun _ => (0 : Int32))))] H → va_D A [(h0, .inr (7, [.ref q8, .ref q17, .int (0 : Int32), .ref q26, .int (0 : Int32), .ref q35, .ref q43, .int (0 : Int32), .int (0 : Int32), .int (0 : Int32), .int (0 : Int32), .int (0 : Int32), .int (0 : Int32)])), (q8, .inl (cI, 163, .inl σ)), (q17, .inl (cI, 815, .inl (fun _ => (0 : Int32)))), (q26, .inl (cI, 163, .inl (fun _ => (0 : Int32)))), (q35, .inl (cI, 163, .inl (fun _ => (0 : Int32)))), (q43, .inl (cI, 80, .inl (fun _ => (0 : Int32))))] → va_S A s.heap H locs → ∀ (ls : Array Slot), lv_has ls 2 [(1, .int (nI k)), (0, .ref h0)] → W p l e { frames := 1, cells := 5, slots := 1384, locals := 20 } s m args below meth c H locs 5 1384 Q (F0 m 75 ls []) := by
    intro n
    induction n with
    | zero =>
      intro k σ hk hn
      exact absurd hn (by omega)
    | succ n ih =>
      intro k σ hk hn hF H locs hP hD hS ls hl
      refine lv_iload_n hx hb dX7_init_75 rfl (lv_at hl 0 rfl) ?_
      refine lv_bipush (v := (96 : Int32)) hx hb dX7_init_76 (by decide +kernel) ?_
      refine lv_icmp_ge (tgt := 97) hx hb dX7_init_78 (by decide) (fun c_8 => ?_) (fun c_8 => ?_)
      · have e8 : iMo = σ := hF.trans (fX7_init_75_p0 n k σ c_8)
        rw [← e8] at hP hD
        exact hend _ _ (lsa [h0, q8, q17, q26, q35, q43]) _ _ dX7_init_97 rfl hP hD hS
      · have d_8 : k < 96 := Nat.lt_of_not_le (fun q => c_8 ((nI_leI (a := 96) (b := k) (by omega) (by omega)).mpr q))
        refine lv_aload_n hx hb dX7_init_81 rfl (lv_at hl 1 rfl) ?_
        refine va_get (D := D) (ci := 7) (v := .ref q8) (C := RX7) (T := TX7) (N := 13) hx hb hts (fun _ h9 => List.mem_cons_of_mem _ (List.mem_append_right _ h9)) hown hE.1 hP 0 rfl rfl 0 (by decide) (hts (.fieldLink RX7 7 "ShadowTableModel" "s" "[I") (List.mem_of_getElem? (i := 5) rfl)) (fun _ h9 => h9) rfl dX7_init_82 ?_
        refine lv_bipush (v := (19 : Int32)) hx hb dX7_init_85 (by decide +kernel) ?_
        refine lv_iload_n hx hb dX7_init_87 rfl (lv_at hl 0 rfl) ?_
        refine lv_iadd hx hb dX7_init_88 ?_
        refine lv_iconst (v := (-1 : Int32)) hx hb dX7_init_89 (by decide +kernel) ?_
        refine xst (j := 19 + k) hx hb hE hP hD hS 1 rfl rfl (zz_19 d_8) (zz_19i d_8) [(h0, .inr (7, [.ref q8, .ref q17, .int (0 : Int32), .ref q26, .int (0 : Int32), .ref q35, .ref q43, .int (0 : Int32), .int (0 : Int32), .int (0 : Int32), .int (0 : Int32), .int (0 : Int32), .int (0 : Int32)])), (q8, .inl (cI, 163, .inl (upd σ (19 + k) (-1 : Int32)))), (q17, .inl (cI, 815, .inl (fun _ => (0 : Int32)))), (q26, .inl (cI, 163, .inl (fun _ => (0 : Int32)))), (q35, .inl (cI, 163, .inl (fun _ => (0 : Int32)))), (q43, .inl (cI, 80, .inl (fun _ => (0 : Int32))))] rfl dX7_init_90 (fun H locs hP hD hS => ?_)
        refine lv_iinc (v := (nI (k + 1))) (lv' := [(1, .int (nI (k + 1))), (0, .ref h0)]) hx hb dX7_init_91 hl (k := 0) rfl (nI_1 _) (by decide) rfl (fun ls hl => ?_)
        refine lv_goto (tgt := 75) hx hb dX7_init_94 (by decide) ?_
        exact ih (k + 1) _ (by omega) (by omega) (hF.trans (fX7_init_75_p1 n k σ c_8)) _ _ hP hD hS _ hl
  exact loop_75 97 0 _ (by omega) (by omega) iMo_is _ _ hP hD hS _ hl
