theorem zz_200 : Bd (200 : Int32) 200 := Bd.of (j := 200) (by omega) (by omega)
def fX6_undo (τ : TPT) : Int32 × TPT := (match (fX1_takeBack τ.2 τ.1) with | (r_8, u_8) => (r_8, (u_8.2, u_8.1)))
theorem fX6_undo_p0 (τ : TPT) (r_8 : Int32) (u_8 : HiT × StT) (e_8 : (fX1_takeBack τ.2 τ.1) = (r_8, u_8)) : (fX6_undo τ) = (r_8, (u_8.2, u_8.1)) := by
  simp only [fX6_undo, e_8]
set_option maxHeartbeats 4000000 in
set_option maxRecDepth 100000 in
theorem kX6_undo (l : Launch) (D : va_G) (cI cS : ClassId) (h0 : Nat) (a0 : Nat → Nat) (a3 : Nat → Nat) (b3 : Nat → Nat → Nat) (w1 : Nat) (w2 : Nat) (w4 : Nat) (w5 : Int32) (τ : TPT) (hh : WH τ.2) : KI l yX6_undo wsX6_undo { frames := 5, cells := 0, slots := 0, locals := 108 } D (tysA cI cS) [.ref h0] (fl ([(h0, .inr (6, [.ref (a0 0), .ref w1, .ref w2, .ref (a3 0), .ref w4, .int w5]))] :: wSt cI a0 τ.1 :: wHi cI cS a3 b3 τ.2 ([]))) (fX6_undo τ) (fun u => (fl ([(h0, .inr (6, [.ref (a0 0), .ref w1, .ref w2, .ref (a3 0), .ref w4, .int w5]))] :: wSt cI a0 u.1 :: wHi cI cS a3 b3 u.2 ([])))) := by
  refine KI.of (cc := cX6_undo) (maxL := 1) (ty := .int) (by decide) rfl (Nat.le_of_ble_eq_true rfl) rfl (fun p e s m args below meth c ls Q A hx hb hml hown hts hE hP hD hS hl hend => ?_)
  have hown : s.vm.findClass RX6 = some m.cls := hown
  have hl : lv_has ls 1 [(0, .ref h0)] := hl
  refine lv_aload_n hx hb dX6_undo_0 rfl (lv_at hl 0 rfl) ?_
  refine va_get (D := D) (ci := 6) (v := .ref (a3 0)) (C := RX6) (T := TX6) (N := 6) hx hb hts (fun _ h9 => List.mem_cons_of_mem _ (List.mem_append_left _ (List.mem_append_left _ (List.mem_append_left _ (List.mem_append_left _ (List.mem_append_left _ (List.mem_append_right _ h9))))))) hown hE.1 hP 0 rfl rfl 3 (by decide) (hts (.fieldLink RX6 25 "ShadowTable" "history" "LShadowTable$History;") (List.mem_of_getElem? (i := 1) rfl)) (fun _ h9 => h9) rfl dX6_undo_1 ?_
  refine lv_aload_n hx hb dX6_undo_4 rfl (lv_at hl 0 rfl) ?_
  refine va_get (D := D) (ci := 6) (v := .ref (a0 0)) (C := RX6) (T := TX6) (N := 6) hx hb hts (fun _ h9 => List.mem_cons_of_mem _ (List.mem_append_left _ (List.mem_append_left _ (List.mem_append_left _ (List.mem_append_left _ (List.mem_append_left _ (List.mem_append_right _ h9))))))) hown hE.1 hP 0 rfl rfl 0 (by decide) (hts (.fieldLink RX6 10 "ShadowTable" "state" "LShadowTable$State;") (List.mem_of_getElem? (i := 2) rfl)) (fun _ h9 => h9) rfl dX6_undo_5 ?_
  refine bIV (wc := (wHi cI cS a3 b3 τ.2 [wSt cI a0 τ.1])) (w1 := fun (u : HiT × StT) => (wHi cI cS a3 b3 u.1 [wSt cI a0 u.2])) ⟨hx, hb, hml, hown, hts⟩ (kX1_takeBack l D cI cS a3 a0 b3 τ.2 τ.1 hh) (cwV 1 hts gX6_undo_X1_takeBack rfl rfl rfl (by decide +kernel) ⟨Nat.le_of_ble_eq_true rfl, Nat.le_of_ble_eq_true rfl⟩) hE hP hD hS rfl rfl [2, 3, 4, 5, 6, 7, 8, 9, 1] rfl rfl (fun _ => rfl) (fun _ => rfl) rfl hl.1 rfl (Nat.le_of_ble_eq_true rfl) ⟨Nat.zero_le _, Nat.zero_le _⟩ dX6_undo_8 (fun r_8 u_8 H locs e_8 hP hD hS => ?_)
  have hP : va_P D vwCl (fl ([(h0, .inr (6, [.ref (a0 0), .ref w1, .ref w2, .ref (a3 0), .ref w4, .int w5]))] :: wSt cI a0 u_8.2 :: wHi cI cS a3 b3 u_8.1 ([]))) H := hP
  have hD : va_D A (fl ([(h0, .inr (6, [.ref (a0 0), .ref w1, .ref w2, .ref (a3 0), .ref w4, .int w5]))] :: wSt cI a0 u_8.2 :: wHi cI cS a3 b3 u_8.1 ([]))) := hD
  exact hend _ _ _ _ _ _ dX6_undo_11 rfl (fX6_undo_p0 τ r_8 u_8 e_8) hP hS

def fX6_copy (p0 : Int32) (τ : StT) : Int32 := (if (fX6_isIn p0 (0 : Int32) (5 : Int32)) = (0 : Int32) then (-2 : Int32) else (fX0_tell p0 τ.2.2.2.1))
theorem fX6_copy_p0 (p0 : Int32) (τ : StT) (c_6 : (fX6_isIn p0 (0 : Int32) (5 : Int32)) = (0 : Int32)) : (fX6_copy p0 τ) = (-2 : Int32) := by
  simp only [fX6_copy, if_pos c_6]
theorem fX6_copy_p1 (p0 : Int32) (τ : StT) (c_6 : ¬ (fX6_isIn p0 (0 : Int32) (5 : Int32)) = (0 : Int32)) : (fX6_copy p0 τ) = (fX0_tell p0 τ.2.2.2.1) := by
  simp only [fX6_copy, if_neg c_6]
set_option maxHeartbeats 4000000 in
set_option maxRecDepth 100000 in
theorem kX6_copy (l : Launch) (D : va_G) (cI cS : ClassId) (h0 : Nat) (a0 : Nat → Nat) (w1 : Nat) (w2 : Nat) (w3 : Nat) (w4 : Nat) (w5 : Int32) (p0 : Int32) (τ : StT) : KR l yX6_copy wsX6_copy { frames := 1, cells := 0, slots := 0, locals := 22 } D (tysA cI cS) [.ref h0, .int p0] (fl ([(h0, .inr (6, [.ref (a0 0), .ref w1, .ref w2, .ref w3, .ref w4, .int w5]))] :: wSt cI a0 τ :: [])) (fX6_copy p0 τ) := by
  refine KR.of (cc := cX6_copy) (maxL := 2) (ty := .int) (by decide) rfl (Nat.le_of_ble_eq_true rfl) rfl (fun p e s m args below meth c ls Q hx hb hml hown hts hE hP hl hend => ?_)
  have hown : s.vm.findClass RX6 = some m.cls := hown
  have hl : lv_has ls 2 [(0, .ref h0), (1, .int p0)] := hl
  refine lv_iload_n hx hb dX6_copy_0 rfl (lv_at hl 1 rfl) ?_
  refine lv_iconst (v := (0 : Int32)) hx hb dX6_copy_1 (by decide +kernel) ?_
  refine lv_iconst (v := (5 : Int32)) hx hb dX6_copy_2 (by decide +kernel) ?_
  refine cRS ⟨hx, hb, hml, hown, hts⟩ (kX6_isIn l D cI cS p0 (0 : Int32) (5 : Int32)) (va_cwS 3 hts gX6_copy_X6_isIn rfl rfl rfl (by decide +kernel) ⟨Nat.le_of_ble_eq_true rfl, Nat.le_of_ble_eq_true rfl⟩) hE hP [] rfl rfl hl.1 rfl (Nat.le_of_ble_eq_true rfl) ⟨Nat.zero_le _, Nat.zero_le _⟩ dX6_copy_3 ?_
  refine lv_if_eq (tgt := 23) hx hb dX6_copy_6 (by decide) (fun c_6 => ?_) (fun c_6 => ?_)
  · refine lv_bipush (v := (-2 : Int32)) hx hb dX6_copy_23 (by decide +kernel) ?_
    exact hend _ _ _ dX6_copy_25 rfl (fX6_copy_p0 p0 τ c_6)
  · refine lv_aload_n hx hb dX6_copy_9 rfl (lv_at hl 0 rfl) ?_
    refine va_get (D := D) (ci := 6) (v := .ref (a0 0)) (C := RX6) (T := TX6) (N := 6) hx hb hts (fun _ h9 => List.mem_cons_of_mem _ (List.mem_append_left _ (List.mem_append_left _ (List.mem_append_left _ (List.mem_append_right _ h9))))) hown hE.1 hP 0 rfl rfl 0 (by decide) (hts (.fieldLink RX6 10 "ShadowTable" "state" "LShadowTable$State;") (List.mem_of_getElem? (i := 1) rfl)) (fun _ h9 => h9) rfl dX6_copy_10 ?_
    refine va_getN (D := D) (ci := 5) (v := .ref (a0 5)) (C := RX5) (T := TX5) (N := 6) hx hb hts (fun _ h9 => List.mem_cons_of_mem _ (List.mem_append_left _ (List.mem_append_left _ (List.mem_append_right _ h9)))) hown hE.1 hP 1 rfl rfl 3 (by decide) (hE.2.f 13 rfl) (fun _ h9 => h9) rfl dX6_copy_13 ?_
    refine lv_iload_n hx hb dX6_copy_16 rfl (lv_at hl 1 rfl) ?_
    refine cRV ⟨hx, hb, hml, hown, hts⟩ (kX0_tell l D cI cS (a0 5) (a0 6) (a0 7) (a0 8) (a0 9) (a0 10) p0 τ.2.2.2.1) (cwV 1 hts gX6_copy_X0_tell rfl rfl rfl (by decide +kernel) ⟨Nat.le_of_ble_eq_true rfl, Nat.le_of_ble_eq_true rfl⟩) hE hP 6 rfl rfl [6, 7, 8, 9, 10, 11] rfl rfl hl.1 rfl (Nat.le_of_ble_eq_true rfl) ⟨Nat.zero_le _, Nat.zero_le _⟩ dX6_copy_17 ?_
    refine lv_goto (tgt := 25) hx hb dX6_copy_20 (by decide) ?_
    exact hend _ _ _ dX6_copy_25 rfl (fX6_copy_p1 p0 τ c_6)

def fX6_entry (p0 : Int32) (p1 : Int32) (τ : StT) : Int32 := (if p0 < (0 : Int32) then (-2 : Int32) else (if (fX6_isIn p1 (0 : Int32) (1 : Int32)) = (0 : Int32) then (-2 : Int32) else (if (fX5_hasCopy τ) = (0 : Int32) then (-5 : Int32) else (if p1 = (0 : Int32) then (fX2_keyAt p0 τ.2.2.2.1.2.1) else (fX2_valueAt p0 τ.2.2.2.1.2.1)))))
theorem fX6_entry_p0 (p0 : Int32) (p1 : Int32) (τ : StT) (c_1 : p0 < (0 : Int32)) : (fX6_entry p0 p1 τ) = (-2 : Int32) := by
  simp only [fX6_entry, if_pos c_1]
theorem fX6_entry_p1 (p0 : Int32) (p1 : Int32) (τ : StT) (c_1 : ¬ p0 < (0 : Int32)) (c_10 : ¬ (fX6_isIn p1 (0 : Int32) (1 : Int32)) = (0 : Int32)) (c_23 : ¬ (fX5_hasCopy τ) = (0 : Int32)) (c_41 : ¬ p1 = (0 : Int32)) : (fX6_entry p0 p1 τ) = (fX2_valueAt p0 τ.2.2.2.1.2.1) := by
  simp only [fX6_entry, if_neg c_1, if_neg c_10, if_neg c_23, if_neg c_41]
theorem fX6_entry_p2 (p0 : Int32) (p1 : Int32) (τ : StT) (c_1 : ¬ p0 < (0 : Int32)) (c_10 : ¬ (fX6_isIn p1 (0 : Int32) (1 : Int32)) = (0 : Int32)) (c_23 : ¬ (fX5_hasCopy τ) = (0 : Int32)) (c_41 : p1 = (0 : Int32)) : (fX6_entry p0 p1 τ) = (fX2_keyAt p0 τ.2.2.2.1.2.1) := by
  simp only [fX6_entry, if_neg c_1, if_neg c_10, if_neg c_23, if_pos c_41]
theorem fX6_entry_p3 (p0 : Int32) (p1 : Int32) (τ : StT) (c_1 : ¬ p0 < (0 : Int32)) (c_10 : ¬ (fX6_isIn p1 (0 : Int32) (1 : Int32)) = (0 : Int32)) (c_23 : (fX5_hasCopy τ) = (0 : Int32)) : (fX6_entry p0 p1 τ) = (-5 : Int32) := by
  simp only [fX6_entry, if_neg c_1, if_neg c_10, if_pos c_23]
theorem fX6_entry_p4 (p0 : Int32) (p1 : Int32) (τ : StT) (c_1 : ¬ p0 < (0 : Int32)) (c_10 : (fX6_isIn p1 (0 : Int32) (1 : Int32)) = (0 : Int32)) : (fX6_entry p0 p1 τ) = (-2 : Int32) := by
  simp only [fX6_entry, if_neg c_1, if_pos c_10]
set_option maxHeartbeats 4000000 in
set_option maxRecDepth 100000 in
theorem kX6_entry (l : Launch) (D : va_G) (cI cS : ClassId) (h0 : Nat) (a0 : Nat → Nat) (w1 : Nat) (w2 : Nat) (w3 : Nat) (w4 : Nat) (w5 : Int32) (p0 : Int32) (p1 : Int32) (τ : StT) (hw : WS τ) : KR l yX6_entry wsX6_entry { frames := 2, cells := 0, slots := 0, locals := 42 } D (tysA cI cS) [.ref h0, .int p0, .int p1] (fl ([(h0, .inr (6, [.ref (a0 0), .ref w1, .ref w2, .ref w3, .ref w4, .int w5]))] :: wSt cI a0 τ :: [])) (fX6_entry p0 p1 τ) := by
  refine KR.of (cc := cX6_entry) (maxL := 4) (ty := .int) (by decide) rfl (Nat.le_of_ble_eq_true rfl) rfl (fun p e s m args below meth c ls Q hx hb hml hown hts hE hP hl hend => ?_)
  have hown : s.vm.findClass RX6 = some m.cls := hown
  have hl : lv_has ls 4 [(0, .ref h0), (1, .int p0), (2, .int p1)] := hl
  refine lv_iload_n hx hb dX6_entry_0 rfl (lv_at hl 1 rfl) ?_
  refine lv_if_lt (tgt := 13) hx hb dX6_entry_1 (by decide) (fun c_1 => ?_) (fun c_1 => ?_)
  · refine lv_bipush (v := (-2 : Int32)) hx hb dX6_entry_13 (by decide +kernel) ?_
    exact hend _ _ _ dX6_entry_15 rfl (fX6_entry_p0 p0 p1 τ c_1)
  · refine lv_iload_n hx hb dX6_entry_4 rfl (lv_at hl 2 rfl) ?_
    refine lv_iconst (v := (0 : Int32)) hx hb dX6_entry_5 (by decide +kernel) ?_
    refine lv_iconst (v := (1 : Int32)) hx hb dX6_entry_6 (by decide +kernel) ?_
    refine cRS ⟨hx, hb, hml, hown, hts⟩ (kX6_isIn l D cI cS p1 (0 : Int32) (1 : Int32)) (va_cwS 3 hts gX6_entry_X6_isIn rfl rfl rfl (by decide +kernel) ⟨Nat.le_of_ble_eq_true rfl, Nat.le_of_ble_eq_true rfl⟩) hE hP [] rfl rfl hl.1 rfl (Nat.le_of_ble_eq_true rfl) ⟨Nat.zero_le _, Nat.zero_le _⟩ dX6_entry_7 ?_
    refine lv_if_ne (tgt := 16) hx hb dX6_entry_10 (by decide) (fun c_10 => ?_) (fun c_10 => ?_)
    · refine lv_aload_n hx hb dX6_entry_16 rfl (lv_at hl 0 rfl) ?_
      refine va_get (D := D) (ci := 6) (v := .ref (a0 0)) (C := RX6) (T := TX6) (N := 6) hx hb hts (fun _ h9 => List.mem_cons_of_mem _ (List.mem_append_left _ (List.mem_append_left _ (List.mem_append_left _ (List.mem_append_right _ h9))))) hown hE.1 hP 0 rfl rfl 0 (by decide) (hts (.fieldLink RX6 10 "ShadowTable" "state" "LShadowTable$State;") (List.mem_of_getElem? (i := 1) rfl)) (fun _ h9 => h9) rfl dX6_entry_17 ?_
      refine cRV ⟨hx, hb, hml, hown, hts⟩ (kX5_hasCopy l D cI cS (a0 0) (a0 1) (a0 2) (a0 3) (a0 4) (a0 5) (a0 6) (a0 7) (a0 8) (a0 9) (a0 10) (a0 11) (a0 12) τ) (cwV 0 hts gX6_entry_X5_hasCopy rfl rfl rfl (by decide +kernel) ⟨Nat.le_of_ble_eq_true rfl, Nat.le_of_ble_eq_true rfl⟩) hE hP 1 rfl rfl [1, 2, 3, 4, 5, 6, 7, 8, 9, 10, 11, 12, 13] rfl rfl hl.1 rfl (Nat.le_of_ble_eq_true rfl) ⟨Nat.zero_le _, Nat.zero_le _⟩ dX6_entry_20 ?_
      refine lv_if_ne (tgt := 29) hx hb dX6_entry_23 (by decide) (fun c_23 => ?_) (fun c_23 => ?_)
      · refine lv_aload_n hx hb dX6_entry_29 rfl (lv_at hl 0 rfl) ?_
        refine va_get (D := D) (ci := 6) (v := .ref (a0 0)) (C := RX6) (T := TX6) (N := 6) hx hb hts (fun _ h9 => List.mem_cons_of_mem _ (List.mem_append_left _ (List.mem_append_left _ (List.mem_append_left _ (List.mem_append_right _ h9))))) hown hE.1 hP 0 rfl rfl 0 (by decide) (hts (.fieldLink RX6 10 "ShadowTable" "state" "LShadowTable$State;") (List.mem_of_getElem? (i := 1) rfl)) (fun _ h9 => h9) rfl dX6_entry_30 ?_
        refine va_getN (D := D) (ci := 5) (v := .ref (a0 5)) (C := RX5) (T := TX5) (N := 6) hx hb hts (fun _ h9 => List.mem_cons_of_mem _ (List.mem_append_left _ (List.mem_append_left _ (List.mem_append_right _ h9)))) hown hE.1 hP 1 rfl rfl 3 (by decide) (hE.2.f 13 rfl) (fun _ h9 => h9) rfl dX6_entry_33 ?_
        refine va_getN (D := D) (ci := 0) (v := .ref (a0 8)) (C := RX0) (T := TX0) (N := 7) hx hb hts (fun _ h9 => List.mem_cons_of_mem _ (List.mem_append_left _ (List.mem_append_right _ h9))) hown hE.1 hP 6 rfl rfl 1 (by decide) (hE.2.f 4 rfl) (fun _ h9 => h9) rfl dX6_entry_36 ?_
        refine lv_astore_n (lv' := [(3, .ref (a0 8)), (0, .ref h0), (1, .int p0), (2, .int p1)]) hx hb dX6_entry_39 rfl hl (by decide) rfl (fun ls hl => ?_)
        refine lv_iload_n hx hb dX6_entry_40 rfl (lv_at hl 3 rfl) ?_
        refine lv_if_ne (tgt := 52) hx hb dX6_entry_41 (by decide) (fun c_41 => ?_) (fun c_41 => ?_)
        · refine lv_aload_n hx hb dX6_entry_52 rfl (lv_at hl 0 rfl) ?_
          refine lv_iload_n hx hb dX6_entry_53 rfl (lv_at hl 2 rfl) ?_
          refine cRV ⟨hx, hb, hml, hown, hts⟩ (kX2_valueAt l D cI cS (a0 8) (a0 9) (a0 10) p0 τ.2.2.2.1.2.1 hw.1) (cwV 1 hts gX6_entry_X2_valueAt rfl rfl rfl (by decide +kernel) ⟨Nat.le_of_ble_eq_true rfl, Nat.le_of_ble_eq_true rfl⟩) hE hP 9 rfl rfl [9, 10, 11] rfl rfl hl.1 rfl (Nat.le_of_ble_eq_true rfl) ⟨Nat.zero_le _, Nat.zero_le _⟩ dX6_entry_54 ?_
          exact hend _ _ _ dX6_entry_57 rfl (fX6_entry_p1 p0 p1 τ c_1 c_10 c_23 c_41)
        · refine lv_aload_n hx hb dX6_entry_44 rfl (lv_at hl 0 rfl) ?_
          refine lv_iload_n hx hb dX6_entry_45 rfl (lv_at hl 2 rfl) ?_
          refine cRV ⟨hx, hb, hml, hown, hts⟩ (kX2_keyAt l D cI cS (a0 8) (a0 9) (a0 10) p0 τ.2.2.2.1.2.1 hw.1) (cwV 1 hts gX6_entry_X2_keyAt rfl rfl rfl (by decide +kernel) ⟨Nat.le_of_ble_eq_true rfl, Nat.le_of_ble_eq_true rfl⟩) hE hP 9 rfl rfl [9, 10, 11] rfl rfl hl.1 rfl (Nat.le_of_ble_eq_true rfl) ⟨Nat.zero_le _, Nat.zero_le _⟩ dX6_entry_46 ?_
          refine lv_goto (tgt := 57) hx hb dX6_entry_49 (by decide) ?_
          exact hend _ _ _ dX6_entry_57 rfl (fX6_entry_p2 p0 p1 τ c_1 c_10 c_23 c_41)
      · refine lv_bipush (v := (-5 : Int32)) hx hb dX6_entry_26 (by decide +kernel) ?_
        exact hend _ _ _ dX6_entry_28 rfl (fX6_entry_p3 p0 p1 τ c_1 c_10 c_23)
    · refine lv_bipush (v := (-2 : Int32)) hx hb dX6_entry_13 (by decide +kernel) ?_
      exact hend _ _ _ dX6_entry_15 rfl (fX6_entry_p4 p0 p1 τ c_1 c_10)

def fX6_changed (p0 : Int32) (p1 : Int32) (p2 : Int32) : Int32 := (if (fX6_isKey p1) = (0 : Int32) then (-1 : Int32) else (if (fX6_isKind p0) = (0 : Int32) then (-2 : Int32) else (if (fX6_isValue p2) = (0 : Int32) then (-2 : Int32) else (fX6_changedValue p0 p1 p2))))
theorem fX6_changed_p0 (p0 : Int32) (p1 : Int32) (p2 : Int32) (c_4 : ¬ (fX6_isKey p1) = (0 : Int32)) (c_13 : (fX6_isKind p0) = (0 : Int32)) : (fX6_changed p0 p1 p2) = (-2 : Int32) := by
  simp only [fX6_changed, if_neg c_4, if_pos c_13]
theorem fX6_changed_p1 (p0 : Int32) (p1 : Int32) (p2 : Int32) (c_4 : ¬ (fX6_isKey p1) = (0 : Int32)) (c_13 : ¬ (fX6_isKind p0) = (0 : Int32)) (c_20 : ¬ (fX6_isValue p2) = (0 : Int32)) : (fX6_changed p0 p1 p2) = (fX6_changedValue p0 p1 p2) := by
  simp only [fX6_changed, if_neg c_4, if_neg c_13, if_neg c_20]
theorem fX6_changed_p2 (p0 : Int32) (p1 : Int32) (p2 : Int32) (c_4 : ¬ (fX6_isKey p1) = (0 : Int32)) (c_13 : ¬ (fX6_isKind p0) = (0 : Int32)) (c_20 : (fX6_isValue p2) = (0 : Int32)) : (fX6_changed p0 p1 p2) = (-2 : Int32) := by
  simp only [fX6_changed, if_neg c_4, if_neg c_13, if_pos c_20]
theorem fX6_changed_p3 (p0 : Int32) (p1 : Int32) (p2 : Int32) (c_4 : (fX6_isKey p1) = (0 : Int32)) : (fX6_changed p0 p1 p2) = (-1 : Int32) := by
  simp only [fX6_changed, if_pos c_4]
set_option maxHeartbeats 4000000 in
set_option maxRecDepth 100000 in
theorem kX6_changed (l : Launch) (D : va_G) (cI cS : ClassId) (h0 : Nat) (p0 : Int32) (p1 : Int32) (p2 : Int32) : KR l yX6_changed wsX6_changed { frames := 2, cells := 0, slots := 0, locals := 42 } D (tysA cI cS) [.ref h0, .int p0, .int p1, .int p2] [] (fX6_changed p0 p1 p2) := by
  refine KR.of (cc := cX6_changed) (maxL := 4) (ty := .int) (by decide) rfl (Nat.le_of_ble_eq_true rfl) rfl (fun p e s m args below meth c ls Q hx hb hml hown hts hE hP hl hend => ?_)
  have hown : s.vm.findClass RX6 = some m.cls := hown
  have hl : lv_has ls 4 [(0, .ref h0), (1, .int p0), (2, .int p1), (3, .int p2)] := hl
  refine lv_iload_n hx hb dX6_changed_0 rfl (lv_at hl 2 rfl) ?_
  refine cRS ⟨hx, hb, hml, hown, hts⟩ (kX6_isKey l D cI cS p1) (va_cwS 1 hts gX6_changed_X6_isKey rfl rfl rfl (by decide +kernel) ⟨Nat.le_of_ble_eq_true rfl, Nat.le_of_ble_eq_true rfl⟩) hE hP [] rfl rfl hl.1 rfl (Nat.le_of_ble_eq_true rfl) ⟨Nat.zero_le _, Nat.zero_le _⟩ dX6_changed_1 ?_
  refine lv_if_ne (tgt := 9) hx hb dX6_changed_4 (by decide) (fun c_4 => ?_) (fun c_4 => ?_)
  · refine lv_iload_n hx hb dX6_changed_9 rfl (lv_at hl 1 rfl) ?_
    refine cRS ⟨hx, hb, hml, hown, hts⟩ (kX6_isKind l D cI cS p0) (va_cwS 1 hts gX6_changed_X6_isKind rfl rfl rfl (by decide +kernel) ⟨Nat.le_of_ble_eq_true rfl, Nat.le_of_ble_eq_true rfl⟩) hE hP [] rfl rfl hl.1 rfl (Nat.le_of_ble_eq_true rfl) ⟨Nat.zero_le _, Nat.zero_le _⟩ dX6_changed_10 ?_
    refine lv_if_eq (tgt := 23) hx hb dX6_changed_13 (by decide) (fun c_13 => ?_) (fun c_13 => ?_)
    · refine lv_bipush (v := (-2 : Int32)) hx hb dX6_changed_23 (by decide +kernel) ?_
      exact hend _ _ _ dX6_changed_25 rfl (fX6_changed_p0 p0 p1 p2 c_4 c_13)
    · refine lv_iload_n hx hb dX6_changed_16 rfl (lv_at hl 3 rfl) ?_
      refine cRS ⟨hx, hb, hml, hown, hts⟩ (kX6_isValue l D cI cS p2) (va_cwS 1 hts gX6_changed_X6_isValue rfl rfl rfl (by decide +kernel) ⟨Nat.le_of_ble_eq_true rfl, Nat.le_of_ble_eq_true rfl⟩) hE hP [] rfl rfl hl.1 rfl (Nat.le_of_ble_eq_true rfl) ⟨Nat.zero_le _, Nat.zero_le _⟩ dX6_changed_17 ?_
      refine lv_if_ne (tgt := 26) hx hb dX6_changed_20 (by decide) (fun c_20 => ?_) (fun c_20 => ?_)
      · refine lv_iload_n hx hb dX6_changed_26 rfl (lv_at hl 1 rfl) ?_
        refine lv_iload_n hx hb dX6_changed_27 rfl (lv_at hl 2 rfl) ?_
        refine lv_iload_n hx hb dX6_changed_28 rfl (lv_at hl 3 rfl) ?_
        refine cRS ⟨hx, hb, hml, hown, hts⟩ (kX6_changedValue l D cI cS p0 p1 p2) (va_cwS 3 hts gX6_changed_X6_changedValue rfl rfl rfl (by decide +kernel) ⟨Nat.le_of_ble_eq_true rfl, Nat.le_of_ble_eq_true rfl⟩) hE hP [] rfl rfl hl.1 rfl (Nat.le_of_ble_eq_true rfl) ⟨Nat.zero_le _, Nat.zero_le _⟩ dX6_changed_29 ?_
        exact hend _ _ _ dX6_changed_32 rfl (fX6_changed_p1 p0 p1 p2 c_4 c_13 c_20)
      · refine lv_bipush (v := (-2 : Int32)) hx hb dX6_changed_23 (by decide +kernel) ?_
        exact hend _ _ _ dX6_changed_25 rfl (fX6_changed_p2 p0 p1 p2 c_4 c_13 c_20)
  · refine lv_iconst (v := (-1 : Int32)) hx hb dX6_changed_7 (by decide +kernel) ?_
    exact hend _ _ _ dX6_changed_8 rfl (fX6_changed_p3 p0 p1 p2 c_4)

def fX6_differences_17 (τ : StT) : Nat → Int32 → Nat → Int32
  | 0, cnt, k => 0
  | n + 1, cnt, k => (if (32 : Int32) ≤ (nI k) then cnt else (if (fX5_differsAt (nI k) τ) = (0 : Int32) then fX6_differences_17 τ n cnt (k + 1) else fX6_differences_17 τ n (cnt + (1 : Int32)) (k + 1)))
def fX6_differences (τ : StT) : Int32 := (if (fX5_hasCopy τ) = (0 : Int32) then (-5 : Int32) else fX6_differences_17 τ 33 (0 : Int32) 0)
theorem fX6_differences_17_p0 (τ : StT) (n : Nat) (cnt : Int32) (k : Nat) (c_20 : (32 : Int32) ≤ (nI k)) : fX6_differences_17 τ (n + 1) cnt k = cnt := by
  simp only [fX6_differences_17, if_pos c_20]
theorem fX6_differences_17_p1 (τ : StT) (n : Nat) (cnt : Int32) (k : Nat) (c_20 : ¬ (32 : Int32) ≤ (nI k)) (c_31 : (fX5_differsAt (nI k) τ) = (0 : Int32)) : fX6_differences_17 τ (n + 1) cnt k = fX6_differences_17 τ n cnt (k + 1) := by
  simp only [fX6_differences_17, if_neg c_20, if_pos c_31]
theorem fX6_differences_17_p2 (τ : StT) (n : Nat) (cnt : Int32) (k : Nat) (c_20 : ¬ (32 : Int32) ≤ (nI k)) (c_31 : ¬ (fX5_differsAt (nI k) τ) = (0 : Int32)) : fX6_differences_17 τ (n + 1) cnt k = fX6_differences_17 τ n (cnt + (1 : Int32)) (k + 1) := by
  simp only [fX6_differences_17, if_neg c_20, if_neg c_31]
theorem fX6_differences_p3 (τ : StT) (c_7 : ¬ (fX5_hasCopy τ) = (0 : Int32)) : (fX6_differences τ) = fX6_differences_17 τ 33 (0 : Int32) 0 := by
  simp only [fX6_differences, if_neg c_7]
theorem fX6_differences_p4 (τ : StT) (c_7 : (fX5_hasCopy τ) = (0 : Int32)) : (fX6_differences τ) = (-5 : Int32) := by
  simp only [fX6_differences, if_pos c_7]
set_option maxHeartbeats 4000000 in
set_option maxRecDepth 100000 in
theorem kX6_differences (l : Launch) (D : va_G) (cI cS : ClassId) (h0 : Nat) (a0 : Nat → Nat) (w1 : Nat) (w2 : Nat) (w3 : Nat) (w4 : Nat) (w5 : Int32) (τ : StT) : KR l yX6_differences wsX6_differences { frames := 2, cells := 0, slots := 0, locals := 43 } D (tysA cI cS) [.ref h0] (fl ([(h0, .inr (6, [.ref (a0 0), .ref w1, .ref w2, .ref w3, .ref w4, .int w5]))] :: wSt cI a0 τ :: [])) (fX6_differences τ) := by
  refine KR.of (cc := cX6_differences) (maxL := 3) (ty := .int) (by decide) rfl (Nat.le_of_ble_eq_true rfl) rfl (fun p e s m args below meth c ls Q hx hb hml hown hts hE hP hl hend => ?_)
  have hown : s.vm.findClass RX6 = some m.cls := hown
  have hl : lv_has ls 3 [(0, .ref h0)] := hl
  have loop_17 : ∀ (n : Nat) (cnt : Int32) (k : Nat), k ≤ 32 → 32 - k < n → (fX6_differences τ) = fX6_differences_17 τ n cnt k → ∀ (ls : Array Slot), lv_has ls 3 [(0, .ref h0), (1, .int cnt), (2, .int (nI k))] → W p l e { frames := 2, cells := 0, slots := 0, locals := 43 } s m args below meth c s.heap [] 0 0 Q (F0 m 17 ls []) := by
    intro n
    induction n with
    | zero =>
      intro cnt k hk hn
      exact absurd hn (by omega)
    | succ n ih =>
      intro cnt k hk hn hF ls hl
      refine lv_iload_n hx hb dX6_differences_17 rfl (lv_at hl 2 rfl) ?_
      refine lv_bipush (v := (32 : Int32)) hx hb dX6_differences_18 (by decide +kernel) ?_
      refine lv_icmp_ge (tgt := 43) hx hb dX6_differences_20 (by decide) (fun c_20 => ?_) (fun c_20 => ?_)
      · have d_20 : 32 ≤ k := (nI_leI (a := 32) (b := k) (by omega) (by omega)).mp c_20
        refine lv_iload_n hx hb dX6_differences_43 rfl (lv_at hl 1 rfl) ?_
        exact hend _ _ _ dX6_differences_44 rfl (hF.trans (fX6_differences_17_p0 τ n cnt k c_20))
      · have d_20 : k < 32 := Nat.lt_of_not_le (fun q => c_20 ((nI_leI (a := 32) (b := k) (by omega) (by omega)).mpr q))
        refine lv_aload_n hx hb dX6_differences_23 rfl (lv_at hl 0 rfl) ?_
        refine va_get (D := D) (ci := 6) (v := .ref (a0 0)) (C := RX6) (T := TX6) (N := 6) hx hb hts (fun _ h9 => List.mem_cons_of_mem _ (List.mem_append_left _ (List.mem_append_left _ (List.mem_append_left _ (List.mem_append_right _ h9))))) hown hE.1 hP 0 rfl rfl 0 (by decide) (hts (.fieldLink RX6 10 "ShadowTable" "state" "LShadowTable$State;") (List.mem_of_getElem? (i := 1) rfl)) (fun _ h9 => h9) rfl dX6_differences_24 ?_
        refine lv_iload_n hx hb dX6_differences_27 rfl (lv_at hl 2 rfl) ?_
        refine cRV ⟨hx, hb, hml, hown, hts⟩ (kX5_differsAt l D cI cS (a0 0) (a0 1) (a0 2) (a0 3) (a0 4) (a0 5) (a0 6) (a0 7) (a0 8) (a0 9) (a0 10) (a0 11) (a0 12) (nI k) τ) (cwV 1 hts gX6_differences_X5_differsAt rfl rfl rfl (by decide +kernel) ⟨Nat.le_of_ble_eq_true rfl, Nat.le_of_ble_eq_true rfl⟩) hE hP 1 rfl rfl [1, 2, 3, 4, 5, 6, 7, 8, 9, 10, 11, 12, 13] rfl rfl hl.1 rfl (Nat.le_of_ble_eq_true rfl) ⟨Nat.zero_le _, Nat.zero_le _⟩ dX6_differences_28 ?_
        refine lv_if_eq (tgt := 37) hx hb dX6_differences_31 (by decide) (fun c_31 => ?_) (fun c_31 => ?_)
        · refine lv_iinc (v := (nI (k + 1))) (lv' := [(2, .int (nI (k + 1))), (0, .ref h0), (1, .int cnt)]) hx hb dX6_differences_37 hl (k := 2) rfl (nI_1 _) (by decide) rfl (fun ls hl => ?_)
          refine lv_goto (tgt := 17) hx hb dX6_differences_40 (by decide) ?_
          exact ih cnt (k + 1) (by omega) (by omega) (hF.trans (fX6_differences_17_p1 τ n cnt k c_20 c_31)) _ (lv_sub hl [1, 2, 0] rfl)
        · refine lv_iinc (v := (cnt + (1 : Int32))) (lv' := [(1, .int (cnt + (1 : Int32))), (0, .ref h0), (2, .int (nI k))]) hx hb dX6_differences_34 hl (k := 1) rfl rfl (by decide) rfl (fun ls hl => ?_)
          refine lv_iinc (v := (nI (k + 1))) (lv' := [(2, .int (nI (k + 1))), (1, .int (cnt + (1 : Int32))), (0, .ref h0)]) hx hb dX6_differences_37 hl (k := 2) rfl (nI_1 _) (by decide) rfl (fun ls hl => ?_)
          refine lv_goto (tgt := 17) hx hb dX6_differences_40 (by decide) ?_
          exact ih (cnt + (1 : Int32)) (k + 1) (by omega) (by omega) (hF.trans (fX6_differences_17_p2 τ n cnt k c_20 c_31)) _ (lv_sub hl [2, 1, 0] rfl)
  refine lv_aload_n hx hb dX6_differences_0 rfl (lv_at hl 0 rfl) ?_
  refine va_get (D := D) (ci := 6) (v := .ref (a0 0)) (C := RX6) (T := TX6) (N := 6) hx hb hts (fun _ h9 => List.mem_cons_of_mem _ (List.mem_append_left _ (List.mem_append_left _ (List.mem_append_left _ (List.mem_append_right _ h9))))) hown hE.1 hP 0 rfl rfl 0 (by decide) (hts (.fieldLink RX6 10 "ShadowTable" "state" "LShadowTable$State;") (List.mem_of_getElem? (i := 1) rfl)) (fun _ h9 => h9) rfl dX6_differences_1 ?_
  refine cRV ⟨hx, hb, hml, hown, hts⟩ (kX5_hasCopy l D cI cS (a0 0) (a0 1) (a0 2) (a0 3) (a0 4) (a0 5) (a0 6) (a0 7) (a0 8) (a0 9) (a0 10) (a0 11) (a0 12) τ) (cwV 0 hts gX6_differences_X5_hasCopy rfl rfl rfl (by decide +kernel) ⟨Nat.le_of_ble_eq_true rfl, Nat.le_of_ble_eq_true rfl⟩) hE hP 1 rfl rfl [1, 2, 3, 4, 5, 6, 7, 8, 9, 10, 11, 12, 13] rfl rfl hl.1 rfl (Nat.le_of_ble_eq_true rfl) ⟨Nat.zero_le _, Nat.zero_le _⟩ dX6_differences_4 ?_
  refine lv_if_ne (tgt := 13) hx hb dX6_differences_7 (by decide) (fun c_7 => ?_) (fun c_7 => ?_)
  · refine lv_iconst (v := (0 : Int32)) hx hb dX6_differences_13 (by decide +kernel) ?_
    refine lv_istore_n (lv' := [(1, .int (0 : Int32)), (0, .ref h0)]) hx hb dX6_differences_14 rfl hl (by decide) rfl (fun ls hl => ?_)
    refine lv_iconst (v := (0 : Int32)) hx hb dX6_differences_15 (by decide +kernel) ?_
    refine lv_istore_n (lv' := [(2, .int (0 : Int32)), (1, .int (0 : Int32)), (0, .ref h0)]) hx hb dX6_differences_16 rfl hl (by decide) rfl (fun ls hl => ?_)
    exact loop_17 33 (0 : Int32) 0 (by omega) (by omega) (fX6_differences_p3 τ c_7) _ (lv_sub hl [2, 1, 0] rfl)
  · refine lv_bipush (v := (-5 : Int32)) hx hb dX6_differences_10 (by decide +kernel) ?_
    exact hend _ _ _ dX6_differences_12 rfl (fX6_differences_p4 τ c_7)

def fX6_firstDifference_15 (τ : StT) : Nat → Nat → Int32
  | 0, k => 0
  | n + 1, k => (if (32 : Int32) ≤ (nI k) then (-5 : Int32) else (if (fX5_differsAt (nI k) τ) = (0 : Int32) then fX6_firstDifference_15 τ n (k + 1) else (nI k)))
def fX6_firstDifference (τ : StT) : Int32 := (if (fX5_hasCopy τ) = (0 : Int32) then (-5 : Int32) else fX6_firstDifference_15 τ 33 0)
theorem fX6_firstDifference_15_p0 (τ : StT) (n : Nat) (k : Nat) (c_18 : (32 : Int32) ≤ (nI k)) : fX6_firstDifference_15 τ (n + 1) k = (-5 : Int32) := by
  simp only [fX6_firstDifference_15, if_pos c_18]
theorem fX6_firstDifference_15_p1 (τ : StT) (n : Nat) (k : Nat) (c_18 : ¬ (32 : Int32) ≤ (nI k)) (c_29 : (fX5_differsAt (nI k) τ) = (0 : Int32)) : fX6_firstDifference_15 τ (n + 1) k = fX6_firstDifference_15 τ n (k + 1) := by
  simp only [fX6_firstDifference_15, if_neg c_18, if_pos c_29]
theorem fX6_firstDifference_15_p2 (τ : StT) (n : Nat) (k : Nat) (c_18 : ¬ (32 : Int32) ≤ (nI k)) (c_29 : ¬ (fX5_differsAt (nI k) τ) = (0 : Int32)) : fX6_firstDifference_15 τ (n + 1) k = (nI k) := by
  simp only [fX6_firstDifference_15, if_neg c_18, if_neg c_29]
theorem fX6_firstDifference_p3 (τ : StT) (c_7 : ¬ (fX5_hasCopy τ) = (0 : Int32)) : (fX6_firstDifference τ) = fX6_firstDifference_15 τ 33 0 := by
  simp only [fX6_firstDifference, if_neg c_7]
theorem fX6_firstDifference_p4 (τ : StT) (c_7 : (fX5_hasCopy τ) = (0 : Int32)) : (fX6_firstDifference τ) = (-5 : Int32) := by
  simp only [fX6_firstDifference, if_pos c_7]
set_option maxHeartbeats 4000000 in
set_option maxRecDepth 100000 in
theorem kX6_firstDifference (l : Launch) (D : va_G) (cI cS : ClassId) (h0 : Nat) (a0 : Nat → Nat) (w1 : Nat) (w2 : Nat) (w3 : Nat) (w4 : Nat) (w5 : Int32) (τ : StT) : KR l yX6_firstDifference wsX6_firstDifference { frames := 2, cells := 0, slots := 0, locals := 43 } D (tysA cI cS) [.ref h0] (fl ([(h0, .inr (6, [.ref (a0 0), .ref w1, .ref w2, .ref w3, .ref w4, .int w5]))] :: wSt cI a0 τ :: [])) (fX6_firstDifference τ) := by
  refine KR.of (cc := cX6_firstDifference) (maxL := 2) (ty := .int) (by decide) rfl (Nat.le_of_ble_eq_true rfl) rfl (fun p e s m args below meth c ls Q hx hb hml hown hts hE hP hl hend => ?_)
  have hown : s.vm.findClass RX6 = some m.cls := hown
  have hl : lv_has ls 2 [(0, .ref h0)] := hl
  have loop_15 : ∀ (n : Nat) (k : Nat), k ≤ 32 → 32 - k < n → (fX6_firstDifference τ) = fX6_firstDifference_15 τ n k → ∀ (ls : Array Slot), lv_has ls 2 [(0, .ref h0), (1, .int (nI k))] → W p l e { frames := 2, cells := 0, slots := 0, locals := 43 } s m args below meth c s.heap [] 0 0 Q (F0 m 15 ls []) := by
    intro n
    induction n with
    | zero =>
      intro k hk hn
      exact absurd hn (by omega)
    | succ n ih =>
      intro k hk hn hF ls hl
      refine lv_iload_n hx hb dX6_firstDifference_15 rfl (lv_at hl 1 rfl) ?_
      refine lv_bipush (v := (32 : Int32)) hx hb dX6_firstDifference_16 (by decide +kernel) ?_
      refine lv_icmp_ge (tgt := 40) hx hb dX6_firstDifference_18 (by decide) (fun c_18 => ?_) (fun c_18 => ?_)
      · have d_18 : 32 ≤ k := (nI_leI (a := 32) (b := k) (by omega) (by omega)).mp c_18
        refine lv_bipush (v := (-5 : Int32)) hx hb dX6_firstDifference_40 (by decide +kernel) ?_
        exact hend _ _ _ dX6_firstDifference_42 rfl (hF.trans (fX6_firstDifference_15_p0 τ n k c_18))
      · have d_18 : k < 32 := Nat.lt_of_not_le (fun q => c_18 ((nI_leI (a := 32) (b := k) (by omega) (by omega)).mpr q))
        refine lv_aload_n hx hb dX6_firstDifference_21 rfl (lv_at hl 0 rfl) ?_
        refine va_get (D := D) (ci := 6) (v := .ref (a0 0)) (C := RX6) (T := TX6) (N := 6) hx hb hts (fun _ h9 => List.mem_cons_of_mem _ (List.mem_append_left _ (List.mem_append_left _ (List.mem_append_left _ (List.mem_append_right _ h9))))) hown hE.1 hP 0 rfl rfl 0 (by decide) (hts (.fieldLink RX6 10 "ShadowTable" "state" "LShadowTable$State;") (List.mem_of_getElem? (i := 1) rfl)) (fun _ h9 => h9) rfl dX6_firstDifference_22 ?_
        refine lv_iload_n hx hb dX6_firstDifference_25 rfl (lv_at hl 1 rfl) ?_
        refine cRV ⟨hx, hb, hml, hown, hts⟩ (kX5_differsAt l D cI cS (a0 0) (a0 1) (a0 2) (a0 3) (a0 4) (a0 5) (a0 6) (a0 7) (a0 8) (a0 9) (a0 10) (a0 11) (a0 12) (nI k) τ) (cwV 1 hts gX6_firstDifference_X5_differsAt rfl rfl rfl (by decide +kernel) ⟨Nat.le_of_ble_eq_true rfl, Nat.le_of_ble_eq_true rfl⟩) hE hP 1 rfl rfl [1, 2, 3, 4, 5, 6, 7, 8, 9, 10, 11, 12, 13] rfl rfl hl.1 rfl (Nat.le_of_ble_eq_true rfl) ⟨Nat.zero_le _, Nat.zero_le _⟩ dX6_firstDifference_26 ?_
        refine lv_if_eq (tgt := 34) hx hb dX6_firstDifference_29 (by decide) (fun c_29 => ?_) (fun c_29 => ?_)
        · refine lv_iinc (v := (nI (k + 1))) (lv' := [(1, .int (nI (k + 1))), (0, .ref h0)]) hx hb dX6_firstDifference_34 hl (k := 1) rfl (nI_1 _) (by decide) rfl (fun ls hl => ?_)
          refine lv_goto (tgt := 15) hx hb dX6_firstDifference_37 (by decide) ?_
          exact ih (k + 1) (by omega) (by omega) (hF.trans (fX6_firstDifference_15_p1 τ n k c_18 c_29)) _ (lv_sub hl [1, 0] rfl)
        · refine lv_iload_n hx hb dX6_firstDifference_32 rfl (lv_at hl 1 rfl) ?_
          exact hend _ _ _ dX6_firstDifference_33 rfl (hF.trans (fX6_firstDifference_15_p2 τ n k c_18 c_29))
  refine lv_aload_n hx hb dX6_firstDifference_0 rfl (lv_at hl 0 rfl) ?_
  refine va_get (D := D) (ci := 6) (v := .ref (a0 0)) (C := RX6) (T := TX6) (N := 6) hx hb hts (fun _ h9 => List.mem_cons_of_mem _ (List.mem_append_left _ (List.mem_append_left _ (List.mem_append_left _ (List.mem_append_right _ h9))))) hown hE.1 hP 0 rfl rfl 0 (by decide) (hts (.fieldLink RX6 10 "ShadowTable" "state" "LShadowTable$State;") (List.mem_of_getElem? (i := 1) rfl)) (fun _ h9 => h9) rfl dX6_firstDifference_1 ?_
  refine cRV ⟨hx, hb, hml, hown, hts⟩ (kX5_hasCopy l D cI cS (a0 0) (a0 1) (a0 2) (a0 3) (a0 4) (a0 5) (a0 6) (a0 7) (a0 8) (a0 9) (a0 10) (a0 11) (a0 12) τ) (cwV 0 hts gX6_firstDifference_X5_hasCopy rfl rfl rfl (by decide +kernel) ⟨Nat.le_of_ble_eq_true rfl, Nat.le_of_ble_eq_true rfl⟩) hE hP 1 rfl rfl [1, 2, 3, 4, 5, 6, 7, 8, 9, 10, 11, 12, 13] rfl rfl hl.1 rfl (Nat.le_of_ble_eq_true rfl) ⟨Nat.zero_le _, Nat.zero_le _⟩ dX6_firstDifference_4 ?_
  refine lv_if_ne (tgt := 13) hx hb dX6_firstDifference_7 (by decide) (fun c_7 => ?_) (fun c_7 => ?_)
  · refine lv_iconst (v := (0 : Int32)) hx hb dX6_firstDifference_13 (by decide +kernel) ?_
    refine lv_istore_n (lv' := [(1, .int (0 : Int32)), (0, .ref h0)]) hx hb dX6_firstDifference_14 rfl hl (by decide) rfl (fun ls hl => ?_)
    exact loop_15 33 0 (by omega) (by omega) (fX6_firstDifference_p3 τ c_7) _ (lv_sub hl [1, 0] rfl)
  · refine lv_bipush (v := (-5 : Int32)) hx hb dX6_firstDifference_10 (by decide +kernel) ?_
    exact hend _ _ _ dX6_firstDifference_12 rfl (fX6_firstDifference_p4 τ c_7)

def fX6_setting (p0 : Int32) (τ : StT) : Int32 := (if (fX6_isSetting p0) = (0 : Int32) then (-1 : Int32) else (τ.2.2.2.2.1 p0.toNatClampNeg))
theorem fX6_setting_p0 (p0 : Int32) (τ : StT) (c_4 : (fX6_isSetting p0) = (0 : Int32)) : (fX6_setting p0 τ) = (-1 : Int32) := by
  simp only [fX6_setting, if_pos c_4]
theorem fX6_setting_p1 (p0 : Int32) (τ : StT) (c_4 : ¬ (fX6_isSetting p0) = (0 : Int32)) : (fX6_setting p0 τ) = (τ.2.2.2.2.1 p0.toNatClampNeg) := by
  simp only [fX6_setting, if_neg c_4]
set_option maxHeartbeats 4000000 in
set_option maxRecDepth 100000 in
theorem kX6_setting (l : Launch) (D : va_G) (cI cS : ClassId) (h0 : Nat) (a0 : Nat → Nat) (w1 : Nat) (w2 : Nat) (w3 : Nat) (w4 : Nat) (w5 : Int32) (p0 : Int32) (τ : StT) : KR l yX6_setting wsX6_setting { frames := 2, cells := 0, slots := 0, locals := 42 } D (tysA cI cS) [.ref h0, .int p0] (fl ([(h0, .inr (6, [.ref (a0 0), .ref w1, .ref w2, .ref w3, .ref w4, .int w5]))] :: wSt cI a0 τ :: [])) (fX6_setting p0 τ) := by
  refine KR.of (cc := cX6_setting) (maxL := 2) (ty := .int) (by decide) rfl (Nat.le_of_ble_eq_true rfl) rfl (fun p e s m args below meth c ls Q hx hb hml hown hts hE hP hl hend => ?_)
  have hown : s.vm.findClass RX6 = some m.cls := hown
  have hl : lv_has ls 2 [(0, .ref h0), (1, .int p0)] := hl
  refine lv_iload_n hx hb dX6_setting_0 rfl (lv_at hl 1 rfl) ?_
  refine cRS ⟨hx, hb, hml, hown, hts⟩ (kX6_isSetting l D cI cS p0) (va_cwS 1 hts gX6_setting_X6_isSetting rfl rfl rfl (by decide +kernel) ⟨Nat.le_of_ble_eq_true rfl, Nat.le_of_ble_eq_true rfl⟩) hE hP [] rfl rfl hl.1 rfl (Nat.le_of_ble_eq_true rfl) ⟨Nat.zero_le _, Nat.zero_le _⟩ dX6_setting_1 ?_
  refine lv_if_eq (tgt := 19) hx hb dX6_setting_4 (by decide) (fun c_4 => ?_) (fun c_4 => ?_)
  · refine lv_iconst (v := (-1 : Int32)) hx hb dX6_setting_19 (by decide +kernel) ?_
    exact hend _ _ _ dX6_setting_20 rfl (fX6_setting_p0 p0 τ c_4)
  · refine lv_aload_n hx hb dX6_setting_7 rfl (lv_at hl 0 rfl) ?_
    refine va_get (D := D) (ci := 6) (v := .ref (a0 0)) (C := RX6) (T := TX6) (N := 6) hx hb hts (fun _ h9 => List.mem_cons_of_mem _ (List.mem_append_left _ (List.mem_append_right _ h9))) hown hE.1 hP 0 rfl rfl 0 (by decide) (hts (.fieldLink RX6 10 "ShadowTable" "state" "LShadowTable$State;") (List.mem_of_getElem? (i := 1) rfl)) (fun _ h9 => h9) rfl dX6_setting_8 ?_
    refine va_getN (D := D) (ci := 5) (v := .ref (a0 11)) (C := RX5) (T := TX5) (N := 6) hx hb hts (fun _ h9 => List.mem_cons_of_mem _ (List.mem_append_right _ h9)) hown hE.1 hP 1 rfl rfl 4 (by decide) (hE.2.f 14 rfl) (fun _ h9 => h9) rfl dX6_setting_11 ?_
    refine lv_iload_n hx hb dX6_setting_14 rfl (lv_at hl 1 rfl) ?_
    refine xld (v := (τ.2.2.2.2.1 p0.toNatClampNeg)) (j := p0.toNatClampNeg) hx hb hE hP 12 rfl rfl rfl (zz_set6 c_4) rfl dX6_setting_15 ?_
    refine lv_goto (tgt := 20) hx hb dX6_setting_16 (by decide) ?_
    exact hend _ _ _ dX6_setting_20 rfl (fX6_setting_p1 p0 τ c_4)

def fX6_total (p0 : Int32) (τ : StT) : Int32 := (if (fX6_isIn p0 (0 : Int32) (7 : Int32)) = (0 : Int32) then (-1 : Int32) else (τ.2.2.2.2.2 p0.toNatClampNeg))
theorem fX6_total_p0 (p0 : Int32) (τ : StT) (c_7 : (fX6_isIn p0 (0 : Int32) (7 : Int32)) = (0 : Int32)) : (fX6_total p0 τ) = (-1 : Int32) := by
  simp only [fX6_total, if_pos c_7]
theorem fX6_total_p1 (p0 : Int32) (τ : StT) (c_7 : ¬ (fX6_isIn p0 (0 : Int32) (7 : Int32)) = (0 : Int32)) : (fX6_total p0 τ) = (τ.2.2.2.2.2 p0.toNatClampNeg) := by
  simp only [fX6_total, if_neg c_7]
set_option maxHeartbeats 4000000 in
set_option maxRecDepth 100000 in
theorem kX6_total (l : Launch) (D : va_G) (cI cS : ClassId) (h0 : Nat) (a0 : Nat → Nat) (w1 : Nat) (w2 : Nat) (w3 : Nat) (w4 : Nat) (w5 : Int32) (p0 : Int32) (τ : StT) : KR l yX6_total wsX6_total { frames := 1, cells := 0, slots := 0, locals := 22 } D (tysA cI cS) [.ref h0, .int p0] (fl ([(h0, .inr (6, [.ref (a0 0), .ref w1, .ref w2, .ref w3, .ref w4, .int w5]))] :: wSt cI a0 τ :: [])) (fX6_total p0 τ) := by
  refine KR.of (cc := cX6_total) (maxL := 2) (ty := .int) (by decide) rfl (Nat.le_of_ble_eq_true rfl) rfl (fun p e s m args below meth c ls Q hx hb hml hown hts hE hP hl hend => ?_)
  have hown : s.vm.findClass RX6 = some m.cls := hown
  have hl : lv_has ls 2 [(0, .ref h0), (1, .int p0)] := hl
  refine lv_iload_n hx hb dX6_total_0 rfl (lv_at hl 1 rfl) ?_
  refine lv_iconst (v := (0 : Int32)) hx hb dX6_total_1 (by decide +kernel) ?_
  refine lv_bipush (v := (7 : Int32)) hx hb dX6_total_2 (by decide +kernel) ?_
  refine cRS ⟨hx, hb, hml, hown, hts⟩ (kX6_isIn l D cI cS p0 (0 : Int32) (7 : Int32)) (va_cwS 3 hts gX6_total_X6_isIn rfl rfl rfl (by decide +kernel) ⟨Nat.le_of_ble_eq_true rfl, Nat.le_of_ble_eq_true rfl⟩) hE hP [] rfl rfl hl.1 rfl (Nat.le_of_ble_eq_true rfl) ⟨Nat.zero_le _, Nat.zero_le _⟩ dX6_total_4 ?_
  refine lv_if_eq (tgt := 22) hx hb dX6_total_7 (by decide) (fun c_7 => ?_) (fun c_7 => ?_)
  · refine lv_iconst (v := (-1 : Int32)) hx hb dX6_total_22 (by decide +kernel) ?_
    exact hend _ _ _ dX6_total_23 rfl (fX6_total_p0 p0 τ c_7)
  · refine lv_aload_n hx hb dX6_total_10 rfl (lv_at hl 0 rfl) ?_
    refine va_get (D := D) (ci := 6) (v := .ref (a0 0)) (C := RX6) (T := TX6) (N := 6) hx hb hts (fun _ h9 => List.mem_cons_of_mem _ (List.mem_append_left _ (List.mem_append_right _ h9))) hown hE.1 hP 0 rfl rfl 0 (by decide) (hts (.fieldLink RX6 10 "ShadowTable" "state" "LShadowTable$State;") (List.mem_of_getElem? (i := 1) rfl)) (fun _ h9 => h9) rfl dX6_total_11 ?_
    refine va_getN (D := D) (ci := 5) (v := .ref (a0 12)) (C := RX5) (T := TX5) (N := 6) hx hb hts (fun _ h9 => List.mem_cons_of_mem _ (List.mem_append_right _ h9)) hown hE.1 hP 1 rfl rfl 5 (by decide) (hE.2.f 15 rfl) (fun _ h9 => h9) rfl dX6_total_14 ?_
    refine lv_iload_n hx hb dX6_total_17 rfl (lv_at hl 1 rfl) ?_
    refine xld (v := (τ.2.2.2.2.2 p0.toNatClampNeg)) (j := p0.toNatClampNeg) hx hb hE hP 13 rfl rfl rfl (zz_tot6 c_7) rfl dX6_total_18 ?_
    refine lv_goto (tgt := 23) hx hb dX6_total_19 (by decide) ?_
    exact hend _ _ _ dX6_total_23 rfl (fX6_total_p1 p0 τ c_7)

def fX6_readyIn (τ : TTT) : Int32 × TTT := (if (fX5_canBecomeReady τ.1) = (0 : Int32) then ((-4 : Int32), τ) else (let u_21 := (fX5_take τ.2 τ.1); (match (fX5_ticksUntilReady (200 : Int32) u_21) with | (r_31, u_31) => (r_31, (τ.1, u_31)))))
theorem fX6_readyIn_p0 (τ : TTT) (c_7 : ¬ (fX5_canBecomeReady τ.1) = (0 : Int32)) (u_21 : StT) (e_21 : (fX5_take τ.2 τ.1) = u_21) (r_31 : Int32) (u_31 : StT) (e_31 : (fX5_ticksUntilReady (200 : Int32) u_21) = (r_31, u_31)) : (fX6_readyIn τ) = (r_31, (τ.1, u_31)) := by
  simp only [fX6_readyIn, if_neg c_7, e_21, e_31]
theorem fX6_readyIn_p1 (τ : TTT) (c_7 : (fX5_canBecomeReady τ.1) = (0 : Int32)) : (fX6_readyIn τ) = ((-4 : Int32), τ) := by
  simp only [fX6_readyIn, if_pos c_7]
set_option maxHeartbeats 4000000 in
set_option maxRecDepth 100000 in
theorem kX6_readyIn (l : Launch) (D : va_G) (cI cS : ClassId) (h0 : Nat) (a0 : Nat → Nat) (a2 : Nat → Nat) (w1 : Nat) (w3 : Nat) (w4 : Nat) (w5 : Int32) (τ : TTT) (hw : WS τ.1) : KI l yX6_readyIn wsX6_readyIn { frames := 5, cells := 0, slots := 0, locals := 109 } D (tysA cI cS) [.ref h0] (fl ([(h0, .inr (6, [.ref (a0 0), .ref w1, .ref (a2 0), .ref w3, .ref w4, .int w5]))] :: wSt cI a0 τ.1 :: wSt cI a2 τ.2 :: [])) (fX6_readyIn τ) (fun u => (fl ([(h0, .inr (6, [.ref (a0 0), .ref w1, .ref (a2 0), .ref w3, .ref w4, .int w5]))] :: wSt cI a0 u.1 :: wSt cI a2 u.2 :: []))) := by
  refine KI.of (cc := cX6_readyIn) (maxL := 1) (ty := .int) (by decide) rfl (Nat.le_of_ble_eq_true rfl) rfl (fun p e s m args below meth c ls Q A hx hb hml hown hts hE hP hD hS hl hend => ?_)
  have hown : s.vm.findClass RX6 = some m.cls := hown
  have hl : lv_has ls 1 [(0, .ref h0)] := hl
  refine lv_aload_n hx hb dX6_readyIn_0 rfl (lv_at hl 0 rfl) ?_
  refine va_get (D := D) (ci := 6) (v := .ref (a0 0)) (C := RX6) (T := TX6) (N := 6) hx hb hts (fun _ h9 => List.mem_cons_of_mem _ (List.mem_append_left _ (List.mem_append_left _ (List.mem_append_left _ (List.mem_append_left _ (List.mem_append_right _ h9)))))) hown hE.1 hP 0 rfl rfl 0 (by decide) (hts (.fieldLink RX6 10 "ShadowTable" "state" "LShadowTable$State;") (List.mem_of_getElem? (i := 1) rfl)) (fun _ h9 => h9) rfl dX6_readyIn_1 ?_
  refine cRV ⟨hx, hb, hml, hown, hts⟩ (kX5_canBecomeReady l D cI cS (a0 0) (a0 1) (a0 2) (a0 3) (a0 4) (a0 5) (a0 6) (a0 7) (a0 8) (a0 9) (a0 10) (a0 11) (a0 12) τ.1) (cwV 0 hts gX6_readyIn_X5_canBecomeReady rfl rfl rfl (by decide +kernel) ⟨Nat.le_of_ble_eq_true rfl, Nat.le_of_ble_eq_true rfl⟩) hE hP 1 rfl rfl [1, 2, 3, 4, 5, 6, 7, 8, 9, 10, 11, 12, 13] rfl rfl hl.1 rfl (Nat.le_of_ble_eq_true rfl) ⟨Nat.zero_le _, Nat.zero_le _⟩ dX6_readyIn_4 ?_
  refine lv_if_ne (tgt := 13) hx hb dX6_readyIn_7 (by decide) (fun c_7 => ?_) (fun c_7 => ?_)
  · refine lv_aload_n hx hb dX6_readyIn_13 rfl (lv_at hl 0 rfl) ?_
    refine va_get (D := D) (ci := 6) (v := .ref (a2 0)) (C := RX6) (T := TX6) (N := 6) hx hb hts (fun _ h9 => List.mem_cons_of_mem _ (List.mem_append_left _ (List.mem_append_left _ (List.mem_append_left _ (List.mem_append_left _ (List.mem_append_right _ h9)))))) hown hE.1 hP 0 rfl rfl 2 (by decide) (hts (.fieldLink RX6 19 "ShadowTable" "trial" "LShadowTable$State;") (List.mem_of_getElem? (i := 2) rfl)) (fun _ h9 => h9) rfl dX6_readyIn_14 ?_
    refine lv_aload_n hx hb dX6_readyIn_17 rfl (lv_at hl 0 rfl) ?_
    refine va_get (D := D) (ci := 6) (v := .ref (a0 0)) (C := RX6) (T := TX6) (N := 6) hx hb hts (fun _ h9 => List.mem_cons_of_mem _ (List.mem_append_left _ (List.mem_append_left _ (List.mem_append_left _ (List.mem_append_left _ (List.mem_append_right _ h9)))))) hown hE.1 hP 0 rfl rfl 0 (by decide) (hts (.fieldLink RX6 10 "ShadowTable" "state" "LShadowTable$State;") (List.mem_of_getElem? (i := 1) rfl)) (fun _ h9 => h9) rfl dX6_readyIn_18 ?_
    refine bVV (wc := [wSt cI a2 τ.2, wSt cI a0 τ.1]) (w1 := fun (u : StT) => [wSt cI a2 u, wSt cI a0 τ.1]) ⟨hx, hb, hml, hown, hts⟩ (kX5_take l D cI cS (a2 0) (a2 1) (a2 2) (a2 3) (a2 4) (a2 5) (a2 6) (a2 7) (a2 8) (a2 9) (a2 10) (a2 11) (a2 12) (a0 0) (a0 1) (a0 2) (a0 3) (a0 4) (a0 5) (a0 6) (a0 7) (a0 8) (a0 9) (a0 10) (a0 11) (a0 12) τ.2 τ.1 hw.2.2) (cwV 1 hts gX6_readyIn_X5_take rfl rfl rfl (by decide +kernel) ⟨Nat.le_of_ble_eq_true rfl, Nat.le_of_ble_eq_true rfl⟩) hE hP hD hS rfl rfl [2, 1] rfl rfl (fun _ => rfl) (fun _ => rfl) rfl hl.1 rfl (Nat.le_of_ble_eq_true rfl) ⟨Nat.zero_le _, Nat.zero_le _⟩ dX6_readyIn_21 (fun u_21 H locs e_21 hP hD hS => ?_)
    have hP : va_P D vwCl (fl ([(h0, .inr (6, [.ref (a0 0), .ref w1, .ref (a2 0), .ref w3, .ref w4, .int w5]))] :: wSt cI a0 τ.1 :: wSt cI a2 u_21 :: [])) H := hP
    have hD : va_D A (fl ([(h0, .inr (6, [.ref (a0 0), .ref w1, .ref (a2 0), .ref w3, .ref w4, .int w5]))] :: wSt cI a0 τ.1 :: wSt cI a2 u_21 :: [])) := hD
    refine lv_aload_n hx hb dX6_readyIn_24 rfl (lv_at hl 0 rfl) ?_
    refine va_get (D := D) (ci := 6) (v := .ref (a2 0)) (C := RX6) (T := TX6) (N := 6) hx hb hts (fun _ h9 => List.mem_cons_of_mem _ (List.mem_append_left _ (List.mem_append_left _ (List.mem_append_left _ (List.mem_append_left _ (List.mem_append_right _ h9)))))) hown hE.1 hP 0 rfl rfl 2 (by decide) (hts (.fieldLink RX6 19 "ShadowTable" "trial" "LShadowTable$State;") (List.mem_of_getElem? (i := 2) rfl)) (fun _ h9 => h9) rfl dX6_readyIn_25 ?_
    refine lv_sipush (v := (200 : Int32)) hx hb dX6_readyIn_28 (by decide +kernel) ?_
    refine bIV (wc := [wSt cI a2 u_21]) (w1 := fun (u : StT) => [wSt cI a2 u]) ⟨hx, hb, hml, hown, hts⟩ (kX5_ticksUntilReady l D cI cS (a2 0) (a2 1) (a2 2) (a2 3) (a2 4) (a2 5) (a2 6) (a2 7) (a2 8) (a2 9) (a2 10) (a2 11) (a2 12) (200 : Int32) u_21 (zz_WS_take e_21 hw) zz_200) (cwV 1 hts gX6_readyIn_X5_ticksUntilReady rfl rfl rfl (by decide +kernel) ⟨Nat.le_of_ble_eq_true rfl, Nat.le_of_ble_eq_true rfl⟩) hE hP hD hS rfl rfl [2] rfl rfl (fun _ => rfl) (fun _ => rfl) rfl hl.1 rfl (Nat.le_of_ble_eq_true rfl) ⟨Nat.zero_le _, Nat.zero_le _⟩ dX6_readyIn_31 (fun r_31 u_31 H locs e_31 hP hD hS => ?_)
    have hP : va_P D vwCl (fl ([(h0, .inr (6, [.ref (a0 0), .ref w1, .ref (a2 0), .ref w3, .ref w4, .int w5]))] :: wSt cI a0 τ.1 :: wSt cI a2 u_31 :: [])) H := hP
    have hD : va_D A (fl ([(h0, .inr (6, [.ref (a0 0), .ref w1, .ref (a2 0), .ref w3, .ref w4, .int w5]))] :: wSt cI a0 τ.1 :: wSt cI a2 u_31 :: [])) := hD
    exact hend _ _ _ _ _ _ dX6_readyIn_34 rfl (fX6_readyIn_p0 τ c_7 u_21 e_21 r_31 u_31 e_31) hP hS
  · refine lv_bipush (v := (-4 : Int32)) hx hb dX6_readyIn_10 (by decide +kernel) ?_
    exact hend _ _ _ _ _ _ dX6_readyIn_12 rfl (fX6_readyIn_p1 τ c_7) hP hS

def fX6_leastLot_25 (p0 : Int32) : Nat → Nat → TTT → Int32 × TTT
  | 0, k, σ => (0, σ)
  | n + 1, k, σ => (if (8 : Int32) < (nI k) then ((-5 : Int32), σ) else (let u_39 := (fX5_take σ.2 σ.1); (match (fX5_ticksUntilReady p0 (u_39.1, u_39.2.1, u_39.2.2.1, (u_39.2.2.2.1.1, u_39.2.2.2.1.2.1, u_39.2.2.2.1.2.2.1, u_39.2.2.2.1.2.2.2.1, (nI k), u_39.2.2.2.1.2.2.2.2.2.1, u_39.2.2.2.1.2.2.2.2.2.2), u_39.2.2.2.2.1, u_39.2.2.2.2.2)) with | (r_58, u_58) => (if r_58 = (-5 : Int32) then fX6_leastLot_25 p0 n (k + 1) (σ.1, u_58) else ((nI k), (σ.1, u_58))))))
def fX6_leastLot (p0 : Int32) (τ : TTT) : Int32 × TTT := (if (fX6_isTicks p0) = (0 : Int32) then ((-2 : Int32), τ) else (if (fX5_canBecomeReady τ.1) = (0 : Int32) then ((-4 : Int32), τ) else fX6_leastLot_25 p0 10 1 τ))
theorem fX6_leastLot_25_p0 (p0 : Int32) (n : Nat) (k : Nat) (σ : TTT) (c_28 : (8 : Int32) < (nI k)) : fX6_leastLot_25 p0 (n + 1) k σ = ((-5 : Int32), σ) := by
  simp only [fX6_leastLot_25, if_pos c_28]
theorem fX6_leastLot_25_p1 (p0 : Int32) (n : Nat) (k : Nat) (σ : TTT) (c_28 : ¬ (8 : Int32) < (nI k)) (u_39 : StT) (e_39 : (fX5_take σ.2 σ.1) = u_39) (r_58 : Int32) (u_58 : StT) (e_58 : (fX5_ticksUntilReady p0 (u_39.1, u_39.2.1, u_39.2.2.1, (u_39.2.2.2.1.1, u_39.2.2.2.1.2.1, u_39.2.2.2.1.2.2.1, u_39.2.2.2.1.2.2.2.1, (nI k), u_39.2.2.2.1.2.2.2.2.2.1, u_39.2.2.2.1.2.2.2.2.2.2), u_39.2.2.2.2.1, u_39.2.2.2.2.2)) = (r_58, u_58)) (c_63 : r_58 = (-5 : Int32)) : fX6_leastLot_25 p0 (n + 1) k σ = fX6_leastLot_25 p0 n (k + 1) (σ.1, u_58) := by
  simp only [fX6_leastLot_25, if_neg c_28, e_39, e_58, if_pos c_63]
theorem fX6_leastLot_25_p2 (p0 : Int32) (n : Nat) (k : Nat) (σ : TTT) (c_28 : ¬ (8 : Int32) < (nI k)) (u_39 : StT) (e_39 : (fX5_take σ.2 σ.1) = u_39) (r_58 : Int32) (u_58 : StT) (e_58 : (fX5_ticksUntilReady p0 (u_39.1, u_39.2.1, u_39.2.2.1, (u_39.2.2.2.1.1, u_39.2.2.2.1.2.1, u_39.2.2.2.1.2.2.1, u_39.2.2.2.1.2.2.2.1, (nI k), u_39.2.2.2.1.2.2.2.2.2.1, u_39.2.2.2.1.2.2.2.2.2.2), u_39.2.2.2.2.1, u_39.2.2.2.2.2)) = (r_58, u_58)) (c_63 : ¬ r_58 = (-5 : Int32)) : fX6_leastLot_25 p0 (n + 1) k σ = ((nI k), (σ.1, u_58)) := by
  simp only [fX6_leastLot_25, if_neg c_28, e_39, e_58, if_neg c_63]
theorem fX6_leastLot_p3 (p0 : Int32) (τ : TTT) (c_4 : ¬ (fX6_isTicks p0) = (0 : Int32)) (c_17 : ¬ (fX5_canBecomeReady τ.1) = (0 : Int32)) : (fX6_leastLot p0 τ) = fX6_leastLot_25 p0 10 1 τ := by
  simp only [fX6_leastLot, if_neg c_4, if_neg c_17]
theorem fX6_leastLot_p4 (p0 : Int32) (τ : TTT) (c_4 : ¬ (fX6_isTicks p0) = (0 : Int32)) (c_17 : (fX5_canBecomeReady τ.1) = (0 : Int32)) : (fX6_leastLot p0 τ) = ((-4 : Int32), τ) := by
  simp only [fX6_leastLot, if_neg c_4, if_pos c_17]
theorem fX6_leastLot_p5 (p0 : Int32) (τ : TTT) (c_4 : (fX6_isTicks p0) = (0 : Int32)) : (fX6_leastLot p0 τ) = ((-2 : Int32), τ) := by
  simp only [fX6_leastLot, if_pos c_4]
set_option maxHeartbeats 4000000 in
set_option maxRecDepth 100000 in
theorem kX6_leastLot (l : Launch) (D : va_G) (cI cS : ClassId) (h0 : Nat) (a0 : Nat → Nat) (a2 : Nat → Nat) (w1 : Nat) (w3 : Nat) (w4 : Nat) (w5 : Int32) (p0 : Int32) (τ : TTT) (hw : WS τ.1) : KI l yX6_leastLot wsX6_leastLot { frames := 5, cells := 0, slots := 0, locals := 109 } D (tysA cI cS) [.ref h0, .int p0] (fl ([(h0, .inr (6, [.ref (a0 0), .ref w1, .ref (a2 0), .ref w3, .ref w4, .int w5]))] :: wSt cI a0 τ.1 :: wSt cI a2 τ.2 :: [])) (fX6_leastLot p0 τ) (fun u => (fl ([(h0, .inr (6, [.ref (a0 0), .ref w1, .ref (a2 0), .ref w3, .ref w4, .int w5]))] :: wSt cI a0 u.1 :: wSt cI a2 u.2 :: []))) := by
  refine KI.of (cc := cX6_leastLot) (maxL := 3) (ty := .int) (by decide) rfl (Nat.le_of_ble_eq_true rfl) rfl (fun p e s m args below meth c ls Q A hx hb hml hown hts hE hP hD hS hl hend => ?_)
  have hown : s.vm.findClass RX6 = some m.cls := hown
  have hl : lv_has ls 3 [(0, .ref h0), (1, .int p0)] := hl
  have loop_25 : ∀ (n : Nat) (k : Nat) (σ : TTT), WS σ.1 → Bd p0 200 → k ≤ 9 → 9 - k < n → (fX6_leastLot p0 τ) = fX6_leastLot_25 p0 n k σ → ∀ (H : Heap) (locs : List Loc), va_P D vwCl (fl ([(h0, .inr (6, [.ref (a0 0), .ref w1, .ref (a2 0), .ref w3, .ref w4, .int w5]))] :: wSt cI a0 σ.1 :: wSt cI a2 σ.2 :: [])) H → va_D A (fl ([(h0, .inr (6, [.ref (a0 0), .ref w1, .ref (a2 0), .ref w3, .ref w4, .int w5]))] :: wSt cI a0 σ.1 :: wSt cI a2 σ.2 :: [])) → va_S A s.heap H locs → ∀ (ls : Array Slot), lv_has ls 3 [(0, .ref h0), (1, .int p0), (2, .int (nI k))] → W p l e { frames := 5, cells := 0, slots := 0, locals := 109 } s m args below meth c H locs 0 0 Q (F0 m 25 ls []) := by
    intro n
    induction n with
    | zero =>
      intro k σ hw hq hk hn
      exact absurd hn (by omega)
    | succ n ih =>
      intro k σ hw hq hk hn hF H locs hP hD hS ls hl
      refine lv_iload_n hx hb dX6_leastLot_25 rfl (lv_at hl 2 rfl) ?_
      refine lv_bipush (v := (8 : Int32)) hx hb dX6_leastLot_26 (by decide +kernel) ?_
      refine lv_icmp_gt (tgt := 74) hx hb dX6_leastLot_28 (by decide) (fun c_28 => ?_) (fun c_28 => ?_)
      · have d_28 : 8 < k := (nI_ltI (a := 8) (b := k) (by omega) (by omega)).mp c_28
        refine lv_bipush (v := (-5 : Int32)) hx hb dX6_leastLot_74 (by decide +kernel) ?_
        exact hend _ _ _ _ _ _ dX6_leastLot_76 rfl (hF.trans (fX6_leastLot_25_p0 p0 n k σ c_28)) hP hS
      · have d_28 : k ≤ 8 := Nat.le_of_not_lt (fun q => c_28 ((nI_ltI (a := 8) (b := k) (by omega) (by omega)).mpr q))
        refine lv_aload_n hx hb dX6_leastLot_31 rfl (lv_at hl 0 rfl) ?_
        refine va_get (D := D) (ci := 6) (v := .ref (a2 0)) (C := RX6) (T := TX6) (N := 6) hx hb hts (fun _ h9 => List.mem_cons_of_mem _ (List.mem_append_left _ (List.mem_append_left _ (List.mem_append_left _ (List.mem_append_left _ (List.mem_append_right _ h9)))))) hown hE.1 hP 0 rfl rfl 2 (by decide) (hts (.fieldLink RX6 19 "ShadowTable" "trial" "LShadowTable$State;") (List.mem_of_getElem? (i := 2) rfl)) (fun _ h9 => h9) rfl dX6_leastLot_32 ?_
        refine lv_aload_n hx hb dX6_leastLot_35 rfl (lv_at hl 0 rfl) ?_
        refine va_get (D := D) (ci := 6) (v := .ref (a0 0)) (C := RX6) (T := TX6) (N := 6) hx hb hts (fun _ h9 => List.mem_cons_of_mem _ (List.mem_append_left _ (List.mem_append_left _ (List.mem_append_left _ (List.mem_append_left _ (List.mem_append_right _ h9)))))) hown hE.1 hP 0 rfl rfl 0 (by decide) (hts (.fieldLink RX6 10 "ShadowTable" "state" "LShadowTable$State;") (List.mem_of_getElem? (i := 1) rfl)) (fun _ h9 => h9) rfl dX6_leastLot_36 ?_
        refine bVV (wc := [wSt cI a2 σ.2, wSt cI a0 σ.1]) (w1 := fun (u : StT) => [wSt cI a2 u, wSt cI a0 σ.1]) ⟨hx, hb, hml, hown, hts⟩ (kX5_take l D cI cS (a2 0) (a2 1) (a2 2) (a2 3) (a2 4) (a2 5) (a2 6) (a2 7) (a2 8) (a2 9) (a2 10) (a2 11) (a2 12) (a0 0) (a0 1) (a0 2) (a0 3) (a0 4) (a0 5) (a0 6) (a0 7) (a0 8) (a0 9) (a0 10) (a0 11) (a0 12) σ.2 σ.1 hw.2.2) (cwV 1 hts gX6_leastLot_X5_take rfl rfl rfl (by decide +kernel) ⟨Nat.le_of_ble_eq_true rfl, Nat.le_of_ble_eq_true rfl⟩) hE hP hD hS rfl rfl [2, 1] rfl rfl (fun _ => rfl) (fun _ => rfl) rfl hl.1 rfl (Nat.le_of_ble_eq_true rfl) ⟨Nat.zero_le _, Nat.zero_le _⟩ dX6_leastLot_39 (fun u_39 H locs e_39 hP hD hS => ?_)
        have hP : va_P D vwCl (fl ([(h0, .inr (6, [.ref (a0 0), .ref w1, .ref (a2 0), .ref w3, .ref w4, .int w5]))] :: wSt cI a0 σ.1 :: wSt cI a2 u_39 :: [])) H := hP
        have hD : va_D A (fl ([(h0, .inr (6, [.ref (a0 0), .ref w1, .ref (a2 0), .ref w3, .ref w4, .int w5]))] :: wSt cI a0 σ.1 :: wSt cI a2 u_39 :: [])) := hD
        refine lv_aload_n hx hb dX6_leastLot_42 rfl (lv_at hl 0 rfl) ?_
        refine va_get (D := D) (ci := 6) (v := .ref (a2 0)) (C := RX6) (T := TX6) (N := 6) hx hb hts (fun _ h9 => List.mem_cons_of_mem _ (List.mem_append_left _ (List.mem_append_left _ (List.mem_append_left _ (List.mem_append_left _ (List.mem_append_right _ h9)))))) hown hE.1 hP 0 rfl rfl 2 (by decide) (hts (.fieldLink RX6 19 "ShadowTable" "trial" "LShadowTable$State;") (List.mem_of_getElem? (i := 2) rfl)) (fun _ h9 => h9) rfl dX6_leastLot_43 ?_
        refine va_getN (D := D) (ci := 5) (v := .ref (a2 5)) (C := RX5) (T := TX5) (N := 6) hx hb hts (fun _ h9 => List.mem_cons_of_mem _ (List.mem_append_left _ (List.mem_append_left _ (List.mem_append_left _ (List.mem_append_right _ h9))))) hown hE.1 hP 14 rfl rfl 3 (by decide) (hE.2.f 13 rfl) (fun _ h9 => h9) rfl dX6_leastLot_46 ?_
        refine lv_iload_n hx hb dX6_leastLot_49 rfl (lv_at hl 2 rfl) ?_
        refine xpfN (ty := .int) (v := .int (nI k)) (C := RX0) (T := TX0) (N := 7) hx hb hts (fun _ h9 => List.mem_cons_of_mem _ (List.mem_append_left _ (List.mem_append_left _ (List.mem_append_right _ h9)))) tyX0 tyX0_ok nmX0 hown hE hP hD hS 19 rfl rfl 4 (by decide) (hE.2.f 8 rfl) rfl rfl (by decide +kernel) rfl rfl (Nat.le_of_ble_eq_true rfl) (fl ([(h0, .inr (6, [.ref (a0 0), .ref w1, .ref (a2 0), .ref w3, .ref w4, .int w5]))] :: wSt cI a0 σ.1 :: wSt cI a2 (u_39.1, u_39.2.1, u_39.2.2.1, (u_39.2.2.2.1.1, u_39.2.2.2.1.2.1, u_39.2.2.2.1.2.2.1, u_39.2.2.2.1.2.2.2.1, (nI k), u_39.2.2.2.1.2.2.2.2.2.1, u_39.2.2.2.1.2.2.2.2.2.2), u_39.2.2.2.2.1, u_39.2.2.2.2.2) :: [])) rfl dX6_leastLot_50 (fun H locs hP hD hS => ?_)
        refine lv_aload_n hx hb dX6_leastLot_53 rfl (lv_at hl 0 rfl) ?_
        refine va_get (D := D) (ci := 6) (v := .ref (a2 0)) (C := RX6) (T := TX6) (N := 6) hx hb hts (fun _ h9 => List.mem_cons_of_mem _ (List.mem_append_left _ (List.mem_append_left _ (List.mem_append_left _ (List.mem_append_left _ (List.mem_append_right _ h9)))))) hown hE.1 hP 0 rfl rfl 2 (by decide) (hts (.fieldLink RX6 19 "ShadowTable" "trial" "LShadowTable$State;") (List.mem_of_getElem? (i := 2) rfl)) (fun _ h9 => h9) rfl dX6_leastLot_54 ?_
        refine lv_iload_n hx hb dX6_leastLot_57 rfl (lv_at hl 1 rfl) ?_
        refine bIV (wc := [wSt cI a2 (u_39.1, u_39.2.1, u_39.2.2.1, (u_39.2.2.2.1.1, u_39.2.2.2.1.2.1, u_39.2.2.2.1.2.2.1, u_39.2.2.2.1.2.2.2.1, (nI k), u_39.2.2.2.1.2.2.2.2.2.1, u_39.2.2.2.1.2.2.2.2.2.2), u_39.2.2.2.2.1, u_39.2.2.2.2.2)]) (w1 := fun (u : StT) => [wSt cI a2 u]) ⟨hx, hb, hml, hown, hts⟩ (kX5_ticksUntilReady l D cI cS (a2 0) (a2 1) (a2 2) (a2 3) (a2 4) (a2 5) (a2 6) (a2 7) (a2 8) (a2 9) (a2 10) (a2 11) (a2 12) p0 (u_39.1, u_39.2.1, u_39.2.2.1, (u_39.2.2.2.1.1, u_39.2.2.2.1.2.1, u_39.2.2.2.1.2.2.1, u_39.2.2.2.1.2.2.2.1, (nI k), u_39.2.2.2.1.2.2.2.2.2.1, u_39.2.2.2.1.2.2.2.2.2.2), u_39.2.2.2.2.1, u_39.2.2.2.2.2) (show WS u_39 from zz_WS_take e_39 hw) hq) (cwV 1 hts gX6_leastLot_X5_ticksUntilReady rfl rfl rfl (by decide +kernel) ⟨Nat.le_of_ble_eq_true rfl, Nat.le_of_ble_eq_true rfl⟩) hE hP hD hS rfl rfl [2] rfl rfl (fun _ => rfl) (fun _ => rfl) rfl hl.1 rfl (Nat.le_of_ble_eq_true rfl) ⟨Nat.zero_le _, Nat.zero_le _⟩ dX6_leastLot_58 (fun r_58 u_58 H locs e_58 hP hD hS => ?_)
        have hP : va_P D vwCl (fl ([(h0, .inr (6, [.ref (a0 0), .ref w1, .ref (a2 0), .ref w3, .ref w4, .int w5]))] :: wSt cI a0 σ.1 :: wSt cI a2 u_58 :: [])) H := hP
        have hD : va_D A (fl ([(h0, .inr (6, [.ref (a0 0), .ref w1, .ref (a2 0), .ref w3, .ref w4, .int w5]))] :: wSt cI a0 σ.1 :: wSt cI a2 u_58 :: [])) := hD
        refine lv_bipush (v := (-5 : Int32)) hx hb dX6_leastLot_61 (by decide +kernel) ?_
        refine lv_icmp_eq (tgt := 68) hx hb dX6_leastLot_63 (by decide) (fun c_63 => ?_) (fun c_63 => ?_)
        · refine lv_iinc (v := (nI (k + 1))) (lv' := [(2, .int (nI (k + 1))), (0, .ref h0), (1, .int p0)]) hx hb dX6_leastLot_68 hl (k := 2) rfl (nI_1 _) (by decide) rfl (fun ls hl => ?_)
          refine lv_goto (tgt := 25) hx hb dX6_leastLot_71 (by decide) ?_
          exact ih (k + 1) (σ.1, u_58) hw hq (by omega) (by omega) (hF.trans (fX6_leastLot_25_p1 p0 n k σ c_28 u_39 e_39 r_58 u_58 e_58 c_63)) _ _ hP hD hS _ (lv_sub hl [1, 2, 0] rfl)
        · refine lv_iload_n hx hb dX6_leastLot_66 rfl (lv_at hl 2 rfl) ?_
          exact hend _ _ _ _ _ _ dX6_leastLot_67 rfl (hF.trans (fX6_leastLot_25_p2 p0 n k σ c_28 u_39 e_39 r_58 u_58 e_58 c_63)) hP hS
  refine lv_iload_n hx hb dX6_leastLot_0 rfl (lv_at hl 1 rfl) ?_
  refine cRS ⟨hx, hb, hml, hown, hts⟩ (kX6_isTicks l D cI cS p0) (va_cwS 1 hts gX6_leastLot_X6_isTicks rfl rfl rfl (by decide +kernel) ⟨Nat.le_of_ble_eq_true rfl, Nat.le_of_ble_eq_true rfl⟩) hE hP [] rfl rfl hl.1 rfl (Nat.le_of_ble_eq_true rfl) ⟨Nat.zero_le _, Nat.zero_le _⟩ dX6_leastLot_1 ?_
  refine lv_if_ne (tgt := 10) hx hb dX6_leastLot_4 (by decide) (fun c_4 => ?_) (fun c_4 => ?_)
  · refine lv_aload_n hx hb dX6_leastLot_10 rfl (lv_at hl 0 rfl) ?_
    refine va_get (D := D) (ci := 6) (v := .ref (a0 0)) (C := RX6) (T := TX6) (N := 6) hx hb hts (fun _ h9 => List.mem_cons_of_mem _ (List.mem_append_left _ (List.mem_append_left _ (List.mem_append_left _ (List.mem_append_left _ (List.mem_append_right _ h9)))))) hown hE.1 hP 0 rfl rfl 0 (by decide) (hts (.fieldLink RX6 10 "ShadowTable" "state" "LShadowTable$State;") (List.mem_of_getElem? (i := 1) rfl)) (fun _ h9 => h9) rfl dX6_leastLot_11 ?_
    refine cRV ⟨hx, hb, hml, hown, hts⟩ (kX5_canBecomeReady l D cI cS (a0 0) (a0 1) (a0 2) (a0 3) (a0 4) (a0 5) (a0 6) (a0 7) (a0 8) (a0 9) (a0 10) (a0 11) (a0 12) τ.1) (cwV 0 hts gX6_leastLot_X5_canBecomeReady rfl rfl rfl (by decide +kernel) ⟨Nat.le_of_ble_eq_true rfl, Nat.le_of_ble_eq_true rfl⟩) hE hP 1 rfl rfl [1, 2, 3, 4, 5, 6, 7, 8, 9, 10, 11, 12, 13] rfl rfl hl.1 rfl (Nat.le_of_ble_eq_true rfl) ⟨Nat.zero_le _, Nat.zero_le _⟩ dX6_leastLot_14 ?_
    refine lv_if_ne (tgt := 23) hx hb dX6_leastLot_17 (by decide) (fun c_17 => ?_) (fun c_17 => ?_)
    · refine lv_iconst (v := (1 : Int32)) hx hb dX6_leastLot_23 (by decide +kernel) ?_
      refine lv_istore_n (lv' := [(2, .int (1 : Int32)), (0, .ref h0), (1, .int p0)]) hx hb dX6_leastLot_24 rfl hl (by decide) rfl (fun ls hl => ?_)
      exact loop_25 10 1 τ hw ((zz_isTicks c_4).mono (by omega)) (by omega) (by omega) (fX6_leastLot_p3 p0 τ c_4 c_17) _ _ hP hD hS _ (lv_sub hl [1, 2, 0] rfl)
    · refine lv_bipush (v := (-4 : Int32)) hx hb dX6_leastLot_20 (by decide +kernel) ?_
      exact hend _ _ _ _ _ _ dX6_leastLot_22 rfl (fX6_leastLot_p4 p0 τ c_4 c_17) hP hS
  · refine lv_bipush (v := (-2 : Int32)) hx hb dX6_leastLot_7 (by decide +kernel) ?_
    exact hend _ _ _ _ _ _ dX6_leastLot_9 rfl (fX6_leastLot_p5 p0 τ c_4) hP hS

theorem ws_add {k v r : Int32} {τ u : LogT} (e : fX2_add k v τ = (r, u)) (hw : WL τ) : WL u := by
  unfold fX2_add at e
  by_cases c : τ.2.2.2 < (24 : Int32)
  · rw [if_pos c] at e
    cases e
    obtain ⟨j, hj, e⟩ := hw.2.num
    rw [e] at c
    have : j < 24 := Nat.lt_of_not_le (fun q => nI_nlt (a := j) (b := 24) q (by omega) c)
    refine And.intro hw.1 ?_
    show Bd (τ.2.2.2 + (1 : Int32)) 24
    rw [e, nI_1]
    exact Bd.of (by omega) (by omega)
  · rw [if_neg c] at e
    cases e
    exact hw
theorem ws_change {k v r : Int32} {τ u : StT} (e : fX5_changeRow k v τ = (r, u)) (hw : WS τ) : WS u := by
  unfold fX5_changeRow at e
  by_cases c : fX5_hasCopy τ = (0 : Int32)
  · rw [if_pos c] at e
    cases e
    exact hw
  · rw [if_neg c] at e
    generalize e1 : fX2_add _ _ _ = q at e
    obtain ⟨r1, u1⟩ := q
    have h1 : WL u1 := ws_add e1 hw.1
    dsimp only at e
    by_cases c1 : r1 = (0 : Int32)
    · rw [if_pos c1] at e
      by_cases c2 : (τ.2.2.2.2.1 3) = (1 : Int32)
      · rw [if_pos c2] at e; cases e; exact And.intro h1 hw.2
      · rw [if_neg c2] at e; cases e; exact And.intro h1 hw.2
    · rw [if_neg c1] at e; cases e; exact And.intro h1 hw.2
theorem ws_put {k v r : Int32} {τ u : StT} (e : fX5_putRow k v τ = (r, u)) (hw : WS τ) : WS u := by
  unfold fX5_putRow at e
  by_cases c : fX6_isKey k = (0 : Int32)
  · rw [if_pos c] at e; cases e; exact hw
  · rw [if_neg c] at e
    by_cases c1 : fX6_isValue v = (0 : Int32)
    · rw [if_pos c1] at e; cases e; exact hw
    · rw [if_neg c1] at e
      by_cases c2 : τ.2.2.2.1.2.2.1 = (3 : Int32)
      · rw [if_pos c2] at e; cases e; exact hw
      · rw [if_neg c2] at e
        generalize e1 : fX5_changeRow _ _ _ = q at e
        obtain ⟨r1, u1⟩ := q
        have h := ws_change e1 hw
        cases e
        exact h
theorem ws_erase {k r : Int32} {τ u : StT} (e : fX5_eraseRow k τ = (r, u)) (hw : WS τ) : WS u := by
  unfold fX5_eraseRow at e
  by_cases c : fX6_isKey k = (0 : Int32)
  · rw [if_pos c] at e; cases e; exact hw
  · rw [if_neg c] at e
    by_cases c2 : τ.2.2.2.1.2.2.1 = (3 : Int32)
    · rw [if_pos c2] at e; cases e; exact hw
    · rw [if_neg c2] at e
      by_cases c3 : fX3_at k τ.1 = (-5 : Int32)
      · rw [if_pos c3] at e; cases e; exact hw
      · rw [if_neg c3] at e
        generalize e1 : fX5_changeRow _ _ _ = q at e
        obtain ⟨r1, u1⟩ := q
        have h := ws_change e1 hw
        cases e
        exact h
theorem ws_begin {k v r : Int32} {τ u : StT} (e : fX5_beginCopy k v τ = (r, u)) (hw : WS τ) : WS u := by
  unfold fX5_beginCopy at e
  by_cases c : fX6_isKind k = (0 : Int32)
  · rw [if_pos c] at e; cases e; exact hw
  · rw [if_neg c] at e
    by_cases c1 : fX6_isLot v = (0 : Int32)
    · rw [if_pos c1] at e; cases e; exact hw
    · rw [if_neg c1] at e
      by_cases c2 : fX5_hasCopy τ = (0 : Int32)
      · rw [if_pos c2] at e
        have h0 : Bd (0 : Int32) 23 := Bd.of (j := 0) (by omega) (by omega)
        generalize e2 : fX0_start _ _ _ = q at e
        have hq : q.2.1.2.2.1 = (0 : Int32) ∧ q.2.1.2.2.2 = (0 : Int32) ∧ q.2.2.2.2.2.1 = (0 : Int32) := by
          rw [← e2]
          unfold fX0_start
          dsimp only
          exact ⟨rfl, rfl, rfl⟩
        cases e
        refine And.intro (And.intro ?_ ?_) (And.intro ?_ hw.2.2)
        · show Bd q.2.1.2.2.1 23
          rw [hq.1]; exact h0
        · show Bd q.2.1.2.2.2 24
          rw [hq.2.1]; exact h0.mono (by omega)
        · show Bd q.2.2.2.2.2.1 32
          rw [hq.2.2]; exact h0.mono (by omega)
      · rw [if_neg c2] at e; cases e; exact hw
theorem ws_ticks12 (a : Int32) : ∀ (n k : Nat) (σ : StT), WS σ → WS (fX5_makeTicks_12 a n k σ).2
  | 0, _, _, h => h
  | n + 1, k, σ, h => by
    unfold fX5_makeTicks_12
    split
    · exact h
    · exact ws_ticks12 a n (k + 1) _ (zz_WS_tick rfl h)
theorem ws_ticks {a r : Int32} {τ u : StT} (e : fX5_makeTicks a τ = (r, u)) (hw : WS τ) : WS u := by
  have h : WS (fX5_makeTicks a τ).2 := by
    unfold fX5_makeTicks
    split
    · first | exact ws_ticks12 a 100 0 τ hw | exact hw
    · first | exact hw | exact ws_ticks12 a 100 0 τ hw
  rw [e] at h
  exact h
theorem ws_lock {r : Int32} {τ u : StT} (e : fX5_lockLive τ = (r, u)) (hw : WS τ) : WS u := by
  unfold fX5_lockLive at e
  by_cases c : τ.2.2.2.1.2.2.1 = (2 : Int32)
  · rw [if_pos c] at e; cases e; exact hw
  · rw [if_neg c] at e; cases e; exact hw
theorem ws_unlock {r : Int32} {τ u : StT} (e : fX5_unlockLive τ = (r, u)) (hw : WS τ) : WS u := by
  unfold fX5_unlockLive at e
  by_cases c : τ.2.2.2.1.2.2.1 = (3 : Int32)
  · rw [if_pos c] at e; cases e; exact hw
  · rw [if_neg c] at e; cases e; exact hw
theorem ws_swap {r : Int32} {τ u : StT} (e : fX5_swapTables τ = (r, u)) (hw : WS τ) : WS u := by
  unfold fX5_swapTables at e
  by_cases c : τ.2.2.2.1.2.2.1 = (3 : Int32)
  · rw [if_pos c] at e
    by_cases c2 : τ.2.2.2.1.2.1.2.2.2 ≤ (0 : Int32)
    · rw [if_pos c2] at e
      cases e
      exact And.intro hw.1 (And.intro hw.2.1 (Or.inr rfl))
    · rw [if_neg c2] at e; cases e; exact hw
  · rw [if_neg c] at e; cases e; exact hw
theorem ws_giveUp {r : Int32} {τ u : StT} (e : fX5_giveCopyUp τ = (r, u)) (hw : WS τ) : WS u := by
  unfold fX5_giveCopyUp at e
  by_cases c : fX5_hasCopy τ = (0 : Int32)
  · rw [if_pos c] at e; cases e; exact hw
  · rw [if_neg c] at e; cases e; exact hw

