def fX6_append (p0 : Int32) (τ : ScT) : Int32 × ScT := (match (fX4_appendCharacter p0 τ) with | (r_5, u_5) => (r_5, u_5))
theorem fX6_append_p0 (p0 : Int32) (τ : ScT) (r_5 : Int32) (u_5 : ScT) (e_5 : (fX4_appendCharacter p0 τ) = (r_5, u_5)) : (fX6_append p0 τ) = (r_5, u_5) := by
  simp only [fX6_append, e_5]
set_option maxHeartbeats 4000000 in
set_option maxRecDepth 100000 in
theorem kX6_append (l : Launch) (D : va_G) (cI cS : ClassId) (h0 : Nat) (a4 : Nat → Nat) (w0 : Nat) (w1 : Nat) (w2 : Nat) (w3 : Nat) (w5 : Int32) (p0 : Int32) (τ : ScT) (hs : WC τ) : KI l yX6_append wsX6_append { frames := 2, cells := 0, slots := 0, locals := 43 } D (tysA cI cS) [.ref h0, .int p0] (fl ([(h0, .inr (6, [.ref w0, .ref w1, .ref w2, .ref w3, .ref (a4 0), .int w5]))] :: wSc cI a4 τ :: [])) (fX6_append p0 τ) (fun u => (fl ([(h0, .inr (6, [.ref w0, .ref w1, .ref w2, .ref w3, .ref (a4 0), .int w5]))] :: wSc cI a4 u :: []))) := by
  refine KI.of (cc := cX6_append) (maxL := 2) (ty := .int) (by decide) rfl (Nat.le_of_ble_eq_true rfl) rfl (fun p e s m args below meth c ls Q A hx hb hml hown hts hE hP hD hS hl hend => ?_)
  have hown : s.vm.findClass RX6 = some m.cls := hown
  have hl : lv_has ls 2 [(0, .ref h0), (1, .int p0)] := hl
  refine lv_aload_n hx hb dX6_append_0 rfl (lv_at hl 0 rfl) ?_
  refine va_get (D := D) (ci := 6) (v := .ref (a4 0)) (C := RX6) (T := TX6) (N := 6) hx hb hts (fun _ h9 => List.mem_cons_of_mem _ (List.mem_append_left _ (List.mem_append_right _ h9))) hown hE.1 hP 0 rfl rfl 4 (by decide) (hts (.fieldLink RX6 32 "ShadowTable" "script" "LShadowTable$Script;") (List.mem_of_getElem? (i := 1) rfl)) (fun _ h9 => h9) rfl dX6_append_1 ?_
  refine lv_iload_n hx hb dX6_append_4 rfl (lv_at hl 1 rfl) ?_
  refine bIV (wc := [wSc cI a4 τ]) (w1 := fun (u : ScT) => [wSc cI a4 u]) ⟨hx, hb, hml, hown, hts⟩ (kX4_appendCharacter l D cI cS (a4 0) (a4 1) p0 τ hs) (cwV 1 hts gX6_append_X4_appendCharacter rfl rfl rfl (by decide +kernel) ⟨Nat.le_of_ble_eq_true rfl, Nat.le_of_ble_eq_true rfl⟩) hE hP hD hS rfl rfl [1] rfl rfl (fun _ => rfl) (fun _ => rfl) rfl hl.1 rfl (Nat.le_of_ble_eq_true rfl) ⟨Nat.zero_le _, Nat.zero_le _⟩ dX6_append_5 (fun r_5 u_5 H locs e_5 hP hD hS => ?_)
  have hP : va_P D vwCl (fl ([(h0, .inr (6, [.ref w0, .ref w1, .ref w2, .ref w3, .ref (a4 0), .int w5]))] :: wSc cI a4 u_5 :: [])) H := hP
  have hD : va_D A (fl ([(h0, .inr (6, [.ref w0, .ref w1, .ref w2, .ref w3, .ref (a4 0), .int w5]))] :: wSc cI a4 u_5 :: [])) := hD
  exact hend _ _ _ _ _ _ dX6_append_8 rfl (fX6_append_p0 p0 τ r_5 u_5 e_5) hP hS

def fX6_clearText (τ : ScT) : Int32 × ScT := (match (fX4_empty τ) with | (r_4, u_4) => (r_4, u_4))
theorem fX6_clearText_p0 (τ : ScT) (r_4 : Int32) (u_4 : ScT) (e_4 : (fX4_empty τ) = (r_4, u_4)) : (fX6_clearText τ) = (r_4, u_4) := by
  simp only [fX6_clearText, e_4]
set_option maxHeartbeats 4000000 in
set_option maxRecDepth 100000 in
theorem kX6_clearText (l : Launch) (D : va_G) (cI cS : ClassId) (h0 : Nat) (a4 : Nat → Nat) (w0 : Nat) (w1 : Nat) (w2 : Nat) (w3 : Nat) (w5 : Int32) (τ : ScT) : KI l yX6_clearText wsX6_clearText { frames := 1, cells := 0, slots := 0, locals := 21 } D (tysA cI cS) [.ref h0] (fl ([(h0, .inr (6, [.ref w0, .ref w1, .ref w2, .ref w3, .ref (a4 0), .int w5]))] :: wSc cI a4 τ :: [])) (fX6_clearText τ) (fun u => (fl ([(h0, .inr (6, [.ref w0, .ref w1, .ref w2, .ref w3, .ref (a4 0), .int w5]))] :: wSc cI a4 u :: []))) := by
  refine KI.of (cc := cX6_clearText) (maxL := 1) (ty := .int) (by decide) rfl (Nat.le_of_ble_eq_true rfl) rfl (fun p e s m args below meth c ls Q A hx hb hml hown hts hE hP hD hS hl hend => ?_)
  have hown : s.vm.findClass RX6 = some m.cls := hown
  have hl : lv_has ls 1 [(0, .ref h0)] := hl
  refine lv_aload_n hx hb dX6_clearText_0 rfl (lv_at hl 0 rfl) ?_
  refine va_get (D := D) (ci := 6) (v := .ref (a4 0)) (C := RX6) (T := TX6) (N := 6) hx hb hts (fun _ h9 => List.mem_cons_of_mem _ (List.mem_append_left _ (List.mem_append_right _ h9))) hown hE.1 hP 0 rfl rfl 4 (by decide) (hts (.fieldLink RX6 32 "ShadowTable" "script" "LShadowTable$Script;") (List.mem_of_getElem? (i := 1) rfl)) (fun _ h9 => h9) rfl dX6_clearText_1 ?_
  refine bIV (wc := [wSc cI a4 τ]) (w1 := fun (u : ScT) => [wSc cI a4 u]) ⟨hx, hb, hml, hown, hts⟩ (kX4_empty l D cI cS (a4 0) (a4 1) τ) (cwV 0 hts gX6_clearText_X4_empty rfl rfl rfl (by decide +kernel) ⟨Nat.le_of_ble_eq_true rfl, Nat.le_of_ble_eq_true rfl⟩) hE hP hD hS rfl rfl [1] rfl rfl (fun _ => rfl) (fun _ => rfl) rfl hl.1 rfl (Nat.le_of_ble_eq_true rfl) ⟨Nat.zero_le _, Nat.zero_le _⟩ dX6_clearText_4 (fun r_4 u_4 H locs e_4 hP hD hS => ?_)
  have hP : va_P D vwCl (fl ([(h0, .inr (6, [.ref w0, .ref w1, .ref w2, .ref w3, .ref (a4 0), .int w5]))] :: wSc cI a4 u_4 :: [])) H := hP
  have hD : va_D A (fl ([(h0, .inr (6, [.ref w0, .ref w1, .ref w2, .ref w3, .ref (a4 0), .int w5]))] :: wSc cI a4 u_4 :: [])) := hD
  exact hend _ _ _ _ _ _ dX6_clearText_7 rfl (fX6_clearText_p0 τ r_4 u_4 e_4) hP hS

def fX6_fault (τ : ScT) : Int32 × ScT := (match (fX4_findFault τ) with | (r_4, u_4) => (r_4, u_4))
theorem fX6_fault_p0 (τ : ScT) (r_4 : Int32) (u_4 : ScT) (e_4 : (fX4_findFault τ) = (r_4, u_4)) : (fX6_fault τ) = (r_4, u_4) := by
  simp only [fX6_fault, e_4]
set_option maxHeartbeats 4000000 in
set_option maxRecDepth 100000 in
theorem kX6_fault (l : Launch) (D : va_G) (cI cS : ClassId) (h0 : Nat) (a4 : Nat → Nat) (w0 : Nat) (w1 : Nat) (w2 : Nat) (w3 : Nat) (w5 : Int32) (τ : ScT) (hs : WC τ) : KI l yX6_fault wsX6_fault { frames := 6, cells := 0, slots := 0, locals := 130 } D (tysA cI cS) [.ref h0] (fl ([(h0, .inr (6, [.ref w0, .ref w1, .ref w2, .ref w3, .ref (a4 0), .int w5]))] :: wSc cI a4 τ :: [])) (fX6_fault τ) (fun u => (fl ([(h0, .inr (6, [.ref w0, .ref w1, .ref w2, .ref w3, .ref (a4 0), .int w5]))] :: wSc cI a4 u :: []))) := by
  refine KI.of (cc := cX6_fault) (maxL := 1) (ty := .int) (by decide) rfl (Nat.le_of_ble_eq_true rfl) rfl (fun p e s m args below meth c ls Q A hx hb hml hown hts hE hP hD hS hl hend => ?_)
  have hown : s.vm.findClass RX6 = some m.cls := hown
  have hl : lv_has ls 1 [(0, .ref h0)] := hl
  refine lv_aload_n hx hb dX6_fault_0 rfl (lv_at hl 0 rfl) ?_
  refine va_get (D := D) (ci := 6) (v := .ref (a4 0)) (C := RX6) (T := TX6) (N := 6) hx hb hts (fun _ h9 => List.mem_cons_of_mem _ (List.mem_append_left _ (List.mem_append_right _ h9))) hown hE.1 hP 0 rfl rfl 4 (by decide) (hts (.fieldLink RX6 32 "ShadowTable" "script" "LShadowTable$Script;") (List.mem_of_getElem? (i := 1) rfl)) (fun _ h9 => h9) rfl dX6_fault_1 ?_
  refine bIV (wc := [wSc cI a4 τ]) (w1 := fun (u : ScT) => [wSc cI a4 u]) ⟨hx, hb, hml, hown, hts⟩ (kX4_findFault l D cI cS (a4 0) (a4 1) τ hs) (cwV 0 hts gX6_fault_X4_findFault rfl rfl rfl (by decide +kernel) ⟨Nat.le_of_ble_eq_true rfl, Nat.le_of_ble_eq_true rfl⟩) hE hP hD hS rfl rfl [1] rfl rfl (fun _ => rfl) (fun _ => rfl) rfl hl.1 rfl (Nat.le_of_ble_eq_true rfl) ⟨Nat.zero_le _, Nat.zero_le _⟩ dX6_fault_4 (fun r_4 u_4 H locs e_4 hP hD hS => ?_)
  have hP : va_P D vwCl (fl ([(h0, .inr (6, [.ref w0, .ref w1, .ref w2, .ref w3, .ref (a4 0), .int w5]))] :: wSc cI a4 u_4 :: [])) H := hP
  have hD : va_D A (fl ([(h0, .inr (6, [.ref w0, .ref w1, .ref w2, .ref w3, .ref (a4 0), .int w5]))] :: wSc cI a4 u_4 :: [])) := hD
  exact hend _ _ _ _ _ _ dX6_fault_7 rfl (fX6_fault_p0 τ r_4 u_4 e_4) hP hS

def fX6_undo (τ : TPT) : Int32 × TPT := (match (fX1_takeBack τ.2 τ.1) with | (r_8, u_8) => (r_8, (u_8.2, u_8.1)))
theorem fX6_undo_p0 (τ : TPT) (r_8 : Int32) (u_8 : HiT × StT) (e_8 : (fX1_takeBack τ.2 τ.1) = (r_8, u_8)) : (fX6_undo τ) = (r_8, (u_8.2, u_8.1)) := by
  simp only [fX6_undo, e_8]
set_option maxHeartbeats 4000000 in
set_option maxRecDepth 100000 in
theorem kX6_undo (l : Launch) (D : va_G) (cI cS : ClassId) (h0 : Nat) (a0 : Nat → Nat) (a3 : Nat → Nat) (b3 : Nat → Nat → Nat) (w1 : Nat) (w2 : Nat) (w4 : Nat) (w5 : Int32) (τ : TPT) (hh : WH τ.2) : KI l yX6_undo wsX6_undo { frames := 5, cells := 0, slots := 0, locals := 108 } D (tysA cI cS) [.ref h0] (fl ([(h0, .inr (6, [.ref (a0 0), .ref w1, .ref w2, .ref (a3 0), .ref w4, .int w5]))] :: wSt cI a0 τ.1 :: wHi cI cS a3 b3 τ.2 ([]))) (fX6_undo τ) (fun u => (fl ([(h0, .inr (6, [.ref (a0 0), .ref w1, .ref w2, .ref (a3 0), .ref w4, .int w5]))] :: wSt cI a0 u.1 :: wHi cI cS a3 b3 u.2 ([])))) := by
  refine KI.of (cc := cX6_undo) (maxL := 1) (ty := .int) (by decide) rfl (Nat.le_of_ble_eq_true rfl) rfl (fun p e s m args below meth c ls Q A hx hb hml hown hts hE hP hD hS hl hend => ?_)
  have hown : s.vm.findClass RX6 = some m.cls := hown
  have hl : lv_has ls 1 [(0, .ref h0)] := hl
  refine lv_aload_n hx hb dX6_undo_0 rfl (lv_at hl 0 rfl) ?_
  refine va_get (D := D) (ci := 6) (v := .ref (a3 0)) (C := RX6) (T := TX6) (N := 6) hx hb hts (fun _ h9 => List.mem_cons_of_mem _ (List.mem_append_left _ (List.mem_append_left _ (List.mem_append_left _ (List.mem_append_left _ (List.mem_append_left _ (List.mem_append_right _ h9))))))) hown hE.1 hP 0 rfl rfl 3 (by decide) (hts (.fieldLink RX6 25 "ShadowTable" "history" "LShadowTable$History;") (List.mem_of_getElem? (i := 1) rfl)) (fun _ h9 => h9) rfl dX6_undo_1 ?_
  refine lv_aload_n hx hb dX6_undo_4 rfl (lv_at hl 0 rfl) ?_
  refine va_get (D := D) (ci := 6) (v := .ref (a0 0)) (C := RX6) (T := TX6) (N := 6) hx hb hts (fun _ h9 => List.mem_cons_of_mem _ (List.mem_append_left _ (List.mem_append_left _ (List.mem_append_left _ (List.mem_append_left _ (List.mem_append_left _ (List.mem_append_right _ h9))))))) hown hE.1 hP 0 rfl rfl 0 (by decide) (hts (.fieldLink RX6 10 "ShadowTable" "state" "LShadowTable$State;") (List.mem_of_getElem? (i := 2) rfl)) (fun _ h9 => h9) rfl dX6_undo_5 ?_
  refine bIV (wc := (wHi cI cS a3 b3 τ.2 [wSt cI a0 τ.1])) (w1 := fun (u : HiT × StT) => (wHi cI cS a3 b3 u.1 [wSt cI a0 u.2])) ⟨hx, hb, hml, hown, hts⟩ (kX1_takeBack l D cI cS a3 a0 b3 τ.2 τ.1 hh) (cwV 1 hts gX6_undo_X1_takeBack rfl rfl rfl (by decide +kernel) ⟨Nat.le_of_ble_eq_true rfl, Nat.le_of_ble_eq_true rfl⟩) hE hP hD hS rfl rfl [2, 3, 4, 5, 6, 7, 8, 9, 1] rfl rfl (fun _ => rfl) (fun _ => rfl) rfl hl.1 rfl (Nat.le_of_ble_eq_true rfl) ⟨Nat.zero_le _, Nat.zero_le _⟩ dX6_undo_8 (fun r_8 u_8 H locs e_8 hP hD hS => ?_)
  have hP : va_P D vwCl (fl ([(h0, .inr (6, [.ref (a0 0), .ref w1, .ref w2, .ref (a3 0), .ref w4, .int w5]))] :: wSt cI a0 u_8.2 :: wHi cI cS a3 b3 u_8.1 ([]))) H := hP
  have hD : va_D A (fl ([(h0, .inr (6, [.ref (a0 0), .ref w1, .ref w2, .ref (a3 0), .ref w4, .int w5]))] :: wSt cI a0 u_8.2 :: wHi cI cS a3 b3 u_8.1 ([]))) := hD
  exact hend _ _ _ _ _ _ dX6_undo_11 rfl (fX6_undo_p0 τ r_8 u_8 e_8) hP hS

def fX6_save (τ : TST) : Int32 × TST := (let u_8 := (fX5_take τ.2.1 τ.1); ((fX3_count τ.1.1), (τ.1, u_8, (1 : Int32))))
theorem fX6_save_p0 (τ : TST) (u_8 : StT) (e_8 : (fX5_take τ.2.1 τ.1) = u_8) : (fX6_save τ) = ((fX3_count τ.1.1), (τ.1, u_8, (1 : Int32))) := by
  simp only [fX6_save, e_8]
set_option maxHeartbeats 4000000 in
set_option maxRecDepth 100000 in
theorem kX6_save (l : Launch) (D : va_G) (cI cS : ClassId) (h0 : Nat) (a0 : Nat → Nat) (a1 : Nat → Nat) (w2 : Nat) (w3 : Nat) (w4 : Nat) (τ : TST) (hbo : BL τ.1.2.2.1) : KI l yX6_save wsX6_save { frames := 4, cells := 0, slots := 0, locals := 87 } D (tysA cI cS) [.ref h0] (fl ([(h0, .inr (6, [.ref (a0 0), .ref (a1 0), .ref w2, .ref w3, .ref w4, .int τ.2.2]))] :: wSt cI a0 τ.1 :: wSt cI a1 τ.2.1 :: [])) (fX6_save τ) (fun u => (fl ([(h0, .inr (6, [.ref (a0 0), .ref (a1 0), .ref w2, .ref w3, .ref w4, .int u.2.2]))] :: wSt cI a0 u.1 :: wSt cI a1 u.2.1 :: []))) := by
  refine KI.of (cc := cX6_save) (maxL := 1) (ty := .int) (by decide) rfl (Nat.le_of_ble_eq_true rfl) rfl (fun p e s m args below meth c ls Q A hx hb hml hown hts hE hP hD hS hl hend => ?_)
  have hown : s.vm.findClass RX6 = some m.cls := hown
  have hl : lv_has ls 1 [(0, .ref h0)] := hl
  refine lv_aload_n hx hb dX6_save_0 rfl (lv_at hl 0 rfl) ?_
  refine va_get (D := D) (ci := 6) (v := .ref (a1 0)) (C := RX6) (T := TX6) (N := 6) hx hb hts (fun _ h9 => List.mem_cons_of_mem _ (List.mem_append_left _ (List.mem_append_left _ (List.mem_append_left _ (List.mem_append_left _ (List.mem_append_right _ h9)))))) hown hE.1 hP 0 rfl rfl 1 (by decide) (hts (.fieldLink RX6 16 "ShadowTable" "snapshot" "LShadowTable$State;") (List.mem_of_getElem? (i := 1) rfl)) (fun _ h9 => h9) rfl dX6_save_1 ?_
  refine lv_aload_n hx hb dX6_save_4 rfl (lv_at hl 0 rfl) ?_
  refine va_get (D := D) (ci := 6) (v := .ref (a0 0)) (C := RX6) (T := TX6) (N := 6) hx hb hts (fun _ h9 => List.mem_cons_of_mem _ (List.mem_append_left _ (List.mem_append_left _ (List.mem_append_left _ (List.mem_append_left _ (List.mem_append_right _ h9)))))) hown hE.1 hP 0 rfl rfl 0 (by decide) (hts (.fieldLink RX6 10 "ShadowTable" "state" "LShadowTable$State;") (List.mem_of_getElem? (i := 2) rfl)) (fun _ h9 => h9) rfl dX6_save_5 ?_
  refine bVV (wc := [wSt cI a1 τ.2.1, wSt cI a0 τ.1]) (w1 := fun (u : StT) => [wSt cI a1 u, wSt cI a0 τ.1]) ⟨hx, hb, hml, hown, hts⟩ (kX5_take l D cI cS (a1 0) (a1 1) (a1 2) (a1 3) (a1 4) (a1 5) (a1 6) (a1 7) (a1 8) (a1 9) (a1 10) (a1 11) (a1 12) (a0 0) (a0 1) (a0 2) (a0 3) (a0 4) (a0 5) (a0 6) (a0 7) (a0 8) (a0 9) (a0 10) (a0 11) (a0 12) τ.2.1 τ.1 hbo) (cwV 1 hts gX6_save_X5_take rfl rfl rfl (by decide +kernel) ⟨Nat.le_of_ble_eq_true rfl, Nat.le_of_ble_eq_true rfl⟩) hE hP hD hS rfl rfl [2, 1] rfl rfl (fun _ => rfl) (fun _ => rfl) rfl hl.1 rfl (Nat.le_of_ble_eq_true rfl) ⟨Nat.zero_le _, Nat.zero_le _⟩ dX6_save_8 (fun u_8 H locs e_8 hP hD hS => ?_)
  have hP : va_P D vwCl (fl ([(h0, .inr (6, [.ref (a0 0), .ref (a1 0), .ref w2, .ref w3, .ref w4, .int τ.2.2]))] :: wSt cI a0 τ.1 :: wSt cI a1 u_8 :: [])) H := hP
  have hD : va_D A (fl ([(h0, .inr (6, [.ref (a0 0), .ref (a1 0), .ref w2, .ref w3, .ref w4, .int τ.2.2]))] :: wSt cI a0 τ.1 :: wSt cI a1 u_8 :: [])) := hD
  refine lv_aload_n hx hb dX6_save_11 rfl (lv_at hl 0 rfl) ?_
  refine lv_iconst (v := (1 : Int32)) hx hb dX6_save_12 (by decide +kernel) ?_
  refine xpf (ty := .boolean) (v := .int (1 : Int32)) (C := RX6) (T := TX6) (N := 6) hx hb hts (fun _ h9 => List.mem_cons_of_mem _ (List.mem_append_left _ (List.mem_append_left _ (List.mem_append_left _ (List.mem_append_left _ (List.mem_append_right _ h9)))))) tyX6 tyX6_ok nmX6 hown hE hP hD hS 0 rfl rfl 5 (by decide) (hts (.fieldLink RX6 109 "ShadowTable" "hasSnapshot" "Z") (List.mem_of_getElem? (i := 3) rfl)) rfl rfl (by decide +kernel) rfl rfl (Nat.le_of_ble_eq_true rfl) (fl ([(h0, .inr (6, [.ref (a0 0), .ref (a1 0), .ref w2, .ref w3, .ref w4, .int (1 : Int32)]))] :: wSt cI a0 τ.1 :: wSt cI a1 u_8 :: [])) rfl dX6_save_13 (fun H locs hP hD hS => ?_)
  refine lv_aload_n hx hb dX6_save_16 rfl (lv_at hl 0 rfl) ?_
  refine va_get (D := D) (ci := 6) (v := .ref (a0 0)) (C := RX6) (T := TX6) (N := 6) hx hb hts (fun _ h9 => List.mem_cons_of_mem _ (List.mem_append_left _ (List.mem_append_left _ (List.mem_append_left _ (List.mem_append_left _ (List.mem_append_right _ h9)))))) hown hE.1 hP 0 rfl rfl 0 (by decide) (hts (.fieldLink RX6 10 "ShadowTable" "state" "LShadowTable$State;") (List.mem_of_getElem? (i := 2) rfl)) (fun _ h9 => h9) rfl dX6_save_17 ?_
  refine va_getN (D := D) (ci := 5) (v := .ref (a0 1)) (C := RX5) (T := TX5) (N := 6) hx hb hts (fun _ h9 => List.mem_cons_of_mem _ (List.mem_append_left _ (List.mem_append_left _ (List.mem_append_left _ (List.mem_append_right _ h9))))) hown hE.1 hP 1 rfl rfl 0 (by decide) (hE.2.f 12 rfl) (fun _ h9 => h9) rfl dX6_save_20 ?_
  refine cRV ⟨hx, hb, hml, hown, hts⟩ (kX3_count l D cI cS (a0 1) (a0 2) τ.1.1) (cwV 0 hts gX6_save_X3_count rfl rfl rfl (by decide +kernel) ⟨Nat.le_of_ble_eq_true rfl, Nat.le_of_ble_eq_true rfl⟩) hE hP 2 rfl rfl [2, 3] rfl rfl hl.1 rfl (Nat.le_of_ble_eq_true rfl) ⟨Nat.zero_le _, Nat.zero_le _⟩ dX6_save_23 ?_
  exact hend _ _ _ _ _ _ dX6_save_26 rfl (fX6_save_p0 τ u_8 e_8) hP hS

def fX6_restore (τ : TRT) : Int32 × TRT := (if τ.2.2.2 = (0 : Int32) then ((-4 : Int32), τ) else (let u_18 := (fX1_prepare τ.2.2.1 τ.1); (let u_29 := (fX5_take τ.1 τ.2.1); (match (fX6_recorded (fX3_count u_29.1) u_18.2) with | (r_43, u_43) => (r_43, (u_29, τ.2.1, (u_18.1, u_43.1, u_43.2), τ.2.2.2))))))
theorem fX6_restore_p0 (τ : TRT) (c_4 : ¬ τ.2.2.2 = (0 : Int32)) (u_18 : HiT) (e_18 : (fX1_prepare τ.2.2.1 τ.1) = u_18) (u_29 : StT) (e_29 : (fX5_take τ.1 τ.2.1) = u_29) (r_43 : Int32) (u_43 : HsT) (e_43 : (fX6_recorded (fX3_count u_29.1) u_18.2) = (r_43, u_43)) : (fX6_restore τ) = (r_43, (u_29, τ.2.1, (u_18.1, u_43.1, u_43.2), τ.2.2.2)) := by
  simp only [fX6_restore, if_neg c_4, e_18, e_29, e_43]
theorem fX6_restore_p1 (τ : TRT) (c_4 : τ.2.2.2 = (0 : Int32)) : (fX6_restore τ) = ((-4 : Int32), τ) := by
  simp only [fX6_restore, if_pos c_4]
set_option maxHeartbeats 4000000 in
set_option maxRecDepth 100000 in
theorem kX6_restore (l : Launch) (D : va_G) (cI cS : ClassId) (h0 : Nat) (a0 : Nat → Nat) (a1 : Nat → Nat) (a3 : Nat → Nat) (b3 : Nat → Nat → Nat) (w2 : Nat) (w4 : Nat) (τ : TRT) (hbo : BL τ.1.2.2.1) (hbs : BL τ.2.1.2.2.1) (hh : WH τ.2.2.1) : KI l yX6_restore wsX6_restore { frames := 5, cells := 0, slots := 0, locals := 108 } D (tysA cI cS) [.ref h0] (fl ([(h0, .inr (6, [.ref (a0 0), .ref (a1 0), .ref w2, .ref (a3 0), .ref w4, .int τ.2.2.2]))] :: wSt cI a0 τ.1 :: wSt cI a1 τ.2.1 :: wHi cI cS a3 b3 τ.2.2.1 ([]))) (fX6_restore τ) (fun u => (fl ([(h0, .inr (6, [.ref (a0 0), .ref (a1 0), .ref w2, .ref (a3 0), .ref w4, .int u.2.2.2]))] :: wSt cI a0 u.1 :: wSt cI a1 u.2.1 :: wHi cI cS a3 b3 u.2.2.1 ([])))) := by
  refine KI.of (cc := cX6_restore) (maxL := 1) (ty := .int) (by decide) rfl (Nat.le_of_ble_eq_true rfl) rfl (fun p e s m args below meth c ls Q A hx hb hml hown hts hE hP hD hS hl hend => ?_)
  have hown : s.vm.findClass RX6 = some m.cls := hown
  have hl : lv_has ls 1 [(0, .ref h0)] := hl
  refine lv_aload_n hx hb dX6_restore_0 rfl (lv_at hl 0 rfl) ?_
  refine va_get (D := D) (ci := 6) (v := .int τ.2.2.2) (C := RX6) (T := TX6) (N := 6) hx hb hts (fun _ h9 => List.mem_cons_of_mem _ (List.mem_append_left _ (List.mem_append_left _ (List.mem_append_left _ (List.mem_append_left _ (List.mem_append_left _ (List.mem_append_right _ h9))))))) hown hE.1 hP 0 rfl rfl 5 (by decide) (hts (.fieldLink RX6 109 "ShadowTable" "hasSnapshot" "Z") (List.mem_of_getElem? (i := 1) rfl)) (fun _ h9 => h9) rfl dX6_restore_1 ?_
  refine lv_if_ne (tgt := 10) hx hb dX6_restore_4 (by decide) (fun c_4 => ?_) (fun c_4 => ?_)
  · refine lv_aload_n hx hb dX6_restore_10 rfl (lv_at hl 0 rfl) ?_
    refine va_get (D := D) (ci := 6) (v := .ref (a3 0)) (C := RX6) (T := TX6) (N := 6) hx hb hts (fun _ h9 => List.mem_cons_of_mem _ (List.mem_append_left _ (List.mem_append_left _ (List.mem_append_left _ (List.mem_append_left _ (List.mem_append_left _ (List.mem_append_right _ h9))))))) hown hE.1 hP 0 rfl rfl 3 (by decide) (hts (.fieldLink RX6 25 "ShadowTable" "history" "LShadowTable$History;") (List.mem_of_getElem? (i := 2) rfl)) (fun _ h9 => h9) rfl dX6_restore_11 ?_
    refine lv_aload_n hx hb dX6_restore_14 rfl (lv_at hl 0 rfl) ?_
    refine va_get (D := D) (ci := 6) (v := .ref (a0 0)) (C := RX6) (T := TX6) (N := 6) hx hb hts (fun _ h9 => List.mem_cons_of_mem _ (List.mem_append_left _ (List.mem_append_left _ (List.mem_append_left _ (List.mem_append_left _ (List.mem_append_left _ (List.mem_append_right _ h9))))))) hown hE.1 hP 0 rfl rfl 0 (by decide) (hts (.fieldLink RX6 10 "ShadowTable" "state" "LShadowTable$State;") (List.mem_of_getElem? (i := 3) rfl)) (fun _ h9 => h9) rfl dX6_restore_15 ?_
    refine bVV (wc := (wHi cI cS a3 b3 τ.2.2.1 [wSt cI a0 τ.1])) (w1 := fun (u : HiT) => (wHi cI cS a3 b3 u [wSt cI a0 τ.1])) ⟨hx, hb, hml, hown, hts⟩ (kX1_prepare l D cI cS a3 a0 b3 τ.2.2.1 τ.1 hh hbo) (cwV 1 hts gX6_restore_X1_prepare rfl rfl rfl (by decide +kernel) ⟨Nat.le_of_ble_eq_true rfl, Nat.le_of_ble_eq_true rfl⟩) hE hP hD hS rfl rfl [3, 4, 5, 6, 7, 8, 9, 10, 1] rfl rfl (fun _ => rfl) (fun _ => rfl) rfl hl.1 rfl (Nat.le_of_ble_eq_true rfl) ⟨Nat.zero_le _, Nat.zero_le _⟩ dX6_restore_18 (fun u_18 H locs e_18 hP hD hS => ?_)
    have hP : va_P D vwCl (fl ([(h0, .inr (6, [.ref (a0 0), .ref (a1 0), .ref w2, .ref (a3 0), .ref w4, .int τ.2.2.2]))] :: wSt cI a0 τ.1 :: wSt cI a1 τ.2.1 :: wHi cI cS a3 b3 u_18 ([]))) H := hP
    have hD : va_D A (fl ([(h0, .inr (6, [.ref (a0 0), .ref (a1 0), .ref w2, .ref (a3 0), .ref w4, .int τ.2.2.2]))] :: wSt cI a0 τ.1 :: wSt cI a1 τ.2.1 :: wHi cI cS a3 b3 u_18 ([]))) := hD
    refine lv_aload_n hx hb dX6_restore_21 rfl (lv_at hl 0 rfl) ?_
    refine va_get (D := D) (ci := 6) (v := .ref (a0 0)) (C := RX6) (T := TX6) (N := 6) hx hb hts (fun _ h9 => List.mem_cons_of_mem _ (List.mem_append_left _ (List.mem_append_left _ (List.mem_append_left _ (List.mem_append_left _ (List.mem_append_left _ (List.mem_append_right _ h9))))))) hown hE.1 hP 0 rfl rfl 0 (by decide) (hts (.fieldLink RX6 10 "ShadowTable" "state" "LShadowTable$State;") (List.mem_of_getElem? (i := 3) rfl)) (fun _ h9 => h9) rfl dX6_restore_22 ?_
    refine lv_aload_n hx hb dX6_restore_25 rfl (lv_at hl 0 rfl) ?_
    refine va_get (D := D) (ci := 6) (v := .ref (a1 0)) (C := RX6) (T := TX6) (N := 6) hx hb hts (fun _ h9 => List.mem_cons_of_mem _ (List.mem_append_left _ (List.mem_append_left _ (List.mem_append_left _ (List.mem_append_left _ (List.mem_append_left _ (List.mem_append_right _ h9))))))) hown hE.1 hP 0 rfl rfl 1 (by decide) (hts (.fieldLink RX6 16 "ShadowTable" "snapshot" "LShadowTable$State;") (List.mem_of_getElem? (i := 4) rfl)) (fun _ h9 => h9) rfl dX6_restore_26 ?_
    refine bVV (wc := [wSt cI a0 τ.1, wSt cI a1 τ.2.1]) (w1 := fun (u : StT) => [wSt cI a0 u, wSt cI a1 τ.2.1]) ⟨hx, hb, hml, hown, hts⟩ (kX5_take l D cI cS (a0 0) (a0 1) (a0 2) (a0 3) (a0 4) (a0 5) (a0 6) (a0 7) (a0 8) (a0 9) (a0 10) (a0 11) (a0 12) (a1 0) (a1 1) (a1 2) (a1 3) (a1 4) (a1 5) (a1 6) (a1 7) (a1 8) (a1 9) (a1 10) (a1 11) (a1 12) τ.1 τ.2.1 hbs) (cwV 1 hts gX6_restore_X5_take rfl rfl rfl (by decide +kernel) ⟨Nat.le_of_ble_eq_true rfl, Nat.le_of_ble_eq_true rfl⟩) hE hP hD hS rfl rfl [1, 2] rfl rfl (fun _ => rfl) (fun _ => rfl) rfl hl.1 rfl (Nat.le_of_ble_eq_true rfl) ⟨Nat.zero_le _, Nat.zero_le _⟩ dX6_restore_29 (fun u_29 H locs e_29 hP hD hS => ?_)
    have hP : va_P D vwCl (fl ([(h0, .inr (6, [.ref (a0 0), .ref (a1 0), .ref w2, .ref (a3 0), .ref w4, .int τ.2.2.2]))] :: wSt cI a0 u_29 :: wSt cI a1 τ.2.1 :: wHi cI cS a3 b3 u_18 ([]))) H := hP
    have hD : va_D A (fl ([(h0, .inr (6, [.ref (a0 0), .ref (a1 0), .ref w2, .ref (a3 0), .ref w4, .int τ.2.2.2]))] :: wSt cI a0 u_29 :: wSt cI a1 τ.2.1 :: wHi cI cS a3 b3 u_18 ([]))) := hD
    refine lv_aload_n hx hb dX6_restore_32 rfl (lv_at hl 0 rfl) ?_
    refine lv_aload_n hx hb dX6_restore_33 rfl (lv_at hl 0 rfl) ?_
    refine va_get (D := D) (ci := 6) (v := .ref (a0 0)) (C := RX6) (T := TX6) (N := 6) hx hb hts (fun _ h9 => List.mem_cons_of_mem _ (List.mem_append_left _ (List.mem_append_left _ (List.mem_append_left _ (List.mem_append_left _ (List.mem_append_left _ (List.mem_append_right _ h9))))))) hown hE.1 hP 0 rfl rfl 0 (by decide) (hts (.fieldLink RX6 10 "ShadowTable" "state" "LShadowTable$State;") (List.mem_of_getElem? (i := 3) rfl)) (fun _ h9 => h9) rfl dX6_restore_34 ?_
    refine va_getN (D := D) (ci := 5) (v := .ref (a0 1)) (C := RX5) (T := TX5) (N := 6) hx hb hts (fun _ h9 => List.mem_cons_of_mem _ (List.mem_append_left _ (List.mem_append_left _ (List.mem_append_left _ (List.mem_append_left _ (List.mem_append_right _ h9)))))) hown hE.1 hP 1 rfl rfl 0 (by decide) (hE.2.f 12 rfl) (fun _ h9 => h9) rfl dX6_restore_37 ?_
    refine cRV ⟨hx, hb, hml, hown, hts⟩ (kX3_count l D cI cS (a0 1) (a0 2) u_29.1) (cwV 0 hts gX6_restore_X3_count rfl rfl rfl (by decide +kernel) ⟨Nat.le_of_ble_eq_true rfl, Nat.le_of_ble_eq_true rfl⟩) hE hP 2 rfl rfl [2, 3] rfl rfl hl.1 rfl (Nat.le_of_ble_eq_true rfl) ⟨Nat.zero_le _, Nat.zero_le _⟩ dX6_restore_40 ?_
    refine bIV (wc := ([(h0, .inr (6, [.ref (a0 0), .ref (a1 0), .ref w2, .ref (a3 0), .ref w4, .int τ.2.2.2]))] :: wHh a3 u_18.2 :: [])) (w1 := fun (u : HsT) => ([(h0, .inr (6, [.ref (a0 0), .ref (a1 0), .ref w2, .ref (a3 0), .ref w4, .int τ.2.2.2]))] :: wHh a3 u :: [])) ⟨hx, hb, hml, hown, hts⟩ (kX6_recorded l D cI cS h0 a3 (a0 0) (a1 0) w2 w4 τ.2.2.2 (fX3_count u_29.1) u_18.2) (cwV 1 hts gX6_restore_X6_recorded rfl rfl rfl (by decide +kernel) ⟨Nat.le_of_ble_eq_true rfl, Nat.le_of_ble_eq_true rfl⟩) hE hP hD hS rfl rfl [0, 3] rfl rfl (fun _ => rfl) (fun _ => rfl) rfl hl.1 rfl (Nat.le_of_ble_eq_true rfl) ⟨Nat.zero_le _, Nat.zero_le _⟩ dX6_restore_43 (fun r_43 u_43 H locs e_43 hP hD hS => ?_)
    have hP : va_P D vwCl (fl ([(h0, .inr (6, [.ref (a0 0), .ref (a1 0), .ref w2, .ref (a3 0), .ref w4, .int τ.2.2.2]))] :: wSt cI a0 u_29 :: wSt cI a1 τ.2.1 :: wHi cI cS a3 b3 (u_18.1, u_43.1, u_43.2) ([]))) H := hP
    have hD : va_D A (fl ([(h0, .inr (6, [.ref (a0 0), .ref (a1 0), .ref w2, .ref (a3 0), .ref w4, .int τ.2.2.2]))] :: wSt cI a0 u_29 :: wSt cI a1 τ.2.1 :: wHi cI cS a3 b3 (u_18.1, u_43.1, u_43.2) ([]))) := hD
    exact hend _ _ _ _ _ _ dX6_restore_46 rfl (fX6_restore_p0 τ c_4 u_18 e_18 u_29 e_29 r_43 u_43 e_43) hP hS
  · refine lv_bipush (v := (-4 : Int32)) hx hb dX6_restore_7 (by decide +kernel) ?_
    exact hend _ _ _ _ _ _ dX6_restore_9 rfl (fX6_restore_p1 τ c_4) hP hS

def fX6_copy (p0 : Int32) (τ : StT) : Int32 := (if (fX6_isIn p0 (0 : Int32) (5 : Int32)) = (0 : Int32) then (-2 : Int32) else (fX0_tell p0 τ.2.2.2.1))
theorem fX6_copy_p0 (p0 : Int32) (τ : StT) (c_6 : (fX6_isIn p0 (0 : Int32) (5 : Int32)) = (0 : Int32)) : (fX6_copy p0 τ) = (-2 : Int32) := by
  simp only [fX6_copy, if_pos c_6]
theorem fX6_copy_p1 (p0 : Int32) (τ : StT) (c_6 : ¬ (fX6_isIn p0 (0 : Int32) (5 : Int32)) = (0 : Int32)) : (fX6_copy p0 τ) = (fX0_tell p0 τ.2.2.2.1) := by
  simp only [fX6_copy, if_neg c_6]
set_option maxHeartbeats 4000000 in
set_option maxRecDepth 100000 in
theorem kX6_copy (l : Launch) (D : va_G) (cI cS : ClassId) (h0 : Nat) (a0 : Nat → Nat) (w1 : Nat) (w2 : Nat) (w3 : Nat) (w4 : Nat) (w5 : Int32) (p0 : Int32) (τ : StT) : KR l yX6_copy wsX6_copy { frames := 1, cells := 0, slots := 0, locals := 22 } D (tysA cI cS) [.ref h0, .int p0] (fl ([(h0, .inr (6, [.ref (a0 0), .ref w1, .ref w2, .ref w3, .ref w4, .int w5]))] :: wSt cI a0 τ :: [])) (fX6_copy p0 τ) := by
  refine KR.of (cc := cX6_copy) (maxL := 2) (ty := .int) (by decide) rfl (Nat.le_of_ble_eq_true rfl) rfl (fun p e s m args below meth c ls Q hx hb hml hown hts hE hP hl hend => ?_)
  have hown : s.vm.findClass RX6 = some m.cls := hown
  have hl : lv_has ls 2 [(0, .ref h0), (1, .int p0)] := hl
  refine lv_iload_n hx hb dX6_copy_0 rfl (lv_at hl 1 rfl) ?_
  refine lv_iconst (v := (0 : Int32)) hx hb dX6_copy_1 (by decide +kernel) ?_
  refine lv_iconst (v := (5 : Int32)) hx hb dX6_copy_2 (by decide +kernel) ?_
  refine cRS ⟨hx, hb, hml, hown, hts⟩ (kX6_isIn l D cI cS p0 (0 : Int32) (5 : Int32)) (va_cwS 3 hts gX6_copy_X6_isIn rfl rfl rfl (by decide +kernel) ⟨Nat.le_of_ble_eq_true rfl, Nat.le_of_ble_eq_true rfl⟩) hE hP [] rfl rfl hl.1 rfl (Nat.le_of_ble_eq_true rfl) ⟨Nat.zero_le _, Nat.zero_le _⟩ dX6_copy_3 ?_
  refine lv_if_eq (tgt := 23) hx hb dX6_copy_6 (by decide) (fun c_6 => ?_) (fun c_6 => ?_)
  · refine lv_bipush (v := (-2 : Int32)) hx hb dX6_copy_23 (by decide +kernel) ?_
    exact hend _ _ _ dX6_copy_25 rfl (fX6_copy_p0 p0 τ c_6)
  · refine lv_aload_n hx hb dX6_copy_9 rfl (lv_at hl 0 rfl) ?_
    refine va_get (D := D) (ci := 6) (v := .ref (a0 0)) (C := RX6) (T := TX6) (N := 6) hx hb hts (fun _ h9 => List.mem_cons_of_mem _ (List.mem_append_left _ (List.mem_append_left _ (List.mem_append_left _ (List.mem_append_right _ h9))))) hown hE.1 hP 0 rfl rfl 0 (by decide) (hts (.fieldLink RX6 10 "ShadowTable" "state" "LShadowTable$State;") (List.mem_of_getElem? (i := 1) rfl)) (fun _ h9 => h9) rfl dX6_copy_10 ?_
    refine va_getN (D := D) (ci := 5) (v := .ref (a0 5)) (C := RX5) (T := TX5) (N := 6) hx hb hts (fun _ h9 => List.mem_cons_of_mem _ (List.mem_append_left _ (List.mem_append_left _ (List.mem_append_right _ h9)))) hown hE.1 hP 1 rfl rfl 3 (by decide) (hE.2.f 13 rfl) (fun _ h9 => h9) rfl dX6_copy_13 ?_
    refine lv_iload_n hx hb dX6_copy_16 rfl (lv_at hl 1 rfl) ?_
    refine cRV ⟨hx, hb, hml, hown, hts⟩ (kX0_tell l D cI cS (a0 5) (a0 6) (a0 7) (a0 8) (a0 9) (a0 10) p0 τ.2.2.2.1) (cwV 1 hts gX6_copy_X0_tell rfl rfl rfl (by decide +kernel) ⟨Nat.le_of_ble_eq_true rfl, Nat.le_of_ble_eq_true rfl⟩) hE hP 6 rfl rfl [6, 7, 8, 9, 10, 11] rfl rfl hl.1 rfl (Nat.le_of_ble_eq_true rfl) ⟨Nat.zero_le _, Nat.zero_le _⟩ dX6_copy_17 ?_
    refine lv_goto (tgt := 25) hx hb dX6_copy_20 (by decide) ?_
    exact hend _ _ _ dX6_copy_25 rfl (fX6_copy_p1 p0 τ c_6)

def fX6_entry (p0 : Int32) (p1 : Int32) (τ : StT) : Int32 := (if p0 < (0 : Int32) then (-2 : Int32) else (if (fX6_isIn p1 (0 : Int32) (1 : Int32)) = (0 : Int32) then (-2 : Int32) else (if (fX5_hasCopy τ) = (0 : Int32) then (-5 : Int32) else (if p1 = (0 : Int32) then (fX2_keyAt p0 τ.2.2.2.1.2.1) else (fX2_valueAt p0 τ.2.2.2.1.2.1)))))
theorem fX6_entry_p0 (p0 : Int32) (p1 : Int32) (τ : StT) (c_1 : p0 < (0 : Int32)) : (fX6_entry p0 p1 τ) = (-2 : Int32) := by
  simp only [fX6_entry, if_pos c_1]
theorem fX6_entry_p1 (p0 : Int32) (p1 : Int32) (τ : StT) (c_1 : ¬ p0 < (0 : Int32)) (c_10 : ¬ (fX6_isIn p1 (0 : Int32) (1 : Int32)) = (0 : Int32)) (c_23 : ¬ (fX5_hasCopy τ) = (0 : Int32)) (c_41 : ¬ p1 = (0 : Int32)) : (fX6_entry p0 p1 τ) = (fX2_valueAt p0 τ.2.2.2.1.2.1) := by
  simp only [fX6_entry, if_neg c_1, if_neg c_10, if_neg c_23, if_neg c_41]
theorem fX6_entry_p2 (p0 : Int32) (p1 : Int32) (τ : StT) (c_1 : ¬ p0 < (0 : Int32)) (c_10 : ¬ (fX6_isIn p1 (0 : Int32) (1 : Int32)) = (0 : Int32)) (c_23 : ¬ (fX5_hasCopy τ) = (0 : Int32)) (c_41 : p1 = (0 : Int32)) : (fX6_entry p0 p1 τ) = (fX2_keyAt p0 τ.2.2.2.1.2.1) := by
  simp only [fX6_entry, if_neg c_1, if_neg c_10, if_neg c_23, if_pos c_41]
theorem fX6_entry_p3 (p0 : Int32) (p1 : Int32) (τ : StT) (c_1 : ¬ p0 < (0 : Int32)) (c_10 : ¬ (fX6_isIn p1 (0 : Int32) (1 : Int32)) = (0 : Int32)) (c_23 : (fX5_hasCopy τ) = (0 : Int32)) : (fX6_entry p0 p1 τ) = (-5 : Int32) := by
  simp only [fX6_entry, if_neg c_1, if_neg c_10, if_pos c_23]
theorem fX6_entry_p4 (p0 : Int32) (p1 : Int32) (τ : StT) (c_1 : ¬ p0 < (0 : Int32)) (c_10 : (fX6_isIn p1 (0 : Int32) (1 : Int32)) = (0 : Int32)) : (fX6_entry p0 p1 τ) = (-2 : Int32) := by
  simp only [fX6_entry, if_neg c_1, if_pos c_10]
set_option maxHeartbeats 4000000 in
set_option maxRecDepth 100000 in
theorem kX6_entry (l : Launch) (D : va_G) (cI cS : ClassId) (h0 : Nat) (a0 : Nat → Nat) (w1 : Nat) (w2 : Nat) (w3 : Nat) (w4 : Nat) (w5 : Int32) (p0 : Int32) (p1 : Int32) (τ : StT) (hw : WS τ) : KR l yX6_entry wsX6_entry { frames := 2, cells := 0, slots := 0, locals := 42 } D (tysA cI cS) [.ref h0, .int p0, .int p1] (fl ([(h0, .inr (6, [.ref (a0 0), .ref w1, .ref w2, .ref w3, .ref w4, .int w5]))] :: wSt cI a0 τ :: [])) (fX6_entry p0 p1 τ) := by
  refine KR.of (cc := cX6_entry) (maxL := 4) (ty := .int) (by decide) rfl (Nat.le_of_ble_eq_true rfl) rfl (fun p e s m args below meth c ls Q hx hb hml hown hts hE hP hl hend => ?_)
  have hown : s.vm.findClass RX6 = some m.cls := hown
  have hl : lv_has ls 4 [(0, .ref h0), (1, .int p0), (2, .int p1)] := hl
  refine lv_iload_n hx hb dX6_entry_0 rfl (lv_at hl 1 rfl) ?_
  refine lv_if_lt (tgt := 13) hx hb dX6_entry_1 (by decide) (fun c_1 => ?_) (fun c_1 => ?_)
  · refine lv_bipush (v := (-2 : Int32)) hx hb dX6_entry_13 (by decide +kernel) ?_
    exact hend _ _ _ dX6_entry_15 rfl (fX6_entry_p0 p0 p1 τ c_1)
  · refine lv_iload_n hx hb dX6_entry_4 rfl (lv_at hl 2 rfl) ?_
    refine lv_iconst (v := (0 : Int32)) hx hb dX6_entry_5 (by decide +kernel) ?_
    refine lv_iconst (v := (1 : Int32)) hx hb dX6_entry_6 (by decide +kernel) ?_
    refine cRS ⟨hx, hb, hml, hown, hts⟩ (kX6_isIn l D cI cS p1 (0 : Int32) (1 : Int32)) (va_cwS 3 hts gX6_entry_X6_isIn rfl rfl rfl (by decide +kernel) ⟨Nat.le_of_ble_eq_true rfl, Nat.le_of_ble_eq_true rfl⟩) hE hP [] rfl rfl hl.1 rfl (Nat.le_of_ble_eq_true rfl) ⟨Nat.zero_le _, Nat.zero_le _⟩ dX6_entry_7 ?_
    refine lv_if_ne (tgt := 16) hx hb dX6_entry_10 (by decide) (fun c_10 => ?_) (fun c_10 => ?_)
    · refine lv_aload_n hx hb dX6_entry_16 rfl (lv_at hl 0 rfl) ?_
      refine va_get (D := D) (ci := 6) (v := .ref (a0 0)) (C := RX6) (T := TX6) (N := 6) hx hb hts (fun _ h9 => List.mem_cons_of_mem _ (List.mem_append_left _ (List.mem_append_left _ (List.mem_append_left _ (List.mem_append_right _ h9))))) hown hE.1 hP 0 rfl rfl 0 (by decide) (hts (.fieldLink RX6 10 "ShadowTable" "state" "LShadowTable$State;") (List.mem_of_getElem? (i := 1) rfl)) (fun _ h9 => h9) rfl dX6_entry_17 ?_
      refine cRV ⟨hx, hb, hml, hown, hts⟩ (kX5_hasCopy l D cI cS (a0 0) (a0 1) (a0 2) (a0 3) (a0 4) (a0 5) (a0 6) (a0 7) (a0 8) (a0 9) (a0 10) (a0 11) (a0 12) τ) (cwV 0 hts gX6_entry_X5_hasCopy rfl rfl rfl (by decide +kernel) ⟨Nat.le_of_ble_eq_true rfl, Nat.le_of_ble_eq_true rfl⟩) hE hP 1 rfl rfl [1, 2, 3, 4, 5, 6, 7, 8, 9, 10, 11, 12, 13] rfl rfl hl.1 rfl (Nat.le_of_ble_eq_true rfl) ⟨Nat.zero_le _, Nat.zero_le _⟩ dX6_entry_20 ?_
      refine lv_if_ne (tgt := 29) hx hb dX6_entry_23 (by decide) (fun c_23 => ?_) (fun c_23 => ?_)
      · refine lv_aload_n hx hb dX6_entry_29 rfl (lv_at hl 0 rfl) ?_
        refine va_get (D := D) (ci := 6) (v := .ref (a0 0)) (C := RX6) (T := TX6) (N := 6) hx hb hts (fun _ h9 => List.mem_cons_of_mem _ (List.mem_append_left _ (List.mem_append_left _ (List.mem_append_left _ (List.mem_append_right _ h9))))) hown hE.1 hP 0 rfl rfl 0 (by decide) (hts (.fieldLink RX6 10 "ShadowTable" "state" "LShadowTable$State;") (List.mem_of_getElem? (i := 1) rfl)) (fun _ h9 => h9) rfl dX6_entry_30 ?_
        refine va_getN (D := D) (ci := 5) (v := .ref (a0 5)) (C := RX5) (T := TX5) (N := 6) hx hb hts (fun _ h9 => List.mem_cons_of_mem _ (List.mem_append_left _ (List.mem_append_left _ (List.mem_append_right _ h9)))) hown hE.1 hP 1 rfl rfl 3 (by decide) (hE.2.f 13 rfl) (fun _ h9 => h9) rfl dX6_entry_33 ?_
        refine va_getN (D := D) (ci := 0) (v := .ref (a0 8)) (C := RX0) (T := TX0) (N := 7) hx hb hts (fun _ h9 => List.mem_cons_of_mem _ (List.mem_append_left _ (List.mem_append_right _ h9))) hown hE.1 hP 6 rfl rfl 1 (by decide) (hE.2.f 4 rfl) (fun _ h9 => h9) rfl dX6_entry_36 ?_
        refine lv_astore_n (lv' := [(3, .ref (a0 8)), (0, .ref h0), (1, .int p0), (2, .int p1)]) hx hb dX6_entry_39 rfl hl (by decide) rfl (fun ls hl => ?_)
        refine lv_iload_n hx hb dX6_entry_40 rfl (lv_at hl 3 rfl) ?_
        refine lv_if_ne (tgt := 52) hx hb dX6_entry_41 (by decide) (fun c_41 => ?_) (fun c_41 => ?_)
        · refine lv_aload_n hx hb dX6_entry_52 rfl (lv_at hl 0 rfl) ?_
          refine lv_iload_n hx hb dX6_entry_53 rfl (lv_at hl 2 rfl) ?_
          refine cRV ⟨hx, hb, hml, hown, hts⟩ (kX2_valueAt l D cI cS (a0 8) (a0 9) (a0 10) p0 τ.2.2.2.1.2.1 hw.1) (cwV 1 hts gX6_entry_X2_valueAt rfl rfl rfl (by decide +kernel) ⟨Nat.le_of_ble_eq_true rfl, Nat.le_of_ble_eq_true rfl⟩) hE hP 9 rfl rfl [9, 10, 11] rfl rfl hl.1 rfl (Nat.le_of_ble_eq_true rfl) ⟨Nat.zero_le _, Nat.zero_le _⟩ dX6_entry_54 ?_
          exact hend _ _ _ dX6_entry_57 rfl (fX6_entry_p1 p0 p1 τ c_1 c_10 c_23 c_41)
        · refine lv_aload_n hx hb dX6_entry_44 rfl (lv_at hl 0 rfl) ?_
          refine lv_iload_n hx hb dX6_entry_45 rfl (lv_at hl 2 rfl) ?_
          refine cRV ⟨hx, hb, hml, hown, hts⟩ (kX2_keyAt l D cI cS (a0 8) (a0 9) (a0 10) p0 τ.2.2.2.1.2.1 hw.1) (cwV 1 hts gX6_entry_X2_keyAt rfl rfl rfl (by decide +kernel) ⟨Nat.le_of_ble_eq_true rfl, Nat.le_of_ble_eq_true rfl⟩) hE hP 9 rfl rfl [9, 10, 11] rfl rfl hl.1 rfl (Nat.le_of_ble_eq_true rfl) ⟨Nat.zero_le _, Nat.zero_le _⟩ dX6_entry_46 ?_
          refine lv_goto (tgt := 57) hx hb dX6_entry_49 (by decide) ?_
          exact hend _ _ _ dX6_entry_57 rfl (fX6_entry_p2 p0 p1 τ c_1 c_10 c_23 c_41)
      · refine lv_bipush (v := (-5 : Int32)) hx hb dX6_entry_26 (by decide +kernel) ?_
        exact hend _ _ _ dX6_entry_28 rfl (fX6_entry_p3 p0 p1 τ c_1 c_10 c_23)
    · refine lv_bipush (v := (-2 : Int32)) hx hb dX6_entry_13 (by decide +kernel) ?_
      exact hend _ _ _ dX6_entry_15 rfl (fX6_entry_p4 p0 p1 τ c_1 c_10)

def fX6_changed (p0 : Int32) (p1 : Int32) (p2 : Int32) : Int32 := (if (fX6_isKey p1) = (0 : Int32) then (-1 : Int32) else (if (fX6_isKind p0) = (0 : Int32) then (-2 : Int32) else (if (fX6_isValue p2) = (0 : Int32) then (-2 : Int32) else (fX6_changedValue p0 p1 p2))))
theorem fX6_changed_p0 (p0 : Int32) (p1 : Int32) (p2 : Int32) (c_4 : ¬ (fX6_isKey p1) = (0 : Int32)) (c_13 : (fX6_isKind p0) = (0 : Int32)) : (fX6_changed p0 p1 p2) = (-2 : Int32) := by
  simp only [fX6_changed, if_neg c_4, if_pos c_13]
theorem fX6_changed_p1 (p0 : Int32) (p1 : Int32) (p2 : Int32) (c_4 : ¬ (fX6_isKey p1) = (0 : Int32)) (c_13 : ¬ (fX6_isKind p0) = (0 : Int32)) (c_20 : ¬ (fX6_isValue p2) = (0 : Int32)) : (fX6_changed p0 p1 p2) = (fX6_changedValue p0 p1 p2) := by
  simp only [fX6_changed, if_neg c_4, if_neg c_13, if_neg c_20]
theorem fX6_changed_p2 (p0 : Int32) (p1 : Int32) (p2 : Int32) (c_4 : ¬ (fX6_isKey p1) = (0 : Int32)) (c_13 : ¬ (fX6_isKind p0) = (0 : Int32)) (c_20 : (fX6_isValue p2) = (0 : Int32)) : (fX6_changed p0 p1 p2) = (-2 : Int32) := by
  simp only [fX6_changed, if_neg c_4, if_neg c_13, if_pos c_20]
theorem fX6_changed_p3 (p0 : Int32) (p1 : Int32) (p2 : Int32) (c_4 : (fX6_isKey p1) = (0 : Int32)) : (fX6_changed p0 p1 p2) = (-1 : Int32) := by
  simp only [fX6_changed, if_pos c_4]
set_option maxHeartbeats 4000000 in
set_option maxRecDepth 100000 in
theorem kX6_changed (l : Launch) (D : va_G) (cI cS : ClassId) (h0 : Nat) (p0 : Int32) (p1 : Int32) (p2 : Int32) : KR l yX6_changed wsX6_changed { frames := 2, cells := 0, slots := 0, locals := 42 } D (tysA cI cS) [.ref h0, .int p0, .int p1, .int p2] [] (fX6_changed p0 p1 p2) := by
  refine KR.of (cc := cX6_changed) (maxL := 4) (ty := .int) (by decide) rfl (Nat.le_of_ble_eq_true rfl) rfl (fun p e s m args below meth c ls Q hx hb hml hown hts hE hP hl hend => ?_)
  have hown : s.vm.findClass RX6 = some m.cls := hown
  have hl : lv_has ls 4 [(0, .ref h0), (1, .int p0), (2, .int p1), (3, .int p2)] := hl
  refine lv_iload_n hx hb dX6_changed_0 rfl (lv_at hl 2 rfl) ?_
  refine cRS ⟨hx, hb, hml, hown, hts⟩ (kX6_isKey l D cI cS p1) (va_cwS 1 hts gX6_changed_X6_isKey rfl rfl rfl (by decide +kernel) ⟨Nat.le_of_ble_eq_true rfl, Nat.le_of_ble_eq_true rfl⟩) hE hP [] rfl rfl hl.1 rfl (Nat.le_of_ble_eq_true rfl) ⟨Nat.zero_le _, Nat.zero_le _⟩ dX6_changed_1 ?_
  refine lv_if_ne (tgt := 9) hx hb dX6_changed_4 (by decide) (fun c_4 => ?_) (fun c_4 => ?_)
  · refine lv_iload_n hx hb dX6_changed_9 rfl (lv_at hl 1 rfl) ?_
    refine cRS ⟨hx, hb, hml, hown, hts⟩ (kX6_isKind l D cI cS p0) (va_cwS 1 hts gX6_changed_X6_isKind rfl rfl rfl (by decide +kernel) ⟨Nat.le_of_ble_eq_true rfl, Nat.le_of_ble_eq_true rfl⟩) hE hP [] rfl rfl hl.1 rfl (Nat.le_of_ble_eq_true rfl) ⟨Nat.zero_le _, Nat.zero_le _⟩ dX6_changed_10 ?_
    refine lv_if_eq (tgt := 23) hx hb dX6_changed_13 (by decide) (fun c_13 => ?_) (fun c_13 => ?_)
    · refine lv_bipush (v := (-2 : Int32)) hx hb dX6_changed_23 (by decide +kernel) ?_
      exact hend _ _ _ dX6_changed_25 rfl (fX6_changed_p0 p0 p1 p2 c_4 c_13)
    · refine lv_iload_n hx hb dX6_changed_16 rfl (lv_at hl 3 rfl) ?_
      refine cRS ⟨hx, hb, hml, hown, hts⟩ (kX6_isValue l D cI cS p2) (va_cwS 1 hts gX6_changed_X6_isValue rfl rfl rfl (by decide +kernel) ⟨Nat.le_of_ble_eq_true rfl, Nat.le_of_ble_eq_true rfl⟩) hE hP [] rfl rfl hl.1 rfl (Nat.le_of_ble_eq_true rfl) ⟨Nat.zero_le _, Nat.zero_le _⟩ dX6_changed_17 ?_
      refine lv_if_ne (tgt := 26) hx hb dX6_changed_20 (by decide) (fun c_20 => ?_) (fun c_20 => ?_)
      · refine lv_iload_n hx hb dX6_changed_26 rfl (lv_at hl 1 rfl) ?_
        refine lv_iload_n hx hb dX6_changed_27 rfl (lv_at hl 2 rfl) ?_
        refine lv_iload_n hx hb dX6_changed_28 rfl (lv_at hl 3 rfl) ?_
        refine cRS ⟨hx, hb, hml, hown, hts⟩ (kX6_changedValue l D cI cS p0 p1 p2) (va_cwS 3 hts gX6_changed_X6_changedValue rfl rfl rfl (by decide +kernel) ⟨Nat.le_of_ble_eq_true rfl, Nat.le_of_ble_eq_true rfl⟩) hE hP [] rfl rfl hl.1 rfl (Nat.le_of_ble_eq_true rfl) ⟨Nat.zero_le _, Nat.zero_le _⟩ dX6_changed_29 ?_
        exact hend _ _ _ dX6_changed_32 rfl (fX6_changed_p1 p0 p1 p2 c_4 c_13 c_20)
      · refine lv_bipush (v := (-2 : Int32)) hx hb dX6_changed_23 (by decide +kernel) ?_
        exact hend _ _ _ dX6_changed_25 rfl (fX6_changed_p2 p0 p1 p2 c_4 c_13 c_20)
  · refine lv_iconst (v := (-1 : Int32)) hx hb dX6_changed_7 (by decide +kernel) ?_
    exact hend _ _ _ dX6_changed_8 rfl (fX6_changed_p3 p0 p1 p2 c_4)

def fX6_differences_17 (τ : StT) : Nat → Int32 → Nat → Int32
  | 0, cnt, k => 0
  | n + 1, cnt, k => (if (32 : Int32) ≤ (nI k) then cnt else (if (fX5_differsAt (nI k) τ) = (0 : Int32) then fX6_differences_17 τ n cnt (k + 1) else fX6_differences_17 τ n (cnt + (1 : Int32)) (k + 1)))
def fX6_differences (τ : StT) : Int32 := (if (fX5_hasCopy τ) = (0 : Int32) then (-5 : Int32) else fX6_differences_17 τ 33 (0 : Int32) 0)
theorem fX6_differences_17_p0 (τ : StT) (n : Nat) (cnt : Int32) (k : Nat) (c_20 : (32 : Int32) ≤ (nI k)) : fX6_differences_17 τ (n + 1) cnt k = cnt := by
  simp only [fX6_differences_17, if_pos c_20]
theorem fX6_differences_17_p1 (τ : StT) (n : Nat) (cnt : Int32) (k : Nat) (c_20 : ¬ (32 : Int32) ≤ (nI k)) (c_31 : (fX5_differsAt (nI k) τ) = (0 : Int32)) : fX6_differences_17 τ (n + 1) cnt k = fX6_differences_17 τ n cnt (k + 1) := by
  simp only [fX6_differences_17, if_neg c_20, if_pos c_31]
theorem fX6_differences_17_p2 (τ : StT) (n : Nat) (cnt : Int32) (k : Nat) (c_20 : ¬ (32 : Int32) ≤ (nI k)) (c_31 : ¬ (fX5_differsAt (nI k) τ) = (0 : Int32)) : fX6_differences_17 τ (n + 1) cnt k = fX6_differences_17 τ n (cnt + (1 : Int32)) (k + 1) := by
  simp only [fX6_differences_17, if_neg c_20, if_neg c_31]
theorem fX6_differences_p3 (τ : StT) (c_7 : ¬ (fX5_hasCopy τ) = (0 : Int32)) : (fX6_differences τ) = fX6_differences_17 τ 33 (0 : Int32) 0 := by
  simp only [fX6_differences, if_neg c_7]
theorem fX6_differences_p4 (τ : StT) (c_7 : (fX5_hasCopy τ) = (0 : Int32)) : (fX6_differences τ) = (-5 : Int32) := by
  simp only [fX6_differences, if_pos c_7]
set_option maxHeartbeats 4000000 in
set_option maxRecDepth 100000 in
theorem kX6_differences (l : Launch) (D : va_G) (cI cS : ClassId) (h0 : Nat) (a0 : Nat → Nat) (w1 : Nat) (w2 : Nat) (w3 : Nat) (w4 : Nat) (w5 : Int32) (τ : StT) : KR l yX6_differences wsX6_differences { frames := 2, cells := 0, slots := 0, locals := 43 } D (tysA cI cS) [.ref h0] (fl ([(h0, .inr (6, [.ref (a0 0), .ref w1, .ref w2, .ref w3, .ref w4, .int w5]))] :: wSt cI a0 τ :: [])) (fX6_differences τ) := by
  refine KR.of (cc := cX6_differences) (maxL := 3) (ty := .int) (by decide) rfl (Nat.le_of_ble_eq_true rfl) rfl (fun p e s m args below meth c ls Q hx hb hml hown hts hE hP hl hend => ?_)
  have hown : s.vm.findClass RX6 = some m.cls := hown
  have hl : lv_has ls 3 [(0, .ref h0)] := hl
  have loop_17 : ∀ (n : Nat) (cnt : Int32) (k : Nat), k ≤ 32 → 32 - k < n → (fX6_differences τ) = fX6_differences_17 τ n cnt k → ∀ (ls : Array Slot), lv_has ls 3 [(0, .ref h0), (1, .int cnt), (2, .int (nI k))] → W p l e { frames := 2, cells := 0, slots := 0, locals := 43 } s m args below meth c s.heap [] 0 0 Q (F0 m 17 ls []) := by
    intro n
    induction n with
    | zero =>
      intro cnt k hk hn
      exact absurd hn (by omega)
    | succ n ih =>
      intro cnt k hk hn hF ls hl
      refine lv_iload_n hx hb dX6_differences_17 rfl (lv_at hl 2 rfl) ?_
      refine lv_bipush (v := (32 : Int32)) hx hb dX6_differences_18 (by decide +kernel) ?_
      refine lv_icmp_ge (tgt := 43) hx hb dX6_differences_20 (by decide) (fun c_20 => ?_) (fun c_20 => ?_)
      · have d_20 : 32 ≤ k := (nI_leI (a := 32) (b := k) (by omega) (by omega)).mp c_20
        refine lv_iload_n hx hb dX6_differences_43 rfl (lv_at hl 1 rfl) ?_
        exact hend _ _ _ dX6_differences_44 rfl (hF.trans (fX6_differences_17_p0 τ n cnt k c_20))
      · have d_20 : k < 32 := Nat.lt_of_not_le (fun q => c_20 ((nI_leI (a := 32) (b := k) (by omega) (by omega)).mpr q))
        refine lv_aload_n hx hb dX6_differences_23 rfl (lv_at hl 0 rfl) ?_
        refine va_get (D := D) (ci := 6) (v := .ref (a0 0)) (C := RX6) (T := TX6) (N := 6) hx hb hts (fun _ h9 => List.mem_cons_of_mem _ (List.mem_append_left _ (List.mem_append_left _ (List.mem_append_left _ (List.mem_append_right _ h9))))) hown hE.1 hP 0 rfl rfl 0 (by decide) (hts (.fieldLink RX6 10 "ShadowTable" "state" "LShadowTable$State;") (List.mem_of_getElem? (i := 1) rfl)) (fun _ h9 => h9) rfl dX6_differences_24 ?_
        refine lv_iload_n hx hb dX6_differences_27 rfl (lv_at hl 2 rfl) ?_
        refine cRV ⟨hx, hb, hml, hown, hts⟩ (kX5_differsAt l D cI cS (a0 0) (a0 1) (a0 2) (a0 3) (a0 4) (a0 5) (a0 6) (a0 7) (a0 8) (a0 9) (a0 10) (a0 11) (a0 12) (nI k) τ) (cwV 1 hts gX6_differences_X5_differsAt rfl rfl rfl (by decide +kernel) ⟨Nat.le_of_ble_eq_true rfl, Nat.le_of_ble_eq_true rfl⟩) hE hP 1 rfl rfl [1, 2, 3, 4, 5, 6, 7, 8, 9, 10, 11, 12, 13] rfl rfl hl.1 rfl (Nat.le_of_ble_eq_true rfl) ⟨Nat.zero_le _, Nat.zero_le _⟩ dX6_differences_28 ?_
        refine lv_if_eq (tgt := 37) hx hb dX6_differences_31 (by decide) (fun c_31 => ?_) (fun c_31 => ?_)
        · refine lv_iinc (v := (nI (k + 1))) (lv' := [(2, .int (nI (k + 1))), (0, .ref h0), (1, .int cnt)]) hx hb dX6_differences_37 hl (k := 2) rfl (nI_1 _) (by decide) rfl (fun ls hl => ?_)
          refine lv_goto (tgt := 17) hx hb dX6_differences_40 (by decide) ?_
          exact ih cnt (k + 1) (by omega) (by omega) (hF.trans (fX6_differences_17_p1 τ n cnt k c_20 c_31)) _ (lv_sub hl [1, 2, 0] rfl)
        · refine lv_iinc (v := (cnt + (1 : Int32))) (lv' := [(1, .int (cnt + (1 : Int32))), (0, .ref h0), (2, .int (nI k))]) hx hb dX6_differences_34 hl (k := 1) rfl rfl (by decide) rfl (fun ls hl => ?_)
          refine lv_iinc (v := (nI (k + 1))) (lv' := [(2, .int (nI (k + 1))), (1, .int (cnt + (1 : Int32))), (0, .ref h0)]) hx hb dX6_differences_37 hl (k := 2) rfl (nI_1 _) (by decide) rfl (fun ls hl => ?_)
          refine lv_goto (tgt := 17) hx hb dX6_differences_40 (by decide) ?_
          exact ih (cnt + (1 : Int32)) (k + 1) (by omega) (by omega) (hF.trans (fX6_differences_17_p2 τ n cnt k c_20 c_31)) _ (lv_sub hl [2, 1, 0] rfl)
  refine lv_aload_n hx hb dX6_differences_0 rfl (lv_at hl 0 rfl) ?_
  refine va_get (D := D) (ci := 6) (v := .ref (a0 0)) (C := RX6) (T := TX6) (N := 6) hx hb hts (fun _ h9 => List.mem_cons_of_mem _ (List.mem_append_left _ (List.mem_append_left _ (List.mem_append_left _ (List.mem_append_right _ h9))))) hown hE.1 hP 0 rfl rfl 0 (by decide) (hts (.fieldLink RX6 10 "ShadowTable" "state" "LShadowTable$State;") (List.mem_of_getElem? (i := 1) rfl)) (fun _ h9 => h9) rfl dX6_differences_1 ?_
  refine cRV ⟨hx, hb, hml, hown, hts⟩ (kX5_hasCopy l D cI cS (a0 0) (a0 1) (a0 2) (a0 3) (a0 4) (a0 5) (a0 6) (a0 7) (a0 8) (a0 9) (a0 10) (a0 11) (a0 12) τ) (cwV 0 hts gX6_differences_X5_hasCopy rfl rfl rfl (by decide +kernel) ⟨Nat.le_of_ble_eq_true rfl, Nat.le_of_ble_eq_true rfl⟩) hE hP 1 rfl rfl [1, 2, 3, 4, 5, 6, 7, 8, 9, 10, 11, 12, 13] rfl rfl hl.1 rfl (Nat.le_of_ble_eq_true rfl) ⟨Nat.zero_le _, Nat.zero_le _⟩ dX6_differences_4 ?_
  refine lv_if_ne (tgt := 13) hx hb dX6_differences_7 (by decide) (fun c_7 => ?_) (fun c_7 => ?_)
  · refine lv_iconst (v := (0 : Int32)) hx hb dX6_differences_13 (by decide +kernel) ?_
    refine lv_istore_n (lv' := [(1, .int (0 : Int32)), (0, .ref h0)]) hx hb dX6_differences_14 rfl hl (by decide) rfl (fun ls hl => ?_)
    refine lv_iconst (v := (0 : Int32)) hx hb dX6_differences_15 (by decide +kernel) ?_
    refine lv_istore_n (lv' := [(2, .int (0 : Int32)), (1, .int (0 : Int32)), (0, .ref h0)]) hx hb dX6_differences_16 rfl hl (by decide) rfl (fun ls hl => ?_)
    exact loop_17 33 (0 : Int32) 0 (by omega) (by omega) (fX6_differences_p3 τ c_7) _ (lv_sub hl [2, 1, 0] rfl)
  · refine lv_bipush (v := (-5 : Int32)) hx hb dX6_differences_10 (by decide +kernel) ?_
    exact hend _ _ _ dX6_differences_12 rfl (fX6_differences_p4 τ c_7)

def fX6_firstDifference_15 (τ : StT) : Nat → Nat → Int32
  | 0, k => 0
  | n + 1, k => (if (32 : Int32) ≤ (nI k) then (-5 : Int32) else (if (fX5_differsAt (nI k) τ) = (0 : Int32) then fX6_firstDifference_15 τ n (k + 1) else (nI k)))
def fX6_firstDifference (τ : StT) : Int32 := (if (fX5_hasCopy τ) = (0 : Int32) then (-5 : Int32) else fX6_firstDifference_15 τ 33 0)
theorem fX6_firstDifference_15_p0 (τ : StT) (n : Nat) (k : Nat) (c_18 : (32 : Int32) ≤ (nI k)) : fX6_firstDifference_15 τ (n + 1) k = (-5 : Int32) := by
  simp only [fX6_firstDifference_15, if_pos c_18]
theorem fX6_firstDifference_15_p1 (τ : StT) (n : Nat) (k : Nat) (c_18 : ¬ (32 : Int32) ≤ (nI k)) (c_29 : (fX5_differsAt (nI k) τ) = (0 : Int32)) : fX6_firstDifference_15 τ (n + 1) k = fX6_firstDifference_15 τ n (k + 1) := by
  simp only [fX6_firstDifference_15, if_neg c_18, if_pos c_29]
theorem fX6_firstDifference_15_p2 (τ : StT) (n : Nat) (k : Nat) (c_18 : ¬ (32 : Int32) ≤ (nI k)) (c_29 : ¬ (fX5_differsAt (nI k) τ) = (0 : Int32)) : fX6_firstDifference_15 τ (n + 1) k = (nI k) := by
  simp only [fX6_firstDifference_15, if_neg c_18, if_neg c_29]
theorem fX6_firstDifference_p3 (τ : StT) (c_7 : ¬ (fX5_hasCopy τ) = (0 : Int32)) : (fX6_firstDifference τ) = fX6_firstDifference_15 τ 33 0 := by
  simp only [fX6_firstDifference, if_neg c_7]
theorem fX6_firstDifference_p4 (τ : StT) (c_7 : (fX5_hasCopy τ) = (0 : Int32)) : (fX6_firstDifference τ) = (-5 : Int32) := by
  simp only [fX6_firstDifference, if_pos c_7]
set_option maxHeartbeats 4000000 in
set_option maxRecDepth 100000 in
theorem kX6_firstDifference (l : Launch) (D : va_G) (cI cS : ClassId) (h0 : Nat) (a0 : Nat → Nat) (w1 : Nat) (w2 : Nat) (w3 : Nat) (w4 : Nat) (w5 : Int32) (τ : StT) : KR l yX6_firstDifference wsX6_firstDifference { frames := 2, cells := 0, slots := 0, locals := 43 } D (tysA cI cS) [.ref h0] (fl ([(h0, .inr (6, [.ref (a0 0), .ref w1, .ref w2, .ref w3, .ref w4, .int w5]))] :: wSt cI a0 τ :: [])) (fX6_firstDifference τ) := by
  refine KR.of (cc := cX6_firstDifference) (maxL := 2) (ty := .int) (by decide) rfl (Nat.le_of_ble_eq_true rfl) rfl (fun p e s m args below meth c ls Q hx hb hml hown hts hE hP hl hend => ?_)
  have hown : s.vm.findClass RX6 = some m.cls := hown
  have hl : lv_has ls 2 [(0, .ref h0)] := hl
  have loop_15 : ∀ (n : Nat) (k : Nat), k ≤ 32 → 32 - k < n → (fX6_firstDifference τ) = fX6_firstDifference_15 τ n k → ∀ (ls : Array Slot), lv_has ls 2 [(0, .ref h0), (1, .int (nI k))] → W p l e { frames := 2, cells := 0, slots := 0, locals := 43 } s m args below meth c s.heap [] 0 0 Q (F0 m 15 ls []) := by
    intro n
    induction n with
    | zero =>
      intro k hk hn
      exact absurd hn (by omega)
    | succ n ih =>
      intro k hk hn hF ls hl
      refine lv_iload_n hx hb dX6_firstDifference_15 rfl (lv_at hl 1 rfl) ?_
      refine lv_bipush (v := (32 : Int32)) hx hb dX6_firstDifference_16 (by decide +kernel) ?_
      refine lv_icmp_ge (tgt := 40) hx hb dX6_firstDifference_18 (by decide) (fun c_18 => ?_) (fun c_18 => ?_)
      · have d_18 : 32 ≤ k := (nI_leI (a := 32) (b := k) (by omega) (by omega)).mp c_18
        refine lv_bipush (v := (-5 : Int32)) hx hb dX6_firstDifference_40 (by decide +kernel) ?_
        exact hend _ _ _ dX6_firstDifference_42 rfl (hF.trans (fX6_firstDifference_15_p0 τ n k c_18))
      · have d_18 : k < 32 := Nat.lt_of_not_le (fun q => c_18 ((nI_leI (a := 32) (b := k) (by omega) (by omega)).mpr q))
        refine lv_aload_n hx hb dX6_firstDifference_21 rfl (lv_at hl 0 rfl) ?_
        refine va_get (D := D) (ci := 6) (v := .ref (a0 0)) (C := RX6) (T := TX6) (N := 6) hx hb hts (fun _ h9 => List.mem_cons_of_mem _ (List.mem_append_left _ (List.mem_append_left _ (List.mem_append_left _ (List.mem_append_right _ h9))))) hown hE.1 hP 0 rfl rfl 0 (by decide) (hts (.fieldLink RX6 10 "ShadowTable" "state" "LShadowTable$State;") (List.mem_of_getElem? (i := 1) rfl)) (fun _ h9 => h9) rfl dX6_firstDifference_22 ?_
        refine lv_iload_n hx hb dX6_firstDifference_25 rfl (lv_at hl 1 rfl) ?_
        refine cRV ⟨hx, hb, hml, hown, hts⟩ (kX5_differsAt l D cI cS (a0 0) (a0 1) (a0 2) (a0 3) (a0 4) (a0 5) (a0 6) (a0 7) (a0 8) (a0 9) (a0 10) (a0 11) (a0 12) (nI k) τ) (cwV 1 hts gX6_firstDifference_X5_differsAt rfl rfl rfl (by decide +kernel) ⟨Nat.le_of_ble_eq_true rfl, Nat.le_of_ble_eq_true rfl⟩) hE hP 1 rfl rfl [1, 2, 3, 4, 5, 6, 7, 8, 9, 10, 11, 12, 13] rfl rfl hl.1 rfl (Nat.le_of_ble_eq_true rfl) ⟨Nat.zero_le _, Nat.zero_le _⟩ dX6_firstDifference_26 ?_
        refine lv_if_eq (tgt := 34) hx hb dX6_firstDifference_29 (by decide) (fun c_29 => ?_) (fun c_29 => ?_)
        · refine lv_iinc (v := (nI (k + 1))) (lv' := [(1, .int (nI (k + 1))), (0, .ref h0)]) hx hb dX6_firstDifference_34 hl (k := 1) rfl (nI_1 _) (by decide) rfl (fun ls hl => ?_)
          refine lv_goto (tgt := 15) hx hb dX6_firstDifference_37 (by decide) ?_
          exact ih (k + 1) (by omega) (by omega) (hF.trans (fX6_firstDifference_15_p1 τ n k c_18 c_29)) _ (lv_sub hl [1, 0] rfl)
        · refine lv_iload_n hx hb dX6_firstDifference_32 rfl (lv_at hl 1 rfl) ?_
          exact hend _ _ _ dX6_firstDifference_33 rfl (hF.trans (fX6_firstDifference_15_p2 τ n k c_18 c_29))
  refine lv_aload_n hx hb dX6_firstDifference_0 rfl (lv_at hl 0 rfl) ?_
  refine va_get (D := D) (ci := 6) (v := .ref (a0 0)) (C := RX6) (T := TX6) (N := 6) hx hb hts (fun _ h9 => List.mem_cons_of_mem _ (List.mem_append_left _ (List.mem_append_left _ (List.mem_append_left _ (List.mem_append_right _ h9))))) hown hE.1 hP 0 rfl rfl 0 (by decide) (hts (.fieldLink RX6 10 "ShadowTable" "state" "LShadowTable$State;") (List.mem_of_getElem? (i := 1) rfl)) (fun _ h9 => h9) rfl dX6_firstDifference_1 ?_
  refine cRV ⟨hx, hb, hml, hown, hts⟩ (kX5_hasCopy l D cI cS (a0 0) (a0 1) (a0 2) (a0 3) (a0 4) (a0 5) (a0 6) (a0 7) (a0 8) (a0 9) (a0 10) (a0 11) (a0 12) τ) (cwV 0 hts gX6_firstDifference_X5_hasCopy rfl rfl rfl (by decide +kernel) ⟨Nat.le_of_ble_eq_true rfl, Nat.le_of_ble_eq_true rfl⟩) hE hP 1 rfl rfl [1, 2, 3, 4, 5, 6, 7, 8, 9, 10, 11, 12, 13] rfl rfl hl.1 rfl (Nat.le_of_ble_eq_true rfl) ⟨Nat.zero_le _, Nat.zero_le _⟩ dX6_firstDifference_4 ?_
  refine lv_if_ne (tgt := 13) hx hb dX6_firstDifference_7 (by decide) (fun c_7 => ?_) (fun c_7 => ?_)
  · refine lv_iconst (v := (0 : Int32)) hx hb dX6_firstDifference_13 (by decide +kernel) ?_
    refine lv_istore_n (lv' := [(1, .int (0 : Int32)), (0, .ref h0)]) hx hb dX6_firstDifference_14 rfl hl (by decide) rfl (fun ls hl => ?_)
    exact loop_15 33 0 (by omega) (by omega) (fX6_firstDifference_p3 τ c_7) _ (lv_sub hl [1, 0] rfl)
  · refine lv_bipush (v := (-5 : Int32)) hx hb dX6_firstDifference_10 (by decide +kernel) ?_
    exact hend _ _ _ dX6_firstDifference_12 rfl (fX6_firstDifference_p4 τ c_7)

def fX6_setting (p0 : Int32) (τ : StT) : Int32 := (if (fX6_isSetting p0) = (0 : Int32) then (-1 : Int32) else (τ.2.2.2.2.1 p0.toNatClampNeg))
theorem fX6_setting_p0 (p0 : Int32) (τ : StT) (c_4 : (fX6_isSetting p0) = (0 : Int32)) : (fX6_setting p0 τ) = (-1 : Int32) := by
  simp only [fX6_setting, if_pos c_4]
theorem fX6_setting_p1 (p0 : Int32) (τ : StT) (c_4 : ¬ (fX6_isSetting p0) = (0 : Int32)) : (fX6_setting p0 τ) = (τ.2.2.2.2.1 p0.toNatClampNeg) := by
  simp only [fX6_setting, if_neg c_4]
set_option maxHeartbeats 4000000 in
set_option maxRecDepth 100000 in
theorem kX6_setting (l : Launch) (D : va_G) (cI cS : ClassId) (h0 : Nat) (a0 : Nat → Nat) (w1 : Nat) (w2 : Nat) (w3 : Nat) (w4 : Nat) (w5 : Int32) (p0 : Int32) (τ : StT) : KR l yX6_setting wsX6_setting { frames := 2, cells := 0, slots := 0, locals := 42 } D (tysA cI cS) [.ref h0, .int p0] (fl ([(h0, .inr (6, [.ref (a0 0), .ref w1, .ref w2, .ref w3, .ref w4, .int w5]))] :: wSt cI a0 τ :: [])) (fX6_setting p0 τ) := by
  refine KR.of (cc := cX6_setting) (maxL := 2) (ty := .int) (by decide) rfl (Nat.le_of_ble_eq_true rfl) rfl (fun p e s m args below meth c ls Q hx hb hml hown hts hE hP hl hend => ?_)
  have hown : s.vm.findClass RX6 = some m.cls := hown
  have hl : lv_has ls 2 [(0, .ref h0), (1, .int p0)] := hl
  refine lv_iload_n hx hb dX6_setting_0 rfl (lv_at hl 1 rfl) ?_
  refine cRS ⟨hx, hb, hml, hown, hts⟩ (kX6_isSetting l D cI cS p0) (va_cwS 1 hts gX6_setting_X6_isSetting rfl rfl rfl (by decide +kernel) ⟨Nat.le_of_ble_eq_true rfl, Nat.le_of_ble_eq_true rfl⟩) hE hP [] rfl rfl hl.1 rfl (Nat.le_of_ble_eq_true rfl) ⟨Nat.zero_le _, Nat.zero_le _⟩ dX6_setting_1 ?_
  refine lv_if_eq (tgt := 19) hx hb dX6_setting_4 (by decide) (fun c_4 => ?_) (fun c_4 => ?_)
  · refine lv_iconst (v := (-1 : Int32)) hx hb dX6_setting_19 (by decide +kernel) ?_
    exact hend _ _ _ dX6_setting_20 rfl (fX6_setting_p0 p0 τ c_4)
  · refine lv_aload_n hx hb dX6_setting_7 rfl (lv_at hl 0 rfl) ?_
    refine va_get (D := D) (ci := 6) (v := .ref (a0 0)) (C := RX6) (T := TX6) (N := 6) hx hb hts (fun _ h9 => List.mem_cons_of_mem _ (List.mem_append_left _ (List.mem_append_right _ h9))) hown hE.1 hP 0 rfl rfl 0 (by decide) (hts (.fieldLink RX6 10 "ShadowTable" "state" "LShadowTable$State;") (List.mem_of_getElem? (i := 1) rfl)) (fun _ h9 => h9) rfl dX6_setting_8 ?_
    refine va_getN (D := D) (ci := 5) (v := .ref (a0 11)) (C := RX5) (T := TX5) (N := 6) hx hb hts (fun _ h9 => List.mem_cons_of_mem _ (List.mem_append_right _ h9)) hown hE.1 hP 1 rfl rfl 4 (by decide) (hE.2.f 14 rfl) (fun _ h9 => h9) rfl dX6_setting_11 ?_
    refine lv_iload_n hx hb dX6_setting_14 rfl (lv_at hl 1 rfl) ?_
    refine xld (v := (τ.2.2.2.2.1 p0.toNatClampNeg)) (j := p0.toNatClampNeg) hx hb hE hP 12 rfl rfl rfl (zz_set6 c_4) rfl dX6_setting_15 ?_
    refine lv_goto (tgt := 20) hx hb dX6_setting_16 (by decide) ?_
    exact hend _ _ _ dX6_setting_20 rfl (fX6_setting_p1 p0 τ c_4)

def fX6_total (p0 : Int32) (τ : StT) : Int32 := (if (fX6_isIn p0 (0 : Int32) (7 : Int32)) = (0 : Int32) then (-1 : Int32) else (τ.2.2.2.2.2 p0.toNatClampNeg))
theorem fX6_total_p0 (p0 : Int32) (τ : StT) (c_7 : (fX6_isIn p0 (0 : Int32) (7 : Int32)) = (0 : Int32)) : (fX6_total p0 τ) = (-1 : Int32) := by
  simp only [fX6_total, if_pos c_7]
theorem fX6_total_p1 (p0 : Int32) (τ : StT) (c_7 : ¬ (fX6_isIn p0 (0 : Int32) (7 : Int32)) = (0 : Int32)) : (fX6_total p0 τ) = (τ.2.2.2.2.2 p0.toNatClampNeg) := by
  simp only [fX6_total, if_neg c_7]
set_option maxHeartbeats 4000000 in
set_option maxRecDepth 100000 in
theorem kX6_total (l : Launch) (D : va_G) (cI cS : ClassId) (h0 : Nat) (a0 : Nat → Nat) (w1 : Nat) (w2 : Nat) (w3 : Nat) (w4 : Nat) (w5 : Int32) (p0 : Int32) (τ : StT) : KR l yX6_total wsX6_total { frames := 1, cells := 0, slots := 0, locals := 22 } D (tysA cI cS) [.ref h0, .int p0] (fl ([(h0, .inr (6, [.ref (a0 0), .ref w1, .ref w2, .ref w3, .ref w4, .int w5]))] :: wSt cI a0 τ :: [])) (fX6_total p0 τ) := by
  refine KR.of (cc := cX6_total) (maxL := 2) (ty := .int) (by decide) rfl (Nat.le_of_ble_eq_true rfl) rfl (fun p e s m args below meth c ls Q hx hb hml hown hts hE hP hl hend => ?_)
  have hown : s.vm.findClass RX6 = some m.cls := hown
  have hl : lv_has ls 2 [(0, .ref h0), (1, .int p0)] := hl
  refine lv_iload_n hx hb dX6_total_0 rfl (lv_at hl 1 rfl) ?_
  refine lv_iconst (v := (0 : Int32)) hx hb dX6_total_1 (by decide +kernel) ?_
  refine lv_bipush (v := (7 : Int32)) hx hb dX6_total_2 (by decide +kernel) ?_
  refine cRS ⟨hx, hb, hml, hown, hts⟩ (kX6_isIn l D cI cS p0 (0 : Int32) (7 : Int32)) (va_cwS 3 hts gX6_total_X6_isIn rfl rfl rfl (by decide +kernel) ⟨Nat.le_of_ble_eq_true rfl, Nat.le_of_ble_eq_true rfl⟩) hE hP [] rfl rfl hl.1 rfl (Nat.le_of_ble_eq_true rfl) ⟨Nat.zero_le _, Nat.zero_le _⟩ dX6_total_4 ?_
  refine lv_if_eq (tgt := 22) hx hb dX6_total_7 (by decide) (fun c_7 => ?_) (fun c_7 => ?_)
  · refine lv_iconst (v := (-1 : Int32)) hx hb dX6_total_22 (by decide +kernel) ?_
    exact hend _ _ _ dX6_total_23 rfl (fX6_total_p0 p0 τ c_7)
  · refine lv_aload_n hx hb dX6_total_10 rfl (lv_at hl 0 rfl) ?_
    refine va_get (D := D) (ci := 6) (v := .ref (a0 0)) (C := RX6) (T := TX6) (N := 6) hx hb hts (fun _ h9 => List.mem_cons_of_mem _ (List.mem_append_left _ (List.mem_append_right _ h9))) hown hE.1 hP 0 rfl rfl 0 (by decide) (hts (.fieldLink RX6 10 "ShadowTable" "state" "LShadowTable$State;") (List.mem_of_getElem? (i := 1) rfl)) (fun _ h9 => h9) rfl dX6_total_11 ?_
    refine va_getN (D := D) (ci := 5) (v := .ref (a0 12)) (C := RX5) (T := TX5) (N := 6) hx hb hts (fun _ h9 => List.mem_cons_of_mem _ (List.mem_append_right _ h9)) hown hE.1 hP 1 rfl rfl 5 (by decide) (hE.2.f 15 rfl) (fun _ h9 => h9) rfl dX6_total_14 ?_
    refine lv_iload_n hx hb dX6_total_17 rfl (lv_at hl 1 rfl) ?_
    refine xld (v := (τ.2.2.2.2.2 p0.toNatClampNeg)) (j := p0.toNatClampNeg) hx hb hE hP 13 rfl rfl rfl (zz_tot6 c_7) rfl dX6_total_18 ?_
    refine lv_goto (tgt := 23) hx hb dX6_total_19 (by decide) ?_
    exact hend _ _ _ dX6_total_23 rfl (fX6_total_p1 p0 τ c_7)

def fX6_states (τ : HsT) : Int32 := τ.2
theorem fX6_states_p0 (τ : HsT) : (fX6_states τ) = τ.2 := by
  simp only [fX6_states]
set_option maxHeartbeats 4000000 in
set_option maxRecDepth 100000 in
theorem kX6_states (l : Launch) (D : va_G) (cI cS : ClassId) (h0 : Nat) (a3 : Nat → Nat) (w0 : Nat) (w1 : Nat) (w2 : Nat) (w4 : Nat) (w5 : Int32) (τ : HsT) : KR l yX6_states wsX6_states { frames := 0, cells := 0, slots := 0, locals := 0 } D (tysA cI cS) [.ref h0] (fl ([(h0, .inr (6, [.ref w0, .ref w1, .ref w2, .ref (a3 0), .ref w4, .int w5]))] :: wHh a3 τ :: [])) (fX6_states τ) := by
  refine KR.of (cc := cX6_states) (maxL := 1) (ty := .int) (by decide) rfl (Nat.le_of_ble_eq_true rfl) rfl (fun p e s m args below meth c ls Q hx hb hml hown hts hE hP hl hend => ?_)
  have hown : s.vm.findClass RX6 = some m.cls := hown
  have hl : lv_has ls 1 [(0, .ref h0)] := hl
  refine lv_aload_n hx hb dX6_states_0 rfl (lv_at hl 0 rfl) ?_
  refine va_get (D := D) (ci := 6) (v := .ref (a3 0)) (C := RX6) (T := TX6) (N := 6) hx hb hts (fun _ h9 => List.mem_cons_of_mem _ (List.mem_append_left _ (List.mem_append_right _ h9))) hown hE.1 hP 0 rfl rfl 3 (by decide) (hts (.fieldLink RX6 25 "ShadowTable" "history" "LShadowTable$History;") (List.mem_of_getElem? (i := 1) rfl)) (fun _ h9 => h9) rfl dX6_states_1 ?_
  refine va_getN (D := D) (ci := 1) (v := .int τ.2) (C := RX1) (T := TX1) (N := 3) hx hb hts (fun _ h9 => List.mem_cons_of_mem _ (List.mem_append_right _ h9)) hown hE.1 hP 1 rfl rfl 2 (by decide) (hE.2.f 16 rfl) (fun _ h9 => h9) rfl dX6_states_4 ?_
  exact hend _ _ _ dX6_states_7 rfl (fX6_states_p0 τ)

def fX6_readyIn (τ : TTT) : Int32 × TTT := (if (fX5_canBecomeReady τ.1) = (0 : Int32) then ((-4 : Int32), τ) else (let u_21 := (fX5_take τ.2 τ.1); (match (fX5_ticksUntilReady (200 : Int32) u_21) with | (r_31, u_31) => (r_31, (τ.1, u_31)))))
theorem fX6_readyIn_p0 (τ : TTT) (c_7 : ¬ (fX5_canBecomeReady τ.1) = (0 : Int32)) (u_21 : StT) (e_21 : (fX5_take τ.2 τ.1) = u_21) (r_31 : Int32) (u_31 : StT) (e_31 : (fX5_ticksUntilReady (200 : Int32) u_21) = (r_31, u_31)) : (fX6_readyIn τ) = (r_31, (τ.1, u_31)) := by
  simp only [fX6_readyIn, if_neg c_7, e_21, e_31]
theorem fX6_readyIn_p1 (τ : TTT) (c_7 : (fX5_canBecomeReady τ.1) = (0 : Int32)) : (fX6_readyIn τ) = ((-4 : Int32), τ) := by
  simp only [fX6_readyIn, if_pos c_7]
set_option maxHeartbeats 4000000 in
set_option maxRecDepth 100000 in
theorem kX6_readyIn (l : Launch) (D : va_G) (cI cS : ClassId) (h0 : Nat) (a0 : Nat → Nat) (a2 : Nat → Nat) (w1 : Nat) (w3 : Nat) (w4 : Nat) (w5 : Int32) (τ : TTT) (hw : WS τ.1) : KI l yX6_readyIn wsX6_readyIn { frames := 5, cells := 0, slots := 0, locals := 109 } D (tysA cI cS) [.ref h0] (fl ([(h0, .inr (6, [.ref (a0 0), .ref w1, .ref (a2 0), .ref w3, .ref w4, .int w5]))] :: wSt cI a0 τ.1 :: wSt cI a2 τ.2 :: [])) (fX6_readyIn τ) (fun u => (fl ([(h0, .inr (6, [.ref (a0 0), .ref w1, .ref (a2 0), .ref w3, .ref w4, .int w5]))] :: wSt cI a0 u.1 :: wSt cI a2 u.2 :: []))) := by
  refine KI.of (cc := cX6_readyIn) (maxL := 1) (ty := .int) (by decide) rfl (Nat.le_of_ble_eq_true rfl) rfl (fun p e s m args below meth c ls Q A hx hb hml hown hts hE hP hD hS hl hend => ?_)
  have hown : s.vm.findClass RX6 = some m.cls := hown
  have hl : lv_has ls 1 [(0, .ref h0)] := hl
  refine lv_aload_n hx hb dX6_readyIn_0 rfl (lv_at hl 0 rfl) ?_
  refine va_get (D := D) (ci := 6) (v := .ref (a0 0)) (C := RX6) (T := TX6) (N := 6) hx hb hts (fun _ h9 => List.mem_cons_of_mem _ (List.mem_append_left _ (List.mem_append_left _ (List.mem_append_left _ (List.mem_append_left _ (List.mem_append_right _ h9)))))) hown hE.1 hP 0 rfl rfl 0 (by decide) (hts (.fieldLink RX6 10 "ShadowTable" "state" "LShadowTable$State;") (List.mem_of_getElem? (i := 1) rfl)) (fun _ h9 => h9) rfl dX6_readyIn_1 ?_
  refine cRV ⟨hx, hb, hml, hown, hts⟩ (kX5_canBecomeReady l D cI cS (a0 0) (a0 1) (a0 2) (a0 3) (a0 4) (a0 5) (a0 6) (a0 7) (a0 8) (a0 9) (a0 10) (a0 11) (a0 12) τ.1) (cwV 0 hts gX6_readyIn_X5_canBecomeReady rfl rfl rfl (by decide +kernel) ⟨Nat.le_of_ble_eq_true rfl, Nat.le_of_ble_eq_true rfl⟩) hE hP 1 rfl rfl [1, 2, 3, 4, 5, 6, 7, 8, 9, 10, 11, 12, 13] rfl rfl hl.1 rfl (Nat.le_of_ble_eq_true rfl) ⟨Nat.zero_le _, Nat.zero_le _⟩ dX6_readyIn_4 ?_
  refine lv_if_ne (tgt := 13) hx hb dX6_readyIn_7 (by decide) (fun c_7 => ?_) (fun c_7 => ?_)
  · refine lv_aload_n hx hb dX6_readyIn_13 rfl (lv_at hl 0 rfl) ?_
    refine va_get (D := D) (ci := 6) (v := .ref (a2 0)) (C := RX6) (T := TX6) (N := 6) hx hb hts (fun _ h9 => List.mem_cons_of_mem _ (List.mem_append_left _ (List.mem_append_left _ (List.mem_append_left _ (List.mem_append_left _ (List.mem_append_right _ h9)))))) hown hE.1 hP 0 rfl rfl 2 (by decide) (hts (.fieldLink RX6 19 "ShadowTable" "trial" "LShadowTable$State;") (List.mem_of_getElem? (i := 2) rfl)) (fun _ h9 => h9) rfl dX6_readyIn_14 ?_
    refine lv_aload_n hx hb dX6_readyIn_17 rfl (lv_at hl 0 rfl) ?_
    refine va_get (D := D) (ci := 6) (v := .ref (a0 0)) (C := RX6) (T := TX6) (N := 6) hx hb hts (fun _ h9 => List.mem_cons_of_mem _ (List.mem_append_left _ (List.mem_append_left _ (List.mem_append_left _ (List.mem_append_left _ (List.mem_append_right _ h9)))))) hown hE.1 hP 0 rfl rfl 0 (by decide) (hts (.fieldLink RX6 10 "ShadowTable" "state" "LShadowTable$State;") (List.mem_of_getElem? (i := 1) rfl)) (fun _ h9 => h9) rfl dX6_readyIn_18 ?_
    refine bVV (wc := [wSt cI a2 τ.2, wSt cI a0 τ.1]) (w1 := fun (u : StT) => [wSt cI a2 u, wSt cI a0 τ.1]) ⟨hx, hb, hml, hown, hts⟩ (kX5_take l D cI cS (a2 0) (a2 1) (a2 2) (a2 3) (a2 4) (a2 5) (a2 6) (a2 7) (a2 8) (a2 9) (a2 10) (a2 11) (a2 12) (a0 0) (a0 1) (a0 2) (a0 3) (a0 4) (a0 5) (a0 6) (a0 7) (a0 8) (a0 9) (a0 10) (a0 11) (a0 12) τ.2 τ.1 hw.2.2) (cwV 1 hts gX6_readyIn_X5_take rfl rfl rfl (by decide +kernel) ⟨Nat.le_of_ble_eq_true rfl, Nat.le_of_ble_eq_true rfl⟩) hE hP hD hS rfl rfl [2, 1] rfl rfl (fun _ => rfl) (fun _ => rfl) rfl hl.1 rfl (Nat.le_of_ble_eq_true rfl) ⟨Nat.zero_le _, Nat.zero_le _⟩ dX6_readyIn_21 (fun u_21 H locs e_21 hP hD hS => ?_)
    have hP : va_P D vwCl (fl ([(h0, .inr (6, [.ref (a0 0), .ref w1, .ref (a2 0), .ref w3, .ref w4, .int w5]))] :: wSt cI a0 τ.1 :: wSt cI a2 u_21 :: [])) H := hP
    have hD : va_D A (fl ([(h0, .inr (6, [.ref (a0 0), .ref w1, .ref (a2 0), .ref w3, .ref w4, .int w5]))] :: wSt cI a0 τ.1 :: wSt cI a2 u_21 :: [])) := hD
    refine lv_aload_n hx hb dX6_readyIn_24 rfl (lv_at hl 0 rfl) ?_
    refine va_get (D := D) (ci := 6) (v := .ref (a2 0)) (C := RX6) (T := TX6) (N := 6) hx hb hts (fun _ h9 => List.mem_cons_of_mem _ (List.mem_append_left _ (List.mem_append_left _ (List.mem_append_left _ (List.mem_append_left _ (List.mem_append_right _ h9)))))) hown hE.1 hP 0 rfl rfl 2 (by decide) (hts (.fieldLink RX6 19 "ShadowTable" "trial" "LShadowTable$State;") (List.mem_of_getElem? (i := 2) rfl)) (fun _ h9 => h9) rfl dX6_readyIn_25 ?_
    refine lv_sipush (v := (200 : Int32)) hx hb dX6_readyIn_28 (by decide +kernel) ?_
    refine bIV (wc := [wSt cI a2 u_21]) (w1 := fun (u : StT) => [wSt cI a2 u]) ⟨hx, hb, hml, hown, hts⟩ (kX5_ticksUntilReady l D cI cS (a2 0) (a2 1) (a2 2) (a2 3) (a2 4) (a2 5) (a2 6) (a2 7) (a2 8) (a2 9) (a2 10) (a2 11) (a2 12) (200 : Int32) u_21 (zz_WS_take e_21 hw) zz_200) (cwV 1 hts gX6_readyIn_X5_ticksUntilReady rfl rfl rfl (by decide +kernel) ⟨Nat.le_of_ble_eq_true rfl, Nat.le_of_ble_eq_true rfl⟩) hE hP hD hS rfl rfl [2] rfl rfl (fun _ => rfl) (fun _ => rfl) rfl hl.1 rfl (Nat.le_of_ble_eq_true rfl) ⟨Nat.zero_le _, Nat.zero_le _⟩ dX6_readyIn_31 (fun r_31 u_31 H locs e_31 hP hD hS => ?_)
    have hP : va_P D vwCl (fl ([(h0, .inr (6, [.ref (a0 0), .ref w1, .ref (a2 0), .ref w3, .ref w4, .int w5]))] :: wSt cI a0 τ.1 :: wSt cI a2 u_31 :: [])) H := hP
    have hD : va_D A (fl ([(h0, .inr (6, [.ref (a0 0), .ref w1, .ref (a2 0), .ref w3, .ref w4, .int w5]))] :: wSt cI a0 τ.1 :: wSt cI a2 u_31 :: [])) := hD
    exact hend _ _ _ _ _ _ dX6_readyIn_34 rfl (fX6_readyIn_p0 τ c_7 u_21 e_21 r_31 u_31 e_31) hP hS
  · refine lv_bipush (v := (-4 : Int32)) hx hb dX6_readyIn_10 (by decide +kernel) ?_
    exact hend _ _ _ _ _ _ dX6_readyIn_12 rfl (fX6_readyIn_p1 τ c_7) hP hS

def fX6_leastLot_25 (p0 : Int32) : Nat → Nat → TTT → Int32 × TTT
  | 0, k, σ => (0, σ)
  | n + 1, k, σ => (if (8 : Int32) < (nI k) then ((-5 : Int32), σ) else (let u_39 := (fX5_take σ.2 σ.1); (match (fX5_ticksUntilReady p0 (u_39.1, u_39.2.1, u_39.2.2.1, (u_39.2.2.2.1.1, u_39.2.2.2.1.2.1, u_39.2.2.2.1.2.2.1, u_39.2.2.2.1.2.2.2.1, (nI k), u_39.2.2.2.1.2.2.2.2.2.1, u_39.2.2.2.1.2.2.2.2.2.2), u_39.2.2.2.2.1, u_39.2.2.2.2.2)) with | (r_58, u_58) => (if r_58 = (-5 : Int32) then fX6_leastLot_25 p0 n (k + 1) (σ.1, u_58) else ((nI k), (σ.1, u_58))))))
def fX6_leastLot (p0 : Int32) (τ : TTT) : Int32 × TTT := (if (fX6_isTicks p0) = (0 : Int32) then ((-2 : Int32), τ) else (if (fX5_canBecomeReady τ.1) = (0 : Int32) then ((-4 : Int32), τ) else fX6_leastLot_25 p0 10 1 τ))
theorem fX6_leastLot_25_p0 (p0 : Int32) (n : Nat) (k : Nat) (σ : TTT) (c_28 : (8 : Int32) < (nI k)) : fX6_leastLot_25 p0 (n + 1) k σ = ((-5 : Int32), σ) := by
  simp only [fX6_leastLot_25, if_pos c_28]
theorem fX6_leastLot_25_p1 (p0 : Int32) (n : Nat) (k : Nat) (σ : TTT) (c_28 : ¬ (8 : Int32) < (nI k)) (u_39 : StT) (e_39 : (fX5_take σ.2 σ.1) = u_39) (r_58 : Int32) (u_58 : StT) (e_58 : (fX5_ticksUntilReady p0 (u_39.1, u_39.2.1, u_39.2.2.1, (u_39.2.2.2.1.1, u_39.2.2.2.1.2.1, u_39.2.2.2.1.2.2.1, u_39.2.2.2.1.2.2.2.1, (nI k), u_39.2.2.2.1.2.2.2.2.2.1, u_39.2.2.2.1.2.2.2.2.2.2), u_39.2.2.2.2.1, u_39.2.2.2.2.2)) = (r_58, u_58)) (c_63 : r_58 = (-5 : Int32)) : fX6_leastLot_25 p0 (n + 1) k σ = fX6_leastLot_25 p0 n (k + 1) (σ.1, u_58) := by
  simp only [fX6_leastLot_25, if_neg c_28, e_39, e_58, if_pos c_63]
theorem fX6_leastLot_25_p2 (p0 : Int32) (n : Nat) (k : Nat) (σ : TTT) (c_28 : ¬ (8 : Int32) < (nI k)) (u_39 : StT) (e_39 : (fX5_take σ.2 σ.1) = u_39) (r_58 : Int32) (u_58 : StT) (e_58 : (fX5_ticksUntilReady p0 (u_39.1, u_39.2.1, u_39.2.2.1, (u_39.2.2.2.1.1, u_39.2.2.2.1.2.1, u_39.2.2.2.1.2.2.1, u_39.2.2.2.1.2.2.2.1, (nI k), u_39.2.2.2.1.2.2.2.2.2.1, u_39.2.2.2.1.2.2.2.2.2.2), u_39.2.2.2.2.1, u_39.2.2.2.2.2)) = (r_58, u_58)) (c_63 : ¬ r_58 = (-5 : Int32)) : fX6_leastLot_25 p0 (n + 1) k σ = ((nI k), (σ.1, u_58)) := by
  simp only [fX6_leastLot_25, if_neg c_28, e_39, e_58, if_neg c_63]
theorem fX6_leastLot_p3 (p0 : Int32) (τ : TTT) (c_4 : ¬ (fX6_isTicks p0) = (0 : Int32)) (c_17 : ¬ (fX5_canBecomeReady τ.1) = (0 : Int32)) : (fX6_leastLot p0 τ) = fX6_leastLot_25 p0 10 1 τ := by
  simp only [fX6_leastLot, if_neg c_4, if_neg c_17]
theorem fX6_leastLot_p4 (p0 : Int32) (τ : TTT) (c_4 : ¬ (fX6_isTicks p0) = (0 : Int32)) (c_17 : (fX5_canBecomeReady τ.1) = (0 : Int32)) : (fX6_leastLot p0 τ) = ((-4 : Int32), τ) := by
  simp only [fX6_leastLot, if_neg c_4, if_pos c_17]
theorem fX6_leastLot_p5 (p0 : Int32) (τ : TTT) (c_4 : (fX6_isTicks p0) = (0 : Int32)) : (fX6_leastLot p0 τ) = ((-2 : Int32), τ) := by
  simp only [fX6_leastLot, if_pos c_4]
set_option maxHeartbeats 4000000 in
set_option maxRecDepth 100000 in
theorem kX6_leastLot (l : Launch) (D : va_G) (cI cS : ClassId) (h0 : Nat) (a0 : Nat → Nat) (a2 : Nat → Nat) (w1 : Nat) (w3 : Nat) (w4 : Nat) (w5 : Int32) (p0 : Int32) (τ : TTT) (hw : WS τ.1) : KI l yX6_leastLot wsX6_leastLot { frames := 5, cells := 0, slots := 0, locals := 109 } D (tysA cI cS) [.ref h0, .int p0] (fl ([(h0, .inr (6, [.ref (a0 0), .ref w1, .ref (a2 0), .ref w3, .ref w4, .int w5]))] :: wSt cI a0 τ.1 :: wSt cI a2 τ.2 :: [])) (fX6_leastLot p0 τ) (fun u => (fl ([(h0, .inr (6, [.ref (a0 0), .ref w1, .ref (a2 0), .ref w3, .ref w4, .int w5]))] :: wSt cI a0 u.1 :: wSt cI a2 u.2 :: []))) := by
  refine KI.of (cc := cX6_leastLot) (maxL := 3) (ty := .int) (by decide) rfl (Nat.le_of_ble_eq_true rfl) rfl (fun p e s m args below meth c ls Q A hx hb hml hown hts hE hP hD hS hl hend => ?_)
  have hown : s.vm.findClass RX6 = some m.cls := hown
  have hl : lv_has ls 3 [(0, .ref h0), (1, .int p0)] := hl
  have loop_25 : ∀ (n : Nat) (k : Nat) (σ : TTT), WS σ.1 → Bd p0 200 → k ≤ 9 → 9 - k < n → (fX6_leastLot p0 τ) = fX6_leastLot_25 p0 n k σ → ∀ (H : Heap) (locs : List Loc), va_P D vwCl (fl ([(h0, .inr (6, [.ref (a0 0), .ref w1, .ref (a2 0), .ref w3, .ref w4, .int w5]))] :: wSt cI a0 σ.1 :: wSt cI a2 σ.2 :: [])) H → va_D A (fl ([(h0, .inr (6, [.ref (a0 0), .ref w1, .ref (a2 0), .ref w3, .ref w4, .int w5]))] :: wSt cI a0 σ.1 :: wSt cI a2 σ.2 :: [])) → va_S A s.heap H locs → ∀ (ls : Array Slot), lv_has ls 3 [(0, .ref h0), (1, .int p0), (2, .int (nI k))] → W p l e { frames := 5, cells := 0, slots := 0, locals := 109 } s m args below meth c H locs 0 0 Q (F0 m 25 ls []) := by
    intro n
    induction n with
    | zero =>
      intro k σ hw hq hk hn
      exact absurd hn (by omega)
    | succ n ih =>
      intro k σ hw hq hk hn hF H locs hP hD hS ls hl
      refine lv_iload_n hx hb dX6_leastLot_25 rfl (lv_at hl 2 rfl) ?_
      refine lv_bipush (v := (8 : Int32)) hx hb dX6_leastLot_26 (by decide +kernel) ?_
      refine lv_icmp_gt (tgt := 74) hx hb dX6_leastLot_28 (by decide) (fun c_28 => ?_) (fun c_28 => ?_)
      · have d_28 : 8 < k := (nI_ltI (a := 8) (b := k) (by omega) (by omega)).mp c_28
        refine lv_bipush (v := (-5 : Int32)) hx hb dX6_leastLot_74 (by decide +kernel) ?_
        exact hend _ _ _ _ _ _ dX6_leastLot_76 rfl (hF.trans (fX6_leastLot_25_p0 p0 n k σ c_28)) hP hS
      · have d_28 : k ≤ 8 := Nat.le_of_not_lt (fun q => c_28 ((nI_ltI (a := 8) (b := k) (by omega) (by omega)).mpr q))
        refine lv_aload_n hx hb dX6_leastLot_31 rfl (lv_at hl 0 rfl) ?_
        refine va_get (D := D) (ci := 6) (v := .ref (a2 0)) (C := RX6) (T := TX6) (N := 6) hx hb hts (fun _ h9 => List.mem_cons_of_mem _ (List.mem_append_left _ (List.mem_append_left _ (List.mem_append_left _ (List.mem_append_left _ (List.mem_append_right _ h9)))))) hown hE.1 hP 0 rfl rfl 2 (by decide) (hts (.fieldLink RX6 19 "ShadowTable" "trial" "LShadowTable$State;") (List.mem_of_getElem? (i := 2) rfl)) (fun _ h9 => h9) rfl dX6_leastLot_32 ?_
        refine lv_aload_n hx hb dX6_leastLot_35 rfl (lv_at hl 0 rfl) ?_
        refine va_get (D := D) (ci := 6) (v := .ref (a0 0)) (C := RX6) (T := TX6) (N := 6) hx hb hts (fun _ h9 => List.mem_cons_of_mem _ (List.mem_append_left _ (List.mem_append_left _ (List.mem_append_left _ (List.mem_append_left _ (List.mem_append_right _ h9)))))) hown hE.1 hP 0 rfl rfl 0 (by decide) (hts (.fieldLink RX6 10 "ShadowTable" "state" "LShadowTable$State;") (List.mem_of_getElem? (i := 1) rfl)) (fun _ h9 => h9) rfl dX6_leastLot_36 ?_
        refine bVV (wc := [wSt cI a2 σ.2, wSt cI a0 σ.1]) (w1 := fun (u : StT) => [wSt cI a2 u, wSt cI a0 σ.1]) ⟨hx, hb, hml, hown, hts⟩ (kX5_take l D cI cS (a2 0) (a2 1) (a2 2) (a2 3) (a2 4) (a2 5) (a2 6) (a2 7) (a2 8) (a2 9) (a2 10) (a2 11) (a2 12) (a0 0) (a0 1) (a0 2) (a0 3) (a0 4) (a0 5) (a0 6) (a0 7) (a0 8) (a0 9) (a0 10) (a0 11) (a0 12) σ.2 σ.1 hw.2.2) (cwV 1 hts gX6_leastLot_X5_take rfl rfl rfl (by decide +kernel) ⟨Nat.le_of_ble_eq_true rfl, Nat.le_of_ble_eq_true rfl⟩) hE hP hD hS rfl rfl [2, 1] rfl rfl (fun _ => rfl) (fun _ => rfl) rfl hl.1 rfl (Nat.le_of_ble_eq_true rfl) ⟨Nat.zero_le _, Nat.zero_le _⟩ dX6_leastLot_39 (fun u_39 H locs e_39 hP hD hS => ?_)
        have hP : va_P D vwCl (fl ([(h0, .inr (6, [.ref (a0 0), .ref w1, .ref (a2 0), .ref w3, .ref w4, .int w5]))] :: wSt cI a0 σ.1 :: wSt cI a2 u_39 :: [])) H := hP
        have hD : va_D A (fl ([(h0, .inr (6, [.ref (a0 0), .ref w1, .ref (a2 0), .ref w3, .ref w4, .int w5]))] :: wSt cI a0 σ.1 :: wSt cI a2 u_39 :: [])) := hD
        refine lv_aload_n hx hb dX6_leastLot_42 rfl (lv_at hl 0 rfl) ?_
        refine va_get (D := D) (ci := 6) (v := .ref (a2 0)) (C := RX6) (T := TX6) (N := 6) hx hb hts (fun _ h9 => List.mem_cons_of_mem _ (List.mem_append_left _ (List.mem_append_left _ (List.mem_append_left _ (List.mem_append_left _ (List.mem_append_right _ h9)))))) hown hE.1 hP 0 rfl rfl 2 (by decide) (hts (.fieldLink RX6 19 "ShadowTable" "trial" "LShadowTable$State;") (List.mem_of_getElem? (i := 2) rfl)) (fun _ h9 => h9) rfl dX6_leastLot_43 ?_
        refine va_getN (D := D) (ci := 5) (v := .ref (a2 5)) (C := RX5) (T := TX5) (N := 6) hx hb hts (fun _ h9 => List.mem_cons_of_mem _ (List.mem_append_left _ (List.mem_append_left _ (List.mem_append_left _ (List.mem_append_right _ h9))))) hown hE.1 hP 14 rfl rfl 3 (by decide) (hE.2.f 13 rfl) (fun _ h9 => h9) rfl dX6_leastLot_46 ?_
        refine lv_iload_n hx hb dX6_leastLot_49 rfl (lv_at hl 2 rfl) ?_
        refine xpfN (ty := .int) (v := .int (nI k)) (C := RX0) (T := TX0) (N := 7) hx hb hts (fun _ h9 => List.mem_cons_of_mem _ (List.mem_append_left _ (List.mem_append_left _ (List.mem_append_right _ h9)))) tyX0 tyX0_ok nmX0 hown hE hP hD hS 19 rfl rfl 4 (by decide) (hE.2.f 8 rfl) rfl rfl (by decide +kernel) rfl rfl (Nat.le_of_ble_eq_true rfl) (fl ([(h0, .inr (6, [.ref (a0 0), .ref w1, .ref (a2 0), .ref w3, .ref w4, .int w5]))] :: wSt cI a0 σ.1 :: wSt cI a2 (u_39.1, u_39.2.1, u_39.2.2.1, (u_39.2.2.2.1.1, u_39.2.2.2.1.2.1, u_39.2.2.2.1.2.2.1, u_39.2.2.2.1.2.2.2.1, (nI k), u_39.2.2.2.1.2.2.2.2.2.1, u_39.2.2.2.1.2.2.2.2.2.2), u_39.2.2.2.2.1, u_39.2.2.2.2.2) :: [])) rfl dX6_leastLot_50 (fun H locs hP hD hS => ?_)
        refine lv_aload_n hx hb dX6_leastLot_53 rfl (lv_at hl 0 rfl) ?_
        refine va_get (D := D) (ci := 6) (v := .ref (a2 0)) (C := RX6) (T := TX6) (N := 6) hx hb hts (fun _ h9 => List.mem_cons_of_mem _ (List.mem_append_left _ (List.mem_append_left _ (List.mem_append_left _ (List.mem_append_left _ (List.mem_append_right _ h9)))))) hown hE.1 hP 0 rfl rfl 2 (by decide) (hts (.fieldLink RX6 19 "ShadowTable" "trial" "LShadowTable$State;") (List.mem_of_getElem? (i := 2) rfl)) (fun _ h9 => h9) rfl dX6_leastLot_54 ?_
        refine lv_iload_n hx hb dX6_leastLot_57 rfl (lv_at hl 1 rfl) ?_
        refine bIV (wc := [wSt cI a2 (u_39.1, u_39.2.1, u_39.2.2.1, (u_39.2.2.2.1.1, u_39.2.2.2.1.2.1, u_39.2.2.2.1.2.2.1, u_39.2.2.2.1.2.2.2.1, (nI k), u_39.2.2.2.1.2.2.2.2.2.1, u_39.2.2.2.1.2.2.2.2.2.2), u_39.2.2.2.2.1, u_39.2.2.2.2.2)]) (w1 := fun (u : StT) => [wSt cI a2 u]) ⟨hx, hb, hml, hown, hts⟩ (kX5_ticksUntilReady l D cI cS (a2 0) (a2 1) (a2 2) (a2 3) (a2 4) (a2 5) (a2 6) (a2 7) (a2 8) (a2 9) (a2 10) (a2 11) (a2 12) p0 (u_39.1, u_39.2.1, u_39.2.2.1, (u_39.2.2.2.1.1, u_39.2.2.2.1.2.1, u_39.2.2.2.1.2.2.1, u_39.2.2.2.1.2.2.2.1, (nI k), u_39.2.2.2.1.2.2.2.2.2.1, u_39.2.2.2.1.2.2.2.2.2.2), u_39.2.2.2.2.1, u_39.2.2.2.2.2) (show WS u_39 from zz_WS_take e_39 hw) hq) (cwV 1 hts gX6_leastLot_X5_ticksUntilReady rfl rfl rfl (by decide +kernel) ⟨Nat.le_of_ble_eq_true rfl, Nat.le_of_ble_eq_true rfl⟩) hE hP hD hS rfl rfl [2] rfl rfl (fun _ => rfl) (fun _ => rfl) rfl hl.1 rfl (Nat.le_of_ble_eq_true rfl) ⟨Nat.zero_le _, Nat.zero_le _⟩ dX6_leastLot_58 (fun r_58 u_58 H locs e_58 hP hD hS => ?_)
        have hP : va_P D vwCl (fl ([(h0, .inr (6, [.ref (a0 0), .ref w1, .ref (a2 0), .ref w3, .ref w4, .int w5]))] :: wSt cI a0 σ.1 :: wSt cI a2 u_58 :: [])) H := hP
        have hD : va_D A (fl ([(h0, .inr (6, [.ref (a0 0), .ref w1, .ref (a2 0), .ref w3, .ref w4, .int w5]))] :: wSt cI a0 σ.1 :: wSt cI a2 u_58 :: [])) := hD
        refine lv_bipush (v := (-5 : Int32)) hx hb dX6_leastLot_61 (by decide +kernel) ?_
        refine lv_icmp_eq (tgt := 68) hx hb dX6_leastLot_63 (by decide) (fun c_63 => ?_) (fun c_63 => ?_)
        · refine lv_iinc (v := (nI (k + 1))) (lv' := [(2, .int (nI (k + 1))), (0, .ref h0), (1, .int p0)]) hx hb dX6_leastLot_68 hl (k := 2) rfl (nI_1 _) (by decide) rfl (fun ls hl => ?_)
          refine lv_goto (tgt := 25) hx hb dX6_leastLot_71 (by decide) ?_
          exact ih (k + 1) (σ.1, u_58) hw hq (by omega) (by omega) (hF.trans (fX6_leastLot_25_p1 p0 n k σ c_28 u_39 e_39 r_58 u_58 e_58 c_63)) _ _ hP hD hS _ (lv_sub hl [1, 2, 0] rfl)
        · refine lv_iload_n hx hb dX6_leastLot_66 rfl (lv_at hl 2 rfl) ?_
          exact hend _ _ _ _ _ _ dX6_leastLot_67 rfl (hF.trans (fX6_leastLot_25_p2 p0 n k σ c_28 u_39 e_39 r_58 u_58 e_58 c_63)) hP hS
  refine lv_iload_n hx hb dX6_leastLot_0 rfl (lv_at hl 1 rfl) ?_
  refine cRS ⟨hx, hb, hml, hown, hts⟩ (kX6_isTicks l D cI cS p0) (va_cwS 1 hts gX6_leastLot_X6_isTicks rfl rfl rfl (by decide +kernel) ⟨Nat.le_of_ble_eq_true rfl, Nat.le_of_ble_eq_true rfl⟩) hE hP [] rfl rfl hl.1 rfl (Nat.le_of_ble_eq_true rfl) ⟨Nat.zero_le _, Nat.zero_le _⟩ dX6_leastLot_1 ?_
  refine lv_if_ne (tgt := 10) hx hb dX6_leastLot_4 (by decide) (fun c_4 => ?_) (fun c_4 => ?_)
  · refine lv_aload_n hx hb dX6_leastLot_10 rfl (lv_at hl 0 rfl) ?_
    refine va_get (D := D) (ci := 6) (v := .ref (a0 0)) (C := RX6) (T := TX6) (N := 6) hx hb hts (fun _ h9 => List.mem_cons_of_mem _ (List.mem_append_left _ (List.mem_append_left _ (List.mem_append_left _ (List.mem_append_left _ (List.mem_append_right _ h9)))))) hown hE.1 hP 0 rfl rfl 0 (by decide) (hts (.fieldLink RX6 10 "ShadowTable" "state" "LShadowTable$State;") (List.mem_of_getElem? (i := 1) rfl)) (fun _ h9 => h9) rfl dX6_leastLot_11 ?_
    refine cRV ⟨hx, hb, hml, hown, hts⟩ (kX5_canBecomeReady l D cI cS (a0 0) (a0 1) (a0 2) (a0 3) (a0 4) (a0 5) (a0 6) (a0 7) (a0 8) (a0 9) (a0 10) (a0 11) (a0 12) τ.1) (cwV 0 hts gX6_leastLot_X5_canBecomeReady rfl rfl rfl (by decide +kernel) ⟨Nat.le_of_ble_eq_true rfl, Nat.le_of_ble_eq_true rfl⟩) hE hP 1 rfl rfl [1, 2, 3, 4, 5, 6, 7, 8, 9, 10, 11, 12, 13] rfl rfl hl.1 rfl (Nat.le_of_ble_eq_true rfl) ⟨Nat.zero_le _, Nat.zero_le _⟩ dX6_leastLot_14 ?_
    refine lv_if_ne (tgt := 23) hx hb dX6_leastLot_17 (by decide) (fun c_17 => ?_) (fun c_17 => ?_)
    · refine lv_iconst (v := (1 : Int32)) hx hb dX6_leastLot_23 (by decide +kernel) ?_
      refine lv_istore_n (lv' := [(2, .int (1 : Int32)), (0, .ref h0), (1, .int p0)]) hx hb dX6_leastLot_24 rfl hl (by decide) rfl (fun ls hl => ?_)
      exact loop_25 10 1 τ hw ((zz_isTicks c_4).mono (by omega)) (by omega) (by omega) (fX6_leastLot_p3 p0 τ c_4 c_17) _ _ hP hD hS _ (lv_sub hl [1, 2, 0] rfl)
    · refine lv_bipush (v := (-4 : Int32)) hx hb dX6_leastLot_20 (by decide +kernel) ?_
      exact hend _ _ _ _ _ _ dX6_leastLot_22 rfl (fX6_leastLot_p4 p0 τ c_4 c_17) hP hS
  · refine lv_bipush (v := (-2 : Int32)) hx hb dX6_leastLot_7 (by decide +kernel) ?_
    exact hend _ _ _ _ _ _ dX6_leastLot_9 rfl (fX6_leastLot_p5 p0 τ c_4) hP hS

theorem ws_add {k v r : Int32} {τ u : LogT} (e : fX2_add k v τ = (r, u)) (hw : WL τ) : WL u := by
  unfold fX2_add at e
  by_cases c : τ.2.2.2 < (24 : Int32)
  · rw [if_pos c] at e
    cases e
    obtain ⟨j, hj, e⟩ := hw.2.num
    rw [e] at c
    have : j < 24 := Nat.lt_of_not_le (fun q => nI_nlt (a := j) (b := 24) q (by omega) c)
    refine And.intro hw.1 ?_
    show Bd (τ.2.2.2 + (1 : Int32)) 24
    rw [e, nI_1]
    exact Bd.of (by omega) (by omega)
  · rw [if_neg c] at e
    cases e
    exact hw
theorem ws_change {k v r : Int32} {τ u : StT} (e : fX5_changeRow k v τ = (r, u)) (hw : WS τ) : WS u := by
  unfold fX5_changeRow at e
  by_cases c : fX5_hasCopy τ = (0 : Int32)
  · rw [if_pos c] at e
    cases e
    exact hw
  · rw [if_neg c] at e
    generalize e1 : fX2_add _ _ _ = q at e
    obtain ⟨r1, u1⟩ := q
    have h1 : WL u1 := ws_add e1 hw.1
    dsimp only at e
    by_cases c1 : r1 = (0 : Int32)
    · rw [if_pos c1] at e
      by_cases c2 : (τ.2.2.2.2.1 3) = (1 : Int32)
      · rw [if_pos c2] at e; cases e; exact And.intro h1 hw.2
      · rw [if_neg c2] at e; cases e; exact And.intro h1 hw.2
    · rw [if_neg c1] at e; cases e; exact And.intro h1 hw.2
theorem ws_put {k v r : Int32} {τ u : StT} (e : fX5_putRow k v τ = (r, u)) (hw : WS τ) : WS u := by
  unfold fX5_putRow at e
  by_cases c : fX6_isKey k = (0 : Int32)
  · rw [if_pos c] at e; cases e; exact hw
  · rw [if_neg c] at e
    by_cases c1 : fX6_isValue v = (0 : Int32)
    · rw [if_pos c1] at e; cases e; exact hw
    · rw [if_neg c1] at e
      by_cases c2 : τ.2.2.2.1.2.2.1 = (3 : Int32)
      · rw [if_pos c2] at e; cases e; exact hw
      · rw [if_neg c2] at e
        generalize e1 : fX5_changeRow _ _ _ = q at e
        obtain ⟨r1, u1⟩ := q
        have h := ws_change e1 hw
        cases e
        exact h
theorem ws_erase {k r : Int32} {τ u : StT} (e : fX5_eraseRow k τ = (r, u)) (hw : WS τ) : WS u := by
  unfold fX5_eraseRow at e
  by_cases c : fX6_isKey k = (0 : Int32)
  · rw [if_pos c] at e; cases e; exact hw
  · rw [if_neg c] at e
    by_cases c2 : τ.2.2.2.1.2.2.1 = (3 : Int32)
    · rw [if_pos c2] at e; cases e; exact hw
    · rw [if_neg c2] at e
      by_cases c3 : fX3_at k τ.1 = (-5 : Int32)
      · rw [if_pos c3] at e; cases e; exact hw
      · rw [if_neg c3] at e
        generalize e1 : fX5_changeRow _ _ _ = q at e
        obtain ⟨r1, u1⟩ := q
        have h := ws_change e1 hw
        cases e
        exact h
theorem ws_begin {k v r : Int32} {τ u : StT} (e : fX5_beginCopy k v τ = (r, u)) (hw : WS τ) : WS u := by
  unfold fX5_beginCopy at e
  by_cases c : fX6_isKind k = (0 : Int32)
  · rw [if_pos c] at e; cases e; exact hw
  · rw [if_neg c] at e
    by_cases c1 : fX6_isLot v = (0 : Int32)
    · rw [if_pos c1] at e; cases e; exact hw
    · rw [if_neg c1] at e
      by_cases c2 : fX5_hasCopy τ = (0 : Int32)
      · rw [if_pos c2] at e
        have h0 : Bd (0 : Int32) 23 := Bd.of (j := 0) (by omega) (by omega)
        generalize e2 : fX0_start _ _ _ = q at e
        have hq : q.2.1.2.2.1 = (0 : Int32) ∧ q.2.1.2.2.2 = (0 : Int32) ∧ q.2.2.2.2.2.1 = (0 : Int32) := by
          rw [← e2]
          unfold fX0_start
          dsimp only
          exact ⟨rfl, rfl, rfl⟩
        cases e
        refine And.intro (And.intro ?_ ?_) (And.intro ?_ hw.2.2)
        · show Bd q.2.1.2.2.1 23
          rw [hq.1]; exact h0
        · show Bd q.2.1.2.2.2 24
          rw [hq.2.1]; exact h0.mono (by omega)
        · show Bd q.2.2.2.2.2.1 32
          rw [hq.2.2]; exact h0.mono (by omega)
      · rw [if_neg c2] at e; cases e; exact hw
theorem ws_ticks12 (a : Int32) : ∀ (n k : Nat) (σ : StT), WS σ → WS (fX5_makeTicks_12 a n k σ).2
  | 0, _, _, h => h
  | n + 1, k, σ, h => by
    unfold fX5_makeTicks_12
    split
    · exact h
    · exact ws_ticks12 a n (k + 1) _ (zz_WS_tick rfl h)
theorem ws_ticks {a r : Int32} {τ u : StT} (e : fX5_makeTicks a τ = (r, u)) (hw : WS τ) : WS u := by
  have h : WS (fX5_makeTicks a τ).2 := by
    unfold fX5_makeTicks
    split
    · first | exact ws_ticks12 a 100 0 τ hw | exact hw
    · first | exact hw | exact ws_ticks12 a 100 0 τ hw
  rw [e] at h
  exact h
theorem ws_lock {r : Int32} {τ u : StT} (e : fX5_lockLive τ = (r, u)) (hw : WS τ) : WS u := by
  unfold fX5_lockLive at e
  by_cases c : τ.2.2.2.1.2.2.1 = (2 : Int32)
  · rw [if_pos c] at e; cases e; exact hw
  · rw [if_neg c] at e; cases e; exact hw
theorem ws_unlock {r : Int32} {τ u : StT} (e : fX5_unlockLive τ = (r, u)) (hw : WS τ) : WS u := by
  unfold fX5_unlockLive at e
  by_cases c : τ.2.2.2.1.2.2.1 = (3 : Int32)
  · rw [if_pos c] at e; cases e; exact hw
  · rw [if_neg c] at e; cases e; exact hw
theorem ws_swap {r : Int32} {τ u : StT} (e : fX5_swapTables τ = (r, u)) (hw : WS τ) : WS u := by
  unfold fX5_swapTables at e
  by_cases c : τ.2.2.2.1.2.2.1 = (3 : Int32)
  · rw [if_pos c] at e
    by_cases c2 : τ.2.2.2.1.2.1.2.2.2 ≤ (0 : Int32)
    · rw [if_pos c2] at e
      cases e
      exact And.intro hw.1 (And.intro hw.2.1 (Or.inr rfl))
    · rw [if_neg c2] at e; cases e; exact hw
  · rw [if_neg c] at e; cases e; exact hw
theorem ws_giveUp {r : Int32} {τ u : StT} (e : fX5_giveCopyUp τ = (r, u)) (hw : WS τ) : WS u := by
  unfold fX5_giveCopyUp at e
  by_cases c : fX5_hasCopy τ = (0 : Int32)
  · rw [if_pos c] at e; cases e; exact hw
  · rw [if_neg c] at e; cases e; exact hw

def fX6_carryOutOrder (τ : TOT) : Int32 × TOT := (if τ.2.2.2.2.2.1 = (98 : Int32) then (match (fX5_beginCopy τ.2.2.2.2.2.2.1 τ.2.2.2.2.2.2.2 τ.1) with | (r_155, u_155) => (r_155, (u_155, τ.2))) else (if τ.2.2.2.2.2.1 = (101 : Int32) then (match (fX5_eraseRow τ.2.2.2.2.2.2.1 τ.1) with | (r_133, u_133) => (r_133, (u_133, τ.2))) else (if τ.2.2.2.2.2.1 = (108 : Int32) then (match (fX5_lockLive τ.1) with | (r_178, u_178) => (r_178, (u_178, τ.2))) else (if τ.2.2.2.2.2.1 = (112 : Int32) then (match (fX5_putRow τ.2.2.2.2.2.2.1 τ.2.2.2.2.2.2.2 τ.1) with | (r_118, u_118) => (r_118, (u_118, τ.2))) else (if τ.2.2.2.2.2.1 = (115 : Int32) then (match (fX5_swapTables τ.1) with | (r_194, u_194) => (r_194, (u_194, τ.2))) else (if τ.2.2.2.2.2.1 = (116 : Int32) then (match (fX5_makeTicks τ.2.2.2.2.2.2.1 τ.1) with | (r_170, u_170) => (r_170, (u_170, τ.2))) else (if τ.2.2.2.2.2.1 = (117 : Int32) then (match (fX5_unlockLive τ.1) with | (r_186, u_186) => (r_186, (u_186, τ.2))) else (match (fX5_giveCopyUp τ.1) with | (r_202, u_202) => (r_202, (u_202, τ.2))))))))))
theorem fX6_carryOutOrder_p0 (τ : TOT) (c_7_0 : τ.2.2.2.2.2.1 = (98 : Int32)) (r_155 : Int32) (u_155 : StT) (e_155 : (fX5_beginCopy τ.2.2.2.2.2.2.1 τ.2.2.2.2.2.2.2 τ.1) = (r_155, u_155)) : (fX6_carryOutOrder τ) = (r_155, (u_155, τ.2)) := by
  simp only [fX6_carryOutOrder, if_pos c_7_0, e_155]
theorem fX6_carryOutOrder_p1 (τ : TOT) (c_7_0 : ¬ τ.2.2.2.2.2.1 = (98 : Int32)) (c_7_1 : τ.2.2.2.2.2.1 = (101 : Int32)) (r_133 : Int32) (u_133 : StT) (e_133 : (fX5_eraseRow τ.2.2.2.2.2.2.1 τ.1) = (r_133, u_133)) : (fX6_carryOutOrder τ) = (r_133, (u_133, τ.2)) := by
  simp only [fX6_carryOutOrder, if_neg c_7_0, if_pos c_7_1, e_133]
theorem fX6_carryOutOrder_p2 (τ : TOT) (c_7_0 : ¬ τ.2.2.2.2.2.1 = (98 : Int32)) (c_7_1 : ¬ τ.2.2.2.2.2.1 = (101 : Int32)) (c_7_2 : τ.2.2.2.2.2.1 = (108 : Int32)) (r_178 : Int32) (u_178 : StT) (e_178 : (fX5_lockLive τ.1) = (r_178, u_178)) : (fX6_carryOutOrder τ) = (r_178, (u_178, τ.2)) := by
  simp only [fX6_carryOutOrder, if_neg c_7_0, if_neg c_7_1, if_pos c_7_2, e_178]
theorem fX6_carryOutOrder_p3 (τ : TOT) (c_7_0 : ¬ τ.2.2.2.2.2.1 = (98 : Int32)) (c_7_1 : ¬ τ.2.2.2.2.2.1 = (101 : Int32)) (c_7_2 : ¬ τ.2.2.2.2.2.1 = (108 : Int32)) (c_7_3 : τ.2.2.2.2.2.1 = (112 : Int32)) (r_118 : Int32) (u_118 : StT) (e_118 : (fX5_putRow τ.2.2.2.2.2.2.1 τ.2.2.2.2.2.2.2 τ.1) = (r_118, u_118)) : (fX6_carryOutOrder τ) = (r_118, (u_118, τ.2)) := by
  simp only [fX6_carryOutOrder, if_neg c_7_0, if_neg c_7_1, if_neg c_7_2, if_pos c_7_3, e_118]
theorem fX6_carryOutOrder_p4 (τ : TOT) (c_7_0 : ¬ τ.2.2.2.2.2.1 = (98 : Int32)) (c_7_1 : ¬ τ.2.2.2.2.2.1 = (101 : Int32)) (c_7_2 : ¬ τ.2.2.2.2.2.1 = (108 : Int32)) (c_7_3 : ¬ τ.2.2.2.2.2.1 = (112 : Int32)) (c_7_4 : τ.2.2.2.2.2.1 = (115 : Int32)) (r_194 : Int32) (u_194 : StT) (e_194 : (fX5_swapTables τ.1) = (r_194, u_194)) : (fX6_carryOutOrder τ) = (r_194, (u_194, τ.2)) := by
  simp only [fX6_carryOutOrder, if_neg c_7_0, if_neg c_7_1, if_neg c_7_2, if_neg c_7_3, if_pos c_7_4, e_194]
theorem fX6_carryOutOrder_p5 (τ : TOT) (c_7_0 : ¬ τ.2.2.2.2.2.1 = (98 : Int32)) (c_7_1 : ¬ τ.2.2.2.2.2.1 = (101 : Int32)) (c_7_2 : ¬ τ.2.2.2.2.2.1 = (108 : Int32)) (c_7_3 : ¬ τ.2.2.2.2.2.1 = (112 : Int32)) (c_7_4 : ¬ τ.2.2.2.2.2.1 = (115 : Int32)) (c_7_5 : τ.2.2.2.2.2.1 = (116 : Int32)) (r_170 : Int32) (u_170 : StT) (e_170 : (fX5_makeTicks τ.2.2.2.2.2.2.1 τ.1) = (r_170, u_170)) : (fX6_carryOutOrder τ) = (r_170, (u_170, τ.2)) := by
  simp only [fX6_carryOutOrder, if_neg c_7_0, if_neg c_7_1, if_neg c_7_2, if_neg c_7_3, if_neg c_7_4, if_pos c_7_5, e_170]
theorem fX6_carryOutOrder_p6 (τ : TOT) (c_7_0 : ¬ τ.2.2.2.2.2.1 = (98 : Int32)) (c_7_1 : ¬ τ.2.2.2.2.2.1 = (101 : Int32)) (c_7_2 : ¬ τ.2.2.2.2.2.1 = (108 : Int32)) (c_7_3 : ¬ τ.2.2.2.2.2.1 = (112 : Int32)) (c_7_4 : ¬ τ.2.2.2.2.2.1 = (115 : Int32)) (c_7_5 : ¬ τ.2.2.2.2.2.1 = (116 : Int32)) (c_7_6 : τ.2.2.2.2.2.1 = (117 : Int32)) (r_186 : Int32) (u_186 : StT) (e_186 : (fX5_unlockLive τ.1) = (r_186, u_186)) : (fX6_carryOutOrder τ) = (r_186, (u_186, τ.2)) := by
  simp only [fX6_carryOutOrder, if_neg c_7_0, if_neg c_7_1, if_neg c_7_2, if_neg c_7_3, if_neg c_7_4, if_neg c_7_5, if_pos c_7_6, e_186]
theorem fX6_carryOutOrder_p7 (τ : TOT) (c_7_0 : ¬ τ.2.2.2.2.2.1 = (98 : Int32)) (c_7_1 : ¬ τ.2.2.2.2.2.1 = (101 : Int32)) (c_7_2 : ¬ τ.2.2.2.2.2.1 = (108 : Int32)) (c_7_3 : ¬ τ.2.2.2.2.2.1 = (112 : Int32)) (c_7_4 : ¬ τ.2.2.2.2.2.1 = (115 : Int32)) (c_7_5 : ¬ τ.2.2.2.2.2.1 = (116 : Int32)) (c_7_6 : ¬ τ.2.2.2.2.2.1 = (117 : Int32)) (r_202 : Int32) (u_202 : StT) (e_202 : (fX5_giveCopyUp τ.1) = (r_202, u_202)) : (fX6_carryOutOrder τ) = (r_202, (u_202, τ.2)) := by
  simp only [fX6_carryOutOrder, if_neg c_7_0, if_neg c_7_1, if_neg c_7_2, if_neg c_7_3, if_neg c_7_4, if_neg c_7_5, if_neg c_7_6, e_202]
set_option maxHeartbeats 4000000 in
set_option maxRecDepth 100000 in
theorem kX6_carryOutOrder (l : Launch) (D : va_G) (cI cS : ClassId) (h0 : Nat) (a0 : Nat → Nat) (a4 : Nat → Nat) (w1 : Nat) (w2 : Nat) (w3 : Nat) (w5 : Int32) (τ : TOT) (hw : WS τ.1) : KI l yX6_carryOutOrder wsX6_carryOutOrder { frames := 5, cells := 0, slots := 0, locals := 109 } D (tysA cI cS) [.ref h0] (fl ([(h0, .inr (6, [.ref (a0 0), .ref w1, .ref w2, .ref w3, .ref (a4 0), .int w5]))] :: wSt cI a0 τ.1 :: wSc cI a4 τ.2 :: [])) (fX6_carryOutOrder τ) (fun u => (fl ([(h0, .inr (6, [.ref (a0 0), .ref w1, .ref w2, .ref w3, .ref (a4 0), .int w5]))] :: wSt cI a0 u.1 :: wSc cI a4 u.2 :: []))) := by
  refine KI.of (cc := cX6_carryOutOrder) (maxL := 1) (ty := .int) (by decide) rfl (Nat.le_of_ble_eq_true rfl) rfl (fun p e s m args below meth c ls Q A hx hb hml hown hts hE hP hD hS hl hend => ?_)
  have hown : s.vm.findClass RX6 = some m.cls := hown
  have hl : lv_has ls 1 [(0, .ref h0)] := hl
  refine lv_aload_n hx hb dX6_carryOutOrder_0 rfl (lv_at hl 0 rfl) ?_
  refine va_get (D := D) (ci := 6) (v := .ref (a4 0)) (C := RX6) (T := TX6) (N := 6) hx hb hts (fun _ h9 => List.mem_cons_of_mem _ (List.mem_append_left _ (List.mem_append_left _ (List.mem_append_left _ (List.mem_append_left _ (List.mem_append_left _ (List.mem_append_right _ h9))))))) hown hE.1 hP 0 rfl rfl 4 (by decide) (hts (.fieldLink RX6 32 "ShadowTable" "script" "LShadowTable$Script;") (List.mem_of_getElem? (i := 1) rfl)) (fun _ h9 => h9) rfl dX6_carryOutOrder_1 ?_
  refine va_getN (D := D) (ci := 4) (v := .int τ.2.2.2.2.2.1) (C := RX4) (T := TX4) (N := 7) hx hb hts (fun _ h9 => List.mem_cons_of_mem _ (List.mem_append_left _ (List.mem_append_left _ (List.mem_append_left _ (List.mem_append_left _ (List.mem_append_right _ h9)))))) hown hE.1 hP 14 rfl rfl 4 (by decide) (hE.2.f 17 rfl) (fun _ h9 => h9) rfl dX6_carryOutOrder_4 ?_
  refine (Decidable.em (τ.2.2.2.2.2.1 = (98 : Int32))).elim (fun c_7_0 => ?_) (fun c_7_0 => ?_)
  · refine lv_tableIn (off := 130) (tgt := 137) hx hb dX6_carryOutOrder_7 (by rw [c_7_0]; decide +kernel) (by rw [c_7_0]; decide +kernel) (by rw [c_7_0]; decide +kernel) (by decide) ?_
    refine lv_aload_n hx hb dX6_carryOutOrder_137 rfl (lv_at hl 0 rfl) ?_
    refine va_get (D := D) (ci := 6) (v := .ref (a0 0)) (C := RX6) (T := TX6) (N := 6) hx hb hts (fun _ h9 => List.mem_cons_of_mem _ (List.mem_append_left _ (List.mem_append_left _ (List.mem_append_left _ (List.mem_append_left _ (List.mem_append_left _ (List.mem_append_right _ h9))))))) hown hE.1 hP 0 rfl rfl 0 (by decide) (hts (.fieldLink RX6 10 "ShadowTable" "state" "LShadowTable$State;") (List.mem_of_getElem? (i := 2) rfl)) (fun _ h9 => h9) rfl dX6_carryOutOrder_138 ?_
    refine lv_aload_n hx hb dX6_carryOutOrder_141 rfl (lv_at hl 0 rfl) ?_
    refine va_get (D := D) (ci := 6) (v := .ref (a4 0)) (C := RX6) (T := TX6) (N := 6) hx hb hts (fun _ h9 => List.mem_cons_of_mem _ (List.mem_append_left _ (List.mem_append_left _ (List.mem_append_left _ (List.mem_append_left _ (List.mem_append_left _ (List.mem_append_right _ h9))))))) hown hE.1 hP 0 rfl rfl 4 (by decide) (hts (.fieldLink RX6 32 "ShadowTable" "script" "LShadowTable$Script;") (List.mem_of_getElem? (i := 1) rfl)) (fun _ h9 => h9) rfl dX6_carryOutOrder_142 ?_
    refine va_getN (D := D) (ci := 4) (v := .int τ.2.2.2.2.2.2.1) (C := RX4) (T := TX4) (N := 7) hx hb hts (fun _ h9 => List.mem_cons_of_mem _ (List.mem_append_left _ (List.mem_append_left _ (List.mem_append_left _ (List.mem_append_left _ (List.mem_append_right _ h9)))))) hown hE.1 hP 14 rfl rfl 5 (by decide) (hE.2.f 18 rfl) (fun _ h9 => h9) rfl dX6_carryOutOrder_145 ?_
    refine lv_aload_n hx hb dX6_carryOutOrder_148 rfl (lv_at hl 0 rfl) ?_
    refine va_get (D := D) (ci := 6) (v := .ref (a4 0)) (C := RX6) (T := TX6) (N := 6) hx hb hts (fun _ h9 => List.mem_cons_of_mem _ (List.mem_append_left _ (List.mem_append_left _ (List.mem_append_left _ (List.mem_append_left _ (List.mem_append_left _ (List.mem_append_right _ h9))))))) hown hE.1 hP 0 rfl rfl 4 (by decide) (hts (.fieldLink RX6 32 "ShadowTable" "script" "LShadowTable$Script;") (List.mem_of_getElem? (i := 1) rfl)) (fun _ h9 => h9) rfl dX6_carryOutOrder_149 ?_
    refine va_getN (D := D) (ci := 4) (v := .int τ.2.2.2.2.2.2.2) (C := RX4) (T := TX4) (N := 7) hx hb hts (fun _ h9 => List.mem_cons_of_mem _ (List.mem_append_left _ (List.mem_append_left _ (List.mem_append_left _ (List.mem_append_left _ (List.mem_append_right _ h9)))))) hown hE.1 hP 14 rfl rfl 6 (by decide) (hE.2.f 19 rfl) (fun _ h9 => h9) rfl dX6_carryOutOrder_152 ?_
    refine bIV (wc := [wSt cI a0 τ.1]) (w1 := fun (u : StT) => [wSt cI a0 u]) ⟨hx, hb, hml, hown, hts⟩ (kX5_beginCopy l D cI cS (a0 0) (a0 1) (a0 2) (a0 3) (a0 4) (a0 5) (a0 6) (a0 7) (a0 8) (a0 9) (a0 10) (a0 11) (a0 12) τ.2.2.2.2.2.2.1 τ.2.2.2.2.2.2.2 τ.1) (cwV 2 hts gX6_carryOutOrder_X5_beginCopy rfl rfl rfl (by decide +kernel) ⟨Nat.le_of_ble_eq_true rfl, Nat.le_of_ble_eq_true rfl⟩) hE hP hD hS rfl rfl [1] rfl rfl (fun _ => rfl) (fun _ => rfl) rfl hl.1 rfl (Nat.le_of_ble_eq_true rfl) ⟨Nat.zero_le _, Nat.zero_le _⟩ dX6_carryOutOrder_155 (fun r_155 u_155 H locs e_155 hP hD hS => ?_)
    have hP : va_P D vwCl (fl ([(h0, .inr (6, [.ref (a0 0), .ref w1, .ref w2, .ref w3, .ref (a4 0), .int w5]))] :: wSt cI a0 u_155 :: wSc cI a4 τ.2 :: [])) H := hP
    have hD : va_D A (fl ([(h0, .inr (6, [.ref (a0 0), .ref w1, .ref w2, .ref w3, .ref (a4 0), .int w5]))] :: wSt cI a0 u_155 :: wSc cI a4 τ.2 :: [])) := hD
    exact hend _ _ _ _ _ _ dX6_carryOutOrder_158 rfl (fX6_carryOutOrder_p0 τ c_7_0 r_155 u_155 e_155) hP hS
  · refine (Decidable.em (τ.2.2.2.2.2.1 = (101 : Int32))).elim (fun c_7_1 => ?_) (fun c_7_1 => ?_)
    · refine lv_tableIn (off := 115) (tgt := 122) hx hb dX6_carryOutOrder_7 (by rw [c_7_1]; decide +kernel) (by rw [c_7_1]; decide +kernel) (by rw [c_7_1]; decide +kernel) (by decide) ?_
      refine lv_aload_n hx hb dX6_carryOutOrder_122 rfl (lv_at hl 0 rfl) ?_
      refine va_get (D := D) (ci := 6) (v := .ref (a0 0)) (C := RX6) (T := TX6) (N := 6) hx hb hts (fun _ h9 => List.mem_cons_of_mem _ (List.mem_append_left _ (List.mem_append_left _ (List.mem_append_left _ (List.mem_append_left _ (List.mem_append_left _ (List.mem_append_right _ h9))))))) hown hE.1 hP 0 rfl rfl 0 (by decide) (hts (.fieldLink RX6 10 "ShadowTable" "state" "LShadowTable$State;") (List.mem_of_getElem? (i := 2) rfl)) (fun _ h9 => h9) rfl dX6_carryOutOrder_123 ?_
      refine lv_aload_n hx hb dX6_carryOutOrder_126 rfl (lv_at hl 0 rfl) ?_
      refine va_get (D := D) (ci := 6) (v := .ref (a4 0)) (C := RX6) (T := TX6) (N := 6) hx hb hts (fun _ h9 => List.mem_cons_of_mem _ (List.mem_append_left _ (List.mem_append_left _ (List.mem_append_left _ (List.mem_append_left _ (List.mem_append_left _ (List.mem_append_right _ h9))))))) hown hE.1 hP 0 rfl rfl 4 (by decide) (hts (.fieldLink RX6 32 "ShadowTable" "script" "LShadowTable$Script;") (List.mem_of_getElem? (i := 1) rfl)) (fun _ h9 => h9) rfl dX6_carryOutOrder_127 ?_
      refine va_getN (D := D) (ci := 4) (v := .int τ.2.2.2.2.2.2.1) (C := RX4) (T := TX4) (N := 7) hx hb hts (fun _ h9 => List.mem_cons_of_mem _ (List.mem_append_left _ (List.mem_append_left _ (List.mem_append_left _ (List.mem_append_left _ (List.mem_append_right _ h9)))))) hown hE.1 hP 14 rfl rfl 5 (by decide) (hE.2.f 18 rfl) (fun _ h9 => h9) rfl dX6_carryOutOrder_130 ?_
      refine bIV (wc := [wSt cI a0 τ.1]) (w1 := fun (u : StT) => [wSt cI a0 u]) ⟨hx, hb, hml, hown, hts⟩ (kX5_eraseRow l D cI cS (a0 0) (a0 1) (a0 2) (a0 3) (a0 4) (a0 5) (a0 6) (a0 7) (a0 8) (a0 9) (a0 10) (a0 11) (a0 12) τ.2.2.2.2.2.2.1 τ.1 hw) (cwV 1 hts gX6_carryOutOrder_X5_eraseRow rfl rfl rfl (by decide +kernel) ⟨Nat.le_of_ble_eq_true rfl, Nat.le_of_ble_eq_true rfl⟩) hE hP hD hS rfl rfl [1] rfl rfl (fun _ => rfl) (fun _ => rfl) rfl hl.1 rfl (Nat.le_of_ble_eq_true rfl) ⟨Nat.zero_le _, Nat.zero_le _⟩ dX6_carryOutOrder_133 (fun r_133 u_133 H locs e_133 hP hD hS => ?_)
      have hP : va_P D vwCl (fl ([(h0, .inr (6, [.ref (a0 0), .ref w1, .ref w2, .ref w3, .ref (a4 0), .int w5]))] :: wSt cI a0 u_133 :: wSc cI a4 τ.2 :: [])) H := hP
      have hD : va_D A (fl ([(h0, .inr (6, [.ref (a0 0), .ref w1, .ref w2, .ref w3, .ref (a4 0), .int w5]))] :: wSt cI a0 u_133 :: wSc cI a4 τ.2 :: [])) := hD
      exact hend _ _ _ _ _ _ dX6_carryOutOrder_136 rfl (fX6_carryOutOrder_p1 τ c_7_0 c_7_1 r_133 u_133 e_133) hP hS
    · refine (Decidable.em (τ.2.2.2.2.2.1 = (108 : Int32))).elim (fun c_7_2 => ?_) (fun c_7_2 => ?_)
      · refine lv_tableIn (off := 167) (tgt := 174) hx hb dX6_carryOutOrder_7 (by rw [c_7_2]; decide +kernel) (by rw [c_7_2]; decide +kernel) (by rw [c_7_2]; decide +kernel) (by decide) ?_
        refine lv_aload_n hx hb dX6_carryOutOrder_174 rfl (lv_at hl 0 rfl) ?_
        refine va_get (D := D) (ci := 6) (v := .ref (a0 0)) (C := RX6) (T := TX6) (N := 6) hx hb hts (fun _ h9 => List.mem_cons_of_mem _ (List.mem_append_left _ (List.mem_append_left _ (List.mem_append_left _ (List.mem_append_left _ (List.mem_append_left _ (List.mem_append_right _ h9))))))) hown hE.1 hP 0 rfl rfl 0 (by decide) (hts (.fieldLink RX6 10 "ShadowTable" "state" "LShadowTable$State;") (List.mem_of_getElem? (i := 2) rfl)) (fun _ h9 => h9) rfl dX6_carryOutOrder_175 ?_
        refine bIV (wc := [wSt cI a0 τ.1]) (w1 := fun (u : StT) => [wSt cI a0 u]) ⟨hx, hb, hml, hown, hts⟩ (kX5_lockLive l D cI cS (a0 0) (a0 1) (a0 2) (a0 3) (a0 4) (a0 5) (a0 6) (a0 7) (a0 8) (a0 9) (a0 10) (a0 11) (a0 12) τ.1) (cwV 0 hts gX6_carryOutOrder_X5_lockLive rfl rfl rfl (by decide +kernel) ⟨Nat.le_of_ble_eq_true rfl, Nat.le_of_ble_eq_true rfl⟩) hE hP hD hS rfl rfl [1] rfl rfl (fun _ => rfl) (fun _ => rfl) rfl hl.1 rfl (Nat.le_of_ble_eq_true rfl) ⟨Nat.zero_le _, Nat.zero_le _⟩ dX6_carryOutOrder_178 (fun r_178 u_178 H locs e_178 hP hD hS => ?_)
        have hP : va_P D vwCl (fl ([(h0, .inr (6, [.ref (a0 0), .ref w1, .ref w2, .ref w3, .ref (a4 0), .int w5]))] :: wSt cI a0 u_178 :: wSc cI a4 τ.2 :: [])) H := hP
        have hD : va_D A (fl ([(h0, .inr (6, [.ref (a0 0), .ref w1, .ref w2, .ref w3, .ref (a4 0), .int w5]))] :: wSt cI a0 u_178 :: wSc cI a4 τ.2 :: [])) := hD
        exact hend _ _ _ _ _ _ dX6_carryOutOrder_181 rfl (fX6_carryOutOrder_p2 τ c_7_0 c_7_1 c_7_2 r_178 u_178 e_178) hP hS
      · refine (Decidable.em (τ.2.2.2.2.2.1 = (112 : Int32))).elim (fun c_7_3 => ?_) (fun c_7_3 => ?_)
        · refine lv_tableIn (off := 93) (tgt := 100) hx hb dX6_carryOutOrder_7 (by rw [c_7_3]; decide +kernel) (by rw [c_7_3]; decide +kernel) (by rw [c_7_3]; decide +kernel) (by decide) ?_
          refine lv_aload_n hx hb dX6_carryOutOrder_100 rfl (lv_at hl 0 rfl) ?_
          refine va_get (D := D) (ci := 6) (v := .ref (a0 0)) (C := RX6) (T := TX6) (N := 6) hx hb hts (fun _ h9 => List.mem_cons_of_mem _ (List.mem_append_left _ (List.mem_append_left _ (List.mem_append_left _ (List.mem_append_left _ (List.mem_append_left _ (List.mem_append_right _ h9))))))) hown hE.1 hP 0 rfl rfl 0 (by decide) (hts (.fieldLink RX6 10 "ShadowTable" "state" "LShadowTable$State;") (List.mem_of_getElem? (i := 2) rfl)) (fun _ h9 => h9) rfl dX6_carryOutOrder_101 ?_
          refine lv_aload_n hx hb dX6_carryOutOrder_104 rfl (lv_at hl 0 rfl) ?_
          refine va_get (D := D) (ci := 6) (v := .ref (a4 0)) (C := RX6) (T := TX6) (N := 6) hx hb hts (fun _ h9 => List.mem_cons_of_mem _ (List.mem_append_left _ (List.mem_append_left _ (List.mem_append_left _ (List.mem_append_left _ (List.mem_append_left _ (List.mem_append_right _ h9))))))) hown hE.1 hP 0 rfl rfl 4 (by decide) (hts (.fieldLink RX6 32 "ShadowTable" "script" "LShadowTable$Script;") (List.mem_of_getElem? (i := 1) rfl)) (fun _ h9 => h9) rfl dX6_carryOutOrder_105 ?_
          refine va_getN (D := D) (ci := 4) (v := .int τ.2.2.2.2.2.2.1) (C := RX4) (T := TX4) (N := 7) hx hb hts (fun _ h9 => List.mem_cons_of_mem _ (List.mem_append_left _ (List.mem_append_left _ (List.mem_append_left _ (List.mem_append_left _ (List.mem_append_right _ h9)))))) hown hE.1 hP 14 rfl rfl 5 (by decide) (hE.2.f 18 rfl) (fun _ h9 => h9) rfl dX6_carryOutOrder_108 ?_
          refine lv_aload_n hx hb dX6_carryOutOrder_111 rfl (lv_at hl 0 rfl) ?_
          refine va_get (D := D) (ci := 6) (v := .ref (a4 0)) (C := RX6) (T := TX6) (N := 6) hx hb hts (fun _ h9 => List.mem_cons_of_mem _ (List.mem_append_left _ (List.mem_append_left _ (List.mem_append_left _ (List.mem_append_left _ (List.mem_append_left _ (List.mem_append_right _ h9))))))) hown hE.1 hP 0 rfl rfl 4 (by decide) (hts (.fieldLink RX6 32 "ShadowTable" "script" "LShadowTable$Script;") (List.mem_of_getElem? (i := 1) rfl)) (fun _ h9 => h9) rfl dX6_carryOutOrder_112 ?_
          refine va_getN (D := D) (ci := 4) (v := .int τ.2.2.2.2.2.2.2) (C := RX4) (T := TX4) (N := 7) hx hb hts (fun _ h9 => List.mem_cons_of_mem _ (List.mem_append_left _ (List.mem_append_left _ (List.mem_append_left _ (List.mem_append_left _ (List.mem_append_right _ h9)))))) hown hE.1 hP 14 rfl rfl 6 (by decide) (hE.2.f 19 rfl) (fun _ h9 => h9) rfl dX6_carryOutOrder_115 ?_
          refine bIV (wc := [wSt cI a0 τ.1]) (w1 := fun (u : StT) => [wSt cI a0 u]) ⟨hx, hb, hml, hown, hts⟩ (kX5_putRow l D cI cS (a0 0) (a0 1) (a0 2) (a0 3) (a0 4) (a0 5) (a0 6) (a0 7) (a0 8) (a0 9) (a0 10) (a0 11) (a0 12) τ.2.2.2.2.2.2.1 τ.2.2.2.2.2.2.2 τ.1 hw) (cwV 2 hts gX6_carryOutOrder_X5_putRow rfl rfl rfl (by decide +kernel) ⟨Nat.le_of_ble_eq_true rfl, Nat.le_of_ble_eq_true rfl⟩) hE hP hD hS rfl rfl [1] rfl rfl (fun _ => rfl) (fun _ => rfl) rfl hl.1 rfl (Nat.le_of_ble_eq_true rfl) ⟨Nat.zero_le _, Nat.zero_le _⟩ dX6_carryOutOrder_118 (fun r_118 u_118 H locs e_118 hP hD hS => ?_)
          have hP : va_P D vwCl (fl ([(h0, .inr (6, [.ref (a0 0), .ref w1, .ref w2, .ref w3, .ref (a4 0), .int w5]))] :: wSt cI a0 u_118 :: wSc cI a4 τ.2 :: [])) H := hP
          have hD : va_D A (fl ([(h0, .inr (6, [.ref (a0 0), .ref w1, .ref w2, .ref w3, .ref (a4 0), .int w5]))] :: wSt cI a0 u_118 :: wSc cI a4 τ.2 :: [])) := hD
          exact hend _ _ _ _ _ _ dX6_carryOutOrder_121 rfl (fX6_carryOutOrder_p3 τ c_7_0 c_7_1 c_7_2 c_7_3 r_118 u_118 e_118) hP hS
        · refine (Decidable.em (τ.2.2.2.2.2.1 = (115 : Int32))).elim (fun c_7_4 => ?_) (fun c_7_4 => ?_)
          · refine lv_tableIn (off := 183) (tgt := 190) hx hb dX6_carryOutOrder_7 (by rw [c_7_4]; decide +kernel) (by rw [c_7_4]; decide +kernel) (by rw [c_7_4]; decide +kernel) (by decide) ?_
            refine lv_aload_n hx hb dX6_carryOutOrder_190 rfl (lv_at hl 0 rfl) ?_
            refine va_get (D := D) (ci := 6) (v := .ref (a0 0)) (C := RX6) (T := TX6) (N := 6) hx hb hts (fun _ h9 => List.mem_cons_of_mem _ (List.mem_append_left _ (List.mem_append_left _ (List.mem_append_left _ (List.mem_append_left _ (List.mem_append_left _ (List.mem_append_right _ h9))))))) hown hE.1 hP 0 rfl rfl 0 (by decide) (hts (.fieldLink RX6 10 "ShadowTable" "state" "LShadowTable$State;") (List.mem_of_getElem? (i := 2) rfl)) (fun _ h9 => h9) rfl dX6_carryOutOrder_191 ?_
            refine bIV (wc := [wSt cI a0 τ.1]) (w1 := fun (u : StT) => [wSt cI a0 u]) ⟨hx, hb, hml, hown, hts⟩ (kX5_swapTables l D cI cS (a0 0) (a0 1) (a0 2) (a0 3) (a0 4) (a0 5) (a0 6) (a0 7) (a0 8) (a0 9) (a0 10) (a0 11) (a0 12) τ.1) (cwV 0 hts gX6_carryOutOrder_X5_swapTables rfl rfl rfl (by decide +kernel) ⟨Nat.le_of_ble_eq_true rfl, Nat.le_of_ble_eq_true rfl⟩) hE hP hD hS rfl rfl [1] rfl rfl (fun _ => rfl) (fun _ => rfl) rfl hl.1 rfl (Nat.le_of_ble_eq_true rfl) ⟨Nat.zero_le _, Nat.zero_le _⟩ dX6_carryOutOrder_194 (fun r_194 u_194 H locs e_194 hP hD hS => ?_)
            have hP : va_P D vwCl (fl ([(h0, .inr (6, [.ref (a0 0), .ref w1, .ref w2, .ref w3, .ref (a4 0), .int w5]))] :: wSt cI a0 u_194 :: wSc cI a4 τ.2 :: [])) H := hP
            have hD : va_D A (fl ([(h0, .inr (6, [.ref (a0 0), .ref w1, .ref w2, .ref w3, .ref (a4 0), .int w5]))] :: wSt cI a0 u_194 :: wSc cI a4 τ.2 :: [])) := hD
            exact hend _ _ _ _ _ _ dX6_carryOutOrder_197 rfl (fX6_carryOutOrder_p4 τ c_7_0 c_7_1 c_7_2 c_7_3 c_7_4 r_194 u_194 e_194) hP hS
          · refine (Decidable.em (τ.2.2.2.2.2.1 = (116 : Int32))).elim (fun c_7_5 => ?_) (fun c_7_5 => ?_)
            · refine lv_tableIn (off := 152) (tgt := 159) hx hb dX6_carryOutOrder_7 (by rw [c_7_5]; decide +kernel) (by rw [c_7_5]; decide +kernel) (by rw [c_7_5]; decide +kernel) (by decide) ?_
              refine lv_aload_n hx hb dX6_carryOutOrder_159 rfl (lv_at hl 0 rfl) ?_
              refine va_get (D := D) (ci := 6) (v := .ref (a0 0)) (C := RX6) (T := TX6) (N := 6) hx hb hts (fun _ h9 => List.mem_cons_of_mem _ (List.mem_append_left _ (List.mem_append_left _ (List.mem_append_left _ (List.mem_append_left _ (List.mem_append_left _ (List.mem_append_right _ h9))))))) hown hE.1 hP 0 rfl rfl 0 (by decide) (hts (.fieldLink RX6 10 "ShadowTable" "state" "LShadowTable$State;") (List.mem_of_getElem? (i := 2) rfl)) (fun _ h9 => h9) rfl dX6_carryOutOrder_160 ?_
              refine lv_aload_n hx hb dX6_carryOutOrder_163 rfl (lv_at hl 0 rfl) ?_
              refine va_get (D := D) (ci := 6) (v := .ref (a4 0)) (C := RX6) (T := TX6) (N := 6) hx hb hts (fun _ h9 => List.mem_cons_of_mem _ (List.mem_append_left _ (List.mem_append_left _ (List.mem_append_left _ (List.mem_append_left _ (List.mem_append_left _ (List.mem_append_right _ h9))))))) hown hE.1 hP 0 rfl rfl 4 (by decide) (hts (.fieldLink RX6 32 "ShadowTable" "script" "LShadowTable$Script;") (List.mem_of_getElem? (i := 1) rfl)) (fun _ h9 => h9) rfl dX6_carryOutOrder_164 ?_
              refine va_getN (D := D) (ci := 4) (v := .int τ.2.2.2.2.2.2.1) (C := RX4) (T := TX4) (N := 7) hx hb hts (fun _ h9 => List.mem_cons_of_mem _ (List.mem_append_left _ (List.mem_append_left _ (List.mem_append_left _ (List.mem_append_left _ (List.mem_append_right _ h9)))))) hown hE.1 hP 14 rfl rfl 5 (by decide) (hE.2.f 18 rfl) (fun _ h9 => h9) rfl dX6_carryOutOrder_167 ?_
              refine bIV (wc := [wSt cI a0 τ.1]) (w1 := fun (u : StT) => [wSt cI a0 u]) ⟨hx, hb, hml, hown, hts⟩ (kX5_makeTicks l D cI cS (a0 0) (a0 1) (a0 2) (a0 3) (a0 4) (a0 5) (a0 6) (a0 7) (a0 8) (a0 9) (a0 10) (a0 11) (a0 12) τ.2.2.2.2.2.2.1 τ.1 hw) (cwV 1 hts gX6_carryOutOrder_X5_makeTicks rfl rfl rfl (by decide +kernel) ⟨Nat.le_of_ble_eq_true rfl, Nat.le_of_ble_eq_true rfl⟩) hE hP hD hS rfl rfl [1] rfl rfl (fun _ => rfl) (fun _ => rfl) rfl hl.1 rfl (Nat.le_of_ble_eq_true rfl) ⟨Nat.zero_le _, Nat.zero_le _⟩ dX6_carryOutOrder_170 (fun r_170 u_170 H locs e_170 hP hD hS => ?_)
              have hP : va_P D vwCl (fl ([(h0, .inr (6, [.ref (a0 0), .ref w1, .ref w2, .ref w3, .ref (a4 0), .int w5]))] :: wSt cI a0 u_170 :: wSc cI a4 τ.2 :: [])) H := hP
              have hD : va_D A (fl ([(h0, .inr (6, [.ref (a0 0), .ref w1, .ref w2, .ref w3, .ref (a4 0), .int w5]))] :: wSt cI a0 u_170 :: wSc cI a4 τ.2 :: [])) := hD
              exact hend _ _ _ _ _ _ dX6_carryOutOrder_173 rfl (fX6_carryOutOrder_p5 τ c_7_0 c_7_1 c_7_2 c_7_3 c_7_4 c_7_5 r_170 u_170 e_170) hP hS
            · refine (Decidable.em (τ.2.2.2.2.2.1 = (117 : Int32))).elim (fun c_7_6 => ?_) (fun c_7_6 => ?_)
              · refine lv_tableIn (off := 175) (tgt := 182) hx hb dX6_carryOutOrder_7 (by rw [c_7_6]; decide +kernel) (by rw [c_7_6]; decide +kernel) (by rw [c_7_6]; decide +kernel) (by decide) ?_
                refine lv_aload_n hx hb dX6_carryOutOrder_182 rfl (lv_at hl 0 rfl) ?_
                refine va_get (D := D) (ci := 6) (v := .ref (a0 0)) (C := RX6) (T := TX6) (N := 6) hx hb hts (fun _ h9 => List.mem_cons_of_mem _ (List.mem_append_left _ (List.mem_append_left _ (List.mem_append_left _ (List.mem_append_left _ (List.mem_append_left _ (List.mem_append_right _ h9))))))) hown hE.1 hP 0 rfl rfl 0 (by decide) (hts (.fieldLink RX6 10 "ShadowTable" "state" "LShadowTable$State;") (List.mem_of_getElem? (i := 2) rfl)) (fun _ h9 => h9) rfl dX6_carryOutOrder_183 ?_
                refine bIV (wc := [wSt cI a0 τ.1]) (w1 := fun (u : StT) => [wSt cI a0 u]) ⟨hx, hb, hml, hown, hts⟩ (kX5_unlockLive l D cI cS (a0 0) (a0 1) (a0 2) (a0 3) (a0 4) (a0 5) (a0 6) (a0 7) (a0 8) (a0 9) (a0 10) (a0 11) (a0 12) τ.1) (cwV 0 hts gX6_carryOutOrder_X5_unlockLive rfl rfl rfl (by decide +kernel) ⟨Nat.le_of_ble_eq_true rfl, Nat.le_of_ble_eq_true rfl⟩) hE hP hD hS rfl rfl [1] rfl rfl (fun _ => rfl) (fun _ => rfl) rfl hl.1 rfl (Nat.le_of_ble_eq_true rfl) ⟨Nat.zero_le _, Nat.zero_le _⟩ dX6_carryOutOrder_186 (fun r_186 u_186 H locs e_186 hP hD hS => ?_)
                have hP : va_P D vwCl (fl ([(h0, .inr (6, [.ref (a0 0), .ref w1, .ref w2, .ref w3, .ref (a4 0), .int w5]))] :: wSt cI a0 u_186 :: wSc cI a4 τ.2 :: [])) H := hP
                have hD : va_D A (fl ([(h0, .inr (6, [.ref (a0 0), .ref w1, .ref w2, .ref w3, .ref (a4 0), .int w5]))] :: wSt cI a0 u_186 :: wSc cI a4 τ.2 :: [])) := hD
                exact hend _ _ _ _ _ _ dX6_carryOutOrder_189 rfl (fX6_carryOutOrder_p6 τ c_7_0 c_7_1 c_7_2 c_7_3 c_7_4 c_7_5 c_7_6 r_186 u_186 e_186) hP hS
              · refine xtabD (tgt := 198) hx hb dX6_carryOutOrder_7 (xno_cons (a := 98) c_7_0 (by decide) (xno_cons (a := 101) c_7_1 (by decide) (xno_cons (a := 108) c_7_2 (by decide) (xno_cons (a := 112) c_7_3 (by decide) (xno_cons (a := 115) c_7_4 (by decide) (xno_cons (a := 116) c_7_5 (by decide) (xno_cons (a := 117) c_7_6 (by decide) xno_nil))))))) (by decide +kernel) (by decide) ?_
                refine lv_aload_n hx hb dX6_carryOutOrder_198 rfl (lv_at hl 0 rfl) ?_
                refine va_get (D := D) (ci := 6) (v := .ref (a0 0)) (C := RX6) (T := TX6) (N := 6) hx hb hts (fun _ h9 => List.mem_cons_of_mem _ (List.mem_append_left _ (List.mem_append_left _ (List.mem_append_left _ (List.mem_append_left _ (List.mem_append_left _ (List.mem_append_right _ h9))))))) hown hE.1 hP 0 rfl rfl 0 (by decide) (hts (.fieldLink RX6 10 "ShadowTable" "state" "LShadowTable$State;") (List.mem_of_getElem? (i := 2) rfl)) (fun _ h9 => h9) rfl dX6_carryOutOrder_199 ?_
                refine bIV (wc := [wSt cI a0 τ.1]) (w1 := fun (u : StT) => [wSt cI a0 u]) ⟨hx, hb, hml, hown, hts⟩ (kX5_giveCopyUp l D cI cS (a0 0) (a0 1) (a0 2) (a0 3) (a0 4) (a0 5) (a0 6) (a0 7) (a0 8) (a0 9) (a0 10) (a0 11) (a0 12) τ.1) (cwV 0 hts gX6_carryOutOrder_X5_giveCopyUp rfl rfl rfl (by decide +kernel) ⟨Nat.le_of_ble_eq_true rfl, Nat.le_of_ble_eq_true rfl⟩) hE hP hD hS rfl rfl [1] rfl rfl (fun _ => rfl) (fun _ => rfl) rfl hl.1 rfl (Nat.le_of_ble_eq_true rfl) ⟨Nat.zero_le _, Nat.zero_le _⟩ dX6_carryOutOrder_202 (fun r_202 u_202 H locs e_202 hP hD hS => ?_)
                have hP : va_P D vwCl (fl ([(h0, .inr (6, [.ref (a0 0), .ref w1, .ref w2, .ref w3, .ref (a4 0), .int w5]))] :: wSt cI a0 u_202 :: wSc cI a4 τ.2 :: [])) H := hP
                have hD : va_D A (fl ([(h0, .inr (6, [.ref (a0 0), .ref w1, .ref w2, .ref w3, .ref (a4 0), .int w5]))] :: wSt cI a0 u_202 :: wSc cI a4 τ.2 :: [])) := hD
                exact hend _ _ _ _ _ _ dX6_carryOutOrder_205 rfl (fX6_carryOutOrder_p7 τ c_7_0 c_7_1 c_7_2 c_7_3 c_7_4 c_7_5 c_7_6 r_202 u_202 e_202) hP hS

theorem co_all (τ : TOT) (hw : WS τ.1) : (fX6_carryOutOrder τ).2.2 = τ.2 ∧ WS (fX6_carryOutOrder τ).2.1 := by
  unfold fX6_carryOutOrder
  by_cases c0 : τ.2.2.2.2.2.1 = (98 : Int32)
  · rw [if_pos c0]
    generalize e : fX5_beginCopy _ _ _ = q
    obtain ⟨r, u⟩ := q
    exact ⟨rfl, ws_begin e hw⟩
  · rw [if_neg c0]
    by_cases c1 : τ.2.2.2.2.2.1 = (101 : Int32)
    · rw [if_pos c1]
      generalize e : fX5_eraseRow _ _ = q
      obtain ⟨r, u⟩ := q
      exact ⟨rfl, ws_erase e hw⟩
    · rw [if_neg c1]
      by_cases c2 : τ.2.2.2.2.2.1 = (108 : Int32)
      · rw [if_pos c2]
        generalize e : fX5_lockLive _ = q
        obtain ⟨r, u⟩ := q
        exact ⟨rfl, ws_lock e hw⟩
      · rw [if_neg c2]
        by_cases c3 : τ.2.2.2.2.2.1 = (112 : Int32)
        · rw [if_pos c3]
          generalize e : fX5_putRow _ _ _ = q
          obtain ⟨r, u⟩ := q
          exact ⟨rfl, ws_put e hw⟩
        · rw [if_neg c3]
          by_cases c4 : τ.2.2.2.2.2.1 = (115 : Int32)
          · rw [if_pos c4]
            generalize e : fX5_swapTables _ = q
            obtain ⟨r, u⟩ := q
            exact ⟨rfl, ws_swap e hw⟩
          · rw [if_neg c4]
            by_cases c5 : τ.2.2.2.2.2.1 = (116 : Int32)
            · rw [if_pos c5]
              generalize e : fX5_makeTicks _ _ = q
              obtain ⟨r, u⟩ := q
              exact ⟨rfl, ws_ticks e hw⟩
            · rw [if_neg c5]
              by_cases c6 : τ.2.2.2.2.2.1 = (117 : Int32)
              · rw [if_pos c6]
                generalize e : fX5_unlockLive _ = q
                obtain ⟨r, u⟩ := q
                exact ⟨rfl, ws_unlock e hw⟩
              · rw [if_neg c6]
                generalize e : fX5_giveCopyUp _ = q
                obtain ⟨r, u⟩ := q
                exact ⟨rfl, ws_giveUp e hw⟩
theorem zz_WS_co {r : Int32} {τ u : TOT} (e : fX6_carryOutOrder τ = (r, u)) (hw : WS τ.1) : WS u.1 := by
  have h := (co_all τ hw).2
  rw [e] at h
  exact h
theorem co_sc {r : Int32} {τ u : TOT} (e : fX6_carryOutOrder τ = (r, u)) (hw : WS τ.1) : u.2 = τ.2 := by
  have h := (co_all τ hw).1
  rw [e] at h
  exact h
theorem zz_WC_co {r : Int32} {τ u : TOT} (e : fX6_carryOutOrder τ = (r, u)) (hw : WS τ.1) (hs : WC τ.2) : WC u.2 := by
  rw [co_sc e hw]
  exact hs
theorem wc_ff6 : ∀ (n k : Nat) (σ : ScT), WC σ → WC (fX4_findFault_6 n k σ).2
  | 0, _, _, h => h
  | n + 1, k, σ, h => by
    unfold fX4_findFault_6
    by_cases c : (80 : Int32) ≤ nI k
    · rw [if_pos c]; exact h
    · rw [if_neg c]
      generalize e1 : fX4_readOrder _ = q1
      obtain ⟨r1, u1⟩ := q1
      have h1 : WC u1 := zz_WC_ro e1 h
      dsimp only
      by_cases c1 : r1 = (0 : Int32)
      · rw [if_pos c1]; exact h1
      · rw [if_neg c1]
        by_cases c2 : u1.2.2.1 < u1.2.1
        · rw [if_pos c2]
          generalize e2 : fX4_skip _ _ = q2
          obtain ⟨r2, u2⟩ := q2
          have h2 : WC u2 := zz_WC_sk e2 h1
          dsimp only
          by_cases c3 : r2 = (0 : Int32)
          · rw [if_pos c3]; exact h2
          · rw [if_neg c3]; exact wc_ff6 n (k + 1) u2 h2
        · rw [if_neg c2]; exact h1
theorem zz_WC_ff {r : Int32} {τ u : ScT} (e : fX4_findFault τ = (r, u)) (hs : WC τ) : WC u := by
  have h : WC (fX4_findFault τ).2 := by
    unfold fX4_findFault
    dsimp only
    exact wc_ff6 81 0 _ (zz_WC_go rfl hs)
  rw [e] at h
  exact h

def fX6_run_46 : Nat → Nat → TXT → Int32 × TXT
  | 0, k, σ => (0, σ)
  | n + 1, k, σ => (if (80 : Int32) ≤ (nI k) then ((80 : Int32), σ) else (match (fX4_readOrder σ.2.2) with | (r_56, u_56) => (if r_56 = (0 : Int32) then ((nI k), (σ.1, σ.2.1, u_56)) else (match (fX6_carryOutOrder (σ.1, u_56)) with | (r_63, u_63) => (if (fX6_isError r_63) = (0 : Int32) then (match (fX4_skip (44 : Int32) u_63.2) with | (r_80, u_80) => (if r_80 = (0 : Int32) then (((nI k) + (1 : Int32)), (u_63.1, σ.2.1, u_80)) else fX6_run_46 n (k + 1) (u_63.1, σ.2.1, u_80))) else ((nI k), (u_63.1, σ.2.1, u_63.2)))))))
def fX6_run (τ : TXT) : Int32 × TXT := (match (fX4_findFault τ.2.2) with | (r_4, u_4) => (if r_4 = (-5 : Int32) then (let u_27 := (fX1_prepare τ.2.1 τ.1); (let u_34 := (fX1_keepPrepared u_27.2); (let u_41 := (fX4_goToStart u_4); fX6_run_46 81 0 (τ.1, (u_27.1, u_34.1, u_34.2), u_41)))) else (((-100 : Int32) - r_4), (τ.1, τ.2.1, u_4))))
theorem fX6_run_46_p0 (n : Nat) (k : Nat) (σ : TXT) (c_49 : (80 : Int32) ≤ (nI k)) : fX6_run_46 (n + 1) k σ = ((80 : Int32), σ) := by
  simp only [fX6_run_46, if_pos c_49]
theorem fX6_run_46_p1 (n : Nat) (k : Nat) (σ : TXT) (c_49 : ¬ (80 : Int32) ≤ (nI k)) (r_56 : Int32) (u_56 : ScT) (e_56 : (fX4_readOrder σ.2.2) = (r_56, u_56)) (c_59 : r_56 = (0 : Int32)) : fX6_run_46 (n + 1) k σ = ((nI k), (σ.1, σ.2.1, u_56)) := by
  simp only [fX6_run_46, if_neg c_49, e_56, if_pos c_59]
theorem fX6_run_46_p2 (n : Nat) (k : Nat) (σ : TXT) (c_49 : ¬ (80 : Int32) ≤ (nI k)) (r_56 : Int32) (u_56 : ScT) (e_56 : (fX4_readOrder σ.2.2) = (r_56, u_56)) (c_59 : ¬ r_56 = (0 : Int32)) (r_63 : Int32) (u_63 : TOT) (e_63 : (fX6_carryOutOrder (σ.1, u_56)) = (r_63, u_63)) (c_69 : (fX6_isError r_63) = (0 : Int32)) (r_80 : Int32) (u_80 : ScT) (e_80 : (fX4_skip (44 : Int32) u_63.2) = (r_80, u_80)) (c_83 : ¬ r_80 = (0 : Int32)) : fX6_run_46 (n + 1) k σ = fX6_run_46 n (k + 1) (u_63.1, σ.2.1, u_80) := by
  simp only [fX6_run_46, if_neg c_49, e_56, if_neg c_59, e_63, if_pos c_69, e_80, if_neg c_83]
theorem fX6_run_46_p3 (n : Nat) (k : Nat) (σ : TXT) (c_49 : ¬ (80 : Int32) ≤ (nI k)) (r_56 : Int32) (u_56 : ScT) (e_56 : (fX4_readOrder σ.2.2) = (r_56, u_56)) (c_59 : ¬ r_56 = (0 : Int32)) (r_63 : Int32) (u_63 : TOT) (e_63 : (fX6_carryOutOrder (σ.1, u_56)) = (r_63, u_63)) (c_69 : (fX6_isError r_63) = (0 : Int32)) (r_80 : Int32) (u_80 : ScT) (e_80 : (fX4_skip (44 : Int32) u_63.2) = (r_80, u_80)) (c_83 : r_80 = (0 : Int32)) : fX6_run_46 (n + 1) k σ = (((nI k) + (1 : Int32)), (u_63.1, σ.2.1, u_80)) := by
  simp only [fX6_run_46, if_neg c_49, e_56, if_neg c_59, e_63, if_pos c_69, e_80, if_pos c_83]
theorem fX6_run_46_p4 (n : Nat) (k : Nat) (σ : TXT) (c_49 : ¬ (80 : Int32) ≤ (nI k)) (r_56 : Int32) (u_56 : ScT) (e_56 : (fX4_readOrder σ.2.2) = (r_56, u_56)) (c_59 : ¬ r_56 = (0 : Int32)) (r_63 : Int32) (u_63 : TOT) (e_63 : (fX6_carryOutOrder (σ.1, u_56)) = (r_63, u_63)) (c_69 : ¬ (fX6_isError r_63) = (0 : Int32)) : fX6_run_46 (n + 1) k σ = ((nI k), (u_63.1, σ.2.1, u_63.2)) := by
  simp only [fX6_run_46, if_neg c_49, e_56, if_neg c_59, e_63, if_neg c_69]
theorem fX6_run_p5 (τ : TXT) (r_4 : Int32) (u_4 : ScT) (e_4 : (fX4_findFault τ.2.2) = (r_4, u_4)) (c_11 : r_4 = (-5 : Int32)) (u_27 : HiT) (e_27 : (fX1_prepare τ.2.1 τ.1) = u_27) (u_34 : HsT) (e_34 : (fX1_keepPrepared u_27.2) = u_34) (u_41 : ScT) (e_41 : (fX4_goToStart u_4) = u_41) : (fX6_run τ) = fX6_run_46 81 0 (τ.1, (u_27.1, u_34.1, u_34.2), u_41) := by
  simp only [fX6_run, e_4, if_pos c_11, e_27, e_34, e_41]
theorem fX6_run_p6 (τ : TXT) (r_4 : Int32) (u_4 : ScT) (e_4 : (fX4_findFault τ.2.2) = (r_4, u_4)) (c_11 : ¬ r_4 = (-5 : Int32)) : (fX6_run τ) = (((-100 : Int32) - r_4), (τ.1, τ.2.1, u_4)) := by
  simp only [fX6_run, e_4, if_neg c_11]
set_option maxHeartbeats 4000000 in
set_option maxRecDepth 100000 in
theorem kX6_run (l : Launch) (D : va_G) (cI cS : ClassId) (h0 : Nat) (a0 : Nat → Nat) (a3 : Nat → Nat) (a4 : Nat → Nat) (b3 : Nat → Nat → Nat) (w1 : Nat) (w2 : Nat) (w5 : Int32) (τ : TXT) (hw : WS τ.1) (hh : WH τ.2.1) (hs : WC τ.2.2) : KI l yX6_run wsX6_run { frames := 6, cells := 0, slots := 0, locals := 130 } D (tysA cI cS) [.ref h0] (fl ([(h0, .inr (6, [.ref (a0 0), .ref w1, .ref w2, .ref (a3 0), .ref (a4 0), .int w5]))] :: wSt cI a0 τ.1 :: wHi cI cS a3 b3 τ.2.1 (wSc cI a4 τ.2.2 :: []))) (fX6_run τ) (fun u => (fl ([(h0, .inr (6, [.ref (a0 0), .ref w1, .ref w2, .ref (a3 0), .ref (a4 0), .int w5]))] :: wSt cI a0 u.1 :: wHi cI cS a3 b3 u.2.1 (wSc cI a4 u.2.2 :: [])))) := by
  refine KI.of (cc := cX6_run) (maxL := 3) (ty := .int) (by decide) rfl (Nat.le_of_ble_eq_true rfl) rfl (fun p e s m args below meth c ls Q A hx hb hml hown hts hE hP hD hS hl hend => ?_)
  have hown : s.vm.findClass RX6 = some m.cls := hown
  have hl : lv_has ls 3 [(0, .ref h0)] := hl
  have loop_46 : ∀ (n : Nat) (k : Nat) (σ : TXT), WS σ.1 → WC σ.2.2 → k ≤ 80 → 80 - k < n → (fX6_run τ) = fX6_run_46 n k σ → ∀ (H : Heap) (locs : List Loc), va_P D vwCl (fl ([(h0, .inr (6, [.ref (a0 0), .ref w1, .ref w2, .ref (a3 0), .ref (a4 0), .int w5]))] :: wSt cI a0 σ.1 :: wHi cI cS a3 b3 σ.2.1 (wSc cI a4 σ.2.2 :: []))) H → va_D A (fl ([(h0, .inr (6, [.ref (a0 0), .ref w1, .ref w2, .ref (a3 0), .ref (a4 0), .int w5]))] :: wSt cI a0 σ.1 :: wHi cI cS a3 b3 σ.2.1 (wSc cI a4 σ.2.2 :: []))) → va_S A s.heap H locs → ∀ (ls : Array Slot), lv_has ls 3 [(0, .ref h0), (2, .int (nI k))] → W p l e { frames := 6, cells := 0, slots := 0, locals := 130 } s m args below meth c H locs 0 0 Q (F0 m 46 ls []) := by
    intro n
    induction n with
    | zero =>
      intro k σ hw hs hk hn
      exact absurd hn (by omega)
    | succ n ih =>
      intro k σ hw hs hk hn hF H locs hP hD hS ls hl
      refine lv_iload_n hx hb dX6_run_46 rfl (lv_at hl 1 rfl) ?_
      refine lv_bipush (v := (80 : Int32)) hx hb dX6_run_47 (by decide +kernel) ?_
      refine lv_icmp_ge (tgt := 96) hx hb dX6_run_49 (by decide) (fun c_49 => ?_) (fun c_49 => ?_)
      · have d_49 : 80 ≤ k := (nI_leI (a := 80) (b := k) (by omega) (by omega)).mp c_49
        refine lv_bipush (v := (80 : Int32)) hx hb dX6_run_96 (by decide +kernel) ?_
        exact hend _ _ _ _ _ _ dX6_run_98 rfl (hF.trans (fX6_run_46_p0 n k σ c_49)) hP hS
      · have d_49 : k < 80 := Nat.lt_of_not_le (fun q => c_49 ((nI_leI (a := 80) (b := k) (by omega) (by omega)).mpr q))
        refine lv_aload_n hx hb dX6_run_52 rfl (lv_at hl 0 rfl) ?_
        refine va_get (D := D) (ci := 6) (v := .ref (a4 0)) (C := RX6) (T := TX6) (N := 6) hx hb hts (fun _ h9 => List.mem_cons_of_mem _ (List.mem_append_left _ (List.mem_append_left _ (List.mem_append_left _ (List.mem_append_left _ (List.mem_append_left _ (List.mem_append_left _ (List.mem_append_right _ h9)))))))) hown hE.1 hP 0 rfl rfl 4 (by decide) (hts (.fieldLink RX6 32 "ShadowTable" "script" "LShadowTable$Script;") (List.mem_of_getElem? (i := 1) rfl)) (fun _ h9 => h9) rfl dX6_run_53 ?_
        refine bIV (wc := [wSc cI a4 σ.2.2]) (w1 := fun (u : ScT) => [wSc cI a4 u]) ⟨hx, hb, hml, hown, hts⟩ (kX4_readOrder l D cI cS (a4 0) (a4 1) σ.2.2 hs) (cwV 0 hts gX6_run_X4_readOrder rfl rfl rfl (by decide +kernel) ⟨Nat.le_of_ble_eq_true rfl, Nat.le_of_ble_eq_true rfl⟩) hE hP hD hS rfl rfl [10] rfl rfl (fun _ => rfl) (fun _ => rfl) rfl hl.1 rfl (Nat.le_of_ble_eq_true rfl) ⟨Nat.zero_le _, Nat.zero_le _⟩ dX6_run_56 (fun r_56 u_56 H locs e_56 hP hD hS => ?_)
        have hP : va_P D vwCl (fl ([(h0, .inr (6, [.ref (a0 0), .ref w1, .ref w2, .ref (a3 0), .ref (a4 0), .int w5]))] :: wSt cI a0 σ.1 :: wHi cI cS a3 b3 σ.2.1 (wSc cI a4 u_56 :: []))) H := hP
        have hD : va_D A (fl ([(h0, .inr (6, [.ref (a0 0), .ref w1, .ref w2, .ref (a3 0), .ref (a4 0), .int w5]))] :: wSt cI a0 σ.1 :: wHi cI cS a3 b3 σ.2.1 (wSc cI a4 u_56 :: []))) := hD
        refine lv_if_eq (tgt := 72) hx hb dX6_run_59 (by decide) (fun c_59 => ?_) (fun c_59 => ?_)
        · refine lv_iload_n hx hb dX6_run_72 rfl (lv_at hl 1 rfl) ?_
          exact hend _ _ _ _ _ _ dX6_run_73 rfl (hF.trans (fX6_run_46_p1 n k σ c_49 r_56 u_56 e_56 c_59)) hP hS
        · refine lv_aload_n hx hb dX6_run_62 rfl (lv_at hl 0 rfl) ?_
          refine bIV (wc := ([(h0, .inr (6, [.ref (a0 0), .ref w1, .ref w2, .ref (a3 0), .ref (a4 0), .int w5]))] :: wSt cI a0 ((σ.1, u_56).1) :: wSc cI a4 ((σ.1, u_56).2) :: [])) (w1 := fun (u : TOT) => ([(h0, .inr (6, [.ref (a0 0), .ref w1, .ref w2, .ref (a3 0), .ref (a4 0), .int w5]))] :: wSt cI a0 u.1 :: wSc cI a4 u.2 :: [])) ⟨hx, hb, hml, hown, hts⟩ (kX6_carryOutOrder l D cI cS h0 a0 a4 w1 w2 (a3 0) w5 (σ.1, u_56) hw) (cwV 0 hts gX6_run_X6_carryOutOrder rfl rfl rfl (by decide +kernel) ⟨Nat.le_of_ble_eq_true rfl, Nat.le_of_ble_eq_true rfl⟩) hE hP hD hS rfl rfl [0, 1, 10] rfl rfl (fun _ => rfl) (fun _ => rfl) rfl hl.1 rfl (Nat.le_of_ble_eq_true rfl) ⟨Nat.zero_le _, Nat.zero_le _⟩ dX6_run_63 (fun r_63 u_63 H locs e_63 hP hD hS => ?_)
          have hP : va_P D vwCl (fl ([(h0, .inr (6, [.ref (a0 0), .ref w1, .ref w2, .ref (a3 0), .ref (a4 0), .int w5]))] :: wSt cI a0 u_63.1 :: wHi cI cS a3 b3 σ.2.1 (wSc cI a4 u_63.2 :: []))) H := hP
          have hD : va_D A (fl ([(h0, .inr (6, [.ref (a0 0), .ref w1, .ref w2, .ref (a3 0), .ref (a4 0), .int w5]))] :: wSt cI a0 u_63.1 :: wHi cI cS a3 b3 σ.2.1 (wSc cI a4 u_63.2 :: []))) := hD
          refine cRS ⟨hx, hb, hml, hown, hts⟩ (kX6_isError l D cI cS r_63) (va_cwS 1 hts gX6_run_X6_isError rfl rfl rfl (by decide +kernel) ⟨Nat.le_of_ble_eq_true rfl, Nat.le_of_ble_eq_true rfl⟩) hE hP [] rfl rfl hl.1 rfl (Nat.le_of_ble_eq_true rfl) ⟨Nat.zero_le _, Nat.zero_le _⟩ dX6_run_66 ?_
          refine lv_if_eq (tgt := 74) hx hb dX6_run_69 (by decide) (fun c_69 => ?_) (fun c_69 => ?_)
          · refine lv_aload_n hx hb dX6_run_74 rfl (lv_at hl 0 rfl) ?_
            refine va_get (D := D) (ci := 6) (v := .ref (a4 0)) (C := RX6) (T := TX6) (N := 6) hx hb hts (fun _ h9 => List.mem_cons_of_mem _ (List.mem_append_left _ (List.mem_append_left _ (List.mem_append_left _ (List.mem_append_left _ (List.mem_append_left _ (List.mem_append_left _ (List.mem_append_right _ h9)))))))) hown hE.1 hP 0 rfl rfl 4 (by decide) (hts (.fieldLink RX6 32 "ShadowTable" "script" "LShadowTable$Script;") (List.mem_of_getElem? (i := 1) rfl)) (fun _ h9 => h9) rfl dX6_run_75 ?_
            refine lv_bipush (v := (44 : Int32)) hx hb dX6_run_78 (by decide +kernel) ?_
            refine bIV (wc := [wSc cI a4 u_63.2]) (w1 := fun (u : ScT) => [wSc cI a4 u]) ⟨hx, hb, hml, hown, hts⟩ (kX4_skip l D cI cS (a4 0) (a4 1) (44 : Int32) u_63.2 (zz_WC_co e_63 hw (zz_WC_ro e_56 hs))) (cwV 1 hts gX6_run_X4_skip rfl rfl rfl (by decide +kernel) ⟨Nat.le_of_ble_eq_true rfl, Nat.le_of_ble_eq_true rfl⟩) hE hP hD hS rfl rfl [10] rfl rfl (fun _ => rfl) (fun _ => rfl) rfl hl.1 rfl (Nat.le_of_ble_eq_true rfl) ⟨Nat.zero_le _, Nat.zero_le _⟩ dX6_run_80 (fun r_80 u_80 H locs e_80 hP hD hS => ?_)
            have hP : va_P D vwCl (fl ([(h0, .inr (6, [.ref (a0 0), .ref w1, .ref w2, .ref (a3 0), .ref (a4 0), .int w5]))] :: wSt cI a0 u_63.1 :: wHi cI cS a3 b3 σ.2.1 (wSc cI a4 u_80 :: []))) H := hP
            have hD : va_D A (fl ([(h0, .inr (6, [.ref (a0 0), .ref w1, .ref w2, .ref (a3 0), .ref (a4 0), .int w5]))] :: wSt cI a0 u_63.1 :: wHi cI cS a3 b3 σ.2.1 (wSc cI a4 u_80 :: []))) := hD
            refine lv_if_ne (tgt := 90) hx hb dX6_run_83 (by decide) (fun c_83 => ?_) (fun c_83 => ?_)
            · refine lv_iinc (v := (nI (k + 1))) (lv' := [(2, .int (nI (k + 1))), (0, .ref h0)]) hx hb dX6_run_90 hl (k := 1) rfl (nI_1 _) (by decide) rfl (fun ls hl => ?_)
              refine lv_goto (tgt := 46) hx hb dX6_run_93 (by decide) ?_
              exact ih (k + 1) (u_63.1, σ.2.1, u_80) (zz_WS_co e_63 hw) (zz_WC_sk e_80 (zz_WC_co e_63 hw (zz_WC_ro e_56 hs))) (by omega) (by omega) (hF.trans (fX6_run_46_p2 n k σ c_49 r_56 u_56 e_56 c_59 r_63 u_63 e_63 c_69 r_80 u_80 e_80 c_83)) _ _ hP hD hS _ (lv_sub hl [1, 0] rfl)
            · refine lv_iload_n hx hb dX6_run_86 rfl (lv_at hl 1 rfl) ?_
              refine lv_iconst (v := (1 : Int32)) hx hb dX6_run_87 (by decide +kernel) ?_
              refine lv_iadd hx hb dX6_run_88 ?_
              exact hend _ _ _ _ _ _ dX6_run_89 rfl (hF.trans (fX6_run_46_p3 n k σ c_49 r_56 u_56 e_56 c_59 r_63 u_63 e_63 c_69 r_80 u_80 e_80 c_83)) hP hS
          · refine lv_iload_n hx hb dX6_run_72 rfl (lv_at hl 1 rfl) ?_
            exact hend _ _ _ _ _ _ dX6_run_73 rfl (hF.trans (fX6_run_46_p4 n k σ c_49 r_56 u_56 e_56 c_59 r_63 u_63 e_63 c_69)) hP hS
  refine lv_aload_n hx hb dX6_run_0 rfl (lv_at hl 0 rfl) ?_
  refine va_get (D := D) (ci := 6) (v := .ref (a4 0)) (C := RX6) (T := TX6) (N := 6) hx hb hts (fun _ h9 => List.mem_cons_of_mem _ (List.mem_append_left _ (List.mem_append_left _ (List.mem_append_left _ (List.mem_append_left _ (List.mem_append_left _ (List.mem_append_left _ (List.mem_append_right _ h9)))))))) hown hE.1 hP 0 rfl rfl 4 (by decide) (hts (.fieldLink RX6 32 "ShadowTable" "script" "LShadowTable$Script;") (List.mem_of_getElem? (i := 1) rfl)) (fun _ h9 => h9) rfl dX6_run_1 ?_
  refine bIV (wc := [wSc cI a4 τ.2.2]) (w1 := fun (u : ScT) => [wSc cI a4 u]) ⟨hx, hb, hml, hown, hts⟩ (kX4_findFault l D cI cS (a4 0) (a4 1) τ.2.2 hs) (cwV 0 hts gX6_run_X4_findFault rfl rfl rfl (by decide +kernel) ⟨Nat.le_of_ble_eq_true rfl, Nat.le_of_ble_eq_true rfl⟩) hE hP hD hS rfl rfl [10] rfl rfl (fun _ => rfl) (fun _ => rfl) rfl hl.1 rfl (Nat.le_of_ble_eq_true rfl) ⟨Nat.zero_le _, Nat.zero_le _⟩ dX6_run_4 (fun r_4 u_4 H locs e_4 hP hD hS => ?_)
  have hP : va_P D vwCl (fl ([(h0, .inr (6, [.ref (a0 0), .ref w1, .ref w2, .ref (a3 0), .ref (a4 0), .int w5]))] :: wSt cI a0 τ.1 :: wHi cI cS a3 b3 τ.2.1 (wSc cI a4 u_4 :: []))) H := hP
  have hD : va_D A (fl ([(h0, .inr (6, [.ref (a0 0), .ref w1, .ref w2, .ref (a3 0), .ref (a4 0), .int w5]))] :: wSt cI a0 τ.1 :: wHi cI cS a3 b3 τ.2.1 (wSc cI a4 u_4 :: []))) := hD
  refine lv_istore_n (lv' := [(1, .int r_4), (0, .ref h0)]) hx hb dX6_run_7 rfl hl (by decide) rfl (fun ls hl => ?_)
  refine lv_iload_n hx hb dX6_run_8 rfl (lv_at hl 0 rfl) ?_
  refine lv_bipush (v := (-5 : Int32)) hx hb dX6_run_9 (by decide +kernel) ?_
  refine lv_icmp_eq (tgt := 19) hx hb dX6_run_11 (by decide) (fun c_11 => ?_) (fun c_11 => ?_)
  · refine lv_aload_n hx hb dX6_run_19 rfl (lv_at hl 1 rfl) ?_
    refine va_get (D := D) (ci := 6) (v := .ref (a3 0)) (C := RX6) (T := TX6) (N := 6) hx hb hts (fun _ h9 => List.mem_cons_of_mem _ (List.mem_append_left _ (List.mem_append_left _ (List.mem_append_left _ (List.mem_append_left _ (List.mem_append_left _ (List.mem_append_left _ (List.mem_append_right _ h9)))))))) hown hE.1 hP 0 rfl rfl 3 (by decide) (hts (.fieldLink RX6 25 "ShadowTable" "history" "LShadowTable$History;") (List.mem_of_getElem? (i := 2) rfl)) (fun _ h9 => h9) rfl dX6_run_20 ?_
    refine lv_aload_n hx hb dX6_run_23 rfl (lv_at hl 1 rfl) ?_
    refine va_get (D := D) (ci := 6) (v := .ref (a0 0)) (C := RX6) (T := TX6) (N := 6) hx hb hts (fun _ h9 => List.mem_cons_of_mem _ (List.mem_append_left _ (List.mem_append_left _ (List.mem_append_left _ (List.mem_append_left _ (List.mem_append_left _ (List.mem_append_left _ (List.mem_append_right _ h9)))))))) hown hE.1 hP 0 rfl rfl 0 (by decide) (hts (.fieldLink RX6 10 "ShadowTable" "state" "LShadowTable$State;") (List.mem_of_getElem? (i := 3) rfl)) (fun _ h9 => h9) rfl dX6_run_24 ?_
    refine bVV (wc := (wHi cI cS a3 b3 τ.2.1 [wSt cI a0 τ.1])) (w1 := fun (u : HiT) => (wHi cI cS a3 b3 u [wSt cI a0 τ.1])) ⟨hx, hb, hml, hown, hts⟩ (kX1_prepare l D cI cS a3 a0 b3 τ.2.1 τ.1 hh hw.2.2) (cwV 1 hts gX6_run_X1_prepare rfl rfl rfl (by decide +kernel) ⟨Nat.le_of_ble_eq_true rfl, Nat.le_of_ble_eq_true rfl⟩) hE hP hD hS rfl rfl [2, 3, 4, 5, 6, 7, 8, 9, 1] rfl rfl (fun _ => rfl) (fun _ => rfl) rfl hl.1 rfl (Nat.le_of_ble_eq_true rfl) ⟨Nat.zero_le _, Nat.zero_le _⟩ dX6_run_27 (fun u_27 H locs e_27 hP hD hS => ?_)
    have hP : va_P D vwCl (fl ([(h0, .inr (6, [.ref (a0 0), .ref w1, .ref w2, .ref (a3 0), .ref (a4 0), .int w5]))] :: wSt cI a0 τ.1 :: wHi cI cS a3 b3 u_27 (wSc cI a4 u_4 :: []))) H := hP
    have hD : va_D A (fl ([(h0, .inr (6, [.ref (a0 0), .ref w1, .ref w2, .ref (a3 0), .ref (a4 0), .int w5]))] :: wSt cI a0 τ.1 :: wHi cI cS a3 b3 u_27 (wSc cI a4 u_4 :: []))) := hD
    refine lv_aload_n hx hb dX6_run_30 rfl (lv_at hl 1 rfl) ?_
    refine va_get (D := D) (ci := 6) (v := .ref (a3 0)) (C := RX6) (T := TX6) (N := 6) hx hb hts (fun _ h9 => List.mem_cons_of_mem _ (List.mem_append_left _ (List.mem_append_left _ (List.mem_append_left _ (List.mem_append_left _ (List.mem_append_left _ (List.mem_append_left _ (List.mem_append_right _ h9)))))))) hown hE.1 hP 0 rfl rfl 3 (by decide) (hts (.fieldLink RX6 25 "ShadowTable" "history" "LShadowTable$History;") (List.mem_of_getElem? (i := 2) rfl)) (fun _ h9 => h9) rfl dX6_run_31 ?_
    refine bVV (wc := [wHh a3 u_27.2]) (w1 := fun (u : HsT) => [wHh a3 u]) ⟨hx, hb, hml, hown, hts⟩ (kX1_keepPrepared l D cI cS (a3 0) (a3 1) u_27.2) (cwV 0 hts gX6_run_X1_keepPrepared rfl rfl rfl (by decide +kernel) ⟨Nat.le_of_ble_eq_true rfl, Nat.le_of_ble_eq_true rfl⟩) hE hP hD hS rfl rfl [2] rfl rfl (fun _ => rfl) (fun _ => rfl) rfl hl.1 rfl (Nat.le_of_ble_eq_true rfl) ⟨Nat.zero_le _, Nat.zero_le _⟩ dX6_run_34 (fun u_34 H locs e_34 hP hD hS => ?_)
    have hP : va_P D vwCl (fl ([(h0, .inr (6, [.ref (a0 0), .ref w1, .ref w2, .ref (a3 0), .ref (a4 0), .int w5]))] :: wSt cI a0 τ.1 :: wHi cI cS a3 b3 (u_27.1, u_34.1, u_34.2) (wSc cI a4 u_4 :: []))) H := hP
    have hD : va_D A (fl ([(h0, .inr (6, [.ref (a0 0), .ref w1, .ref w2, .ref (a3 0), .ref (a4 0), .int w5]))] :: wSt cI a0 τ.1 :: wHi cI cS a3 b3 (u_27.1, u_34.1, u_34.2) (wSc cI a4 u_4 :: []))) := hD
    refine lv_aload_n hx hb dX6_run_37 rfl (lv_at hl 1 rfl) ?_
    refine va_get (D := D) (ci := 6) (v := .ref (a4 0)) (C := RX6) (T := TX6) (N := 6) hx hb hts (fun _ h9 => List.mem_cons_of_mem _ (List.mem_append_left _ (List.mem_append_left _ (List.mem_append_left _ (List.mem_append_left _ (List.mem_append_left _ (List.mem_append_left _ (List.mem_append_right _ h9)))))))) hown hE.1 hP 0 rfl rfl 4 (by decide) (hts (.fieldLink RX6 32 "ShadowTable" "script" "LShadowTable$Script;") (List.mem_of_getElem? (i := 1) rfl)) (fun _ h9 => h9) rfl dX6_run_38 ?_
    refine bVV (wc := [wSc cI a4 u_4]) (w1 := fun (u : ScT) => [wSc cI a4 u]) ⟨hx, hb, hml, hown, hts⟩ (kX4_goToStart l D cI cS (a4 0) (a4 1) u_4) (cwV 0 hts gX6_run_X4_goToStart rfl rfl rfl (by decide +kernel) ⟨Nat.le_of_ble_eq_true rfl, Nat.le_of_ble_eq_true rfl⟩) hE hP hD hS rfl rfl [10] rfl rfl (fun _ => rfl) (fun _ => rfl) rfl hl.1 rfl (Nat.le_of_ble_eq_true rfl) ⟨Nat.zero_le _, Nat.zero_le _⟩ dX6_run_41 (fun u_41 H locs e_41 hP hD hS => ?_)
    have hP : va_P D vwCl (fl ([(h0, .inr (6, [.ref (a0 0), .ref w1, .ref w2, .ref (a3 0), .ref (a4 0), .int w5]))] :: wSt cI a0 τ.1 :: wHi cI cS a3 b3 (u_27.1, u_34.1, u_34.2) (wSc cI a4 u_41 :: []))) H := hP
    have hD : va_D A (fl ([(h0, .inr (6, [.ref (a0 0), .ref w1, .ref w2, .ref (a3 0), .ref (a4 0), .int w5]))] :: wSt cI a0 τ.1 :: wHi cI cS a3 b3 (u_27.1, u_34.1, u_34.2) (wSc cI a4 u_41 :: []))) := hD
    refine lv_iconst (v := (0 : Int32)) hx hb dX6_run_44 (by decide +kernel) ?_
    refine lv_istore_n (lv' := [(2, .int (0 : Int32)), (1, .int r_4), (0, .ref h0)]) hx hb dX6_run_45 rfl hl (by decide) rfl (fun ls hl => ?_)
    exact loop_46 81 0 (τ.1, (u_27.1, u_34.1, u_34.2), u_41) hw (zz_WC_go e_41 (zz_WC_ff e_4 hs)) (by omega) (by omega) (fX6_run_p5 τ r_4 u_4 e_4 c_11 u_27 e_27 u_34 e_34 u_41 e_41) _ _ hP hD hS _ (lv_sub hl [2, 0] rfl)
  · refine lv_bipush (v := (-100 : Int32)) hx hb dX6_run_14 (by decide +kernel) ?_
    refine lv_iload_n hx hb dX6_run_16 rfl (lv_at hl 0 rfl) ?_
    refine lv_isub hx hb dX6_run_17 ?_
    exact hend _ _ _ _ _ _ dX6_run_18 rfl (fX6_run_p6 τ r_4 u_4 e_4 c_11) hP hS
