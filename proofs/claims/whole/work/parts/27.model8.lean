def fX7_fault (τ : MXT) : Int32 × MXT := (match (fX7_readText (0 : Int32) τ) with | (r_2, u_2) => (if r_2 = (0 : Int32) then (u_2.2.2.2.1, u_2) else ((-5 : Int32), u_2)))
theorem fX7_fault_p0 (τ : MXT) (r_2 : Int32) (u_2 : MXT) (e_2 : (fX7_readText (0 : Int32) τ) = (r_2, u_2)) (c_5 : r_2 = (0 : Int32)) : (fX7_fault τ) = (u_2.2.2.2.1, u_2) := by
  simp only [fX7_fault, e_2, if_pos c_5]
theorem fX7_fault_p1 (τ : MXT) (r_2 : Int32) (u_2 : MXT) (e_2 : (fX7_readText (0 : Int32) τ) = (r_2, u_2)) (c_5 : ¬ r_2 = (0 : Int32)) : (fX7_fault τ) = ((-5 : Int32), u_2) := by
  simp only [fX7_fault, e_2, if_neg c_5]
set_option maxHeartbeats 4000000 in
set_option maxRecDepth 100000 in
theorem kX7_fault (l : Launch) (D : va_G) (cI cS : ClassId) (h0 h1 h2 : Nat) (w1 : Nat) (w2 : Int32) (w3 : Nat) (w4 : Int32) (w5 : Nat) (τ : MXT) (hm : WM τ.1) (hlb : Bd τ.2.2.1 80) : KI l yX7_fault wsX7_fault { frames := 7, cells := 0, slots := 0, locals := 150 } D (tysA cI cS) [.ref h0] [(h0, .inr (7, [.ref h1, .ref w1, .int w2, .ref w3, .int w4, .ref w5, .ref h2, .int τ.2.2.1, .int τ.2.2.2.1, .int τ.2.2.2.2.1, .int τ.2.2.2.2.2.1, .int τ.2.2.2.2.2.2.1, .int τ.2.2.2.2.2.2.2])), (h1, .inl (cI, 163, .inl τ.1)), (h2, .inl (cI, 80, .inl τ.2.1))] (fX7_fault τ) (fun u => [(h0, .inr (7, [.ref h1, .ref w1, .int w2, .ref w3, .int w4, .ref w5, .ref h2, .int u.2.2.1, .int u.2.2.2.1, .int u.2.2.2.2.1, .int u.2.2.2.2.2.1, .int u.2.2.2.2.2.2.1, .int u.2.2.2.2.2.2.2])), (h1, .inl (cI, 163, .inl u.1)), (h2, .inl (cI, 80, .inl u.2.1))]) := by
  refine KI.of (cc := cX7_fault) (maxL := 1) (ty := .int) (by decide) rfl (Nat.le_of_ble_eq_true rfl) rfl (fun p e s m args below meth c ls Q A hx hb hml hown hts hE hP hD hS hl hend => ?_)
  have hown : s.vm.findClass RX7 = some m.cls := hown
  have hl : lv_has ls 1 [(0, .ref h0)] := hl
  refine lv_aload_n hx hb dX7_fault_0 rfl (lv_at hl 0 rfl) ?_
  refine lv_iconst (v := (0 : Int32)) hx hb dX7_fault_1 (by decide +kernel) ?_
  refine cIV ⟨hx, hb, hml, hown, hts⟩ (kX7_readText l D cI cS h0 h1 h2 w1 w2 w3 w4 w5 (0 : Int32) τ hm hlb) (cwV 1 hts gX7_fault_X7_readText rfl rfl rfl (by decide +kernel) ⟨Nat.le_of_ble_eq_true rfl, Nat.le_of_ble_eq_true rfl⟩) hE hP hD hS 0 rfl rfl [0, 1, 2] rfl (by decide) (fun _ => rfl) rfl hl.1 rfl (Nat.le_of_ble_eq_true rfl) ⟨Nat.zero_le _, Nat.zero_le _⟩ dX7_fault_2 (fun r_2 u_2 H locs e_2 hP hD hS => ?_)
  have hP : va_P D vwCl [(h0, .inr (7, [.ref h1, .ref w1, .int w2, .ref w3, .int w4, .ref w5, .ref h2, .int u_2.2.2.1, .int u_2.2.2.2.1, .int u_2.2.2.2.2.1, .int u_2.2.2.2.2.2.1, .int u_2.2.2.2.2.2.2.1, .int u_2.2.2.2.2.2.2.2])), (h1, .inl (cI, 163, .inl u_2.1)), (h2, .inl (cI, 80, .inl u_2.2.1))] H := hP
  have hD : va_D A [(h0, .inr (7, [.ref h1, .ref w1, .int w2, .ref w3, .int w4, .ref w5, .ref h2, .int u_2.2.2.1, .int u_2.2.2.2.1, .int u_2.2.2.2.2.1, .int u_2.2.2.2.2.2.1, .int u_2.2.2.2.2.2.2.1, .int u_2.2.2.2.2.2.2.2])), (h1, .inl (cI, 163, .inl u_2.1)), (h2, .inl (cI, 80, .inl u_2.2.1))] := hD
  refine lv_if_eq (tgt := 13) hx hb dX7_fault_5 (by decide) (fun c_5 => ?_) (fun c_5 => ?_)
  · refine lv_aload_n hx hb dX7_fault_13 rfl (lv_at hl 0 rfl) ?_
    refine va_get (D := D) (ci := 7) (v := .int u_2.2.2.2.1) (C := RX7) (T := TX7) (N := 13) hx hb hts (fun _ h9 => List.mem_cons_of_mem _ (List.mem_append_right _ h9)) hown hE.1 hP 0 rfl rfl 8 (by decide) (hts (.fieldLink RX7 135 "ShadowTableModel" "place" "I") (List.mem_of_getElem? (i := 1) rfl)) (fun _ h9 => h9) rfl dX7_fault_14 ?_
    exact hend _ _ _ _ _ _ dX7_fault_17 rfl (fX7_fault_p0 τ r_2 u_2 e_2 c_5) hP hS
  · refine lv_bipush (v := (-5 : Int32)) hx hb dX7_fault_8 (by decide +kernel) ?_
    refine lv_goto (tgt := 17) hx hb dX7_fault_10 (by decide) ?_
    exact hend _ _ _ _ _ _ dX7_fault_17 rfl (fX7_fault_p1 τ r_2 u_2 e_2 c_5) hP hS

def fX7_run (τ : MRT) : Int32 × MRT := (match (fX7_readText (0 : Int32) (τ.1, τ.2.2.2.1, τ.2.2.2.2.1, τ.2.2.2.2.2.1, τ.2.2.2.2.2.2.1, τ.2.2.2.2.2.2.2.1, τ.2.2.2.2.2.2.2.2.1, τ.2.2.2.2.2.2.2.2.2)) with | (r_2, u_2) => (if r_2 = (0 : Int32) then (((-100 : Int32) - u_2.2.2.2.1), (u_2.1, τ.2.1, τ.2.2.1, u_2.2.1, u_2.2.2.1, u_2.2.2.2.1, u_2.2.2.2.2.1, u_2.2.2.2.2.2.1, u_2.2.2.2.2.2.2.1, u_2.2.2.2.2.2.2.2)) else (let u_17 := (fX7_record (u_2.1, τ.2.1, τ.2.2.1)); (match (fX7_readText (1 : Int32) (u_17.1, u_2.2.1, u_2.2.2.1, u_2.2.2.2.1, u_2.2.2.2.2.1, u_2.2.2.2.2.2.1, u_2.2.2.2.2.2.2.1, u_2.2.2.2.2.2.2.2)) with | (r_22, u_22) => (if r_22 = (0 : Int32) then ((0 : Int32), (u_22.1, u_17.2.1, u_17.2.2, u_22.2.1, u_22.2.2.1, u_22.2.2.2.1, u_22.2.2.2.2.1, u_22.2.2.2.2.2.1, u_22.2.2.2.2.2.2.1, u_22.2.2.2.2.2.2.2)) else (u_22.2.2.2.2.2.2.2, (u_22.1, u_17.2.1, u_17.2.2, u_22.2.1, u_22.2.2.1, u_22.2.2.2.1, u_22.2.2.2.2.1, u_22.2.2.2.2.2.1, u_22.2.2.2.2.2.2.1, u_22.2.2.2.2.2.2.2)))))))
theorem fX7_run_p0 (τ : MRT) (r_2 : Int32) (u_2 : MXT) (e_2 : (fX7_readText (0 : Int32) (τ.1, τ.2.2.2.1, τ.2.2.2.2.1, τ.2.2.2.2.2.1, τ.2.2.2.2.2.2.1, τ.2.2.2.2.2.2.2.1, τ.2.2.2.2.2.2.2.2.1, τ.2.2.2.2.2.2.2.2.2)) = (r_2, u_2)) (c_5 : ¬ r_2 = (0 : Int32)) (u_17 : MHT) (e_17 : (fX7_record (u_2.1, τ.2.1, τ.2.2.1)) = u_17) (r_22 : Int32) (u_22 : MXT) (e_22 : (fX7_readText (1 : Int32) (u_17.1, u_2.2.1, u_2.2.2.1, u_2.2.2.2.1, u_2.2.2.2.2.1, u_2.2.2.2.2.2.1, u_2.2.2.2.2.2.2.1, u_2.2.2.2.2.2.2.2)) = (r_22, u_22)) (c_25 : r_22 = (0 : Int32)) : (fX7_run τ) = ((0 : Int32), (u_22.1, u_17.2.1, u_17.2.2, u_22.2.1, u_22.2.2.1, u_22.2.2.2.1, u_22.2.2.2.2.1, u_22.2.2.2.2.2.1, u_22.2.2.2.2.2.2.1, u_22.2.2.2.2.2.2.2)) := by
  unfold fX7_run
  rw [e_2]
  try dsimp only
  rw [if_neg c_5]
  rw [e_17]
  try dsimp only
  rw [e_22]
  try dsimp only
  rw [if_pos c_25]
theorem fX7_run_p1 (τ : MRT) (r_2 : Int32) (u_2 : MXT) (e_2 : (fX7_readText (0 : Int32) (τ.1, τ.2.2.2.1, τ.2.2.2.2.1, τ.2.2.2.2.2.1, τ.2.2.2.2.2.2.1, τ.2.2.2.2.2.2.2.1, τ.2.2.2.2.2.2.2.2.1, τ.2.2.2.2.2.2.2.2.2)) = (r_2, u_2)) (c_5 : ¬ r_2 = (0 : Int32)) (u_17 : MHT) (e_17 : (fX7_record (u_2.1, τ.2.1, τ.2.2.1)) = u_17) (r_22 : Int32) (u_22 : MXT) (e_22 : (fX7_readText (1 : Int32) (u_17.1, u_2.2.1, u_2.2.2.1, u_2.2.2.2.1, u_2.2.2.2.2.1, u_2.2.2.2.2.2.1, u_2.2.2.2.2.2.2.1, u_2.2.2.2.2.2.2.2)) = (r_22, u_22)) (c_25 : ¬ r_22 = (0 : Int32)) : (fX7_run τ) = (u_22.2.2.2.2.2.2.2, (u_22.1, u_17.2.1, u_17.2.2, u_22.2.1, u_22.2.2.1, u_22.2.2.2.1, u_22.2.2.2.2.1, u_22.2.2.2.2.2.1, u_22.2.2.2.2.2.2.1, u_22.2.2.2.2.2.2.2)) := by
  unfold fX7_run
  rw [e_2]
  try dsimp only
  rw [if_neg c_5]
  rw [e_17]
  try dsimp only
  rw [e_22]
  try dsimp only
  rw [if_neg c_25]
theorem fX7_run_p2 (τ : MRT) (r_2 : Int32) (u_2 : MXT) (e_2 : (fX7_readText (0 : Int32) (τ.1, τ.2.2.2.1, τ.2.2.2.2.1, τ.2.2.2.2.2.1, τ.2.2.2.2.2.2.1, τ.2.2.2.2.2.2.2.1, τ.2.2.2.2.2.2.2.2.1, τ.2.2.2.2.2.2.2.2.2)) = (r_2, u_2)) (c_5 : r_2 = (0 : Int32)) : (fX7_run τ) = (((-100 : Int32) - u_2.2.2.2.1), (u_2.1, τ.2.1, τ.2.2.1, u_2.2.1, u_2.2.2.1, u_2.2.2.2.1, u_2.2.2.2.2.1, u_2.2.2.2.2.2.1, u_2.2.2.2.2.2.2.1, u_2.2.2.2.2.2.2.2)) := by
  unfold fX7_run
  rw [e_2]
  try dsimp only
  rw [if_pos c_5]
set_option maxHeartbeats 4000000 in
set_option maxRecDepth 100000 in
theorem kX7_run (l : Launch) (D : va_G) (cI cS : ClassId) (h0 h1 h2 h3 : Nat) (w3 : Nat) (w4 : Int32) (w5 : Nat) (τ : MRT) (hm : WM τ.1) (hkp : Bd τ.2.2.1 5) (hlb : Bd τ.2.2.2.2.1 80) : KI l yX7_run wsX7_run { frames := 7, cells := 0, slots := 0, locals := 150 } D (tysA cI cS) [.ref h0] [(h0, .inr (7, [.ref h1, .ref h2, .int τ.2.2.1, .ref w3, .int w4, .ref w5, .ref h3, .int τ.2.2.2.2.1, .int τ.2.2.2.2.2.1, .int τ.2.2.2.2.2.2.1, .int τ.2.2.2.2.2.2.2.1, .int τ.2.2.2.2.2.2.2.2.1, .int τ.2.2.2.2.2.2.2.2.2])), (h1, .inl (cI, 163, .inl τ.1)), (h2, .inl (cI, 815, .inl τ.2.1)), (h3, .inl (cI, 80, .inl τ.2.2.2.1))] (fX7_run τ) (fun u => [(h0, .inr (7, [.ref h1, .ref h2, .int u.2.2.1, .ref w3, .int w4, .ref w5, .ref h3, .int u.2.2.2.2.1, .int u.2.2.2.2.2.1, .int u.2.2.2.2.2.2.1, .int u.2.2.2.2.2.2.2.1, .int u.2.2.2.2.2.2.2.2.1, .int u.2.2.2.2.2.2.2.2.2])), (h1, .inl (cI, 163, .inl u.1)), (h2, .inl (cI, 815, .inl u.2.1)), (h3, .inl (cI, 80, .inl u.2.2.2.1))]) := by
  refine KI.of (cc := cX7_run) (maxL := 1) (ty := .int) (by decide) rfl (Nat.le_of_ble_eq_true rfl) rfl (fun p e s m args below meth c ls Q A hx hb hml hown hts hE hP hD hS hl hend => ?_)
  have hown : s.vm.findClass RX7 = some m.cls := hown
  have hl : lv_has ls 1 [(0, .ref h0)] := hl
  refine lv_aload_n hx hb dX7_run_0 rfl (lv_at hl 0 rfl) ?_
  refine lv_iconst (v := (0 : Int32)) hx hb dX7_run_1 (by decide +kernel) ?_
  refine cIV ⟨hx, hb, hml, hown, hts⟩ (kX7_readText l D cI cS h0 h1 h3 h2 τ.2.2.1 w3 w4 w5 (0 : Int32) (τ.1, τ.2.2.2.1, τ.2.2.2.2.1, τ.2.2.2.2.2.1, τ.2.2.2.2.2.2.1, τ.2.2.2.2.2.2.2.1, τ.2.2.2.2.2.2.2.2.1, τ.2.2.2.2.2.2.2.2.2) hm hlb) (cwV 1 hts gX7_run_X7_readText rfl rfl rfl (by decide +kernel) ⟨Nat.le_of_ble_eq_true rfl, Nat.le_of_ble_eq_true rfl⟩) hE hP hD hS 0 rfl rfl [0, 1, 3] rfl (by decide) (fun _ => rfl) rfl hl.1 rfl (Nat.le_of_ble_eq_true rfl) ⟨Nat.zero_le _, Nat.zero_le _⟩ dX7_run_2 (fun r_2 u_2 H locs e_2 hP hD hS => ?_)
  have hP : va_P D vwCl [(h0, .inr (7, [.ref h1, .ref h2, .int τ.2.2.1, .ref w3, .int w4, .ref w5, .ref h3, .int u_2.2.2.1, .int u_2.2.2.2.1, .int u_2.2.2.2.2.1, .int u_2.2.2.2.2.2.1, .int u_2.2.2.2.2.2.2.1, .int u_2.2.2.2.2.2.2.2])), (h1, .inl (cI, 163, .inl u_2.1)), (h2, .inl (cI, 815, .inl τ.2.1)), (h3, .inl (cI, 80, .inl u_2.2.1))] H := hP
  have hD : va_D A [(h0, .inr (7, [.ref h1, .ref h2, .int τ.2.2.1, .ref w3, .int w4, .ref w5, .ref h3, .int u_2.2.2.1, .int u_2.2.2.2.1, .int u_2.2.2.2.2.1, .int u_2.2.2.2.2.2.1, .int u_2.2.2.2.2.2.2.1, .int u_2.2.2.2.2.2.2.2])), (h1, .inl (cI, 163, .inl u_2.1)), (h2, .inl (cI, 815, .inl τ.2.1)), (h3, .inl (cI, 80, .inl u_2.2.1))] := hD
  refine lv_if_ne (tgt := 16) hx hb dX7_run_5 (by decide) (fun c_5 => ?_) (fun c_5 => ?_)
  · refine lv_aload_n hx hb dX7_run_16 rfl (lv_at hl 0 rfl) ?_
    refine cVV ⟨hx, hb, hml, hown, hts⟩ (kX7_record l D cI cS h0 h1 h2 w3 w4 w5 h3 u_2.2.2.1 u_2.2.2.2.1 u_2.2.2.2.2.1 u_2.2.2.2.2.2.1 u_2.2.2.2.2.2.2.1 u_2.2.2.2.2.2.2.2 (u_2.1, τ.2.1, τ.2.2.1) hkp) (cwV 0 hts gX7_run_X7_record rfl rfl rfl (by decide +kernel) ⟨Nat.le_of_ble_eq_true rfl, Nat.le_of_ble_eq_true rfl⟩) hE hP hD hS 0 rfl rfl [0, 1, 2] rfl (by decide) (fun _ => rfl) rfl hl.1 rfl (Nat.le_of_ble_eq_true rfl) ⟨Nat.zero_le _, Nat.zero_le _⟩ dX7_run_17 (fun u_17 H locs e_17 hP hD hS => ?_)
    have hP : va_P D vwCl [(h0, .inr (7, [.ref h1, .ref h2, .int u_17.2.2, .ref w3, .int w4, .ref w5, .ref h3, .int u_2.2.2.1, .int u_2.2.2.2.1, .int u_2.2.2.2.2.1, .int u_2.2.2.2.2.2.1, .int u_2.2.2.2.2.2.2.1, .int u_2.2.2.2.2.2.2.2])), (h1, .inl (cI, 163, .inl u_17.1)), (h2, .inl (cI, 815, .inl u_17.2.1)), (h3, .inl (cI, 80, .inl u_2.2.1))] H := hP
    have hD : va_D A [(h0, .inr (7, [.ref h1, .ref h2, .int u_17.2.2, .ref w3, .int w4, .ref w5, .ref h3, .int u_2.2.2.1, .int u_2.2.2.2.1, .int u_2.2.2.2.2.1, .int u_2.2.2.2.2.2.1, .int u_2.2.2.2.2.2.2.1, .int u_2.2.2.2.2.2.2.2])), (h1, .inl (cI, 163, .inl u_17.1)), (h2, .inl (cI, 815, .inl u_17.2.1)), (h3, .inl (cI, 80, .inl u_2.2.1))] := hD
    refine lv_aload_n hx hb dX7_run_20 rfl (lv_at hl 0 rfl) ?_
    refine lv_iconst (v := (1 : Int32)) hx hb dX7_run_21 (by decide +kernel) ?_
    refine cIV ⟨hx, hb, hml, hown, hts⟩ (kX7_readText l D cI cS h0 h1 h3 h2 u_17.2.2 w3 w4 w5 (1 : Int32) (u_17.1, u_2.2.1, u_2.2.2.1, u_2.2.2.2.1, u_2.2.2.2.2.1, u_2.2.2.2.2.2.1, u_2.2.2.2.2.2.2.1, u_2.2.2.2.2.2.2.2) (zz_WM_rec e_17 (zz_rt_WM e_2 hm hlb)) (show Bd u_2.2.2.1 80 from zz_rt_len e_2 hlb)) (cwV 1 hts gX7_run_X7_readText rfl rfl rfl (by decide +kernel) ⟨Nat.le_of_ble_eq_true rfl, Nat.le_of_ble_eq_true rfl⟩) hE hP hD hS 0 rfl rfl [0, 1, 3] rfl (by decide) (fun _ => rfl) rfl hl.1 rfl (Nat.le_of_ble_eq_true rfl) ⟨Nat.zero_le _, Nat.zero_le _⟩ dX7_run_22 (fun r_22 u_22 H locs e_22 hP hD hS => ?_)
    have hP : va_P D vwCl [(h0, .inr (7, [.ref h1, .ref h2, .int u_17.2.2, .ref w3, .int w4, .ref w5, .ref h3, .int u_22.2.2.1, .int u_22.2.2.2.1, .int u_22.2.2.2.2.1, .int u_22.2.2.2.2.2.1, .int u_22.2.2.2.2.2.2.1, .int u_22.2.2.2.2.2.2.2])), (h1, .inl (cI, 163, .inl u_22.1)), (h2, .inl (cI, 815, .inl u_17.2.1)), (h3, .inl (cI, 80, .inl u_22.2.1))] H := hP
    have hD : va_D A [(h0, .inr (7, [.ref h1, .ref h2, .int u_17.2.2, .ref w3, .int w4, .ref w5, .ref h3, .int u_22.2.2.1, .int u_22.2.2.2.1, .int u_22.2.2.2.2.1, .int u_22.2.2.2.2.2.1, .int u_22.2.2.2.2.2.2.1, .int u_22.2.2.2.2.2.2.2])), (h1, .inl (cI, 163, .inl u_22.1)), (h2, .inl (cI, 815, .inl u_17.2.1)), (h3, .inl (cI, 80, .inl u_22.2.1))] := hD
    refine lv_if_eq (tgt := 35) hx hb dX7_run_25 (by decide) (fun c_25 => ?_) (fun c_25 => ?_)
    · refine lv_iconst (v := (0 : Int32)) hx hb dX7_run_35 (by decide +kernel) ?_
      exact hend _ _ _ _ _ _ dX7_run_36 rfl (fX7_run_p0 τ r_2 u_2 e_2 c_5 u_17 e_17 r_22 u_22 e_22 c_25) hP hS
    · refine lv_aload_n hx hb dX7_run_28 rfl (lv_at hl 0 rfl) ?_
      refine va_get (D := D) (ci := 7) (v := .int u_22.2.2.2.2.2.2.2) (C := RX7) (T := TX7) (N := 13) hx hb hts (fun _ h9 => List.mem_cons_of_mem _ (List.mem_append_right _ h9)) hown hE.1 hP 0 rfl rfl 12 (by decide) (hts (.fieldLink RX7 156 "ShadowTableModel" "carriedOut" "I") (List.mem_of_getElem? (i := 2) rfl)) (fun _ h9 => h9) rfl dX7_run_29 ?_
      refine lv_goto (tgt := 36) hx hb dX7_run_32 (by decide) ?_
      exact hend _ _ _ _ _ _ dX7_run_36 rfl (fX7_run_p1 τ r_2 u_2 e_2 c_5 u_17 e_17 r_22 u_22 e_22 c_25) hP hS
  · refine lv_bipush (v := (-100 : Int32)) hx hb dX7_run_8 (by decide +kernel) ?_
    refine lv_aload_n hx hb dX7_run_10 rfl (lv_at hl 0 rfl) ?_
    refine va_get (D := D) (ci := 7) (v := .int u_2.2.2.2.1) (C := RX7) (T := TX7) (N := 13) hx hb hts (fun _ h9 => List.mem_cons_of_mem _ (List.mem_append_right _ h9)) hown hE.1 hP 0 rfl rfl 8 (by decide) (hts (.fieldLink RX7 135 "ShadowTableModel" "place" "I") (List.mem_of_getElem? (i := 1) rfl)) (fun _ h9 => h9) rfl dX7_run_11 ?_
    refine lv_isub hx hb dX7_run_14 ?_
    exact hend _ _ _ _ _ _ dX7_run_15 rfl (fX7_run_p2 τ r_2 u_2 e_2 c_5) hP hS
