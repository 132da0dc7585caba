def fX7_carryOut (τ : MOT) : Int32 × MOT := (if τ.2.1 = (98 : Int32) then (match (fX7_doBegin τ.2.2.1 τ.2.2.2 τ.1) with | (r_131, u_131) => (r_131, (u_131, τ.2.1, τ.2.2.1, τ.2.2.2))) else (if τ.2.1 = (101 : Int32) then (match (fX7_doErase τ.2.2.1 τ.1) with | (r_118, u_118) => (r_118, (u_118, τ.2.1, τ.2.2.1, τ.2.2.2))) else (if τ.2.1 = (103 : Int32) then (match (fX7_doGiveUp τ.1) with | (r_151, u_151) => (r_151, (u_151, τ.2.1, τ.2.2.1, τ.2.2.2))) else (if τ.2.1 = (108 : Int32) then (match (fX7_doLock τ.1) with | (r_136, u_136) => (r_136, (u_136, τ.2.1, τ.2.2.1, τ.2.2.2))) else (if τ.2.1 = (112 : Int32) then (match (fX7_doChange τ.2.2.1 τ.2.2.2 τ.1) with | (r_109, u_109) => (r_109, (u_109, τ.2.1, τ.2.2.1, τ.2.2.2))) else (if τ.2.1 = (115 : Int32) then (match (fX7_doSwap τ.1) with | (r_146, u_146) => (r_146, (u_146, τ.2.1, τ.2.2.1, τ.2.2.2))) else (if τ.2.1 = (117 : Int32) then (match (fX7_doUnlock τ.1) with | (r_141, u_141) => (r_141, (u_141, τ.2.1, τ.2.2.1, τ.2.2.2))) else (match (fX7_doTick τ.2.2.1 τ.1) with | (r_160, u_160) => (r_160, (u_160, τ.2.1, τ.2.2.1, τ.2.2.2))))))))))
theorem fX7_carryOut_p0 (τ : MOT) (c_4_0 : τ.2.1 = (98 : Int32)) (r_131 : Int32) (u_131 : FnI) (e_131 : (fX7_doBegin τ.2.2.1 τ.2.2.2 τ.1) = (r_131, u_131)) : (fX7_carryOut τ) = (r_131, (u_131, τ.2.1, τ.2.2.1, τ.2.2.2)) := by
  simp only [fX7_carryOut, if_pos c_4_0, e_131]
theorem fX7_carryOut_p1 (τ : MOT) (c_4_0 : ¬ τ.2.1 = (98 : Int32)) (c_4_1 : τ.2.1 = (101 : Int32)) (r_118 : Int32) (u_118 : FnI) (e_118 : (fX7_doErase τ.2.2.1 τ.1) = (r_118, u_118)) : (fX7_carryOut τ) = (r_118, (u_118, τ.2.1, τ.2.2.1, τ.2.2.2)) := by
  simp only [fX7_carryOut, if_neg c_4_0, if_pos c_4_1, e_118]
theorem fX7_carryOut_p2 (τ : MOT) (c_4_0 : ¬ τ.2.1 = (98 : Int32)) (c_4_1 : ¬ τ.2.1 = (101 : Int32)) (c_4_2 : τ.2.1 = (103 : Int32)) (r_151 : Int32) (u_151 : FnI) (e_151 : (fX7_doGiveUp τ.1) = (r_151, u_151)) : (fX7_carryOut τ) = (r_151, (u_151, τ.2.1, τ.2.2.1, τ.2.2.2)) := by
  simp only [fX7_carryOut, if_neg c_4_0, if_neg c_4_1, if_pos c_4_2, e_151]
theorem fX7_carryOut_p3 (τ : MOT) (c_4_0 : ¬ τ.2.1 = (98 : Int32)) (c_4_1 : ¬ τ.2.1 = (101 : Int32)) (c_4_2 : ¬ τ.2.1 = (103 : Int32)) (c_4_3 : τ.2.1 = (108 : Int32)) (r_136 : Int32) (u_136 : FnI) (e_136 : (fX7_doLock τ.1) = (r_136, u_136)) : (fX7_carryOut τ) = (r_136, (u_136, τ.2.1, τ.2.2.1, τ.2.2.2)) := by
  simp only [fX7_carryOut, if_neg c_4_0, if_neg c_4_1, if_neg c_4_2, if_pos c_4_3, e_136]
theorem fX7_carryOut_p4 (τ : MOT) (c_4_0 : ¬ τ.2.1 = (98 : Int32)) (c_4_1 : ¬ τ.2.1 = (101 : Int32)) (c_4_2 : ¬ τ.2.1 = (103 : Int32)) (c_4_3 : ¬ τ.2.1 = (108 : Int32)) (c_4_4 : τ.2.1 = (112 : Int32)) (r_109 : Int32) (u_109 : FnI) (e_109 : (fX7_doChange τ.2.2.1 τ.2.2.2 τ.1) = (r_109, u_109)) : (fX7_carryOut τ) = (r_109, (u_109, τ.2.1, τ.2.2.1, τ.2.2.2)) := by
  simp only [fX7_carryOut, if_neg c_4_0, if_neg c_4_1, if_neg c_4_2, if_neg c_4_3, if_pos c_4_4, e_109]
theorem fX7_carryOut_p5 (τ : MOT) (c_4_0 : ¬ τ.2.1 = (98 : Int32)) (c_4_1 : ¬ τ.2.1 = (101 : Int32)) (c_4_2 : ¬ τ.2.1 = (103 : Int32)) (c_4_3 : ¬ τ.2.1 = (108 : Int32)) (c_4_4 : ¬ τ.2.1 = (112 : Int32)) (c_4_5 : τ.2.1 = (115 : Int32)) (r_146 : Int32) (u_146 : FnI) (e_146 : (fX7_doSwap τ.1) = (r_146, u_146)) : (fX7_carryOut τ) = (r_146, (u_146, τ.2.1, τ.2.2.1, τ.2.2.2)) := by
  simp only [fX7_carryOut, if_neg c_4_0, if_neg c_4_1, if_neg c_4_2, if_neg c_4_3, if_neg c_4_4, if_pos c_4_5, e_146]
theorem fX7_carryOut_p6 (τ : MOT) (c_4_0 : ¬ τ.2.1 = (98 : Int32)) (c_4_1 : ¬ τ.2.1 = (101 : Int32)) (c_4_2 : ¬ τ.2.1 = (103 : Int32)) (c_4_3 : ¬ τ.2.1 = (108 : Int32)) (c_4_4 : ¬ τ.2.1 = (112 : Int32)) (c_4_5 : ¬ τ.2.1 = (115 : Int32)) (c_4_6 : τ.2.1 = (117 : Int32)) (r_141 : Int32) (u_141 : FnI) (e_141 : (fX7_doUnlock τ.1) = (r_141, u_141)) : (fX7_carryOut τ) = (r_141, (u_141, τ.2.1, τ.2.2.1, τ.2.2.2)) := by
  simp only [fX7_carryOut, if_neg c_4_0, if_neg c_4_1, if_neg c_4_2, if_neg c_4_3, if_neg c_4_4, if_neg c_4_5, if_pos c_4_6, e_141]
theorem fX7_carryOut_p7 (τ : MOT) (c_4_0 : ¬ τ.2.1 = (98 : Int32)) (c_4_1 : ¬ τ.2.1 = (101 : Int32)) (c_4_2 : ¬ τ.2.1 = (103 : Int32)) (c_4_3 : ¬ τ.2.1 = (108 : Int32)) (c_4_4 : ¬ τ.2.1 = (112 : Int32)) (c_4_5 : ¬ τ.2.1 = (115 : Int32)) (c_4_6 : ¬ τ.2.1 = (117 : Int32)) (r_160 : Int32) (u_160 : FnI) (e_160 : (fX7_doTick τ.2.2.1 τ.1) = (r_160, u_160)) : (fX7_carryOut τ) = (r_160, (u_160, τ.2.1, τ.2.2.1, τ.2.2.2)) := by
  simp only [fX7_carryOut, if_neg c_4_0, if_neg c_4_1, if_neg c_4_2, if_neg c_4_3, if_neg c_4_4, if_neg c_4_5, if_neg c_4_6, e_160]
set_option maxHeartbeats 4000000 in
set_option maxRecDepth 100000 in
theorem kX7_carryOut (l : Launch) (D : va_G) (cI cS : ClassId) (h0 h1 : Nat) (w1 : Nat) (w2 : Int32) (w3 : Nat) (w4 : Int32) (w5 : Nat) (w6 : Nat) (w7 : Int32) (w8 : Int32) (w12 : Int32) (τ : MOT) (hm : WM τ.1) (hv : VO τ.2.1 τ.2.2.1) : KI l yX7_carryOut wsX7_carryOut { frames := 5, cells := 0, slots := 0, locals := 108 } D (tysA cI cS) [.ref h0] [(h0, .inr (7, [.ref h1, .ref w1, .int w2, .ref w3, .int w4, .ref w5, .ref w6, .int w7, .int w8, .int τ.2.1, .int τ.2.2.1, .int τ.2.2.2, .int w12])), (h1, .inl (cI, 163, .inl τ.1))] (fX7_carryOut τ) (fun u => [(h0, .inr (7, [.ref h1, .ref w1, .int w2, .ref w3, .int w4, .ref w5, .ref w6, .int w7, .int w8, .int u.2.1, .int u.2.2.1, .int u.2.2.2, .int w12])), (h1, .inl (cI, 163, .inl u.1))]) := by
  refine KI.of (cc := cX7_carryOut) (maxL := 1) (ty := .int) (by decide) rfl (Nat.le_of_ble_eq_true rfl) rfl (fun p e s m args below meth c ls Q A hx hb hml hown hts hE hP hD hS hl hend => ?_)
  have hown : s.vm.findClass RX7 = some m.cls := hown
  have hl : lv_has ls 1 [(0, .ref h0)] := hl
  refine lv_aload_n hx hb dX7_carryOut_0 rfl (lv_at hl 0 rfl) ?_
  refine va_get (D := D) (ci := 7) (v := .int τ.2.1) (C := RX7) (T := TX7) (N := 13) hx hb hts (fun _ h9 => List.mem_cons_of_mem _ (List.mem_append_right _ h9)) hown hE.1 hP 0 rfl rfl 9 (by decide) (hts (.fieldLink RX7 141 "ShadowTableModel" "letter" "I") (List.mem_of_getElem? (i := 1) rfl)) (fun _ h9 => h9) rfl dX7_carryOut_1 ?_
  refine (Decidable.em (τ.2.1 = (98 : Int32))).elim (fun c_4_0 => ?_) (fun c_4_0 => ?_)
  · refine lv_tableIn (off := 118) (tgt := 122) hx hb dX7_carryOut_4 (by rw [c_4_0]; decide +kernel) (by rw [c_4_0]; decide +kernel) (by rw [c_4_0]; decide +kernel) (by decide) ?_
    refine lv_aload_n hx hb dX7_carryOut_122 rfl (lv_at hl 0 rfl) ?_
    refine lv_aload_n hx hb dX7_carryOut_123 rfl (lv_at hl 0 rfl) ?_
    refine va_get (D := D) (ci := 7) (v := .int τ.2.2.1) (C := RX7) (T := TX7) (N := 13) hx hb hts (fun _ h9 => List.mem_cons_of_mem _ (List.mem_append_right _ h9)) hown hE.1 hP 0 rfl rfl 10 (by decide) (hts (.fieldLink RX7 147 "ShadowTableModel" "one" "I") (List.mem_of_getElem? (i := 2) rfl)) (fun _ h9 => h9) rfl dX7_carryOut_124 ?_
    refine lv_aload_n hx hb dX7_carryOut_127 rfl (lv_at hl 0 rfl) ?_
    refine va_get (D := D) (ci := 7) (v := .int τ.2.2.2) (C := RX7) (T := TX7) (N := 13) hx hb hts (fun _ h9 => List.mem_cons_of_mem _ (List.mem_append_right _ h9)) hown hE.1 hP 0 rfl rfl 11 (by decide) (hts (.fieldLink RX7 153 "ShadowTableModel" "other" "I") (List.mem_of_getElem? (i := 3) rfl)) (fun _ h9 => h9) rfl dX7_carryOut_128 ?_
    refine cIV ⟨hx, hb, hml, hown, hts⟩ (kX7_doBegin l D cI cS h0 h1 w1 w2 w3 w4 w5 w6 w7 w8 τ.2.1 τ.2.2.1 τ.2.2.2 w12 τ.2.2.1 τ.2.2.2 τ.1) (cwV 2 hts gX7_carryOut_X7_doBegin rfl rfl rfl (by decide +kernel) ⟨Nat.le_of_ble_eq_true rfl, Nat.le_of_ble_eq_true rfl⟩) hE hP hD hS 0 rfl rfl [0, 1] rfl (by decide) (fun _ => rfl) rfl hl.1 rfl (Nat.le_of_ble_eq_true rfl) ⟨Nat.zero_le _, Nat.zero_le _⟩ dX7_carryOut_131 (fun r_131 u_131 H locs e_131 hP hD hS => ?_)
    have hP : va_P D vwCl [(h0, .inr (7, [.ref h1, .ref w1, .int w2, .ref w3, .int w4, .ref w5, .ref w6, .int w7, .int w8, .int τ.2.1, .int τ.2.2.1, .int τ.2.2.2, .int w12])), (h1, .inl (cI, 163, .inl u_131))] H := hP
    have hD : va_D A [(h0, .inr (7, [.ref h1, .ref w1, .int w2, .ref w3, .int w4, .ref w5, .ref w6, .int w7, .int w8, .int τ.2.1, .int τ.2.2.1, .int τ.2.2.2, .int w12])), (h1, .inl (cI, 163, .inl u_131))] := hD
    exact hend _ _ _ _ _ _ dX7_carryOut_134 rfl (fX7_carryOut_p0 τ c_4_0 r_131 u_131 e_131) hP hS
  · refine (Decidable.em (τ.2.1 = (101 : Int32))).elim (fun c_4_1 => ?_) (fun c_4_1 => ?_)
    · refine lv_tableIn (off := 109) (tgt := 113) hx hb dX7_carryOut_4 (by rw [c_4_1]; decide +kernel) (by rw [c_4_1]; decide +kernel) (by rw [c_4_1]; decide +kernel) (by decide) ?_
      refine lv_aload_n hx hb dX7_carryOut_113 rfl (lv_at hl 0 rfl) ?_
      refine lv_aload_n hx hb dX7_carryOut_114 rfl (lv_at hl 0 rfl) ?_
      refine va_get (D := D) (ci := 7) (v := .int τ.2.2.1) (C := RX7) (T := TX7) (N := 13) hx hb hts (fun _ h9 => List.mem_cons_of_mem _ (List.mem_append_right _ h9)) hown hE.1 hP 0 rfl rfl 10 (by decide) (hts (.fieldLink RX7 147 "ShadowTableModel" "one" "I") (List.mem_of_getElem? (i := 2) rfl)) (fun _ h9 => h9) rfl dX7_carryOut_115 ?_
      refine cIV ⟨hx, hb, hml, hown, hts⟩ (kX7_doErase l D cI cS h0 h1 w1 w2 w3 w4 w5 w6 w7 w8 τ.2.1 τ.2.2.1 τ.2.2.2 w12 τ.2.2.1 τ.1 hm (hv.1 (Or.inr c_4_1))) (cwV 1 hts gX7_carryOut_X7_doErase rfl rfl rfl (by decide +kernel) ⟨Nat.le_of_ble_eq_true rfl, Nat.le_of_ble_eq_true rfl⟩) hE hP hD hS 0 rfl rfl [0, 1] rfl (by decide) (fun _ => rfl) rfl hl.1 rfl (Nat.le_of_ble_eq_true rfl) ⟨Nat.zero_le _, Nat.zero_le _⟩ dX7_carryOut_118 (fun r_118 u_118 H locs e_118 hP hD hS => ?_)
      have hP : va_P D vwCl [(h0, .inr (7, [.ref h1, .ref w1, .int w2, .ref w3, .int w4, .ref w5, .ref w6, .int w7, .int w8, .int τ.2.1, .int τ.2.2.1, .int τ.2.2.2, .int w12])), (h1, .inl (cI, 163, .inl u_118))] H := hP
      have hD : va_D A [(h0, .inr (7, [.ref h1, .ref w1, .int w2, .ref w3, .int w4, .ref w5, .ref w6, .int w7, .int w8, .int τ.2.1, .int τ.2.2.1, .int τ.2.2.2, .int w12])), (h1, .inl (cI, 163, .inl u_118))] := hD
      exact hend _ _ _ _ _ _ dX7_carryOut_121 rfl (fX7_carryOut_p1 τ c_4_0 c_4_1 r_118 u_118 e_118) hP hS
    · refine (Decidable.em (τ.2.1 = (103 : Int32))).elim (fun c_4_2 => ?_) (fun c_4_2 => ?_)
      · refine lv_tableIn (off := 146) (tgt := 150) hx hb dX7_carryOut_4 (by rw [c_4_2]; decide +kernel) (by rw [c_4_2]; decide +kernel) (by rw [c_4_2]; decide +kernel) (by decide) ?_
        refine lv_aload_n hx hb dX7_carryOut_150 rfl (lv_at hl 0 rfl) ?_
        refine cIV ⟨hx, hb, hml, hown, hts⟩ (kX7_doGiveUp l D cI cS h0 h1 w1 w2 w3 w4 w5 w6 w7 w8 τ.2.1 τ.2.2.1 τ.2.2.2 w12 τ.1) (cwV 0 hts gX7_carryOut_X7_doGiveUp rfl rfl rfl (by decide +kernel) ⟨Nat.le_of_ble_eq_true rfl, Nat.le_of_ble_eq_true rfl⟩) hE hP hD hS 0 rfl rfl [0, 1] rfl (by decide) (fun _ => rfl) rfl hl.1 rfl (Nat.le_of_ble_eq_true rfl) ⟨Nat.zero_le _, Nat.zero_le _⟩ dX7_carryOut_151 (fun r_151 u_151 H locs e_151 hP hD hS => ?_)
        have hP : va_P D vwCl [(h0, .inr (7, [.ref h1, .ref w1, .int w2, .ref w3, .int w4, .ref w5, .ref w6, .int w7, .int w8, .int τ.2.1, .int τ.2.2.1, .int τ.2.2.2, .int w12])), (h1, .inl (cI, 163, .inl u_151))] H := hP
        have hD : va_D A [(h0, .inr (7, [.ref h1, .ref w1, .int w2, .ref w3, .int w4, .ref w5, .ref w6, .int w7, .int w8, .int τ.2.1, .int τ.2.2.1, .int τ.2.2.2, .int w12])), (h1, .inl (cI, 163, .inl u_151))] := hD
        exact hend _ _ _ _ _ _ dX7_carryOut_154 rfl (fX7_carryOut_p2 τ c_4_0 c_4_1 c_4_2 r_151 u_151 e_151) hP hS
      · refine (Decidable.em (τ.2.1 = (108 : Int32))).elim (fun c_4_3 => ?_) (fun c_4_3 => ?_)
        · refine lv_tableIn (off := 131) (tgt := 135) hx hb dX7_carryOut_4 (by rw [c_4_3]; decide +kernel) (by rw [c_4_3]; decide +kernel) (by rw [c_4_3]; decide +kernel) (by decide) ?_
          refine lv_aload_n hx hb dX7_carryOut_135 rfl (lv_at hl 0 rfl) ?_
          refine cIV ⟨hx, hb, hml, hown, hts⟩ (kX7_doLock l D cI cS h0 h1 w1 w2 w3 w4 w5 w6 w7 w8 τ.2.1 τ.2.2.1 τ.2.2.2 w12 τ.1) (cwV 0 hts gX7_carryOut_X7_doLock rfl rfl rfl (by decide +kernel) ⟨Nat.le_of_ble_eq_true rfl, Nat.le_of_ble_eq_true rfl⟩) hE hP hD hS 0 rfl rfl [0, 1] rfl (by decide) (fun _ => rfl) rfl hl.1 rfl (Nat.le_of_ble_eq_true rfl) ⟨Nat.zero_le _, Nat.zero_le _⟩ dX7_carryOut_136 (fun r_136 u_136 H locs e_136 hP hD hS => ?_)
          have hP : va_P D vwCl [(h0, .inr (7, [.ref h1, .ref w1, .int w2, .ref w3, .int w4, .ref w5, .ref w6, .int w7, .int w8, .int τ.2.1, .int τ.2.2.1, .int τ.2.2.2, .int w12])), (h1, .inl (cI, 163, .inl u_136))] H := hP
          have hD : va_D A [(h0, .inr (7, [.ref h1, .ref w1, .int w2, .ref w3, .int w4, .ref w5, .ref w6, .int w7, .int w8, .int τ.2.1, .int τ.2.2.1, .int τ.2.2.2, .int w12])), (h1, .inl (cI, 163, .inl u_136))] := hD
          exact hend _ _ _ _ _ _ dX7_carryOut_139 rfl (fX7_carryOut_p3 τ c_4_0 c_4_1 c_4_2 c_4_3 r_136 u_136 e_136) hP hS
        · refine (Decidable.em (τ.2.1 = (112 : Int32))).elim (fun c_4_4 => ?_) (fun c_4_4 => ?_)
          · refine lv_tableIn (off := 96) (tgt := 100) hx hb dX7_carryOut_4 (by rw [c_4_4]; decide +kernel) (by rw [c_4_4]; decide +kernel) (by rw [c_4_4]; decide +kernel) (by decide) ?_
            refine lv_aload_n hx hb dX7_carryOut_100 rfl (lv_at hl 0 rfl) ?_
            refine lv_aload_n hx hb dX7_carryOut_101 rfl (lv_at hl 0 rfl) ?_
            refine va_get (D := D) (ci := 7) (v := .int τ.2.2.1) (C := RX7) (T := TX7) (N := 13) hx hb hts (fun _ h9 => List.mem_cons_of_mem _ (List.mem_append_right _ h9)) hown hE.1 hP 0 rfl rfl 10 (by decide) (hts (.fieldLink RX7 147 "ShadowTableModel" "one" "I") (List.mem_of_getElem? (i := 2) rfl)) (fun _ h9 => h9) rfl dX7_carryOut_102 ?_
            refine lv_aload_n hx hb dX7_carryOut_105 rfl (lv_at hl 0 rfl) ?_
            refine va_get (D := D) (ci := 7) (v := .int τ.2.2.2) (C := RX7) (T := TX7) (N := 13) hx hb hts (fun _ h9 => List.mem_cons_of_mem _ (List.mem_append_right _ h9)) hown hE.1 hP 0 rfl rfl 11 (by decide) (hts (.fieldLink RX7 153 "ShadowTableModel" "other" "I") (List.mem_of_getElem? (i := 3) rfl)) (fun _ h9 => h9) rfl dX7_carryOut_106 ?_
            refine cIV ⟨hx, hb, hml, hown, hts⟩ (kX7_doChange l D cI cS h0 h1 w1 w2 w3 w4 w5 w6 w7 w8 τ.2.1 τ.2.2.1 τ.2.2.2 w12 τ.2.2.1 τ.2.2.2 τ.1 hm (hv.1 (Or.inl c_4_4))) (cwV 2 hts gX7_carryOut_X7_doChange rfl rfl rfl (by decide +kernel) ⟨Nat.le_of_ble_eq_true rfl, Nat.le_of_ble_eq_true rfl⟩) hE hP hD hS 0 rfl rfl [0, 1] rfl (by decide) (fun _ => rfl) rfl hl.1 rfl (Nat.le_of_ble_eq_true rfl) ⟨Nat.zero_le _, Nat.zero_le _⟩ dX7_carryOut_109 (fun r_109 u_109 H locs e_109 hP hD hS => ?_)
            have hP : va_P D vwCl [(h0, .inr (7, [.ref h1, .ref w1, .int w2, .ref w3, .int w4, .ref w5, .ref w6, .int w7, .int w8, .int τ.2.1, .int τ.2.2.1, .int τ.2.2.2, .int w12])), (h1, .inl (cI, 163, .inl u_109))] H := hP
            have hD : va_D A [(h0, .inr (7, [.ref h1, .ref w1, .int w2, .ref w3, .int w4, .ref w5, .ref w6, .int w7, .int w8, .int τ.2.1, .int τ.2.2.1, .int τ.2.2.2, .int w12])), (h1, .inl (cI, 163, .inl u_109))] := hD
            exact hend _ _ _ _ _ _ dX7_carryOut_112 rfl (fX7_carryOut_p4 τ c_4_0 c_4_1 c_4_2 c_4_3 c_4_4 r_109 u_109 e_109) hP hS
          · refine (Decidable.em (τ.2.1 = (115 : Int32))).elim (fun c_4_5 => ?_) (fun c_4_5 => ?_)
            · refine lv_tableIn (off := 141) (tgt := 145) hx hb dX7_carryOut_4 (by rw [c_4_5]; decide +kernel) (by rw [c_4_5]; decide +kernel) (by rw [c_4_5]; decide +kernel) (by decide) ?_
              refine lv_aload_n hx hb dX7_carryOut_145 rfl (lv_at hl 0 rfl) ?_
              refine cIV ⟨hx, hb, hml, hown, hts⟩ (kX7_doSwap l D cI cS h0 h1 w1 w2 w3 w4 w5 w6 w7 w8 τ.2.1 τ.2.2.1 τ.2.2.2 w12 τ.1) (cwV 0 hts gX7_carryOut_X7_doSwap rfl rfl rfl (by decide +kernel) ⟨Nat.le_of_ble_eq_true rfl, Nat.le_of_ble_eq_true rfl⟩) hE hP hD hS 0 rfl rfl [0, 1] rfl (by decide) (fun _ => rfl) rfl hl.1 rfl (Nat.le_of_ble_eq_true rfl) ⟨Nat.zero_le _, Nat.zero_le _⟩ dX7_carryOut_146 (fun r_146 u_146 H locs e_146 hP hD hS => ?_)
              have hP : va_P D vwCl [(h0, .inr (7, [.ref h1, .ref w1, .int w2, .ref w3, .int w4, .ref w5, .ref w6, .int w7, .int w8, .int τ.2.1, .int τ.2.2.1, .int τ.2.2.2, .int w12])), (h1, .inl (cI, 163, .inl u_146))] H := hP
              have hD : va_D A [(h0, .inr (7, [.ref h1, .ref w1, .int w2, .ref w3, .int w4, .ref w5, .ref w6, .int w7, .int w8, .int τ.2.1, .int τ.2.2.1, .int τ.2.2.2, .int w12])), (h1, .inl (cI, 163, .inl u_146))] := hD
              exact hend _ _ _ _ _ _ dX7_carryOut_149 rfl (fX7_carryOut_p5 τ c_4_0 c_4_1 c_4_2 c_4_3 c_4_4 c_4_5 r_146 u_146 e_146) hP hS
            · refine (Decidable.em (τ.2.1 = (117 : Int32))).elim (fun c_4_6 => ?_) (fun c_4_6 => ?_)
              · refine lv_tableIn (off := 136) (tgt := 140) hx hb dX7_carryOut_4 (by rw [c_4_6]; decide +kernel) (by rw [c_4_6]; decide +kernel) (by rw [c_4_6]; decide +kernel) (by decide) ?_
                refine lv_aload_n hx hb dX7_carryOut_140 rfl (lv_at hl 0 rfl) ?_
                refine cIV ⟨hx, hb, hml, hown, hts⟩ (kX7_doUnlock l D cI cS h0 h1 w1 w2 w3 w4 w5 w6 w7 w8 τ.2.1 τ.2.2.1 τ.2.2.2 w12 τ.1) (cwV 0 hts gX7_carryOut_X7_doUnlock rfl rfl rfl (by decide +kernel) ⟨Nat.le_of_ble_eq_true rfl, Nat.le_of_ble_eq_true rfl⟩) hE hP hD hS 0 rfl rfl [0, 1] rfl (by decide) (fun _ => rfl) rfl hl.1 rfl (Nat.le_of_ble_eq_true rfl) ⟨Nat.zero_le _, Nat.zero_le _⟩ dX7_carryOut_141 (fun r_141 u_141 H locs e_141 hP hD hS => ?_)
                have hP : va_P D vwCl [(h0, .inr (7, [.ref h1, .ref w1, .int w2, .ref w3, .int w4, .ref w5, .ref w6, .int w7, .int w8, .int τ.2.1, .int τ.2.2.1, .int τ.2.2.2, .int w12])), (h1, .inl (cI, 163, .inl u_141))] H := hP
                have hD : va_D A [(h0, .inr (7, [.ref h1, .ref w1, .int w2, .ref w3, .int w4, .ref w5, .ref w6, .int w7, .int w8, .int τ.2.1, .int τ.2.2.1, .int τ.2.2.2, .int w12])), (h1, .inl (cI, 163, .inl u_141))] := hD
                exact hend _ _ _ _ _ _ dX7_carryOut_144 rfl (fX7_carryOut_p6 τ c_4_0 c_4_1 c_4_2 c_4_3 c_4_4 c_4_5 c_4_6 r_141 u_141 e_141) hP hS
              · refine xtabD (tgt := 155) hx hb dX7_carryOut_4 (xno_cons (a := 98) c_4_0 (by decide) (xno_cons (a := 101) c_4_1 (by decide) (xno_cons (a := 103) c_4_2 (by decide) (xno_cons (a := 108) c_4_3 (by decide) (xno_cons (a := 112) c_4_4 (by decide) (xno_cons (a := 115) c_4_5 (by decide) (xno_cons (a := 117) c_4_6 (by decide) xno_nil))))))) (by decide +kernel) (by decide) ?_
                refine lv_aload_n hx hb dX7_carryOut_155 rfl (lv_at hl 0 rfl) ?_
                refine lv_aload_n hx hb dX7_carryOut_156 rfl (lv_at hl 0 rfl) ?_
                refine va_get (D := D) (ci := 7) (v := .int τ.2.2.1) (C := RX7) (T := TX7) (N := 13) hx hb hts (fun _ h9 => List.mem_cons_of_mem _ (List.mem_append_right _ h9)) hown hE.1 hP 0 rfl rfl 10 (by decide) (hts (.fieldLink RX7 147 "ShadowTableModel" "one" "I") (List.mem_of_getElem? (i := 2) rfl)) (fun _ h9 => h9) rfl dX7_carryOut_157 ?_
                refine cIV ⟨hx, hb, hml, hown, hts⟩ (kX7_doTick l D cI cS h0 h1 w1 w2 w3 w4 w5 w6 w7 w8 τ.2.1 τ.2.2.1 τ.2.2.2 w12 τ.2.2.1 τ.1 hm (hv.2 c_4_0 c_4_1 c_4_2 c_4_3 c_4_4 c_4_5 c_4_6)) (cwV 1 hts gX7_carryOut_X7_doTick rfl rfl rfl (by decide +kernel) ⟨Nat.le_of_ble_eq_true rfl, Nat.le_of_ble_eq_true rfl⟩) hE hP hD hS 0 rfl rfl [0, 1] rfl (by decide) (fun _ => rfl) rfl hl.1 rfl (Nat.le_of_ble_eq_true rfl) ⟨Nat.zero_le _, Nat.zero_le _⟩ dX7_carryOut_160 (fun r_160 u_160 H locs e_160 hP hD hS => ?_)
                have hP : va_P D vwCl [(h0, .inr (7, [.ref h1, .ref w1, .int w2, .ref w3, .int w4, .ref w5, .ref w6, .int w7, .int w8, .int τ.2.1, .int τ.2.2.1, .int τ.2.2.2, .int w12])), (h1, .inl (cI, 163, .inl u_160))] H := hP
                have hD : va_D A [(h0, .inr (7, [.ref h1, .ref w1, .int w2, .ref w3, .int w4, .ref w5, .ref w6, .int w7, .int w8, .int τ.2.1, .int τ.2.2.1, .int τ.2.2.2, .int w12])), (h1, .inl (cI, 163, .inl u_160))] := hD
                exact hend _ _ _ _ _ _ dX7_carryOut_163 rfl (fX7_carryOut_p7 τ c_4_0 c_4_1 c_4_2 c_4_3 c_4_4 c_4_5 c_4_6 r_160 u_160 e_160) hP hS

theorem q_change {τ u : FnI} {a v r : Int32} (e : fX7_doChange a v τ = (r, u)) (hm : WM τ) (ha : Bd a 31) : WM u := by
  have h := WM_change (v := v) hm ha
  rw [e] at h
  exact h
theorem q_erase {τ u : FnI} {a r : Int32} (e : fX7_doErase a τ = (r, u)) (hm : WM τ) (ha : Bd a 31) : WM u := by
  unfold fX7_doErase at e
  by_cases c : fX7_row (0 : Int32) a τ = (-1 : Int32)
  · rw [if_pos c] at e; cases e; exact hm
  · rw [if_neg c] at e
    generalize e1 : fX7_doChange _ _ _ = q at e
    obtain ⟨r1, u1⟩ := q
    have h := q_change e1 hm ha
    cases e
    exact h
theorem q_begin {τ u : FnI} {a b r : Int32} (e : fX7_doBegin a b τ = (r, u)) : WM u := by
  have h := WM_begin a b τ
  rw [e] at h
  exact h
theorem q_tick {τ u : FnI} {a r : Int32} (e : fX7_doTick a τ = (r, u)) (hm : WM τ) : WM u := by
  have h : WM (fX7_doTick a τ).2 := by
    unfold fX7_doTick
    exact WM_doTick2 a 100 0 τ hm
  rw [e] at h
  exact h
theorem q_swap {τ u : FnI} {r : Int32} (e : fX7_doSwap τ = (r, u)) (hm : WM τ) : WM u := by
  have h : WM (fX7_doSwap τ).2 := by
    unfold fX7_doSwap
    exact WM_swap2 33 0 τ (by omega) hm
  rw [e] at h
  exact h
theorem q_lock {τ u : FnI} {r : Int32} (e : fX7_doLock τ = (r, u)) (hm : WM τ) : WM u := by
  unfold fX7_doLock at e
  cases e
  exact WM_u (WM_u hm (by decide) (by decide) (by decide)) (by decide) (by decide) (by decide)
theorem q_unlock {τ u : FnI} {r : Int32} (e : fX7_doUnlock τ = (r, u)) (hm : WM τ) : WM u := by
  unfold fX7_doUnlock at e
  cases e
  exact WM_u hm (by decide) (by decide) (by decide)
theorem q_giveUp {τ u : FnI} {r : Int32} (e : fX7_doGiveUp τ = (r, u)) (hm : WM τ) : WM u := by
  unfold fX7_doGiveUp at e
  have h := WM_u (j := 13) (x := (fX7_endCopy τ 13) + (1 : Int32)) (WM_end hm) (by decide) (by decide) (by decide)
  cases e
  exact h
theorem WM_co {τ : MOT} (hm : WM τ.1) (hv : VO τ.2.1 τ.2.2.1) : WM (fX7_carryOut τ).2.1 := by
  unfold fX7_carryOut
  by_cases c0 : τ.2.1 = (98 : Int32)
  · rw [if_pos c0]
    generalize e : fX7_doBegin _ _ _ = q
    obtain ⟨r, u⟩ := q
    exact q_begin e
  · rw [if_neg c0]
    by_cases c1 : τ.2.1 = (101 : Int32)
    · rw [if_pos c1]
      generalize e : fX7_doErase _ _ = q
      obtain ⟨r, u⟩ := q
      exact q_erase e hm (hv.1 (Or.inr c1))
    · rw [if_neg c1]
      by_cases c2 : τ.2.1 = (103 : Int32)
      · rw [if_pos c2]
        generalize e : fX7_doGiveUp _ = q
        obtain ⟨r, u⟩ := q
        exact q_giveUp e hm
      · rw [if_neg c2]
        by_cases c3 : τ.2.1 = (108 : Int32)
        · rw [if_pos c3]
          generalize e : fX7_doLock _ = q
          obtain ⟨r, u⟩ := q
          exact q_lock e hm
        · rw [if_neg c3]
          by_cases c4 : τ.2.1 = (112 : Int32)
          · rw [if_pos c4]
            generalize e : fX7_doChange _ _ _ = q
            obtain ⟨r, u⟩ := q
            exact q_change e hm (hv.1 (Or.inl c4))
          · rw [if_neg c4]
            by_cases c5 : τ.2.1 = (115 : Int32)
            · rw [if_pos c5]
              generalize e : fX7_doSwap _ = q
              obtain ⟨r, u⟩ := q
              exact q_swap e hm
            · rw [if_neg c5]
              by_cases c6 : τ.2.1 = (117 : Int32)
              · rw [if_pos c6]
                generalize e : fX7_doUnlock _ = q
                obtain ⟨r, u⟩ := q
                exact q_unlock e hm
              · rw [if_neg c6]
                generalize e : fX7_doTick _ _ = q
                obtain ⟨r, u⟩ := q
                exact q_tick e hm
theorem zz_WM_co {r : Int32} {τ u : MOT} (e : fX7_carryOut τ = (r, u)) (hm : WM τ.1) (hv : VO τ.2.1 τ.2.2.1) : WM u.1 := by
  have h := WM_co hm hv
  rw [e] at h
  exact h
