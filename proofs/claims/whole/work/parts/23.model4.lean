def fX7_readyIn (τ : MBT) : Int32 × MBT := (if (fX7_canAsk τ.1) = (0 : Int32) then ((-4 : Int32), τ) else (match (fX7_until (200 : Int32) (τ.1 2) τ) with | (r_17, u_17) => (r_17, u_17)))
theorem fX7_readyIn_p0 (τ : MBT) (c_4 : (fX7_canAsk τ.1) = (0 : Int32)) : (fX7_readyIn τ) = ((-4 : Int32), τ) := by
  simp only [fX7_readyIn, if_pos c_4]
theorem fX7_readyIn_p1 (τ : MBT) (c_4 : ¬ (fX7_canAsk τ.1) = (0 : Int32)) (r_17 : Int32) (u_17 : MBT) (e_17 : (fX7_until (200 : Int32) (τ.1 2) τ) = (r_17, u_17)) : (fX7_readyIn τ) = (r_17, u_17) := by
  simp only [fX7_readyIn, if_neg c_4, e_17]
set_option maxHeartbeats 4000000 in
set_option maxRecDepth 100000 in
theorem kX7_readyIn (l : Launch) (D : va_G) (cI cS : ClassId) (h0 h1 h2 : Nat) (w1 : Nat) (w2 : Int32) (w3 : Nat) (w4 : Int32) (w6 : Nat) (w7 : Int32) (w8 : Int32) (w9 : Int32) (w10 : Int32) (w11 : Int32) (w12 : Int32) (τ : MBT) (hm : WM τ.1) : KI l yX7_readyIn wsX7_readyIn { frames := 5, cells := 0, slots := 0, locals := 110 } D (tysA cI cS) [.ref h0] [(h0, .inr (7, [.ref h1, .ref w1, .int w2, .ref w3, .int w4, .ref h2, .ref w6, .int w7, .int w8, .int w9, .int w10, .int w11, .int w12])), (h1, .inl (cI, 163, .inl τ.1)), (h2, .inl (cI, 163, .inl τ.2))] (fX7_readyIn τ) (fun u => [(h0, .inr (7, [.ref h1, .ref w1, .int w2, .ref w3, .int w4, .ref h2, .ref w6, .int w7, .int w8, .int w9, .int w10, .int w11, .int w12])), (h1, .inl (cI, 163, .inl u.1)), (h2, .inl (cI, 163, .inl u.2))]) := by
  refine KI.of (cc := cX7_readyIn) (maxL := 1) (ty := .int) (by decide) rfl (Nat.le_of_ble_eq_true rfl) rfl (fun p e s m args below meth c ls Q A hx hb hml hown hts hE hP hD hS hl hend => ?_)
  have hown : s.vm.findClass RX7 = some m.cls := hown
  have hl : lv_has ls 1 [(0, .ref h0)] := hl
  refine lv_aload_n hx hb dX7_readyIn_0 rfl (lv_at hl 0 rfl) ?_
  refine cRV ⟨hx, hb, hml, hown, hts⟩ (kX7_canAsk l D cI cS h0 h1 w1 w2 w3 w4 h2 w6 w7 w8 w9 w10 w11 w12 τ.1) (cwV 0 hts gX7_readyIn_X7_canAsk rfl rfl rfl (by decide +kernel) ⟨Nat.le_of_ble_eq_true rfl, Nat.le_of_ble_eq_true rfl⟩) hE hP 0 rfl rfl [0, 1] rfl rfl hl.1 rfl (Nat.le_of_ble_eq_true rfl) ⟨Nat.zero_le _, Nat.zero_le _⟩ dX7_readyIn_1 ?_
  refine lv_if_eq (tgt := 23) hx hb dX7_readyIn_4 (by decide) (fun c_4 => ?_) (fun c_4 => ?_)
  · refine lv_bipush (v := (-4 : Int32)) hx hb dX7_readyIn_23 (by decide +kernel) ?_
    exact hend _ _ _ _ _ _ dX7_readyIn_25 rfl (fX7_readyIn_p0 τ c_4) hP hS
  · refine lv_aload_n hx hb dX7_readyIn_7 rfl (lv_at hl 0 rfl) ?_
    refine lv_sipush (v := (200 : Int32)) hx hb dX7_readyIn_8 (by decide +kernel) ?_
    refine lv_aload_n hx hb dX7_readyIn_11 rfl (lv_at hl 0 rfl) ?_
    refine va_get (D := D) (ci := 7) (v := .ref h1) (C := RX7) (T := TX7) (N := 13) hx hb hts (fun _ h9 => List.mem_cons_of_mem _ (List.mem_append_right _ h9)) hown hE.1 hP 0 rfl rfl 0 (by decide) (hts (.fieldLink RX7 7 "ShadowTableModel" "s" "[I") (List.mem_of_getElem? (i := 1) rfl)) (fun _ h9 => h9) rfl dX7_readyIn_12 ?_
    refine lv_iconst (v := (2 : Int32)) hx hb dX7_readyIn_15 (by decide +kernel) ?_
    refine xld (v := (τ.1 2)) (j := 2) hx hb hE hP 1 rfl rfl cl_2 (in_2 (by decide)) rfl dX7_readyIn_16 ?_
    refine cIV ⟨hx, hb, hml, hown, hts⟩ (kX7_until l D cI cS h0 h1 h2 w1 w2 w3 w4 w6 w7 w8 w9 w10 w11 w12 (200 : Int32) (τ.1 2) τ hm zz_200) (cwV 2 hts gX7_readyIn_X7_until rfl rfl rfl (by decide +kernel) ⟨Nat.le_of_ble_eq_true rfl, Nat.le_of_ble_eq_true rfl⟩) hE hP hD hS 0 rfl rfl [0, 1, 2] rfl (by decide) (fun _ => rfl) rfl hl.1 rfl (Nat.le_of_ble_eq_true rfl) ⟨Nat.zero_le _, Nat.zero_le _⟩ dX7_readyIn_17 (fun r_17 u_17 H locs e_17 hP hD hS => ?_)
    have hP : va_P D vwCl [(h0, .inr (7, [.ref h1, .ref w1, .int w2, .ref w3, .int w4, .ref h2, .ref w6, .int w7, .int w8, .int w9, .int w10, .int w11, .int w12])), (h1, .inl (cI, 163, .inl u_17.1)), (h2, .inl (cI, 163, .inl u_17.2))] H := hP
    have hD : va_D A [(h0, .inr (7, [.ref h1, .ref w1, .int w2, .ref w3, .int w4, .ref h2, .ref w6, .int w7, .int w8, .int w9, .int w10, .int w11, .int w12])), (h1, .inl (cI, 163, .inl u_17.1)), (h2, .inl (cI, 163, .inl u_17.2))] := hD
    refine lv_goto (tgt := 25) hx hb dX7_readyIn_20 (by decide) ?_
    exact hend _ _ _ _ _ _ dX7_readyIn_25 rfl (fX7_readyIn_p1 τ c_4 r_17 u_17 e_17) hP hS

def fX7_leastLot_25 (p0 : Int32) : Nat → Nat → MBT → Int32 × MBT
  | 0, k, σ => (0, σ)
  | n + 1, k, σ => (if (8 : Int32) < (nI k) then ((-5 : Int32), σ) else (match (fX7_until p0 (nI k) σ) with | (r_34, u_34) => (if r_34 = (-5 : Int32) then fX7_leastLot_25 p0 n (k + 1) u_34 else ((nI k), u_34))))
def fX7_leastLot (p0 : Int32) (τ : MBT) : Int32 × MBT := (if (fX7_in p0 (1 : Int32) (99 : Int32)) = (0 : Int32) then ((-2 : Int32), τ) else (if (fX7_canAsk τ.1) = (0 : Int32) then ((-4 : Int32), τ) else fX7_leastLot_25 p0 10 1 τ))
theorem fX7_leastLot_25_p0 (p0 : Int32) (n : Nat) (k : Nat) (σ : MBT) (c_28 : (8 : Int32) < (nI k)) : fX7_leastLot_25 p0 (n + 1) k σ = ((-5 : Int32), σ) := by
  simp only [fX7_leastLot_25, if_pos c_28]
theorem fX7_leastLot_25_p1 (p0 : Int32) (n : Nat) (k : Nat) (σ : MBT) (c_28 : ¬ (8 : Int32) < (nI k)) (r_34 : Int32) (u_34 : MBT) (e_34 : (fX7_until p0 (nI k) σ) = (r_34, u_34)) (c_39 : r_34 = (-5 : Int32)) : fX7_leastLot_25 p0 (n + 1) k σ = fX7_leastLot_25 p0 n (k + 1) u_34 := by
  simp only [fX7_leastLot_25, if_neg c_28, e_34, if_pos c_39]
theorem fX7_leastLot_25_p2 (p0 : Int32) (n : Nat) (k : Nat) (σ : MBT) (c_28 : ¬ (8 : Int32) < (nI k)) (r_34 : Int32) (u_34 : MBT) (e_34 : (fX7_until p0 (nI k) σ) = (r_34, u_34)) (c_39 : ¬ r_34 = (-5 : Int32)) : fX7_leastLot_25 p0 (n + 1) k σ = ((nI k), u_34) := by
  simp only [fX7_leastLot_25, if_neg c_28, e_34, if_neg c_39]
theorem fX7_leastLot_p3 (p0 : Int32) (τ : MBT) (c_7 : ¬ (fX7_in p0 (1 : Int32) (99 : Int32)) = (0 : Int32)) (c_17 : ¬ (fX7_canAsk τ.1) = (0 : Int32)) : (fX7_leastLot p0 τ) = fX7_leastLot_25 p0 10 1 τ := by
  simp only [fX7_leastLot, if_neg c_7, if_neg c_17]
theorem fX7_leastLot_p4 (p0 : Int32) (τ : MBT) (c_7 : ¬ (fX7_in p0 (1 : Int32) (99 : Int32)) = (0 : Int32)) (c_17 : (fX7_canAsk τ.1) = (0 : Int32)) : (fX7_leastLot p0 τ) = ((-4 : Int32), τ) := by
  simp only [fX7_leastLot, if_neg c_7, if_pos c_17]
theorem fX7_leastLot_p5 (p0 : Int32) (τ : MBT) (c_7 : (fX7_in p0 (1 : Int32) (99 : Int32)) = (0 : Int32)) : (fX7_leastLot p0 τ) = ((-2 : Int32), τ) := by
  simp only [fX7_leastLot, if_pos c_7]
set_option maxHeartbeats 4000000 in
set_option maxRecDepth 100000 in
theorem kX7_leastLot (l : Launch) (D : va_G) (cI cS : ClassId) (h0 h1 h2 : Nat) (w1 : Nat) (w2 : Int32) (w3 : Nat) (w4 : Int32) (w6 : Nat) (w7 : Int32) (w8 : Int32) (w9 : Int32) (w10 : Int32) (w11 : Int32) (w12 : Int32) (p0 : Int32) (τ : MBT) (hm : WM τ.1) : KI l yX7_leastLot wsX7_leastLot { frames := 5, cells := 0, slots := 0, locals := 110 } D (tysA cI cS) [.ref h0, .int p0] [(h0, .inr (7, [.ref h1, .ref w1, .int w2, .ref w3, .int w4, .ref h2, .ref w6, .int w7, .int w8, .int w9, .int w10, .int w11, .int w12])), (h1, .inl (cI, 163, .inl τ.1)), (h2, .inl (cI, 163, .inl τ.2))] (fX7_leastLot p0 τ) (fun u => [(h0, .inr (7, [.ref h1, .ref w1, .int w2, .ref w3, .int w4, .ref h2, .ref w6, .int w7, .int w8, .int w9, .int w10, .int w11, .int w12])), (h1, .inl (cI, 163, .inl u.1)), (h2, .inl (cI, 163, .inl u.2))]) := by
  refine KI.of (cc := cX7_leastLot) (maxL := 3) (ty := .int) (by decide) rfl (Nat.le_of_ble_eq_true rfl) rfl (fun p e s m args below meth c ls Q A hx hb hml hown hts hE hP hD hS hl hend => ?_)
  have hown : s.vm.findClass RX7 = some m.cls := hown
  have hl : lv_has ls 3 [(0, .ref h0), (1, .int p0)] := hl
  have loop_25 : ∀ (n : Nat) (k : Nat) (σ : MBT), WM σ.1 → Bd p0 200 → k ≤ 9 → 9 - k < n → (fX7_leastLot p0 τ) = fX7_leastLot_25 p0 n k σ → ∀ (H : Heap) (locs : List Loc), va_P D vwCl [(h0, .inr (7, [.ref h1, .ref w1, .int w2, .ref w3, .int w4, .ref h2, .ref w6, .int w7, .int w8, .int w9, .int w10, .int w11, .int w12])), (h1, .inl (cI, 163, .inl σ.1)), (h2, .inl (cI, 163, .inl σ.2))] H → va_D A [(h0, .inr (7, [.ref h1, .ref w1, .int w2, .ref w3, .int w4, .ref h2, .ref w6, .int w7, .int w8, .int w9, .int w10, .int w11, .int w12])), (h1, .inl (cI, 163, .inl σ.1)), (h2, .inl (cI, 163, .inl σ.2))] → va_S A s.heap H locs → ∀ (ls : Array Slot), lv_has ls 3 [(0, .ref h0), (1, .int p0), (2, .int (nI k))] → W p l e { frames := 5, cells := 0, slots := 0, locals := 110 } s m args below meth c H locs 0 0 Q (F0 m 25 ls []) := by
    intro n
    induction n with
    | zero =>
      intro k σ hm hq hk hn
      exact absurd hn (by omega)
    | succ n ih =>
      intro k σ hm hq hk hn hF H locs hP hD hS ls hl
      refine lv_iload_n hx hb dX7_leastLot_25 rfl (lv_at hl 2 rfl) ?_
      refine lv_bipush (v := (8 : Int32)) hx hb dX7_leastLot_26 (by decide +kernel) ?_
      refine lv_icmp_gt (tgt := 50) hx hb dX7_leastLot_28 (by decide) (fun c_28 => ?_) (fun c_28 => ?_)
      · have d_28 : 8 < k := (nI_ltI (a := 8) (b := k) (by omega) (by omega)).mp c_28
        refine lv_bipush (v := (-5 : Int32)) hx hb dX7_leastLot_50 (by decide +kernel) ?_
        exact hend _ _ _ _ _ _ dX7_leastLot_52 rfl (hF.trans (fX7_leastLot_25_p0 p0 n k σ c_28)) hP hS
      · have d_28 : k ≤ 8 := Nat.le_of_not_lt (fun q => c_28 ((nI_ltI (a := 8) (b := k) (by omega) (by omega)).mpr q))
        refine lv_aload_n hx hb dX7_leastLot_31 rfl (lv_at hl 0 rfl) ?_
        refine lv_iload_n hx hb dX7_leastLot_32 rfl (lv_at hl 1 rfl) ?_
        refine lv_iload_n hx hb dX7_leastLot_33 rfl (lv_at hl 2 rfl) ?_
        refine cIV ⟨hx, hb, hml, hown, hts⟩ (kX7_until l D cI cS h0 h1 h2 w1 w2 w3 w4 w6 w7 w8 w9 w10 w11 w12 p0 (nI k) σ hm hq) (cwV 2 hts gX7_leastLot_X7_until rfl rfl rfl (by decide +kernel) ⟨Nat.le_of_ble_eq_true rfl, Nat.le_of_ble_eq_true rfl⟩) hE hP hD hS 0 rfl rfl [0, 1, 2] rfl (by decide) (fun _ => rfl) rfl hl.1 rfl (Nat.le_of_ble_eq_true rfl) ⟨Nat.zero_le _, Nat.zero_le _⟩ dX7_leastLot_34 (fun r_34 u_34 H locs e_34 hP hD hS => ?_)
        have hP : va_P D vwCl [(h0, .inr (7, [.ref h1, .ref w1, .int w2, .ref w3, .int w4, .ref h2, .ref w6, .int w7, .int w8, .int w9, .int w10, .int w11, .int w12])), (h1, .inl (cI, 163, .inl u_34.1)), (h2, .inl (cI, 163, .inl u_34.2))] H := hP
        have hD : va_D A [(h0, .inr (7, [.ref h1, .ref w1, .int w2, .ref w3, .int w4, .ref h2, .ref w6, .int w7, .int w8, .int w9, .int w10, .int w11, .int w12])), (h1, .inl (cI, 163, .inl u_34.1)), (h2, .inl (cI, 163, .inl u_34.2))] := hD
        refine lv_bipush (v := (-5 : Int32)) hx hb dX7_leastLot_37 (by decide +kernel) ?_
        refine lv_icmp_eq (tgt := 44) hx hb dX7_leastLot_39 (by decide) (fun c_39 => ?_) (fun c_39 => ?_)
        · refine lv_iinc (v := (nI (k + 1))) (lv' := [(2, .int (nI (k + 1))), (0, .ref h0), (1, .int p0)]) hx hb dX7_leastLot_44 hl (k := 2) rfl (nI_1 _) (by decide) rfl (fun ls hl => ?_)
          refine lv_goto (tgt := 25) hx hb dX7_leastLot_47 (by decide) ?_
          exact ih (k + 1) u_34 (zz_WM_until e_34 hm hq) hq (by omega) (by omega) (hF.trans (fX7_leastLot_25_p1 p0 n k σ c_28 r_34 u_34 e_34 c_39)) _ _ hP hD hS _ (lv_sub hl [1, 2, 0] rfl)
        · refine lv_iload_n hx hb dX7_leastLot_42 rfl (lv_at hl 2 rfl) ?_
          exact hend _ _ _ _ _ _ dX7_leastLot_43 rfl (hF.trans (fX7_leastLot_25_p2 p0 n k σ c_28 r_34 u_34 e_34 c_39)) hP hS
  refine lv_iload_n hx hb dX7_leastLot_0 rfl (lv_at hl 1 rfl) ?_
  refine lv_iconst (v := (1 : Int32)) hx hb dX7_leastLot_1 (by decide +kernel) ?_
  refine lv_bipush (v := (99 : Int32)) hx hb dX7_leastLot_2 (by decide +kernel) ?_
  refine cRS ⟨hx, hb, hml, hown, hts⟩ (kX7_in l D cI cS p0 (1 : Int32) (99 : Int32)) (va_cwS 3 hts gX7_leastLot_X7_in rfl rfl rfl (by decide +kernel) ⟨Nat.le_of_ble_eq_true rfl, Nat.le_of_ble_eq_true rfl⟩) hE hP [] rfl rfl hl.1 rfl (Nat.le_of_ble_eq_true rfl) ⟨Nat.zero_le _, Nat.zero_le _⟩ dX7_leastLot_4 ?_
  refine lv_if_ne (tgt := 13) hx hb dX7_leastLot_7 (by decide) (fun c_7 => ?_) (fun c_7 => ?_)
  · refine lv_aload_n hx hb dX7_leastLot_13 rfl (lv_at hl 0 rfl) ?_
    refine cRV ⟨hx, hb, hml, hown, hts⟩ (kX7_canAsk l D cI cS h0 h1 w1 w2 w3 w4 h2 w6 w7 w8 w9 w10 w11 w12 τ.1) (cwV 0 hts gX7_leastLot_X7_canAsk rfl rfl rfl (by decide +kernel) ⟨Nat.le_of_ble_eq_true rfl, Nat.le_of_ble_eq_true rfl⟩) hE hP 0 rfl rfl [0, 1] rfl rfl hl.1 rfl (Nat.le_of_ble_eq_true rfl) ⟨Nat.zero_le _, Nat.zero_le _⟩ dX7_leastLot_14 ?_
    refine lv_if_ne (tgt := 23) hx hb dX7_leastLot_17 (by decide) (fun c_17 => ?_) (fun c_17 => ?_)
    · refine lv_iconst (v := (1 : Int32)) hx hb dX7_leastLot_23 (by decide +kernel) ?_
      refine lv_istore_n (lv' := [(2, .int (1 : Int32)), (0, .ref h0), (1, .int p0)]) hx hb dX7_leastLot_24 rfl hl (by decide) rfl (fun ls hl => ?_)
      exact loop_25 10 1 τ hm ((zz_in99 c_7).mono (by omega)) (by omega) (by omega) (fX7_leastLot_p3 p0 τ c_7 c_17) _ _ hP hD hS _ (lv_sub hl [1, 2, 0] rfl)
    · refine lv_bipush (v := (-4 : Int32)) hx hb dX7_leastLot_20 (by decide +kernel) ?_
      exact hend _ _ _ _ _ _ dX7_leastLot_22 rfl (fX7_leastLot_p4 p0 τ c_7 c_17) hP hS
  · refine lv_bipush (v := (-2 : Int32)) hx hb dX7_leastLot_10 (by decide +kernel) ?_
    exact hend _ _ _ _ _ _ dX7_leastLot_12 rfl (fX7_leastLot_p5 p0 τ c_7) hP hS

def fX7_save (τ : MVT) : Int32 × MVT := (let u_10 := (fX7_copyAll (0 : Int32) (0 : Int32) τ.1 τ.2.1); ((fX7_rows (0 : Int32) τ.1), (τ.1, u_10, (1 : Int32))))
theorem fX7_save_p0 (τ : MVT) (u_10 : FnI) (e_10 : (fX7_copyAll (0 : Int32) (0 : Int32) τ.1 τ.2.1) = u_10) : (fX7_save τ) = ((fX7_rows (0 : Int32) τ.1), (τ.1, u_10, (1 : Int32))) := by
  simp only [fX7_save, e_10]
set_option maxHeartbeats 4000000 in
set_option maxRecDepth 100000 in
theorem kX7_save (l : Launch) (D : va_G) (cI cS : ClassId) (h0 h1 h2 : Nat) (w1 : Nat) (w2 : Int32) (w5 : Nat) (w6 : Nat) (w7 : Int32) (w8 : Int32) (w9 : Int32) (w10 : Int32) (w11 : Int32) (w12 : Int32) (τ : MVT) : KI l yX7_save wsX7_save { frames := 2, cells := 0, slots := 0, locals := 45 } D (tysA cI cS) [.ref h0] [(h0, .inr (7, [.ref h1, .ref w1, .int w2, .ref h2, .int τ.2.2, .ref w5, .ref w6, .int w7, .int w8, .int w9, .int w10, .int w11, .int w12])), (h1, .inl (cI, 163, .inl τ.1)), (h2, .inl (cI, 163, .inl τ.2.1))] (fX7_save τ) (fun u => [(h0, .inr (7, [.ref h1, .ref w1, .int w2, .ref h2, .int u.2.2, .ref w5, .ref w6, .int w7, .int w8, .int w9, .int w10, .int w11, .int w12])), (h1, .inl (cI, 163, .inl u.1)), (h2, .inl (cI, 163, .inl u.2.1))]) := by
  refine KI.of (cc := cX7_save) (maxL := 1) (ty := .int) (by decide) rfl (Nat.le_of_ble_eq_true rfl) rfl (fun p e s m args below meth c ls Q A hx hb hml hown hts hE hP hD hS hl hend => ?_)
  have hown : s.vm.findClass RX7 = some m.cls := hown
  have hl : lv_has ls 1 [(0, .ref h0)] := hl
  refine lv_aload_n hx hb dX7_save_0 rfl (lv_at hl 0 rfl) ?_
  refine va_get (D := D) (ci := 7) (v := .ref h1) (C := RX7) (T := TX7) (N := 13) hx hb hts (fun _ h9 => List.mem_cons_of_mem _ (List.mem_append_right _ h9)) hown hE.1 hP 0 rfl rfl 0 (by decide) (hts (.fieldLink RX7 7 "ShadowTableModel" "s" "[I") (List.mem_of_getElem? (i := 1) rfl)) (fun _ h9 => h9) rfl dX7_save_1 ?_
  refine lv_iconst (v := (0 : Int32)) hx hb dX7_save_4 (by decide +kernel) ?_
  refine lv_aload_n hx hb dX7_save_5 rfl (lv_at hl 0 rfl) ?_
  refine va_get (D := D) (ci := 7) (v := .ref h2) (C := RX7) (T := TX7) (N := 13) hx hb hts (fun _ h9 => List.mem_cons_of_mem _ (List.mem_append_right _ h9)) hown hE.1 hP 0 rfl rfl 3 (by decide) (hts (.fieldLink RX7 16 "ShadowTableModel" "snapshot" "[I") (List.mem_of_getElem? (i := 2) rfl)) (fun _ h9 => h9) rfl dX7_save_6 ?_
  refine lv_iconst (v := (0 : Int32)) hx hb dX7_save_9 (by decide +kernel) ?_
  refine cVS ⟨hx, hb, hml, hown, hts⟩ (kX7_copyAll l D cI cS h1 h2 (0 : Int32) (0 : Int32) τ.1 τ.2.1 163 163 zz_c0a zz_c0b (by omega) zz_c0a zz_c0b (by omega)) (va_cwS 4 hts gX7_save_X7_copyAll rfl rfl rfl (by decide +kernel) ⟨Nat.le_of_ble_eq_true rfl, Nat.le_of_ble_eq_true rfl⟩) hE hP hD hS [1, 2] rfl (by decide) (fun _ => rfl) rfl hl.1 rfl (Nat.le_of_ble_eq_true rfl) ⟨Nat.zero_le _, Nat.zero_le _⟩ dX7_save_10 (fun u_10 H locs e_10 hP hD hS => ?_)
  have hP : va_P D vwCl [(h0, .inr (7, [.ref h1, .ref w1, .int w2, .ref h2, .int τ.2.2, .ref w5, .ref w6, .int w7, .int w8, .int w9, .int w10, .int w11, .int w12])), (h1, .inl (cI, 163, .inl τ.1)), (h2, .inl (cI, 163, .inl u_10))] H := hP
  have hD : va_D A [(h0, .inr (7, [.ref h1, .ref w1, .int w2, .ref h2, .int τ.2.2, .ref w5, .ref w6, .int w7, .int w8, .int w9, .int w10, .int w11, .int w12])), (h1, .inl (cI, 163, .inl τ.1)), (h2, .inl (cI, 163, .inl u_10))] := hD
  refine lv_aload_n hx hb dX7_save_13 rfl (lv_at hl 0 rfl) ?_
  refine lv_iconst (v := (1 : Int32)) hx hb dX7_save_14 (by decide +kernel) ?_
  refine xpf (ty := .boolean) (v := .int (1 : Int32)) (C := RX7) (T := TX7) (N := 13) hx hb hts (fun _ h9 => List.mem_cons_of_mem _ (List.mem_append_right _ h9)) tyX7 tyX7_ok nmX7 hown hE hP hD hS 0 rfl rfl 4 (by decide) (hts (.fieldLink RX7 172 "ShadowTableModel" "isTaken" "Z") (List.mem_of_getElem? (i := 3) rfl)) rfl rfl (by decide +kernel) rfl rfl (Nat.le_of_ble_eq_true rfl) [(h0, .inr (7, [.ref h1, .ref w1, .int w2, .ref h2, .int (1 : Int32), .ref w5, .ref w6, .int w7, .int w8, .int w9, .int w10, .int w11, .int w12])), (h1, .inl (cI, 163, .inl τ.1)), (h2, .inl (cI, 163, .inl u_10))] rfl dX7_save_15 (fun H locs hP hD hS => ?_)
  refine lv_aload_n hx hb dX7_save_18 rfl (lv_at hl 0 rfl) ?_
  refine lv_iconst (v := (0 : Int32)) hx hb dX7_save_19 (by decide +kernel) ?_
  refine cRV ⟨hx, hb, hml, hown, hts⟩ (kX7_rows l D cI cS h0 h1 w1 w2 h2 (1 : Int32) w5 w6 w7 w8 w9 w10 w11 w12 (0 : Int32) τ.1 zz_T0) (cwV 1 hts gX7_save_X7_rows rfl rfl rfl (by decide +kernel) ⟨Nat.le_of_ble_eq_true rfl, Nat.le_of_ble_eq_true rfl⟩) hE hP 0 rfl rfl [0, 1] rfl rfl hl.1 rfl (Nat.le_of_ble_eq_true rfl) ⟨Nat.zero_le _, Nat.zero_le _⟩ dX7_save_20 ?_
  exact hend _ _ _ _ _ _ dX7_save_23 rfl (fX7_save_p0 τ u_10 e_10) hP hS

def fX7_restore (τ : MWT) : Int32 × MWT := (if τ.2.2.2.2 = (0 : Int32) then ((-4 : Int32), τ) else (let u_11 := (fX7_record (τ.1, τ.2.1, τ.2.2.1)); (let u_24 := (fX7_copyAll (0 : Int32) (0 : Int32) τ.2.2.2.1 u_11.1); ((fX7_rows (0 : Int32) u_24), (u_24, u_11.2.1, u_11.2.2, τ.2.2.2.1, τ.2.2.2.2)))))
theorem fX7_restore_p0 (τ : MWT) (c_4 : ¬ τ.2.2.2.2 = (0 : Int32)) (u_11 : MHT) (e_11 : (fX7_record (τ.1, τ.2.1, τ.2.2.1)) = u_11) (u_24 : FnI) (e_24 : (fX7_copyAll (0 : Int32) (0 : Int32) τ.2.2.2.1 u_11.1) = u_24) : (fX7_restore τ) = ((fX7_rows (0 : Int32) u_24), (u_24, u_11.2.1, u_11.2.2, τ.2.2.2.1, τ.2.2.2.2)) := by
  simp only [fX7_restore, if_neg c_4, e_11, e_24]
theorem fX7_restore_p1 (τ : MWT) (c_4 : τ.2.2.2.2 = (0 : Int32)) : (fX7_restore τ) = ((-4 : Int32), τ) := by
  simp only [fX7_restore, if_pos c_4]
set_option maxHeartbeats 4000000 in
set_option maxRecDepth 100000 in
theorem kX7_restore (l : Launch) (D : va_G) (cI cS : ClassId) (h0 h1 h2 h3 : Nat) (w5 : Nat) (w6 : Nat) (w7 : Int32) (w8 : Int32) (w9 : Int32) (w10 : Int32) (w11 : Int32) (w12 : Int32) (τ : MWT) (hkp : Bd τ.2.2.1 5) : KI l yX7_restore wsX7_restore { frames := 2, cells := 0, slots := 0, locals := 45 } D (tysA cI cS) [.ref h0] [(h0, .inr (7, [.ref h1, .ref h2, .int τ.2.2.1, .ref h3, .int τ.2.2.2.2, .ref w5, .ref w6, .int w7, .int w8, .int w9, .int w10, .int w11, .int w12])), (h1, .inl (cI, 163, .inl τ.1)), (h2, .inl (cI, 815, .inl τ.2.1)), (h3, .inl (cI, 163, .inl τ.2.2.2.1))] (fX7_restore τ) (fun u => [(h0, .inr (7, [.ref h1, .ref h2, .int u.2.2.1, .ref h3, .int u.2.2.2.2, .ref w5, .ref w6, .int w7, .int w8, .int w9, .int w10, .int w11, .int w12])), (h1, .inl (cI, 163, .inl u.1)), (h2, .inl (cI, 815, .inl u.2.1)), (h3, .inl (cI, 163, .inl u.2.2.2.1))]) := by
  refine KI.of (cc := cX7_restore) (maxL := 1) (ty := .int) (by decide) rfl (Nat.le_of_ble_eq_true rfl) rfl (fun p e s m args below meth c ls Q A hx hb hml hown hts hE hP hD hS hl hend => ?_)
  have hown : s.vm.findClass RX7 = some m.cls := hown
  have hl : lv_has ls 1 [(0, .ref h0)] := hl
  refine lv_aload_n hx hb dX7_restore_0 rfl (lv_at hl 0 rfl) ?_
  refine va_get (D := D) (ci := 7) (v := .int τ.2.2.2.2) (C := RX7) (T := TX7) (N := 13) hx hb hts (fun _ h9 => List.mem_cons_of_mem _ (List.mem_append_right _ h9)) hown hE.1 hP 0 rfl rfl 4 (by decide) (hts (.fieldLink RX7 172 "ShadowTableModel" "isTaken" "Z") (List.mem_of_getElem? (i := 1) rfl)) (fun _ h9 => h9) rfl dX7_restore_1 ?_
  refine lv_if_ne (tgt := 10) hx hb dX7_restore_4 (by decide) (fun c_4 => ?_) (fun c_4 => ?_)
  · refine lv_aload_n hx hb dX7_restore_10 rfl (lv_at hl 0 rfl) ?_
    refine cVV ⟨hx, hb, hml, hown, hts⟩ (kX7_record l D cI cS h0 h1 h2 h3 τ.2.2.2.2 w5 w6 w7 w8 w9 w10 w11 w12 (τ.1, τ.2.1, τ.2.2.1) hkp) (cwV 0 hts gX7_restore_X7_record rfl rfl rfl (by decide +kernel) ⟨Nat.le_of_ble_eq_true rfl, Nat.le_of_ble_eq_true rfl⟩) hE hP hD hS 0 rfl rfl [0, 1, 2] rfl (by decide) (fun _ => rfl) rfl hl.1 rfl (Nat.le_of_ble_eq_true rfl) ⟨Nat.zero_le _, Nat.zero_le _⟩ dX7_restore_11 (fun u_11 H locs e_11 hP hD hS => ?_)
    have hP : va_P D vwCl [(h0, .inr (7, [.ref h1, .ref h2, .int u_11.2.2, .ref h3, .int τ.2.2.2.2, .ref w5, .ref w6, .int w7, .int w8, .int w9, .int w10, .int w11, .int w12])), (h1, .inl (cI, 163, .inl u_11.1)), (h2, .inl (cI, 815, .inl u_11.2.1)), (h3, .inl (cI, 163, .inl τ.2.2.2.1))] H := hP
    have hD : va_D A [(h0, .inr (7, [.ref h1, .ref h2, .int u_11.2.2, .ref h3, .int τ.2.2.2.2, .ref w5, .ref w6, .int w7, .int w8, .int w9, .int w10, .int w11, .int w12])), (h1, .inl (cI, 163, .inl u_11.1)), (h2, .inl (cI, 815, .inl u_11.2.1)), (h3, .inl (cI, 163, .inl τ.2.2.2.1))] := hD
    refine lv_aload_n hx hb dX7_restore_14 rfl (lv_at hl 0 rfl) ?_
    refine va_get (D := D) (ci := 7) (v := .ref h3) (C := RX7) (T := TX7) (N := 13) hx hb hts (fun _ h9 => List.mem_cons_of_mem _ (List.mem_append_right _ h9)) hown hE.1 hP 0 rfl rfl 3 (by decide) (hts (.fieldLink RX7 16 "ShadowTableModel" "snapshot" "[I") (List.mem_of_getElem? (i := 2) rfl)) (fun _ h9 => h9) rfl dX7_restore_15 ?_
    refine lv_iconst (v := (0 : Int32)) hx hb dX7_restore_18 (by decide +kernel) ?_
    refine lv_aload_n hx hb dX7_restore_19 rfl (lv_at hl 0 rfl) ?_
    refine va_get (D := D) (ci := 7) (v := .ref h1) (C := RX7) (T := TX7) (N := 13) hx hb hts (fun _ h9 => List.mem_cons_of_mem _ (List.mem_append_right _ h9)) hown hE.1 hP 0 rfl rfl 0 (by decide) (hts (.fieldLink RX7 7 "ShadowTableModel" "s" "[I") (List.mem_of_getElem? (i := 3) rfl)) (fun _ h9 => h9) rfl dX7_restore_20 ?_
    refine lv_iconst (v := (0 : Int32)) hx hb dX7_restore_23 (by decide +kernel) ?_
    refine cVS ⟨hx, hb, hml, hown, hts⟩ (kX7_copyAll l D cI cS h3 h1 (0 : Int32) (0 : Int32) τ.2.2.2.1 u_11.1 163 163 zz_c0a zz_c0b (by omega) zz_c0a zz_c0b (by omega)) (va_cwS 4 hts gX7_restore_X7_copyAll rfl rfl rfl (by decide +kernel) ⟨Nat.le_of_ble_eq_true rfl, Nat.le_of_ble_eq_true rfl⟩) hE hP hD hS [3, 1] rfl (by decide) (fun _ => rfl) rfl hl.1 rfl (Nat.le_of_ble_eq_true rfl) ⟨Nat.zero_le _, Nat.zero_le _⟩ dX7_restore_24 (fun u_24 H locs e_24 hP hD hS => ?_)
    have hP : va_P D vwCl [(h0, .inr (7, [.ref h1, .ref h2, .int u_11.2.2, .ref h3, .int τ.2.2.2.2, .ref w5, .ref w6, .int w7, .int w8, .int w9, .int w10, .int w11, .int w12])), (h1, .inl (cI, 163, .inl u_24)), (h2, .inl (cI, 815, .inl u_11.2.1)), (h3, .inl (cI, 163, .inl τ.2.2.2.1))] H := hP
    have hD : va_D A [(h0, .inr (7, [.ref h1, .ref h2, .int u_11.2.2, .ref h3, .int τ.2.2.2.2, .ref w5, .ref w6, .int w7, .int w8, .int w9, .int w10, .int w11, .int w12])), (h1, .inl (cI, 163, .inl u_24)), (h2, .inl (cI, 815, .inl u_11.2.1)), (h3, .inl (cI, 163, .inl τ.2.2.2.1))] := hD
    refine lv_aload_n hx hb dX7_restore_27 rfl (lv_at hl 0 rfl) ?_
    refine lv_iconst (v := (0 : Int32)) hx hb dX7_restore_28 (by decide +kernel) ?_
    refine cRV ⟨hx, hb, hml, hown, hts⟩ (kX7_rows l D cI cS h0 h1 h2 u_11.2.2 h3 τ.2.2.2.2 w5 w6 w7 w8 w9 w10 w11 w12 (0 : Int32) u_24 zz_T0) (cwV 1 hts gX7_restore_X7_rows rfl rfl rfl (by decide +kernel) ⟨Nat.le_of_ble_eq_true rfl, Nat.le_of_ble_eq_true rfl⟩) hE hP 0 rfl rfl [0, 1] rfl rfl hl.1 rfl (Nat.le_of_ble_eq_true rfl) ⟨Nat.zero_le _, Nat.zero_le _⟩ dX7_restore_29 ?_
    exact hend _ _ _ _ _ _ dX7_restore_32 rfl (fX7_restore_p0 τ c_4 u_11 e_11 u_24 e_24) hP hS
  · refine lv_bipush (v := (-4 : Int32)) hx hb dX7_restore_7 (by decide +kernel) ?_
    exact hend _ _ _ _ _ _ dX7_restore_9 rfl (fX7_restore_p1 τ c_4) hP hS

def fX7_undo (τ : MHT) : Int32 × MHT := (if τ.2.2 = (0 : Int32) then ((-5 : Int32), τ) else (let u_37 := (fX7_copyAll ((163 : Int32) * (τ.2.2 - (1 : Int32))) (0 : Int32) τ.2.1 τ.1); ((τ.2.2 - (1 : Int32)), (u_37, τ.2.1, (τ.2.2 - (1 : Int32))))))
theorem fX7_undo_p0 (τ : MHT) (c_4 : ¬ τ.2.2 = (0 : Int32)) (u_37 : FnI) (e_37 : (fX7_copyAll ((163 : Int32) * (τ.2.2 - (1 : Int32))) (0 : Int32) τ.2.1 τ.1) = u_37) : (fX7_undo τ) = ((τ.2.2 - (1 : Int32)), (u_37, τ.2.1, (τ.2.2 - (1 : Int32)))) := by
  simp only [fX7_undo, if_neg c_4, e_37]
theorem fX7_undo_p1 (τ : MHT) (c_4 : τ.2.2 = (0 : Int32)) : (fX7_undo τ) = ((-5 : Int32), τ) := by
  simp only [fX7_undo, if_pos c_4]
set_option maxHeartbeats 4000000 in
set_option maxRecDepth 100000 in
theorem kX7_undo (l : Launch) (D : va_G) (cI cS : ClassId) (h0 h1 h2 : Nat) (w3 : Nat) (w4 : Int32) (w5 : Nat) (w6 : Nat) (w7 : Int32) (w8 : Int32) (w9 : Int32) (w10 : Int32) (w11 : Int32) (w12 : Int32) (τ : MHT) (hkp : Bd τ.2.2 5) : KI l yX7_undo wsX7_undo { frames := 1, cells := 0, slots := 0, locals := 24 } D (tysA cI cS) [.ref h0] [(h0, .inr (7, [.ref h1, .ref h2, .int τ.2.2, .ref w3, .int w4, .ref w5, .ref w6, .int w7, .int w8, .int w9, .int w10, .int w11, .int w12])), (h1, .inl (cI, 163, .inl τ.1)), (h2, .inl (cI, 815, .inl τ.2.1))] (fX7_undo τ) (fun u => [(h0, .inr (7, [.ref h1, .ref h2, .int u.2.2, .ref w3, .int w4, .ref w5, .ref w6, .int w7, .int w8, .int w9, .int w10, .int w11, .int w12])), (h1, .inl (cI, 163, .inl u.1)), (h2, .inl (cI, 815, .inl u.2.1))]) := by
  refine KI.of (cc := cX7_undo) (maxL := 1) (ty := .int) (by decide) rfl (Nat.le_of_ble_eq_true rfl) rfl (fun p e s m args below meth c ls Q A hx hb hml hown hts hE hP hD hS hl hend => ?_)
  have hown : s.vm.findClass RX7 = some m.cls := hown
  have hl : lv_has ls 1 [(0, .ref h0)] := hl
  refine lv_aload_n hx hb dX7_undo_0 rfl (lv_at hl 0 rfl) ?_
  refine va_get (D := D) (ci := 7) (v := .int τ.2.2) (C := RX7) (T := TX7) (N := 13) hx hb hts (fun _ h9 => List.mem_cons_of_mem _ (List.mem_append_right _ h9)) hown hE.1 hP 0 rfl rfl 2 (by decide) (hts (.fieldLink RX7 37 "ShadowTableModel" "kept" "I") (List.mem_of_getElem? (i := 1) rfl)) (fun _ h9 => h9) rfl dX7_undo_1 ?_
  refine lv_if_ne (tgt := 10) hx hb dX7_undo_4 (by decide) (fun c_4 => ?_) (fun c_4 => ?_)
  · refine lv_aload_n hx hb dX7_undo_10 rfl (lv_at hl 0 rfl) ?_
    refine lv_dup hx hb dX7_undo_11 rfl ?_
    refine va_get (D := D) (ci := 7) (v := .int τ.2.2) (C := RX7) (T := TX7) (N := 13) hx hb hts (fun _ h9 => List.mem_cons_of_mem _ (List.mem_append_right _ h9)) hown hE.1 hP 0 rfl rfl 2 (by decide) (hts (.fieldLink RX7 37 "ShadowTableModel" "kept" "I") (List.mem_of_getElem? (i := 1) rfl)) (fun _ h9 => h9) rfl dX7_undo_12 ?_
    refine lv_iconst (v := (1 : Int32)) hx hb dX7_undo_15 (by decide +kernel) ?_
    refine lv_isub hx hb dX7_undo_16 ?_
    refine xpf (ty := .int) (v := .int (τ.2.2 - (1 : Int32))) (C := RX7) (T := TX7) (N := 13) hx hb hts (fun _ h9 => List.mem_cons_of_mem _ (List.mem_append_right _ h9)) tyX7 tyX7_ok nmX7 hown hE hP hD hS 0 rfl rfl 2 (by decide) (hts (.fieldLink RX7 37 "ShadowTableModel" "kept" "I") (List.mem_of_getElem? (i := 1) rfl)) rfl rfl (by decide +kernel) rfl rfl (Nat.le_of_ble_eq_true rfl) [(h0, .inr (7, [.ref h1, .ref h2, .int (τ.2.2 - (1 : Int32)), .ref w3, .int w4, .ref w5, .ref w6, .int w7, .int w8, .int w9, .int w10, .int w11, .int w12])), (h1, .inl (cI, 163, .inl τ.1)), (h2, .inl (cI, 815, .inl τ.2.1))] rfl dX7_undo_17 (fun H locs hP hD hS => ?_)
    refine lv_aload_n hx hb dX7_undo_20 rfl (lv_at hl 0 rfl) ?_
    refine va_get (D := D) (ci := 7) (v := .ref h2) (C := RX7) (T := TX7) (N := 13) hx hb hts (fun _ h9 => List.mem_cons_of_mem _ (List.mem_append_right _ h9)) hown hE.1 hP 0 rfl rfl 1 (by decide) (hts (.fieldLink RX7 13 "ShadowTableModel" "history" "[I") (List.mem_of_getElem? (i := 2) rfl)) (fun _ h9 => h9) rfl dX7_undo_21 ?_
    refine lv_sipush (v := (163 : Int32)) hx hb dX7_undo_24 (by decide +kernel) ?_
    refine lv_aload_n hx hb dX7_undo_27 rfl (lv_at hl 0 rfl) ?_
    refine va_get (D := D) (ci := 7) (v := .int (τ.2.2 - (1 : Int32))) (C := RX7) (T := TX7) (N := 13) hx hb hts (fun _ h9 => List.mem_cons_of_mem _ (List.mem_append_right _ h9)) hown hE.1 hP 0 rfl rfl 2 (by decide) (hts (.fieldLink RX7 37 "ShadowTableModel" "kept" "I") (List.mem_of_getElem? (i := 1) rfl)) (fun _ h9 => h9) rfl dX7_undo_28 ?_
    refine lv_imul hx hb dX7_undo_31 ?_
    refine lv_aload_n hx hb dX7_undo_32 rfl (lv_at hl 0 rfl) ?_
    refine va_get (D := D) (ci := 7) (v := .ref h1) (C := RX7) (T := TX7) (N := 13) hx hb hts (fun _ h9 => List.mem_cons_of_mem _ (List.mem_append_right _ h9)) hown hE.1 hP 0 rfl rfl 0 (by decide) (hts (.fieldLink RX7 7 "ShadowTableModel" "s" "[I") (List.mem_of_getElem? (i := 3) rfl)) (fun _ h9 => h9) rfl dX7_undo_33 ?_
    refine lv_iconst (v := (0 : Int32)) hx hb dX7_undo_36 (by decide +kernel) ?_
    refine cVS ⟨hx, hb, hml, hown, hts⟩ (kX7_copyAll l D cI cS h2 h1 ((163 : Int32) * (τ.2.2 - (1 : Int32))) (0 : Int32) τ.2.1 τ.1 815 163 (zz_kU hkp c_4).1 (zz_kU hkp c_4).2 (by omega) zz_c0a zz_c0b (by omega)) (va_cwS 4 hts gX7_undo_X7_copyAll rfl rfl rfl (by decide +kernel) ⟨Nat.le_of_ble_eq_true rfl, Nat.le_of_ble_eq_true rfl⟩) hE hP hD hS [2, 1] rfl (by decide) (fun _ => rfl) rfl hl.1 rfl (Nat.le_of_ble_eq_true rfl) ⟨Nat.zero_le _, Nat.zero_le _⟩ dX7_undo_37 (fun u_37 H locs e_37 hP hD hS => ?_)
    have hP : va_P D vwCl [(h0, .inr (7, [.ref h1, .ref h2, .int (τ.2.2 - (1 : Int32)), .ref w3, .int w4, .ref w5, .ref w6, .int w7, .int w8, .int w9, .int w10, .int w11, .int w12])), (h1, .inl (cI, 163, .inl u_37)), (h2, .inl (cI, 815, .inl τ.2.1))] H := hP
    have hD : va_D A [(h0, .inr (7, [.ref h1, .ref h2, .int (τ.2.2 - (1 : Int32)), .ref w3, .int w4, .ref w5, .ref w6, .int w7, .int w8, .int w9, .int w10, .int w11, .int w12])), (h1, .inl (cI, 163, .inl u_37)), (h2, .inl (cI, 815, .inl τ.2.1))] := hD
    refine lv_aload_n hx hb dX7_undo_40 rfl (lv_at hl 0 rfl) ?_
    refine va_get (D := D) (ci := 7) (v := .int (τ.2.2 - (1 : Int32))) (C := RX7) (T := TX7) (N := 13) hx hb hts (fun _ h9 => List.mem_cons_of_mem _ (List.mem_append_right _ h9)) hown hE.1 hP 0 rfl rfl 2 (by decide) (hts (.fieldLink RX7 37 "ShadowTableModel" "kept" "I") (List.mem_of_getElem? (i := 1) rfl)) (fun _ h9 => h9) rfl dX7_undo_41 ?_
    exact hend _ _ _ _ _ _ dX7_undo_44 rfl (fX7_undo_p0 τ c_4 u_37 e_37) hP hS
  · refine lv_bipush (v := (-5 : Int32)) hx hb dX7_undo_7 (by decide +kernel) ?_
    exact hend _ _ _ _ _ _ dX7_undo_9 rfl (fX7_undo_p1 τ c_4) hP hS

def fX7_errorOfOrder (τ : MOT) : Int32 := (if τ.2.1 = (98 : Int32) then (fX7_beginError τ.2.2.1 τ.2.2.2 τ.1) else (if τ.2.1 = (101 : Int32) then (fX7_eraseError τ.2.2.1 τ.1) else (if τ.2.1 = (103 : Int32) then (if (fX7_isCopy τ.1) = (0 : Int32) then (-4 : Int32) else (0 : Int32)) else (if τ.2.1 = (108 : Int32) then (fX7_phaseError (2 : Int32) τ.1) else (if τ.2.1 = (112 : Int32) then (fX7_putError τ.2.2.1 τ.2.2.2 τ.1) else (if τ.2.1 = (115 : Int32) then (fX7_swapError τ.1) else (if τ.2.1 = (117 : Int32) then (fX7_phaseError (3 : Int32) τ.1) else (0 : Int32))))))))
theorem fX7_errorOfOrder_p0 (τ : MOT) (c_4_0 : τ.2.1 = (98 : Int32)) : (fX7_errorOfOrder τ) = (fX7_beginError τ.2.2.1 τ.2.2.2 τ.1) := by
  simp only [fX7_errorOfOrder, if_pos c_4_0]
theorem fX7_errorOfOrder_p1 (τ : MOT) (c_4_0 : ¬ τ.2.1 = (98 : Int32)) (c_4_1 : τ.2.1 = (101 : Int32)) : (fX7_errorOfOrder τ) = (fX7_eraseError τ.2.2.1 τ.1) := by
  simp only [fX7_errorOfOrder, if_neg c_4_0, if_pos c_4_1]
theorem fX7_errorOfOrder_p2 (τ : MOT) (c_4_0 : ¬ τ.2.1 = (98 : Int32)) (c_4_1 : ¬ τ.2.1 = (101 : Int32)) (c_4_2 : τ.2.1 = (103 : Int32)) (c_156 : (fX7_isCopy τ.1) = (0 : Int32)) : (fX7_errorOfOrder τ) = (-4 : Int32) := by
  simp only [fX7_errorOfOrder, if_neg c_4_0, if_neg c_4_1, if_pos c_4_2, if_pos c_156]
theorem fX7_errorOfOrder_p3 (τ : MOT) (c_4_0 : ¬ τ.2.1 = (98 : Int32)) (c_4_1 : ¬ τ.2.1 = (101 : Int32)) (c_4_2 : τ.2.1 = (103 : Int32)) (c_156 : ¬ (fX7_isCopy τ.1) = (0 : Int32)) : (fX7_errorOfOrder τ) = (0 : Int32) := by
  simp only [fX7_errorOfOrder, if_neg c_4_0, if_neg c_4_1, if_pos c_4_2, if_neg c_156]
theorem fX7_errorOfOrder_p4 (τ : MOT) (c_4_0 : ¬ τ.2.1 = (98 : Int32)) (c_4_1 : ¬ τ.2.1 = (101 : Int32)) (c_4_2 : ¬ τ.2.1 = (103 : Int32)) (c_4_3 : τ.2.1 = (108 : Int32)) : (fX7_errorOfOrder τ) = (fX7_phaseError (2 : Int32) τ.1) := by
  simp only [fX7_errorOfOrder, if_neg c_4_0, if_neg c_4_1, if_neg c_4_2, if_pos c_4_3]
theorem fX7_errorOfOrder_p5 (τ : MOT) (c_4_0 : ¬ τ.2.1 = (98 : Int32)) (c_4_1 : ¬ τ.2.1 = (101 : Int32)) (c_4_2 : ¬ τ.2.1 = (103 : Int32)) (c_4_3 : ¬ τ.2.1 = (108 : Int32)) (c_4_4 : τ.2.1 = (112 : Int32)) : (fX7_errorOfOrder τ) = (fX7_putError τ.2.2.1 τ.2.2.2 τ.1) := by
  simp only [fX7_errorOfOrder, if_neg c_4_0, if_neg c_4_1, if_neg c_4_2, if_neg c_4_3, if_pos c_4_4]
theorem fX7_errorOfOrder_p6 (τ : MOT) (c_4_0 : ¬ τ.2.1 = (98 : Int32)) (c_4_1 : ¬ τ.2.1 = (101 : Int32)) (c_4_2 : ¬ τ.2.1 = (103 : Int32)) (c_4_3 : ¬ τ.2.1 = (108 : Int32)) (c_4_4 : ¬ τ.2.1 = (112 : Int32)) (c_4_5 : τ.2.1 = (115 : Int32)) : (fX7_errorOfOrder τ) = (fX7_swapError τ.1) := by
  simp only [fX7_errorOfOrder, if_neg c_4_0, if_neg c_4_1, if_neg c_4_2, if_neg c_4_3, if_neg c_4_4, if_pos c_4_5]
theorem fX7_errorOfOrder_p7 (τ : MOT) (c_4_0 : ¬ τ.2.1 = (98 : Int32)) (c_4_1 : ¬ τ.2.1 = (101 : Int32)) (c_4_2 : ¬ τ.2.1 = (103 : Int32)) (c_4_3 : ¬ τ.2.1 = (108 : Int32)) (c_4_4 : ¬ τ.2.1 = (112 : Int32)) (c_4_5 : ¬ τ.2.1 = (115 : Int32)) (c_4_6 : τ.2.1 = (117 : Int32)) : (fX7_errorOfOrder τ) = (fX7_phaseError (3 : Int32) τ.1) := by
  simp only [fX7_errorOfOrder, if_neg c_4_0, if_neg c_4_1, if_neg c_4_2, if_neg c_4_3, if_neg c_4_4, if_neg c_4_5, if_pos c_4_6]
theorem fX7_errorOfOrder_p8 (τ : MOT) (c_4_0 : ¬ τ.2.1 = (98 : Int32)) (c_4_1 : ¬ τ.2.1 = (101 : Int32)) (c_4_2 : ¬ τ.2.1 = (103 : Int32)) (c_4_3 : ¬ τ.2.1 = (108 : Int32)) (c_4_4 : ¬ τ.2.1 = (112 : Int32)) (c_4_5 : ¬ τ.2.1 = (115 : Int32)) (c_4_6 : ¬ τ.2.1 = (117 : Int32)) : (fX7_errorOfOrder τ) = (0 : Int32) := by
  simp only [fX7_errorOfOrder, if_neg c_4_0, if_neg c_4_1, if_neg c_4_2, if_neg c_4_3, if_neg c_4_4, if_neg c_4_5, if_neg c_4_6]
set_option maxHeartbeats 4000000 in
set_option maxRecDepth 100000 in
theorem kX7_errorOfOrder (l : Launch) (D : va_G) (cI cS : ClassId) (h0 h1 : Nat) (w1 : Nat) (w2 : Int32) (w3 : Nat) (w4 : Int32) (w5 : Nat) (w6 : Nat) (w7 : Int32) (w8 : Int32) (w12 : Int32) (τ : MOT) : KR l yX7_errorOfOrder wsX7_errorOfOrder { frames := 4, cells := 0, slots := 0, locals := 82 } D (tysA cI cS) [.ref h0] [(h0, .inr (7, [.ref h1, .ref w1, .int w2, .ref w3, .int w4, .ref w5, .ref w6, .int w7, .int w8, .int τ.2.1, .int τ.2.2.1, .int τ.2.2.2, .int w12])), (h1, .inl (cI, 163, .inl τ.1))] (fX7_errorOfOrder τ) := by
  refine KR.of (cc := cX7_errorOfOrder) (maxL := 1) (ty := .int) (by decide) rfl (Nat.le_of_ble_eq_true rfl) rfl (fun p e s m args below meth c ls Q hx hb hml hown hts hE hP hl hend => ?_)
  have hown : s.vm.findClass RX7 = some m.cls := hown
  have hl : lv_has ls 1 [(0, .ref h0)] := hl
  refine lv_aload_n hx hb dX7_errorOfOrder_0 rfl (lv_at hl 0 rfl) ?_
  refine va_get (D := D) (ci := 7) (v := .int τ.2.1) (C := RX7) (T := TX7) (N := 13) hx hb hts (fun _ h9 => List.mem_cons_of_mem _ (List.mem_append_right _ h9)) hown hE.1 hP 0 rfl rfl 9 (by decide) (hts (.fieldLink RX7 141 "ShadowTableModel" "letter" "I") (List.mem_of_getElem? (i := 1) rfl)) (fun _ h9 => h9) rfl dX7_errorOfOrder_1 ?_
  refine (Decidable.em (τ.2.1 = (98 : Int32))).elim (fun c_4_0 => ?_) (fun c_4_0 => ?_)
  · refine lv_tableIn (off := 118) (tgt := 122) hx hb dX7_errorOfOrder_4 (by rw [c_4_0]; decide +kernel) (by rw [c_4_0]; decide +kernel) (by rw [c_4_0]; decide +kernel) (by decide) ?_
    refine lv_aload_n hx hb dX7_errorOfOrder_122 rfl (lv_at hl 0 rfl) ?_
    refine lv_aload_n hx hb dX7_errorOfOrder_123 rfl (lv_at hl 0 rfl) ?_
    refine va_get (D := D) (ci := 7) (v := .int τ.2.2.1) (C := RX7) (T := TX7) (N := 13) hx hb hts (fun _ h9 => List.mem_cons_of_mem _ (List.mem_append_right _ h9)) hown hE.1 hP 0 rfl rfl 10 (by decide) (hts (.fieldLink RX7 147 "ShadowTableModel" "one" "I") (List.mem_of_getElem? (i := 2) rfl)) (fun _ h9 => h9) rfl dX7_errorOfOrder_124 ?_
    refine lv_aload_n hx hb dX7_errorOfOrder_127 rfl (lv_at hl 0 rfl) ?_
    refine va_get (D := D) (ci := 7) (v := .int τ.2.2.2) (C := RX7) (T := TX7) (N := 13) hx hb hts (fun _ h9 => List.mem_cons_of_mem _ (List.mem_append_right _ h9)) hown hE.1 hP 0 rfl rfl 11 (by decide) (hts (.fieldLink RX7 153 "ShadowTableModel" "other" "I") (List.mem_of_getElem? (i := 3) rfl)) (fun _ h9 => h9) rfl dX7_errorOfOrder_128 ?_
    refine cRV ⟨hx, hb, hml, hown, hts⟩ (kX7_beginError l D cI cS h0 h1 w1 w2 w3 w4 w5 w6 w7 w8 τ.2.1 τ.2.2.1 τ.2.2.2 w12 τ.2.2.1 τ.2.2.2 τ.1) (cwV 2 hts gX7_errorOfOrder_X7_beginError rfl rfl rfl (by decide +kernel) ⟨Nat.le_of_ble_eq_true rfl, Nat.le_of_ble_eq_true rfl⟩) hE hP 0 rfl rfl [0, 1] rfl rfl hl.1 rfl (Nat.le_of_ble_eq_true rfl) ⟨Nat.zero_le _, Nat.zero_le _⟩ dX7_errorOfOrder_131 ?_
    exact hend _ _ _ dX7_errorOfOrder_134 rfl (fX7_errorOfOrder_p0 τ c_4_0)
  · refine (Decidable.em (τ.2.1 = (101 : Int32))).elim (fun c_4_1 => ?_) (fun c_4_1 => ?_)
    · refine lv_tableIn (off := 109) (tgt := 113) hx hb dX7_errorOfOrder_4 (by rw [c_4_1]; decide +kernel) (by rw [c_4_1]; decide +kernel) (by rw [c_4_1]; decide +kernel) (by decide) ?_
      refine lv_aload_n hx hb dX7_errorOfOrder_113 rfl (lv_at hl 0 rfl) ?_
      refine lv_aload_n hx hb dX7_errorOfOrder_114 rfl (lv_at hl 0 rfl) ?_
      refine va_get (D := D) (ci := 7) (v := .int τ.2.2.1) (C := RX7) (T := TX7) (N := 13) hx hb hts (fun _ h9 => List.mem_cons_of_mem _ (List.mem_append_right _ h9)) hown hE.1 hP 0 rfl rfl 10 (by decide) (hts (.fieldLink RX7 147 "ShadowTableModel" "one" "I") (List.mem_of_getElem? (i := 2) rfl)) (fun _ h9 => h9) rfl dX7_errorOfOrder_115 ?_
      refine cRV ⟨hx, hb, hml, hown, hts⟩ (kX7_eraseError l D cI cS h0 h1 w1 w2 w3 w4 w5 w6 w7 w8 τ.2.1 τ.2.2.1 τ.2.2.2 w12 τ.2.2.1 τ.1) (cwV 1 hts gX7_errorOfOrder_X7_eraseError rfl rfl rfl (by decide +kernel) ⟨Nat.le_of_ble_eq_true rfl, Nat.le_of_ble_eq_true rfl⟩) hE hP 0 rfl rfl [0, 1] rfl rfl hl.1 rfl (Nat.le_of_ble_eq_true rfl) ⟨Nat.zero_le _, Nat.zero_le _⟩ dX7_errorOfOrder_118 ?_
      exact hend _ _ _ dX7_errorOfOrder_121 rfl (fX7_errorOfOrder_p1 τ c_4_0 c_4_1)
    · refine (Decidable.em (τ.2.1 = (103 : Int32))).elim (fun c_4_2 => ?_) (fun c_4_2 => ?_)
      · refine lv_tableIn (off := 148) (tgt := 152) hx hb dX7_errorOfOrder_4 (by rw [c_4_2]; decide +kernel) (by rw [c_4_2]; decide +kernel) (by rw [c_4_2]; decide +kernel) (by decide) ?_
        refine lv_aload_n hx hb dX7_errorOfOrder_152 rfl (lv_at hl 0 rfl) ?_
        refine cRV ⟨hx, hb, hml, hown, hts⟩ (kX7_isCopy l D cI cS h0 h1 w1 w2 w3 w4 w5 w6 w7 w8 τ.2.1 τ.2.2.1 τ.2.2.2 w12 τ.1) (cwV 0 hts gX7_errorOfOrder_X7_isCopy rfl rfl rfl (by decide +kernel) ⟨Nat.le_of_ble_eq_true rfl, Nat.le_of_ble_eq_true rfl⟩) hE hP 0 rfl rfl [0, 1] rfl rfl hl.1 rfl (Nat.le_of_ble_eq_true rfl) ⟨Nat.zero_le _, Nat.zero_le _⟩ dX7_errorOfOrder_153 ?_
        refine lv_if_eq (tgt := 163) hx hb dX7_errorOfOrder_156 (by decide) (fun c_156 => ?_) (fun c_156 => ?_)
        · refine lv_bipush (v := (-4 : Int32)) hx hb dX7_errorOfOrder_163 (by decide +kernel) ?_
          exact hend _ _ _ dX7_errorOfOrder_165 rfl (fX7_errorOfOrder_p2 τ c_4_0 c_4_1 c_4_2 c_156)
        · refine lv_iconst (v := (0 : Int32)) hx hb dX7_errorOfOrder_159 (by decide +kernel) ?_
          refine lv_goto (tgt := 165) hx hb dX7_errorOfOrder_160 (by decide) ?_
          exact hend _ _ _ dX7_errorOfOrder_165 rfl (fX7_errorOfOrder_p3 τ c_4_0 c_4_1 c_4_2 c_156)
      · refine (Decidable.em (τ.2.1 = (108 : Int32))).elim (fun c_4_3 => ?_) (fun c_4_3 => ?_)
        · refine lv_tableIn (off := 131) (tgt := 135) hx hb dX7_errorOfOrder_4 (by rw [c_4_3]; decide +kernel) (by rw [c_4_3]; decide +kernel) (by rw [c_4_3]; decide +kernel) (by decide) ?_
          refine lv_aload_n hx hb dX7_errorOfOrder_135 rfl (lv_at hl 0 rfl) ?_
          refine lv_iconst (v := (2 : Int32)) hx hb dX7_errorOfOrder_136 (by decide +kernel) ?_
          refine cRV ⟨hx, hb, hml, hown, hts⟩ (kX7_phaseError l D cI cS h0 h1 w1 w2 w3 w4 w5 w6 w7 w8 τ.2.1 τ.2.2.1 τ.2.2.2 w12 (2 : Int32) τ.1) (cwV 1 hts gX7_errorOfOrder_X7_phaseError rfl rfl rfl (by decide +kernel) ⟨Nat.le_of_ble_eq_true rfl, Nat.le_of_ble_eq_true rfl⟩) hE hP 0 rfl rfl [0, 1] rfl rfl hl.1 rfl (Nat.le_of_ble_eq_true rfl) ⟨Nat.zero_le _, Nat.zero_le _⟩ dX7_errorOfOrder_137 ?_
          exact hend _ _ _ dX7_errorOfOrder_140 rfl (fX7_errorOfOrder_p4 τ c_4_0 c_4_1 c_4_2 c_4_3)
        · refine (Decidable.em (τ.2.1 = (112 : Int32))).elim (fun c_4_4 => ?_) (fun c_4_4 => ?_)
          · refine lv_tableIn (off := 96) (tgt := 100) hx hb dX7_errorOfOrder_4 (by rw [c_4_4]; decide +kernel) (by rw [c_4_4]; decide +kernel) (by rw [c_4_4]; decide +kernel) (by decide) ?_
            refine lv_aload_n hx hb dX7_errorOfOrder_100 rfl (lv_at hl 0 rfl) ?_
            refine lv_aload_n hx hb dX7_errorOfOrder_101 rfl (lv_at hl 0 rfl) ?_
            refine va_get (D := D) (ci := 7) (v := .int τ.2.2.1) (C := RX7) (T := TX7) (N := 13) hx hb hts (fun _ h9 => List.mem_cons_of_mem _ (List.mem_append_right _ h9)) hown hE.1 hP 0 rfl rfl 10 (by decide) (hts (.fieldLink RX7 147 "ShadowTableModel" "one" "I") (List.mem_of_getElem? (i := 2) rfl)) (fun _ h9 => h9) rfl dX7_errorOfOrder_102 ?_
            refine lv_aload_n hx hb dX7_errorOfOrder_105 rfl (lv_at hl 0 rfl) ?_
            refine va_get (D := D) (ci := 7) (v := .int τ.2.2.2) (C := RX7) (T := TX7) (N := 13) hx hb hts (fun _ h9 => List.mem_cons_of_mem _ (List.mem_append_right _ h9)) hown hE.1 hP 0 rfl rfl 11 (by decide) (hts (.fieldLink RX7 153 "ShadowTableModel" "other" "I") (List.mem_of_getElem? (i := 3) rfl)) (fun _ h9 => h9) rfl dX7_errorOfOrder_106 ?_
            refine cRV ⟨hx, hb, hml, hown, hts⟩ (kX7_putError l D cI cS h0 h1 w1 w2 w3 w4 w5 w6 w7 w8 τ.2.1 τ.2.2.1 τ.2.2.2 w12 τ.2.2.1 τ.2.2.2 τ.1) (cwV 2 hts gX7_errorOfOrder_X7_putError rfl rfl rfl (by decide +kernel) ⟨Nat.le_of_ble_eq_true rfl, Nat.le_of_ble_eq_true rfl⟩) hE hP 0 rfl rfl [0, 1] rfl rfl hl.1 rfl (Nat.le_of_ble_eq_true rfl) ⟨Nat.zero_le _, Nat.zero_le _⟩ dX7_errorOfOrder_109 ?_
            exact hend _ _ _ dX7_errorOfOrder_112 rfl (fX7_errorOfOrder_p5 τ c_4_0 c_4_1 c_4_2 c_4_3 c_4_4)
          · refine (Decidable.em (τ.2.1 = (115 : Int32))).elim (fun c_4_5 => ?_) (fun c_4_5 => ?_)
            · refine lv_tableIn (off := 143) (tgt := 147) hx hb dX7_errorOfOrder_4 (by rw [c_4_5]; decide +kernel) (by rw [c_4_5]; decide +kernel) (by rw [c_4_5]; decide +kernel) (by decide) ?_
              refine lv_aload_n hx hb dX7_errorOfOrder_147 rfl (lv_at hl 0 rfl) ?_
              refine cRV ⟨hx, hb, hml, hown, hts⟩ (kX7_swapError l D cI cS h0 h1 w1 w2 w3 w4 w5 w6 w7 w8 τ.2.1 τ.2.2.1 τ.2.2.2 w12 τ.1) (cwV 0 hts gX7_errorOfOrder_X7_swapError rfl rfl rfl (by decide +kernel) ⟨Nat.le_of_ble_eq_true rfl, Nat.le_of_ble_eq_true rfl⟩) hE hP 0 rfl rfl [0, 1] rfl rfl hl.1 rfl (Nat.le_of_ble_eq_true rfl) ⟨Nat.zero_le _, Nat.zero_le _⟩ dX7_errorOfOrder_148 ?_
              exact hend _ _ _ dX7_errorOfOrder_151 rfl (fX7_errorOfOrder_p6 τ c_4_0 c_4_1 c_4_2 c_4_3 c_4_4 c_4_5)
            · refine (Decidable.em (τ.2.1 = (117 : Int32))).elim (fun c_4_6 => ?_) (fun c_4_6 => ?_)
              · refine lv_tableIn (off := 137) (tgt := 141) hx hb dX7_errorOfOrder_4 (by rw [c_4_6]; decide +kernel) (by rw [c_4_6]; decide +kernel) (by rw [c_4_6]; decide +kernel) (by decide) ?_
                refine lv_aload_n hx hb dX7_errorOfOrder_141 rfl (lv_at hl 0 rfl) ?_
                refine lv_iconst (v := (3 : Int32)) hx hb dX7_errorOfOrder_142 (by decide +kernel) ?_
                refine cRV ⟨hx, hb, hml, hown, hts⟩ (kX7_phaseError l D cI cS h0 h1 w1 w2 w3 w4 w5 w6 w7 w8 τ.2.1 τ.2.2.1 τ.2.2.2 w12 (3 : Int32) τ.1) (cwV 1 hts gX7_errorOfOrder_X7_phaseError rfl rfl rfl (by decide +kernel) ⟨Nat.le_of_ble_eq_true rfl, Nat.le_of_ble_eq_true rfl⟩) hE hP 0 rfl rfl [0, 1] rfl rfl hl.1 rfl (Nat.le_of_ble_eq_true rfl) ⟨Nat.zero_le _, Nat.zero_le _⟩ dX7_errorOfOrder_143 ?_
                exact hend _ _ _ dX7_errorOfOrder_146 rfl (fX7_errorOfOrder_p7 τ c_4_0 c_4_1 c_4_2 c_4_3 c_4_4 c_4_5 c_4_6)
              · refine xtabD (tgt := 166) hx hb dX7_errorOfOrder_4 (xno_cons (a := 98) c_4_0 (by decide) (xno_cons (a := 101) c_4_1 (by decide) (xno_cons (a := 103) c_4_2 (by decide) (xno_cons (a := 108) c_4_3 (by decide) (xno_cons (a := 112) c_4_4 (by decide) (xno_cons (a := 115) c_4_5 (by decide) (xno_cons (a := 117) c_4_6 (by decide) xno_nil))))))) (by decide +kernel) (by decide) ?_
                refine lv_iconst (v := (0 : Int32)) hx hb dX7_errorOfOrder_166 (by decide +kernel) ?_
                exact hend _ _ _ dX7_errorOfOrder_167 rfl (fX7_errorOfOrder_p8 τ c_4_0 c_4_1 c_4_2 c_4_3 c_4_4 c_4_5 c_4_6)

theorem WM_end {τ : FnI} (hm : WM τ) : WM (fX7_endCopy τ) := by
  refine ⟨Bd.of (j := 0) (by omega) (by omega), hm.2.1, fun i hi => ?_⟩
  exact absurd hi (by rw [show (fX7_endCopy τ 4) = (0 : Int32) from rfl, show (0 : Int32).toNatClampNeg = 0 from by decide]; omega)
theorem WM_u {s : FnI} {j : Nat} {x : Int32} (hm : WM s) (h3 : j ≠ 3) (h4 : j ≠ 4) (hj : j < 115) : WM (upd s j x) := zz_WMu h3 h4 hj hm
theorem WM_app {τ : FnI} {a v : Int32} (hm : WM τ) (ha : Bd a 31) (h : Bd (τ 4) 23) : WM (upd (upd (upd τ (115 + 2 * (τ 4).toNatClampNeg) a) (115 + 2 * (τ 4).toNatClampNeg + 1) v) 4 ((τ 4) + (1 : Int32))) := by
  have h2 := h.2
  have hi := bd_inc (M := 24) h (by omega) (by omega) (by omega)
  refine ⟨by rw [pk_us]; exact hi.1, by rw [pk_un (by omega), pk_un (by omega), pk_un (by omega)]; exact hm.2.1, fun i hi2 => ?_⟩
  rw [pk_us, hi.2] at hi2
  rw [pk_un (by omega), pk_un (by omega)]
  by_cases q : i = (τ 4).toNatClampNeg
  · rw [q, pk_us]; exact ha
  · rw [pk_un (by omega)]; exact hm.2.2 i (by omega)
theorem WM_change {τ : FnI} {a v : Int32} (hm : WM τ) (ha : Bd a 31) : WM (fX7_doChange a v τ).2 := by
  have h13 : WM (upd (fX7_endCopy τ) 13 ((fX7_endCopy τ 13) + (1 : Int32))) := WM_u (WM_end hm) (by decide) (by decide) (by decide)
  unfold fX7_doChange
  by_cases c1 : fX7_isLogFull τ = (0 : Int32)
  · rw [if_pos c1]
    by_cases c2 : fX7_isCopy τ = (0 : Int32)
    · rw [if_pos c2]; exact WM_lay hm zz_T0 ha
    · rw [if_neg c2]; exact WM_lay (WM_app hm ha (zz_nf hm c1 c2)) zz_T0 ha
  · rw [if_neg c1]
    dsimp only
    have hz : fX7_isCopy (upd (fX7_endCopy τ) 13 ((fX7_endCopy τ 13) + (1 : Int32))) = (0 : Int32) := rfl
    rw [if_pos hz]
    exact WM_lay h13 zz_T0 ha
theorem WM_begin37 (a b : Int32) : ∀ (n k : Nat) (σ : FnI), k ≤ 32 → WM σ → WM (fX7_doBegin_37 a b n k σ).2
  | 0, _, _, _, h => h
  | n + 1, k, σ, hk, hm => by
    unfold fX7_doBegin_37
    by_cases c : (32 : Int32) ≤ nI k
    · rw [if_pos c]; exact WM_u hm (by decide) (by decide) (by decide)
    · have h : k < 32 := Nat.lt_of_not_le (fun q => c (nI_le (a := 32) q (by omega)))
      rw [if_neg c]
      exact WM_begin37 a b n (k + 1) _ (by omega) (WM_lay hm zz_T1 (Bd.of (by omega) (by omega)))
theorem WM_begin (a b : Int32) (τ : FnI) : WM (fX7_doBegin a b τ).2 := by
  unfold fX7_doBegin
  refine WM_begin37 a b 33 0 _ (by omega) ?_
  refine ⟨Bd.of (j := 0) (by omega) (by omega), Bd.of (j := 0) (by omega) (by omega), fun i hi => ?_⟩
  exact absurd hi (by rw [pk_us, show (0 : Int32).toNatClampNeg = 0 from by decide]; omega)
theorem WM_doTick2 (a : Int32) : ∀ (n k : Nat) (σ : FnI), WM σ → WM (fX7_doTick_2 a n k σ).2
  | 0, _, _, h => h
  | n + 1, k, σ, hm => by
    unfold fX7_doTick_2
    split
    · exact hm
    · exact WM_doTick2 a n (k + 1) _ (zz_WM_tick rfl hm)
theorem WM_swap2 : ∀ (n k : Nat) (σ : FnI), k ≤ 32 → WM σ → WM (fX7_doSwap_2 n k σ).2
  | 0, _, _, _, h => h
  | n + 1, k, σ, hk, hm => by
    unfold fX7_doSwap_2
    by_cases c : (32 : Int32) ≤ nI k
    · rw [if_pos c]
      exact WM_u (WM_end (WM_u hm (by decide) (by decide) (by decide))) (by decide) (by decide) (by decide)
    · have h : k < 32 := Nat.lt_of_not_le (fun q => c (nI_le (a := 32) q (by omega)))
      rw [if_neg c]
      have hb : Bd (nI k) 31 := Bd.of (by omega) (by omega)
      exact WM_swap2 n (k + 1) _ (by omega) (WM_lay (WM_lay hm zz_T2 hb) zz_T0 hb)
