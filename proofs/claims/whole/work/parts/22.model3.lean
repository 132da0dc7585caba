def fX7_until_22 (p0 : Int32) (p1 : Int32) : Nat → Nat → MBT → Int32 × MBT
  | 0, k, σ => (0, σ)
  | n + 1, k, σ => (if p0 ≤ (nI k) then (let u_60 := (fX7_copyAll (0 : Int32) (0 : Int32) σ.2 σ.1); (if (fX7_isReady σ.1) = (0 : Int32) then ((-5 : Int32), (u_60, σ.2)) else ((nI k), (u_60, σ.2)))) else (if (fX7_isReady σ.1) = (0 : Int32) then (let u_35 := (fX7_tickOnce σ.1); fX7_until_22 p0 p1 n (k + 1) (u_35, σ.2)) else (let u_60 := (fX7_copyAll (0 : Int32) (0 : Int32) σ.2 σ.1); ((nI k), (u_60, σ.2)))))
def fX7_until (p0 : Int32) (p1 : Int32) (τ : MBT) : Int32 × MBT := (let u_10 := (fX7_copyAll (0 : Int32) (0 : Int32) τ.1 τ.2); fX7_until_22 p0 p1 (p0.toNatClampNeg + 1) 0 ((upd τ.1 2 p1), u_10))
theorem fX7_until_22_p0 (p0 : Int32) (p1 : Int32) (n : Nat) (k : Nat) (σ : MBT) (c_24 : p0 ≤ (nI k)) (u_60 : FnI) (e_60 : (fX7_copyAll (0 : Int32) (0 : Int32) σ.2 σ.1) = u_60) (c_65 : (fX7_isReady σ.1) = (0 : Int32)) : fX7_until_22 p0 p1 (n + 1) k σ = ((-5 : Int32), (u_60, σ.2)) := by
  simp only [fX7_until_22, if_pos c_24, e_60, if_pos c_65]
theorem fX7_until_22_p1 (p0 : Int32) (p1 : Int32) (n : Nat) (k : Nat) (σ : MBT) (c_24 : p0 ≤ (nI k)) (u_60 : FnI) (e_60 : (fX7_copyAll (0 : Int32) (0 : Int32) σ.2 σ.1) = u_60) (c_65 : ¬ (fX7_isReady σ.1) = (0 : Int32)) : fX7_until_22 p0 p1 (n + 1) k σ = ((nI k), (u_60, σ.2)) := by
  simp only [fX7_until_22, if_pos c_24, e_60, if_neg c_65]
theorem fX7_until_22_p2 (p0 : Int32) (p1 : Int32) (n : Nat) (k : Nat) (σ : MBT) (c_24 : ¬ p0 ≤ (nI k)) (c_31 : ¬ (fX7_isReady σ.1) = (0 : Int32)) (u_60 : FnI) (e_60 : (fX7_copyAll (0 : Int32) (0 : Int32) σ.2 σ.1) = u_60) : fX7_until_22 p0 p1 (n + 1) k σ = ((nI k), (u_60, σ.2)) := by
  simp only [fX7_until_22, if_neg c_24, if_neg c_31, e_60]
theorem fX7_until_22_p3 (p0 : Int32) (p1 : Int32) (n : Nat) (k : Nat) (σ : MBT) (c_24 : ¬ p0 ≤ (nI k)) (c_31 : (fX7_isReady σ.1) = (0 : Int32)) (u_35 : FnI) (e_35 : (fX7_tickOnce σ.1) = u_35) : fX7_until_22 p0 p1 (n + 1) k σ = fX7_until_22 p0 p1 n (k + 1) (u_35, σ.2) := by
  simp only [fX7_until_22, if_neg c_24, if_pos c_31, e_35]
theorem fX7_until_p4 (p0 : Int32) (p1 : Int32) (τ : MBT) (u_10 : FnI) (e_10 : (fX7_copyAll (0 : Int32) (0 : Int32) τ.1 τ.2) = u_10) : (fX7_until p0 p1 τ) = fX7_until_22 p0 p1 (p0.toNatClampNeg + 1) 0 ((upd τ.1 2 p1), u_10) := by
  simp only [fX7_until, e_10]
set_option maxHeartbeats 4000000 in
set_option maxRecDepth 100000 in
theorem kX7_until (l : Launch) (D : va_G) (cI cS : ClassId) (h0 h1 h2 : Nat) (w1 : Nat) (w2 : Int32) (w3 : Nat) (w4 : Int32) (w6 : Nat) (w7 : Int32) (w8 : Int32) (w9 : Int32) (w10 : Int32) (w11 : Int32) (w12 : Int32) (p0 : Int32) (p1 : Int32) (τ : MBT) (hm : WM τ.1) (hq : Bd p0 200) : KI l yX7_until wsX7_until { frames := 4, cells := 0, slots := 0, locals := 86 } D (tysA cI cS) [.ref h0, .int p0, .int p1] [(h0, .inr (7, [.ref h1, .ref w1, .int w2, .ref w3, .int w4, .ref h2, .ref w6, .int w7, .int w8, .int w9, .int w10, .int w11, .int w12])), (h1, .inl (cI, 163, .inl τ.1)), (h2, .inl (cI, 163, .inl τ.2))] (fX7_until p0 p1 τ) (fun u => [(h0, .inr (7, [.ref h1, .ref w1, .int w2, .ref w3, .int w4, .ref h2, .ref w6, .int w7, .int w8, .int w9, .int w10, .int w11, .int w12])), (h1, .inl (cI, 163, .inl u.1)), (h2, .inl (cI, 163, .inl u.2))]) := by
  refine KI.of (cc := cX7_until) (maxL := 5) (ty := .int) (by decide) rfl (Nat.le_of_ble_eq_true rfl) rfl (fun p e s m args below meth c ls Q A hx hb hml hown hts hE hP hD hS hl hend => ?_)
  have hown : s.vm.findClass RX7 = some m.cls := hown
  have hl : lv_has ls 5 [(0, .ref h0), (1, .int p0), (2, .int p1)] := hl
  have loop_22 : ∀ (n : Nat) (k : Nat) (σ : MBT), WM σ.1 → k ≤ p0.toNatClampNeg → p0.toNatClampNeg - k < n → (fX7_until p0 p1 τ) = fX7_until_22 p0 p1 n k σ → ∀ (H : Heap) (locs : List Loc), va_P D vwCl [(h0, .inr (7, [.ref h1, .ref w1, .int w2, .ref w3, .int w4, .ref h2, .ref w6, .int w7, .int w8, .int w9, .int w10, .int w11, .int w12])), (h1, .inl (cI, 163, .inl σ.1)), (h2, .inl (cI, 163, .inl σ.2))] H → va_D A [(h0, .inr (7, [.ref h1, .ref w1, .int w2, .ref w3, .int w4, .ref h2, .ref w6, .int w7, .int w8, .int w9, .int w10, .int w11, .int w12])), (h1, .inl (cI, 163, .inl σ.1)), (h2, .inl (cI, 163, .inl σ.2))] → va_S A s.heap H locs → ∀ (ls : Array Slot), lv_has ls 5 [(0, .ref h0), (1, .int p0), (2, .int p1), (3, .int (nI k))] → W p l e { frames := 4, cells := 0, slots := 0, locals := 86 } s m args below meth c H locs 0 0 Q (F0 m 22 ls []) := by
    intro n
    induction n with
    | zero =>
      intro k σ hm hk hn
      exact absurd hn (by omega)
    | succ n ih =>
      intro k σ hm hk hn hF H locs hP hD hS ls hl
      refine lv_iload_n hx hb dX7_until_22 rfl (lv_at hl 3 rfl) ?_
      refine lv_iload_n hx hb dX7_until_23 rfl (lv_at hl 1 rfl) ?_
      refine lv_icmp_ge (tgt := 44) hx hb dX7_until_24 (by decide) (fun c_24 => ?_) (fun c_24 => ?_)
      · refine lv_aload_n hx hb dX7_until_44 rfl (lv_at hl 0 rfl) ?_
        refine cRV ⟨hx, hb, hml, hown, hts⟩ (kX7_isReady l D cI cS h0 h1 w1 w2 w3 w4 h2 w6 w7 w8 w9 w10 w11 w12 σ.1) (cwV 0 hts gX7_until_X7_isReady rfl rfl rfl (by decide +kernel) ⟨Nat.le_of_ble_eq_true rfl, Nat.le_of_ble_eq_true rfl⟩) hE hP 0 rfl rfl [0, 1] rfl rfl hl.1 rfl (Nat.le_of_ble_eq_true rfl) ⟨Nat.zero_le _, Nat.zero_le _⟩ dX7_until_45 ?_
        refine lv_istore (lv' := [(4, .int (fX7_isReady σ.1)), (0, .ref h0), (1, .int p0), (2, .int p1), (3, .int (nI k))]) hx hb dX7_until_48 hl (by decide) rfl (fun ls hl => ?_)
        refine lv_aload_n hx hb dX7_until_50 rfl (lv_at hl 1 rfl) ?_
        refine va_get (D := D) (ci := 7) (v := .ref h2) (C := RX7) (T := TX7) (N := 13) hx hb hts (fun _ h9 => List.mem_cons_of_mem _ (List.mem_append_right _ h9)) hown hE.1 hP 0 rfl rfl 5 (by decide) (hts (.fieldLink RX7 19 "ShadowTableModel" "before" "[I") (List.mem_of_getElem? (i := 2) rfl)) (fun _ h9 => h9) rfl dX7_until_51 ?_
        refine lv_iconst (v := (0 : Int32)) hx hb dX7_until_54 (by decide +kernel) ?_
        refine lv_aload_n hx hb dX7_until_55 rfl (lv_at hl 1 rfl) ?_
        refine va_get (D := D) (ci := 7) (v := .ref h1) (C := RX7) (T := TX7) (N := 13) hx hb hts (fun _ h9 => List.mem_cons_of_mem _ (List.mem_append_right _ h9)) hown hE.1 hP 0 rfl rfl 0 (by decide) (hts (.fieldLink RX7 7 "ShadowTableModel" "s" "[I") (List.mem_of_getElem? (i := 1) rfl)) (fun _ h9 => h9) rfl dX7_until_56 ?_
        refine lv_iconst (v := (0 : Int32)) hx hb dX7_until_59 (by decide +kernel) ?_
        refine cVS ⟨hx, hb, hml, hown, hts⟩ (kX7_copyAll l D cI cS h2 h1 (0 : Int32) (0 : Int32) σ.2 σ.1 163 163 zz_c0a zz_c0b (by omega) zz_c0a zz_c0b (by omega)) (va_cwS 4 hts gX7_until_X7_copyAll rfl rfl rfl (by decide +kernel) ⟨Nat.le_of_ble_eq_true rfl, Nat.le_of_ble_eq_true rfl⟩) hE hP hD hS [2, 1] rfl (by decide) (fun _ => rfl) rfl hl.1 rfl (Nat.le_of_ble_eq_true rfl) ⟨Nat.zero_le _, Nat.zero_le _⟩ dX7_until_60 (fun u_60 H locs e_60 hP hD hS => ?_)
        have hP : va_P D vwCl [(h0, .inr (7, [.ref h1, .ref w1, .int w2, .ref w3, .int w4, .ref h2, .ref w6, .int w7, .int w8, .int w9, .int w10, .int w11, .int w12])), (h1, .inl (cI, 163, .inl u_60)), (h2, .inl (cI, 163, .inl σ.2))] H := hP
        have hD : va_D A [(h0, .inr (7, [.ref h1, .ref w1, .int w2, .ref w3, .int w4, .ref h2, .ref w6, .int w7, .int w8, .int w9, .int w10, .int w11, .int w12])), (h1, .inl (cI, 163, .inl u_60)), (h2, .inl (cI, 163, .inl σ.2))] := hD
        refine lv_iload hx hb dX7_until_63 (lv_at hl 0 rfl) ?_
        refine lv_if_eq (tgt := 72) hx hb dX7_until_65 (by decide) (fun c_65 => ?_) (fun c_65 => ?_)
        · refine lv_bipush (v := (-5 : Int32)) hx hb dX7_until_72 (by decide +kernel) ?_
          exact hend _ _ _ _ _ _ dX7_until_74 rfl (hF.trans (fX7_until_22_p0 p0 p1 n k σ c_24 u_60 e_60 c_65)) hP hS
        · refine lv_iload_n hx hb dX7_until_68 rfl (lv_at hl 4 rfl) ?_
          refine lv_goto (tgt := 74) hx hb dX7_until_69 (by decide) ?_
          exact hend _ _ _ _ _ _ dX7_until_74 rfl (hF.trans (fX7_until_22_p1 p0 p1 n k σ c_24 u_60 e_60 c_65)) hP hS
      · refine lv_aload_n hx hb dX7_until_27 rfl (lv_at hl 0 rfl) ?_
        refine cRV ⟨hx, hb, hml, hown, hts⟩ (kX7_isReady l D cI cS h0 h1 w1 w2 w3 w4 h2 w6 w7 w8 w9 w10 w11 w12 σ.1) (cwV 0 hts gX7_until_X7_isReady rfl rfl rfl (by decide +kernel) ⟨Nat.le_of_ble_eq_true rfl, Nat.le_of_ble_eq_true rfl⟩) hE hP 0 rfl rfl [0, 1] rfl rfl hl.1 rfl (Nat.le_of_ble_eq_true rfl) ⟨Nat.zero_le _, Nat.zero_le _⟩ dX7_until_28 ?_
        refine lv_if_ne (tgt := 44) hx hb dX7_until_31 (by decide) (fun c_31 => ?_) (fun c_31 => ?_)
        · refine lv_aload_n hx hb dX7_until_44 rfl (lv_at hl 0 rfl) ?_
          refine cRV ⟨hx, hb, hml, hown, hts⟩ (kX7_isReady l D cI cS h0 h1 w1 w2 w3 w4 h2 w6 w7 w8 w9 w10 w11 w12 σ.1) (cwV 0 hts gX7_until_X7_isReady rfl rfl rfl (by decide +kernel) ⟨Nat.le_of_ble_eq_true rfl, Nat.le_of_ble_eq_true rfl⟩) hE hP 0 rfl rfl [0, 1] rfl rfl hl.1 rfl (Nat.le_of_ble_eq_true rfl) ⟨Nat.zero_le _, Nat.zero_le _⟩ dX7_until_45 ?_
          refine lv_istore (lv' := [(4, .int (fX7_isReady σ.1)), (0, .ref h0), (1, .int p0), (2, .int p1), (3, .int (nI k))]) hx hb dX7_until_48 hl (by decide) rfl (fun ls hl => ?_)
          refine lv_aload_n hx hb dX7_until_50 rfl (lv_at hl 1 rfl) ?_
          refine va_get (D := D) (ci := 7) (v := .ref h2) (C := RX7) (T := TX7) (N := 13) hx hb hts (fun _ h9 => List.mem_cons_of_mem _ (List.mem_append_right _ h9)) hown hE.1 hP 0 rfl rfl 5 (by decide) (hts (.fieldLink RX7 19 "ShadowTableModel" "before" "[I") (List.mem_of_getElem? (i := 2) rfl)) (fun _ h9 => h9) rfl dX7_until_51 ?_
          refine lv_iconst (v := (0 : Int32)) hx hb dX7_until_54 (by decide +kernel) ?_
          refine lv_aload_n hx hb dX7_until_55 rfl (lv_at hl 1 rfl) ?_
          refine va_get (D := D) (ci := 7) (v := .ref h1) (C := RX7) (T := TX7) (N := 13) hx hb hts (fun _ h9 => List.mem_cons_of_mem _ (List.mem_append_right _ h9)) hown hE.1 hP 0 rfl rfl 0 (by decide) (hts (.fieldLink RX7 7 "ShadowTableModel" "s" "[I") (List.mem_of_getElem? (i := 1) rfl)) (fun _ h9 => h9) rfl dX7_until_56 ?_
          refine lv_iconst (v := (0 : Int32)) hx hb dX7_until_59 (by decide +kernel) ?_
          refine cVS ⟨hx, hb, hml, hown, hts⟩ (kX7_copyAll l D cI cS h2 h1 (0 : Int32) (0 : Int32) σ.2 σ.1 163 163 zz_c0a zz_c0b (by omega) zz_c0a zz_c0b (by omega)) (va_cwS 4 hts gX7_until_X7_copyAll rfl rfl rfl (by decide +kernel) ⟨Nat.le_of_ble_eq_true rfl, Nat.le_of_ble_eq_true rfl⟩) hE hP hD hS [2, 1] rfl (by decide) (fun _ => rfl) rfl hl.1 rfl (Nat.le_of_ble_eq_true rfl) ⟨Nat.zero_le _, Nat.zero_le _⟩ dX7_until_60 (fun u_60 H locs e_60 hP hD hS => ?_)
          have hP : va_P D vwCl [(h0, .inr (7, [.ref h1, .ref w1, .int w2, .ref w3, .int w4, .ref h2, .ref w6, .int w7, .int w8, .int w9, .int w10, .int w11, .int w12])), (h1, .inl (cI, 163, .inl u_60)), (h2, .inl (cI, 163, .inl σ.2))] H := hP
          have hD : va_D A [(h0, .inr (7, [.ref h1, .ref w1, .int w2, .ref w3, .int w4, .ref h2, .ref w6, .int w7, .int w8, .int w9, .int w10, .int w11, .int w12])), (h1, .inl (cI, 163, .inl u_60)), (h2, .inl (cI, 163, .inl σ.2))] := hD
          refine lv_iload hx hb dX7_until_63 (lv_at hl 0 rfl) ?_
          refine lv_if_eq (tgt := 72) hx hb dX7_until_65 (by decide) (fun c => absurd c c_31) (fun _ => ?_)
          refine lv_iload_n hx hb dX7_until_68 rfl (lv_at hl 4 rfl) ?_
          refine lv_goto (tgt := 74) hx hb dX7_until_69 (by decide) ?_
          exact hend _ _ _ _ _ _ dX7_until_74 rfl (hF.trans (fX7_until_22_p2 p0 p1 n k σ c_24 c_31 u_60 e_60)) hP hS
        · refine lv_aload_n hx hb dX7_until_34 rfl (lv_at hl 0 rfl) ?_
          refine cVV ⟨hx, hb, hml, hown, hts⟩ (kX7_tickOnce l D cI cS h0 h1 w1 w2 w3 w4 h2 w6 w7 w8 w9 w10 w11 w12 σ.1 hm) (cwV 0 hts gX7_until_X7_tickOnce rfl rfl rfl (by decide +kernel) ⟨Nat.le_of_ble_eq_true rfl, Nat.le_of_ble_eq_true rfl⟩) hE hP hD hS 0 rfl rfl [0, 1] rfl (by decide) (fun _ => rfl) rfl hl.1 rfl (Nat.le_of_ble_eq_true rfl) ⟨Nat.zero_le _, Nat.zero_le _⟩ dX7_until_35 (fun u_35 H locs e_35 hP hD hS => ?_)
          have hP : va_P D vwCl [(h0, .inr (7, [.ref h1, .ref w1, .int w2, .ref w3, .int w4, .ref h2, .ref w6, .int w7, .int w8, .int w9, .int w10, .int w11, .int w12])), (h1, .inl (cI, 163, .inl u_35)), (h2, .inl (cI, 163, .inl σ.2))] H := hP
          have hD : va_D A [(h0, .inr (7, [.ref h1, .ref w1, .int w2, .ref w3, .int w4, .ref h2, .ref w6, .int w7, .int w8, .int w9, .int w10, .int w11, .int w12])), (h1, .inl (cI, 163, .inl u_35)), (h2, .inl (cI, 163, .inl σ.2))] := hD
          refine lv_iinc (v := (nI (k + 1))) (lv' := [(3, .int (nI (k + 1))), (0, .ref h0), (1, .int p0), (2, .int p1)]) hx hb dX7_until_38 hl (k := 3) rfl (nI_1 _) (by decide) rfl (fun ls hl => ?_)
          refine lv_goto (tgt := 22) hx hb dX7_until_41 (by decide) ?_
          have hd := zz_lt hq (by omega) (by have := hq.2; omega) c_24
          exact ih (k + 1) (u_35, σ.2) (zz_WM_tick e_35 hm) (by omega) (by omega) (hF.trans (fX7_until_22_p3 p0 p1 n k σ c_24 c_31 u_35 e_35)) _ _ hP hD hS _ (lv_sub hl [1, 2, 3, 0] rfl)
  refine lv_aload_n hx hb dX7_until_0 rfl (lv_at hl 0 rfl) ?_
  refine va_get (D := D) (ci := 7) (v := .ref h1) (C := RX7) (T := TX7) (N := 13) hx hb hts (fun _ h9 => List.mem_cons_of_mem _ (List.mem_append_right _ h9)) hown hE.1 hP 0 rfl rfl 0 (by decide) (hts (.fieldLink RX7 7 "ShadowTableModel" "s" "[I") (List.mem_of_getElem? (i := 1) rfl)) (fun _ h9 => h9) rfl dX7_until_1 ?_
  refine lv_iconst (v := (0 : Int32)) hx hb dX7_until_4 (by decide +kernel) ?_
  refine lv_aload_n hx hb dX7_until_5 rfl (lv_at hl 0 rfl) ?_
  refine va_get (D := D) (ci := 7) (v := .ref h2) (C := RX7) (T := TX7) (N := 13) hx hb hts (fun _ h9 => List.mem_cons_of_mem _ (List.mem_append_right _ h9)) hown hE.1 hP 0 rfl rfl 5 (by decide) (hts (.fieldLink RX7 19 "ShadowTableModel" "before" "[I") (List.mem_of_getElem? (i := 2) rfl)) (fun _ h9 => h9) rfl dX7_until_6 ?_
  refine lv_iconst (v := (0 : Int32)) hx hb dX7_until_9 (by decide +kernel) ?_
  refine cVS ⟨hx, hb, hml, hown, hts⟩ (kX7_copyAll l D cI cS h1 h2 (0 : Int32) (0 : Int32) τ.1 τ.2 163 163 zz_c0a zz_c0b (by omega) zz_c0a zz_c0b (by omega)) (va_cwS 4 hts gX7_until_X7_copyAll rfl rfl rfl (by decide +kernel) ⟨Nat.le_of_ble_eq_true rfl, Nat.le_of_ble_eq_true rfl⟩) hE hP hD hS [1, 2] rfl (by decide) (fun _ => rfl) rfl hl.1 rfl (Nat.le_of_ble_eq_true rfl) ⟨Nat.zero_le _, Nat.zero_le _⟩ dX7_until_10 (fun u_10 H locs e_10 hP hD hS => ?_)
  have hP : va_P D vwCl [(h0, .inr (7, [.ref h1, .ref w1, .int w2, .ref w3, .int w4, .ref h2, .ref w6, .int w7, .int w8, .int w9, .int w10, .int w11, .int w12])), (h1, .inl (cI, 163, .inl τ.1)), (h2, .inl (cI, 163, .inl u_10))] H := hP
  have hD : va_D A [(h0, .inr (7, [.ref h1, .ref w1, .int w2, .ref w3, .int w4, .ref h2, .ref w6, .int w7, .int w8, .int w9, .int w10, .int w11, .int w12])), (h1, .inl (cI, 163, .inl τ.1)), (h2, .inl (cI, 163, .inl u_10))] := hD
  refine lv_aload_n hx hb dX7_until_13 rfl (lv_at hl 0 rfl) ?_
  refine va_get (D := D) (ci := 7) (v := .ref h1) (C := RX7) (T := TX7) (N := 13) hx hb hts (fun _ h9 => List.mem_cons_of_mem _ (List.mem_append_right _ h9)) hown hE.1 hP 0 rfl rfl 0 (by decide) (hts (.fieldLink RX7 7 "ShadowTableModel" "s" "[I") (List.mem_of_getElem? (i := 1) rfl)) (fun _ h9 => h9) rfl dX7_until_14 ?_
  refine lv_iconst (v := (2 : Int32)) hx hb dX7_until_17 (by decide +kernel) ?_
  refine lv_iload_n hx hb dX7_until_18 rfl (lv_at hl 2 rfl) ?_
  refine xst (j := 2) hx hb hE hP hD hS 1 rfl rfl cl_2 (in_2 (by decide)) [(h0, .inr (7, [.ref h1, .ref w1, .int w2, .ref w3, .int w4, .ref h2, .ref w6, .int w7, .int w8, .int w9, .int w10, .int w11, .int w12])), (h1, .inl (cI, 163, .inl (upd τ.1 2 p1))), (h2, .inl (cI, 163, .inl u_10))] rfl dX7_until_19 (fun H locs hP hD hS => ?_)
  refine lv_iconst (v := (0 : Int32)) hx hb dX7_until_20 (by decide +kernel) ?_
  refine lv_istore_n (lv' := [(3, .int (0 : Int32)), (0, .ref h0), (1, .int p0), (2, .int p1)]) hx hb dX7_until_21 rfl hl (by decide) rfl (fun ls hl => ?_)
  exact loop_22 (p0.toNatClampNeg + 1) 0 ((upd τ.1 2 p1), u_10) (zz_WMu (by decide) (by decide) (by decide) hm) (by omega) (by omega) (fX7_until_p4 p0 p1 τ u_10 e_10) _ _ hP hD hS _ (lv_sub hl [1, 2, 3, 0] rfl)

theorem WM.congr2 {s u : FnI} (hm : WM s) (h : ∀ j : Nat, j < 163 → u j = s j) : WM u := by
  have h4 := h 4 (by omega)
  refine ⟨by rw [h4]; exact hm.1, by rw [h 3 (by omega)]; exact hm.2.1, fun i hi => ?_⟩
  rw [h4] at hi
  have := hm.1.2
  rw [h _ (by omega)]
  exact hm.2.2 i hi
theorem copy_3 (a b : Int32) (τ : FnI) : ∀ (n k : Nat) (σ : FnI), k ≤ 163 → 163 - k < n → ∀ j : Nat, fX7_copyAll_3 a b τ n k σ j = if b.toNatClampNeg + k ≤ j ∧ j < b.toNatClampNeg + 163 then τ (a.toNatClampNeg + (j - b.toNatClampNeg)) else σ j
  | 0, _, _, _, h, _ => absurd h (by omega)
  | n + 1, k, σ, hk, hn, j => by
    unfold fX7_copyAll_3
    by_cases c : (163 : Int32) ≤ nI k
    · rw [if_pos c, if_neg]
      have : ¬ k < 163 := fun q => nI_ge (b := 163) q (by omega) c
      omega
    · have h : k < 163 := Nat.lt_of_not_le (fun q => c (nI_le (a := 163) q (by omega)))
      rw [if_neg c, copy_3 a b τ n (k + 1) _ (by omega) (by omega) j]
      by_cases q : b.toNatClampNeg + (k + 1) ≤ j ∧ j < b.toNatClampNeg + 163
      · rw [if_pos q, if_pos ⟨by omega, q.2⟩]
      · rw [if_neg q]
        by_cases q2 : j = b.toNatClampNeg + k
        · rw [if_pos ⟨by omega, by omega⟩, q2, pk_us]
          congr 1
          omega
        · rw [if_neg (by omega), pk_un q2]
/-- a copy of 163 numbers -/
theorem copy_is (a b : Int32) (τ υ : FnI) (j : Nat) : fX7_copyAll a b τ υ j = if b.toNatClampNeg ≤ j ∧ j < b.toNatClampNeg + 163 then τ (a.toNatClampNeg + (j - b.toNatClampNeg)) else υ j := by
  unfold fX7_copyAll
  rw [copy_3 a b τ 164 0 υ (by omega) (by omega) j]
  rfl
theorem copy_0 (τ υ : FnI) {j : Nat} (hj : j < 163) : fX7_copyAll (0 : Int32) (0 : Int32) τ υ j = τ j := by
  rw [copy_is, show (0 : Int32).toNatClampNeg = 0 from by decide, if_pos ⟨by omega, by omega⟩]
  congr 1
  omega
theorem until_22 (p q : Int32) (hq : Bd p 200) : ∀ (n k : Nat) (σ : MBT), k ≤ p.toNatClampNeg → p.toNatClampNeg - k < n → (∀ j : Nat, j < 163 → (fX7_until_22 p q n k σ).2.1 j = σ.2 j) ∧ (fX7_until_22 p q n k σ).2.2 = σ.2
  | 0, _, _, _, h => absurd h (by omega)
  | n + 1, k, σ, hk, hn => by
    have hc : ∀ j : Nat, j < 163 → fX7_copyAll (0 : Int32) (0 : Int32) σ.2 σ.1 j = σ.2 j := fun j hj => copy_0 _ _ hj
    unfold fX7_until_22
    by_cases c : p ≤ nI k
    · rw [if_pos c]
      dsimp only
      split
      · try dsimp only
        exact ⟨hc, rfl⟩
      · try dsimp only
        exact ⟨hc, rfl⟩
    · rw [if_neg c]
      have hd := zz_lt hq (by omega) (by have := hq.2; omega) c
      by_cases c2 : fX7_isReady σ.1 = (0 : Int32)
      · rw [if_pos c2]
        exact until_22 p q hq n (k + 1) (fX7_tickOnce σ.1, σ.2) (by omega) (by omega)
      · rw [if_neg c2]
        dsimp only
        exact ⟨hc, rfl⟩
theorem until_s {p q r : Int32} {τ u : MBT} (e : fX7_until p q τ = (r, u)) (hq : Bd p 200) : ∀ j : Nat, j < 163 → u.1 j = τ.1 j := by
  intro j hj
  have h := (until_22 p q hq (p.toNatClampNeg + 1) 0 ((upd τ.1 2 q), fX7_copyAll (0 : Int32) (0 : Int32) τ.1 τ.2) (by omega) (by omega)).1 j hj
  have e2 : fX7_until p q τ = fX7_until_22 p q (p.toNatClampNeg + 1) 0 ((upd τ.1 2 q), fX7_copyAll (0 : Int32) (0 : Int32) τ.1 τ.2) := rfl
  rw [← e2, e] at h
  dsimp only at h
  rw [h]
  exact copy_0 _ _ hj
theorem zz_WM_until {p q r : Int32} {τ u : MBT} (e : fX7_until p q τ = (r, u)) (hm : WM τ.1) (hq : Bd p 200) : WM u.1 := hm.congr2 (until_s e hq)
