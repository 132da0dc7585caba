def fX7_until_22 (p0 : Int32) (p1 : Int32) : Nat → Nat → MBT → Int32 × MBT
  | 0, k, σ => (0, σ)
  | n + 1, k, σ => (if p0 ≤ (nI k) then (let u_60 := (fX7_copyAll (0 : Int32) (0 : Int32) σ.2 σ.1); (if (fX7_isReady σ.1) = (0 : Int32) then ((-5 : Int32), (u_60, σ.2)) else ((nI k), (u_60, σ.2)))) else (if (fX7_isReady σ.1) = (0 : Int32) then (let u_35 := (fX7_tickOnce σ.1); fX7_until_22 p0 p1 n (k + 1) (u_35, σ.2)) else (let u_60 := (fX7_copyAll (0 : Int32) (0 : Int32) σ.2 σ.1); (if (fX7_isReady σ.1) = (0 : Int32) then ((-5 : Int32), (u_60, σ.2)) else ((nI k), (u_60, σ.2))))))
def fX7_until (p0 : Int32) (p1 : Int32) (τ : MBT) : Int32 × MBT := (let u_10 := (fX7_copyAll (0 : Int32) (0 : Int32) τ.1 τ.2); fX7_until_22 p0 p1 (p0.toNatClampNeg + 1) 0 ((upd τ.1 2 p1), u_10))
theorem fX7_until_22_p0 (p0 : Int32) (p1 : Int32) (n : Nat) (k : Nat) (σ : MBT) (c_24 : p0 ≤ (nI k)) (u_60 : FnI) (e_60 : (fX7_copyAll (0 : Int32) (0 : Int32) σ.2 σ.1) = u_60) (c_65 : (fX7_isReady σ.1) = (0 : Int32)) : fX7_until_22 p0 p1 (n + 1) k σ = ((-5 : Int32), (u_60, σ.2)) := by
  simp only [fX7_until_22, if_pos c_24, e_60, if_pos c_65]
theorem fX7_until_22_p1 (p0 : Int32) (p1 : Int32) (n : Nat) (k : Nat) (σ : MBT) (c_24 : p0 ≤ (nI k)) (u_60 : FnI) (e_60 : (fX7_copyAll (0 : Int32) (0 : Int32) σ.2 σ.1) = u_60) (c_65 : ¬ (fX7_isReady σ.1) = (0 : Int32)) : fX7_until_22 p0 p1 (n + 1) k σ = ((nI k), (u_60, σ.2)) := by
  simp only [fX7_until_22, if_pos c_24, e_60, if_neg c_65]
theorem fX7_until_22_p2 (p0 : Int32) (p1 : Int32) (n : Nat) (k : Nat) (σ : MBT) (c_24 : ¬ p0 ≤ (nI k)) (c_31 : ¬ (fX7_isReady σ.1) = (0 : Int32)) (u_60 : FnI) (e_60 : (fX7_copyAll (0 : Int32) (0 : Int32) σ.2 σ.1) = u_60) (c_65 : (fX7_isReady σ.1) = (0 : Int32)) : fX7_until_22 p0 p1 (n + 1) k σ = ((-5 : Int32), (u_60, σ.2)) := by
  simp only [fX7_until_22, if_neg c_24, if_neg c_31, e_60, if_pos c_65]
theorem fX7_until_22_p3 (p0 : Int32) (p1 : Int32) (n : Nat) (k : Nat) (σ : MBT) (c_24 : ¬ p0 ≤ (nI k)) (c_31 : ¬ (fX7_isReady σ.1) = (0 : Int32)) (u_60 : FnI) (e_60 : (fX7_copyAll (0 : Int32) (0 : Int32) σ.2 σ.1) = u_60) (c_65 : ¬ (fX7_isReady σ.1) = (0 : Int32)) : fX7_until_22 p0 p1 (n + 1) k σ = ((nI k), (u_60, σ.2)) := by
  simp only [fX7_until_22, if_neg c_24, if_neg c_31, e_60, if_neg c_65]
theorem fX7_until_22_p4 (p0 : Int32) (p1 : Int32) (n : Nat) (k : Nat) (σ : MBT) (c_24 : ¬ p0 ≤ (nI k)) (c_31 : (fX7_isReady σ.1) = (0 : Int32)) (u_35 : FnI) (e_35 : (fX7_tickOnce σ.1) = u_35) : fX7_until_22 p0 p1 (n + 1) k σ = fX7_until_22 p0 p1 n (k + 1) (u_35, σ.2) := by
  simp only [fX7_until_22, if_neg c_24, if_pos c_31, e_35]
theorem fX7_until_p5 (p0 : Int32) (p1 : Int32) (τ : MBT) (u_10 : FnI) (e_10 : (fX7_copyAll (0 : Int32) (0 : Int32) τ.1 τ.2) = u_10) : (fX7_until p0 p1 τ) = fX7_until_22 p0 p1 (p0.toNatClampNeg + 1) 0 ((upd τ.1 2 p1), u_10) := by
  simp only [fX7_until, e_10]
set_option maxHeartbeats 4000000 in
set_option maxRecDepth 100000 in
theorem kX7_until (l : Launch) (D : va_G) (cI cS : ClassId) (h0 h1 h2 : Nat) (w1 : Nat) (w2 : Int32) (w3 : Nat) (w4 : Int32) (w6 : Nat) (w7 : Int32) (w8 : Int32) (w9 : Int32) (w10 : Int32) (w11 : Int32) (w12 : Int32) (p0 : Int32) (p1 : Int32) (τ : MBT) (hm : WM τ.1) (hq : Bd p0 200) : KI l yX7_until wsX7_until { frames := 4, cells := 0, slots := 0, locals := 86 } D (tysA cI cS) [.ref h0, .int p0, .int p1] [(h0, .inr (7, [.ref h1, .ref w1, .int w2, .ref w3, .int w4, .ref h2, .ref w6, .int w7, .int w8, .int w9, .int w10, .int w11, .int w12])), (h1, .inl (cI, 163, .inl τ.1)), (h2, .inl (cI, 163, .inl τ.2))] (fX7_until p0 p1 τ) (fun u => [(h0, .inr (7, [.ref h1, .ref w1, .int w2, .ref w3, .int w4, .ref h2, .ref w6, .int w7, .int w8, .int w9, .int w10, .int w11, .int w12])), (h1, .inl (cI, 163, .inl u.1)), (h2, .inl (cI, 163, .inl u.2))]) := by
  refine KI.of (cc := cX7_until) (maxL := 5) (ty := .int) (by decide) rfl (Nat.le_of_ble_eq_true rfl) rfl (fun p e s m args below meth c ls Q A hx hb hml hown hts hE hP hD hS hl hend => ?_)
  have hown : s.vm.findClass RX7 = some m.cls := hown
  have hl : lv_has ls 5 [(0, .ref h0), (1, .int p0), (2, .int p1)] := hl
  have loop_22 : ∀ (n : Nat) (k : Nat) (σ : MBT), WM σ.1 → k ≤ p0.toNatClampNeg → p0.toNatClampNeg - k < n → (fX7_until p0 p1 τ) = fX7_until_22 p0 p1 n k σ → ∀ (H : Heap) (locs : List Loc), va_P D vwCl [(h0, .inr (7, [.ref h1, .ref w1, .int w2, .ref w3, .int w4, .ref h2, .ref w6, .int w7, .int w8, .int w9, .int w10, .int w11, .int w12])), (h1, .inl (cI, 163, .inl σ.1)), (h2, .inl (cI, 163, .inl σ.2))] H → va_D A [(h0, .inr (7, [.ref h1, .ref w1, .int w2, .ref w3, .int w4, .ref h2, .ref w6, .int w7, .int w8, .int w9, .int w10, .int w11, .int w12])), (h1, .inl (cI, 163, .inl σ.1)), (h2, .inl (cI, 163, .inl σ.2))] → va_S A s.heap H locs → ∀ (ls : Array Slot), lv_has ls 5 [(0, .ref h0), (1, .int p0), (2, .int p1), (3, .int (nI k))] → W p l e { frames := 4, cells := 0, slots := 0, locals := 86 } s m args below meth c H locs 0 0 Q (F0 m 22 ls []) := by
    intro n
    induction n with
    | zero =>
      intro k σ hm hk hn
      exact absurd hn (by omega)
    | succ n ih =>
      intro k σ hm hk hn hF H locs hP hD hS ls hl
      refine lv_iload_n hx hb dX7_until_22 rfl (lv_at hl 3 rfl) ?_
      refine lv_iload_n hx hb dX7_until_23 rfl (lv_at hl 1 rfl) ?_
      refine lv_icmp_ge (tgt := 44) hx hb dX7_until_24 (by decide) (fun c_24 => ?_) (fun c_24 => ?_)
      · refine lv_aload_n hx hb dX7_until_44 rfl (lv_at hl 0 rfl) ?_
        refine cRV ⟨hx, hb, hml, hown, hts⟩ (kX7_isReady l D cI cS h0 h1 w1 w2 w3 w4 h2 w6 w7 w8 w9 w10 w11 w12 σ.1) (cwV 0 hts gX7_until_X7_isReady rfl rfl rfl (by decide +kernel) ⟨Nat.le_of_ble_eq_true rfl, Nat.le_of_ble_eq_true rfl⟩) hE hP 0 rfl rfl [0, 1] rfl rfl hl.1 rfl (Nat.le_of_ble_eq_true rfl) ⟨Nat.zero_le _, Nat.zero_le _⟩ dX7_until_45 ?_
        refine lv_istore (lv' := [(4, .int (fX7_isReady σ.1)), (0, .ref h0), (1, .int p0), (2, .int p1), (3, .int (nI k))]) hx hb dX7_until_48 hl (by decide) rfl (fun ls hl => ?_)
        refine lv_aload_n hx hb dX7_until_50 rfl (lv_at hl 1 rfl) ?_
        refine va_get (D := D) (ci := 7) (v := .ref h2) (C := RX7) (T := TX7) (N := 13) hx hb hts (fun _ h9 => List.mem_cons_of_mem _ (List.mem_append_right _ h9)) hown hE.1 hP 0 rfl rfl 5 (by decide) (hts (.fieldLink RX7 19 "ShadowTableModel" "before" "[I") (List.mem_of_getElem? (i := 2) rfl)) (fun _ h9 => h9) rfl dX7_until_51 ?_
        refine lv_iconst (v := (0 : Int32)) hx hb dX7_until_54 (by decide +kernel) ?_
        refine lv_aload_n hx hb dX7_until_55 rfl (lv_at hl 1 rfl) ?_
        refine va_get (D := D) (ci := 7) (v := .ref h1) (C := RX7) (T := TX7) (N := 13) hx hb hts (fun _ h9 => List.mem_cons_of_mem _ (List.mem_append_right _ h9)) hown hE.1 hP 0 rfl rfl 0 (by decide) (hts (.fieldLink RX7 7 "ShadowTableModel" "s" "[I") (List.mem_of_getElem? (i := 1) rfl)) (fun _ h9 => h9) rfl dX7_until_56 ?_
        refine lv_iconst (v := (0 : Int32)) hx hb dX7_until_59 (by decide +kernel) ?_
        refine cVS ⟨hx, hb, hml, hown, hts⟩ (kX7_copyAll l D cI cS h2 h1 (0 : Int32) (0 : Int32) σ.2 σ.1 163 163 zz_c0a zz_c0b (by omega) zz_c0a zz_c0b (by omega)) (va_cwS 4 hts gX7_until_X7_copyAll rfl rfl rfl (by decide +kernel) ⟨Nat.le_of_ble_eq_true rfl, Nat.le_of_ble_eq_true rfl⟩) hE hP hD hS [2, 1] rfl (by decide) (fun _ => rfl) rfl hl.1 rfl (Nat.le_of_ble_eq_true rfl) ⟨Nat.zero_le _, Nat.zero_le _⟩ dX7_until_60 (fun u_60 H locs e_60 hP hD hS => ?_)
        have hP : va_P D vwCl [(h0, .inr (7, [.ref h1, .ref w1, .int w2, .ref w3, .int w4, .ref h2, .ref w6, .int w7, .int w8, .int w9, .int w10, .int w11, .int w12])), (h1, .inl (cI, 163, .inl u_60)), (h2, .inl (cI, 163, .inl σ.2))] H := hP
        have hD : va_D A [(h0, .inr (7, [.ref h1, .ref w1, .int w2, .ref w3, .int w4, .ref h2, .ref w6, .int w7, .int w8, .int w9, .int w10, .int w11, .int w12])), (h1, .inl (cI, 163, .inl u_60)), (h2, .inl (cI, 163, .inl σ.2))] := hD
        refine lv_iload hx hb dX7_until_63 (lv_at hl 0 rfl) ?_
        refine lv_if_eq (tgt := 72) hx hb dX7_until_65 (by decide) (fun c_65 => ?_) (fun c_65 => ?_)
        · refine lv_bipush (v := (-5 : Int32)) hx hb dX7_until_72 (by decide +kernel) ?_
          exact hend _ _ _ _ _ _ dX7_until_74 rfl (hF.trans (fX7_until_22_p0 p0 p1 n k σ c_24 u_60 e_60 c_65)) hP hS
        · refine lv_iload_n hx hb dX7_until_68 rfl (lv_at hl 4 rfl) ?_
          refine lv_goto (tgt := 74) hx hb dX7_until_69 (by decide) ?_
          exact hend _ _ _ _ _ _ dX7_until_74 rfl (hF.trans (fX7_until_22_p1 p0 p1 n k σ c_24 u_60 e_60 c_65)) hP hS
      · refine lv_aload_n hx hb dX7_until_27 rfl (lv_at hl 0 rfl) ?_
        refine cRV ⟨hx, hb, hml, hown, hts⟩ (kX7_isReady l D cI cS h0 h1 w1 w2 w3 w4 h2 w6 w7 w8 w9 w10 w11 w12 σ.1) (cwV 0 hts gX7_until_X7_isReady rfl rfl rfl (by decide +kernel) ⟨Nat.le_of_ble_eq_true rfl, Nat.le_of_ble_eq_true rfl⟩) hE hP 0 rfl rfl [0, 1] rfl rfl hl.1 rfl (Nat.le_of_ble_eq_true rfl) ⟨Nat.zero_le _, Nat.zero_le _⟩ dX7_until_28 ?_
        refine lv_if_ne (tgt := 44) hx hb dX7_until_31 (by decide) (fun c_31 => ?_) (fun c_31 => ?_)
        · refine lv_aload_n hx hb dX7_until_44 rfl (lv_at hl 0 rfl) ?_
          refine cRV ⟨hx, hb, hml, hown, hts⟩ (kX7_isReady l D cI cS h0 h1 w1 w2 w3 w4 h2 w6 w7 w8 w9 w10 w11 w12 σ.1) (cwV 0 hts gX7_until_X7_isReady rfl rfl rfl (by decide +kernel) ⟨Nat.le_of_ble_eq_true rfl, Nat.le_of_ble_eq_true rfl⟩) hE hP 0 rfl rfl [0, 1] rfl rfl hl.1 rfl (Nat.le_of_ble_eq_true rfl) ⟨Nat.zero_le _, Nat.zero_le _⟩ dX7_until_45 ?_
          refine lv_istore (lv' := [(4, .int (fX7_isReady σ.1)), (0, .ref h0), (1, .int p0), (2, .int p1), (3, .int (nI k))]) hx hb dX7_until_48 hl (by decide) rfl (fun ls hl => ?_)
          refine lv_aload_n hx hb dX7_until_50 rfl (lv_at hl 1 rfl) ?_
          refine va_get (D := D) (ci := 7) (v := .ref h2) (C := RX7) (T := TX7) (N := 13) hx hb hts (fun _ h9 => List.mem_cons_of_mem _ (List.mem_append_right _ h9)) hown hE.1 hP 0 rfl rfl 5 (by decide) (hts (.fieldLink RX7 19 "ShadowTableModel" "before" "[I") (List.mem_of_getElem? (i := 2) rfl)) (fun _ h9 => h9) rfl dX7_until_51 ?_
          refine lv_iconst (v := (0 : Int32)) hx hb dX7_until_54 (by decide +kernel) ?_
          refine lv_aload_n hx hb dX7_until_55 rfl (lv_at hl 1 rfl) ?_
          refine va_get (D := D) (ci := 7) (v := .ref h1) (C := RX7) (T := TX7) (N := 13) hx hb hts (fun _ h9 => List.mem_cons_of_mem _ (List.mem_append_right _ h9)) hown hE.1 hP 0 rfl rfl 0 (by decide) (hts (.fieldLink RX7 7 "ShadowTableModel" "s" "[I") (List.mem_of_getElem? (i := 1) rfl)) (fun _ h9 => h9) rfl dX7_until_56 ?_
          refine lv_iconst (v := (0 : Int32)) hx hb dX7_until_59 (by decide +kernel) ?_
          refine cVS ⟨hx, hb, hml, hown, hts⟩ (kX7_copyAll l D cI cS h2 h1 (0 : Int32) (0 : Int32) σ.2 σ.1 163 163 zz_c0a zz_c0b (by omega) zz_c0a zz_c0b (by omega)) (va_cwS 4 hts gX7_until_X7_copyAll rfl rfl rfl (by decide +kernel) ⟨Nat.le_of_ble_eq_true rfl, Nat.le_of_ble_eq_true rfl⟩) hE hP hD hS [2, 1] rfl (by decide) (fun _ => rfl) rfl hl.1 rfl (Nat.le_of_ble_eq_true rfl) ⟨Nat.zero_le _, Nat.zero_le _⟩ dX7_until_60 (fun u_60 H locs e_60 hP hD hS => ?_)
          have hP : va_P D vwCl [(h0, .inr (7, [.ref h1, .ref w1, .int w2, .ref w3, .int w4, .ref h2, .ref w6, .int w7, .int w8, .int w9, .int w10, .int w11, .int w12])), (h1, .inl (cI, 163, .inl u_60)), (h2, .inl (cI, 163, .inl σ.2))] H := hP
          have hD : va_D A [(h0, .inr (7, [.ref h1, .ref w1, .int w2, .ref w3, .int w4, .ref h2, .ref w6, .int w7, .int w8, .int w9, .int w10, .int w11, .int w12])), (h1, .inl (cI, 163, .inl u_60)), (h2, .inl (cI, 163, .inl σ.2))] := hD
          refine lv_iload hx hb dX7_until_63 (lv_at hl 0 rfl) ?_
          refine lv_if_eq (tgt := 72) hx hb dX7_until_65 (by decide) (fun c_65 => ?_) (fun c_65 => ?_)
          · refine lv_bipush (v := (-5 : Int32)) hx hb dX7_until_72 (by decide +kernel) ?_
            exact hend _ _ _ _ _ _ dX7_until_74 rfl (hF.trans (fX7_until_22_p2 p0 p1 n k σ c_24 c_31 u_60 e_60 c_65)) hP hS
          · refine lv_iload_n hx hb dX7_until_68 rfl (lv_at hl 4 rfl) ?_
            refine lv_goto (tgt := 74) hx hb dX7_until_69 (by decide) ?_
            exact hend _ _ _ _ _ _ dX7_until_74 rfl (hF.trans (fX7_until_22_p3 p0 p1 n k σ c_24 c_31 u_60 e_60 c_65)) hP hS
        · refine lv_aload_n hx hb dX7_until_34 rfl (lv_at hl 0 rfl) ?_
          refine cVV ⟨hx, hb, hml, hown, hts⟩ (kX7_tickOnce l D cI cS h0 h1 w1 w2 w3 w4 h2 w6 w7 w8 w9 w10 w11 w12 σ.1 hm) (cwV 0 hts gX7_until_X7_tickOnce rfl rfl rfl (by decide +kernel) ⟨Nat.le_of_ble_eq_true rfl, Nat.le_of_ble_eq_true rfl⟩) hE hP hD hS 0 rfl rfl [0, 1] rfl (by decide) (fun _ => rfl) rfl hl.1 rfl (Nat.le_of_ble_eq_true rfl) ⟨Nat.zero_le _, Nat.zero_le _⟩ dX7_until_35 (fun u_35 H locs e_35 hP hD hS => ?_)
          have hP : va_P D vwCl [(h0, .inr (7, [.ref h1, .ref w1, .int w2, .ref w3, .int w4, .ref h2, .ref w6, .int w7, .int w8, .int w9, .int w10, .int w11, .int w12])), (h1, .inl (cI, 163, .inl u_35)), (h2, .inl (cI, 163, .inl σ.2))] H := hP
          have hD : va_D A [(h0, .inr (7, [.ref h1, .ref w1, .int w2, .ref w3, .int w4, .ref h2, .ref w6, .int w7, .int w8, .int w9, .int w10, .int w11, .int w12])), (h1, .inl (cI, 163, .inl u_35)), (h2, .inl (cI, 163, .inl σ.2))] := hD
          refine lv_iinc (v := (nI (k + 1))) (lv' := [(3, .int (nI (k + 1))), (0, .ref h0), (1, .int p0), (2, .int p1)]) hx hb dX7_until_38 hl (k := 3) rfl (nI_1 _) (by decide) rfl (fun ls hl => ?_)
          refine lv_goto (tgt := 22) hx hb dX7_until_41 (by decide) ?_
          have hd := zz_lt hq (by omega) (by have := hq.2; omega) c_24
          exact ih (k + 1) (u_35, σ.2) (zz_WM_tick e_35 hm) (by omega) (by omega) (hF.trans (fX7_until_22_p4 p0 p1 n k σ c_24 c_31 u_35 e_35)) _ _ hP hD hS _ (lv_sub hl [1, 2, 3, 0] rfl)
  refine lv_aload_n hx hb dX7_until_0 rfl (lv_at hl 0 rfl) ?_
  refine va_get (D := D) (ci := 7) (v := .ref h1) (C := RX7) (T := TX7) (N := 13) hx hb hts (fun _ h9 => List.mem_cons_of_mem _ (List.mem_append_right _ h9)) hown hE.1 hP 0 rfl rfl 0 (by decide) (hts (.fieldLink RX7 7 "ShadowTableModel" "s" "[I") (List.mem_of_getElem? (i := 1) rfl)) (fun _ h9 => h9) rfl dX7_until_1 ?_
  refine lv_iconst (v := (0 : Int32)) hx hb dX7_until_4 (by decide +kernel) ?_
  refine lv_aload_n hx hb dX7_until_5 rfl (lv_at hl 0 rfl) ?_
  refine va_get (D := D) (ci := 7) (v := .ref h2) (C := RX7) (T := TX7) (N := 13) hx hb hts (fun _ h9 => List.mem_cons_of_mem _ (List.mem_append_right _ h9)) hown hE.1 hP 0 rfl rfl 5 (by decide) (hts (.fieldLink RX7 19 "ShadowTableModel" "before" "[I") (List.mem_of_getElem? (i := 2) rfl)) (fun _ h9 => h9) rfl dX7_until_6 ?_
  refine lv_iconst (v := (0 : Int32)) hx hb dX7_until_9 (by decide +kernel) ?_
  refine cVS ⟨hx, hb, hml, hown, hts⟩ (kX7_copyAll l D cI cS h1 h2 (0 : Int32) (0 : Int32) τ.1 τ.2 163 163 zz_c0a zz_c0b (by omega) zz_c0a zz_c0b (by omega)) (va_cwS 4 hts gX7_until_X7_copyAll rfl rfl rfl (by decide +kernel) ⟨Nat.le_of_ble_eq_true rfl, Nat.le_of_ble_eq_true rfl⟩) hE hP hD hS [1, 2] rfl (by decide) (fun _ => rfl) rfl hl.1 rfl (Nat.le_of_ble_eq_true rfl) ⟨Nat.zero_le _, Nat.zero_le _⟩ dX7_until_10 (fun u_10 H locs e_10 hP hD hS => ?_)
  have hP : va_P D vwCl [(h0, .inr (7, [.ref h1, .ref w1, .int w2, .ref w3, .int w4, .ref h2, .ref w6, .int w7, .int w8, .int w9, .int w10, .int w11, .int w12])), (h1, .inl (cI, 163, .inl τ.1)), (h2, .inl (cI, 163, .inl u_10))] H := hP
  have hD : va_D A [(h0, .inr (7, [.ref h1, .ref w1, .int w2, .ref w3, .int w4, .ref h2, .ref w6, .int w7, .int w8, .int w9, .int w10, .int w11, .int w12])), (h1, .inl (cI, 163, .inl τ.1)), (h2, .inl (cI, 163, .inl u_10))] := hD
  refine lv_aload_n hx hb dX7_until_13 rfl (lv_at hl 0 rfl) ?_
  refine va_get (D := D) (ci := 7) (v := .ref h1) (C := RX7) (T := TX7) (N := 13) hx hb hts (fun _ h9 => List.mem_cons_of_mem _ (List.mem_append_right _ h9)) hown hE.1 hP 0 rfl rfl 0 (by decide) (hts (.fieldLink RX7 7 "ShadowTableModel" "s" "[I") (List.mem_of_getElem? (i := 1) rfl)) (fun _ h9 => h9) rfl dX7_until_14 ?_
  refine lv_iconst (v := (2 : Int32)) hx hb dX7_until_17 (by decide +kernel) ?_
  refine lv_iload_n hx hb dX7_until_18 rfl (lv_at hl 2 rfl) ?_
  refine xst (j := 2) hx hb hE hP hD hS 1 rfl rfl cl_2 (in_2 (by decide)) [(h0, .inr (7, [.ref h1, .ref w1, .int w2, .ref w3, .int w4, .ref h2, .ref w6, .int w7, .int w8, .int w9, .int w10, .int w11, .int w12])), (h1, .inl (cI, 163, .inl (upd τ.1 2 p1))), (h2, .inl (cI, 163, .inl u_10))] rfl dX7_until_19 (fun H locs hP hD hS => ?_)
  refine lv_iconst (v := (0 : Int32)) hx hb dX7_until_20 (by decide +kernel) ?_
  refine lv_istore_n (lv' := [(3, .int (0 : Int32)), (0, .ref h0), (1, .int p0), (2, .int p1)]) hx hb dX7_until_21 rfl hl (by decide) rfl (fun ls hl => ?_)
  exact loop_22 (p0.toNatClampNeg + 1) 0 ((upd τ.1 2 p1), u_10) (zz_WMu (by decide) (by decide) (by decide) hm) (by omega) (by omega) (fX7_until_p5 p0 p1 τ u_10 e_10) _ _ hP hD hS _ (lv_sub hl [1, 2, 3, 0] rfl)

theorem WM.congr2 {s u : FnI} (hm : WM s) (h : ∀ j : Nat, j < 163 → u j = s j) : WM u := by
  have h4 := h 4 (by omega)
  refine ⟨by rw [h4]; exact hm.1, by rw [h 3 (by omega)]; exact hm.2.1, fun i hi => ?_⟩
  rw [h4] at hi
  have := hm.1.2
  rw [h _ (by omega)]
  exact hm.2.2 i hi
theorem copy_3 (a b : Int32) (τ : FnI) : ∀ (n k : Nat) (σ : FnI), k ≤ 163 → 163 - k < n → ∀ j : Nat, fX7_copyAll_3 a b τ n k σ j = if b.toNatClampNeg + k ≤ j ∧ j < b.toNatClampNeg + 163 then τ (a.toNatClampNeg + (j - b.toNatClampNeg)) else σ j
  | 0, _, _, _, h, _ => absurd h (by omega)
  | n + 1, k, σ, hk, hn, j => by
    unfold fX7_copyAll_3
    by_cases c : (163 : Int32) ≤ nI k
    · rw [if_pos c, if_neg]
      have : ¬ k < 163 := fun q => nI_ge (b := 163) q (by omega) c
      omega
    · have h : k < 163 := Nat.lt_of_not_le (fun q => c (nI_le (a := 163) q (by omega)))
      rw [if_neg c, copy_3 a b τ n (k + 1) _ (by omega) (by omega) j]
      by_cases q : b.toNatClampNeg + (k + 1) ≤ j ∧ j < b.toNatClampNeg + 163
      · rw [if_pos q, if_pos ⟨by omega, q.2⟩]
      · rw [if_neg q]
        by_cases q2 : j = b.toNatClampNeg + k
        · rw [if_pos ⟨by omega, by omega⟩, q2, pk_us]
          congr 1
          omega
        · rw [if_neg (by omega), pk_un q2]
/-- a copy of 163 numbers -/
theorem copy_is (a b : Int32) (τ υ : FnI) (j : Nat) : fX7_copyAll a b τ υ j = if b.toNatClampNeg ≤ j ∧ j < b.toNatClampNeg + 163 then τ (a.toNatClampNeg + (j - b.toNatClampNeg)) else υ j := by
  unfold fX7_copyAll
  rw [copy_3 a b τ 164 0 υ (by omega) (by omega) j]
  rfl
theorem copy_0 (τ υ : FnI) {j : Nat} (hj : j < 163) : fX7_copyAll (0 : Int32) (0 : Int32) τ υ j = τ j := by
  rw [copy_is, show (0 : Int32).toNatClampNeg = 0 from by decide, if_pos ⟨by omega, by omega⟩]
  congr 1
  omega
theorem until_22 (p q : Int32) (hq : Bd p 200) : ∀ (n k : Nat) (σ : MBT), k ≤ p.toNatClampNeg → p.toNatClampNeg - k < n → (∀ j : Nat, j < 163 → (fX7_until_22 p q n k σ).2.1 j = σ.2 j) ∧ (fX7_until_22 p q n k σ).2.2 = σ.2
  | 0, _, _, _, h => absurd h (by omega)
  | n + 1, k, σ, hk, hn => by
    have hc : ∀ j : Nat, j < 163 → fX7_copyAll (0 : Int32) (0 : Int32) σ.2 σ.1 j = σ.2 j := fun j hj => copy_0 _ _ hj
    unfold fX7_until_22
    by_cases c : p ≤ nI k
    · rw [if_pos c]
      dsimp only
      split <;> exact ⟨hc, rfl⟩
    · rw [if_neg c]
      have hd := zz_lt hq (by omega) (by have := hq.2; omega) c
      by_cases c2 : fX7_isReady σ.1 = (0 : Int32)
      · rw [if_pos c2]
        exact until_22 p q hq n (k + 1) (fX7_tickOnce σ.1, σ.2) (by omega) (by omega)
      · rw [if_neg c2]
        dsimp only
        split <;> exact ⟨hc, rfl⟩
theorem until_s {p q r : Int32} {τ u : MBT} (e : fX7_until p q τ = (r, u)) (hq : Bd p 200) : ∀ j : Nat, j < 163 → u.1 j = τ.1 j := by
  intro j hj
  have h := (until_22 p q hq (p.toNatClampNeg + 1) 0 ((upd τ.1 2 q), fX7_copyAll (0 : Int32) (0 : Int32) τ.1 τ.2) (by omega) (by omega)).1 j hj
  have e2 : fX7_until p q τ = fX7_until_22 p q (p.toNatClampNeg + 1) 0 ((upd τ.1 2 q), fX7_copyAll (0 : Int32) (0 : Int32) τ.1 τ.2) := rfl
  rw [← e2, e] at h
  exact h.trans (copy_0 _ _ hj)
theorem zz_WM_until {p q r : Int32} {τ u : MBT} (e : fX7_until p q τ = (r, u)) (hm : WM τ.1) (hq : Bd p 200) : WM u.1 := hm.congr2 (until_s e hq)

def fX7_readyIn (τ : MBT) : Int32 × MBT := (if (fX7_canAsk τ.1) = (0 : Int32) then ((-4 : Int32), τ) else (match (fX7_until (200 : Int32) (τ.1 2) τ) with | (r_17, u_17) => (r_17, u_17)))
theorem fX7_readyIn_p0 (τ : MBT) (c_4 : (fX7_canAsk τ.1) = (0 : Int32)) : (fX7_readyIn τ) = ((-4 : Int32), τ) := by
  simp only [fX7_readyIn, if_pos c_4]
theorem fX7_readyIn_p1 (τ : MBT) (c_4 : ¬ (fX7_canAsk τ.1) = (0 : Int32)) (r_17 : Int32) (u_17 : MBT) (e_17 : (fX7_until (200 : Int32) (τ.1 2) τ) = (r_17, u_17)) : (fX7_readyIn τ) = (r_17, u_17) := by
  simp only [fX7_readyIn, if_neg c_4, e_17]
set_option maxHeartbeats 4000000 in
set_option maxRecDepth 100000 in
theorem kX7_readyIn (l : Launch) (D : va_G) (cI cS : ClassId) (h0 h1 h2 : Nat) (w1 : Nat) (w2 : Int32) (w3 : Nat) (w4 : Int32) (w6 : Nat) (w7 : Int32) (w8 : Int32) (w9 : Int32) (w10 : Int32) (w11 : Int32) (w12 : Int32) (τ : MBT) (hm : WM τ.1) : KI l yX7_readyIn wsX7_readyIn { frames := 5, cells := 0, slots := 0, locals := 110 } D (tysA cI cS) [.ref h0] [(h0, .inr (7, [.ref h1, .ref w1, .int w2, .ref w3, .int w4, .ref h2, .ref w6, .int w7, .int w8, .int w9, .int w10, .int w11, .int w12])), (h1, .inl (cI, 163, .inl τ.1)), (h2, .inl (cI, 163, .inl τ.2))] (fX7_readyIn τ) (fun u => [(h0, .inr (7, [.ref h1, .ref w1, .int w2, .ref w3, .int w4, .ref h2, .ref w6, .int w7, .int w8, .int w9, .int w10, .int w11, .int w12])), (h1, .inl (cI, 163, .inl u.1)), (h2, .inl (cI, 163, .inl u.2))]) := by
  refine KI.of (cc := cX7_readyIn) (maxL := 1) (ty := .int) (by decide) rfl (Nat.le_of_ble_eq_true rfl) rfl (fun p e s m args below meth c ls Q A hx hb hml hown hts hE hP hD hS hl hend => ?_)
  have hown : s.vm.findClass RX7 = some m.cls := hown
  have hl : lv_has ls 1 [(0, .ref h0)] := hl
  refine lv_aload_n hx hb dX7_readyIn_0 rfl (lv_at hl 0 rfl) ?_
  refine cRV ⟨hx, hb, hml, hown, hts⟩ (kX7_canAsk l D cI cS h0 h1 w1 w2 w3 w4 h2 w6 w7 w8 w9 w10 w11 w12 τ.1) (cwV 0 hts gX7_readyIn_X7_canAsk rfl rfl rfl (by decide +kernel) ⟨Nat.le_of_ble_eq_true rfl, Nat.le_of_ble_eq_true rfl⟩) hE hP 0 rfl rfl [0, 1] rfl rfl hl.1 rfl (Nat.le_of_ble_eq_true rfl) ⟨Nat.zero_le _, Nat.zero_le _⟩ dX7_readyIn_1 ?_
  refine lv_if_eq (tgt := 23) hx hb dX7_readyIn_4 (by decide) (fun c_4 => ?_) (fun c_4 => ?_)
  · refine lv_bipush (v := (-4 : Int32)) hx hb dX7_readyIn_23 (by decide +kernel) ?_
    exact hend _ _ _ _ _ _ dX7_readyIn_25 rfl (fX7_readyIn_p0 τ c_4) hP hS
  · refine lv_aload_n hx hb dX7_readyIn_7 rfl (lv_at hl 0 rfl) ?_
    refine lv_sipush (v := (200 : Int32)) hx hb dX7_readyIn_8 (by decide +kernel) ?_
    refine lv_aload_n hx hb dX7_readyIn_11 rfl (lv_at hl 0 rfl) ?_
    refine va_get (D := D) (ci := 7) (v := .ref h1) (C := RX7) (T := TX7) (N := 13) hx hb hts (fun _ h9 => List.mem_cons_of_mem _ (List.mem_append_right _ h9)) hown hE.1 hP 0 rfl rfl 0 (by decide) (hts (.fieldLink RX7 7 "ShadowTableModel" "s" "[I") (List.mem_of_getElem? (i := 1) rfl)) (fun _ h9 => h9) rfl dX7_readyIn_12 ?_
    refine lv_iconst (v := (2 : Int32)) hx hb dX7_readyIn_15 (by decide +kernel) ?_
    refine xld (v := (τ.1 2)) (j := 2) hx hb hE hP 1 rfl rfl cl_2 (in_2 (by decide)) rfl dX7_readyIn_16 ?_
    refine cIV ⟨hx, hb, hml, hown, hts⟩ (kX7_until l D cI cS h0 h1 h2 w1 w2 w3 w4 w6 w7 w8 w9 w10 w11 w12 (200 : Int32) (τ.1 2) τ hm zz_200) (cwV 2 hts gX7_readyIn_X7_until rfl rfl rfl (by decide +kernel) ⟨Nat.le_of_ble_eq_true rfl, Nat.le_of_ble_eq_true rfl⟩) hE hP hD hS 0 rfl rfl [0, 1, 2] rfl (by decide) (fun _ => rfl) rfl hl.1 rfl (Nat.le_of_ble_eq_true rfl) ⟨Nat.zero_le _, Nat.zero_le _⟩ dX7_readyIn_17 (fun r_17 u_17 H locs e_17 hP hD hS => ?_)
    have hP : va_P D vwCl [(h0, .inr (7, [.ref h1, .ref w1, .int w2, .ref w3, .int w4, .ref h2, .ref w6, .int w7, .int w8, .int w9, .int w10, .int w11, .int w12])), (h1, .inl (cI, 163, .inl u_17.1)), (h2, .inl (cI, 163, .inl u_17.2))] H := hP
    have hD : va_D A [(h0, .inr (7, [.ref h1, .ref w1, .int w2, .ref w3, .int w4, .ref h2, .ref w6, .int w7, .int w8, .int w9, .int w10, .int w11, .int w12])), (h1, .inl (cI, 163, .inl u_17.1)), (h2, .inl (cI, 163, .inl u_17.2))] := hD
    refine lv_goto (tgt := 25) hx hb dX7_readyIn_20 (by decide) ?_
    exact hend _ _ _ _ _ _ dX7_readyIn_25 rfl (fX7_readyIn_p1 τ c_4 r_17 u_17 e_17) hP hS

def fX7_leastLot_25 (p0 : Int32) : Nat → Nat → MBT → Int32 × MBT
  | 0, k, σ => (0, σ)
  | n + 1, k, σ => (if (8 : Int32) < (nI k) then ((-5 : Int32), σ) else (match (fX7_until p0 (nI k) σ) with | (r_34, u_34) => (if r_34 = (-5 : Int32) then fX7_leastLot_25 p0 n (k + 1) u_34 else ((nI k), u_34))))
def fX7_leastLot (p0 : Int32) (τ : MBT) : Int32 × MBT := (if (fX7_in p0 (1 : Int32) (99 : Int32)) = (0 : Int32) then ((-2 : Int32), τ) else (if (fX7_canAsk τ.1) = (0 : Int32) then ((-4 : Int32), τ) else fX7_leastLot_25 p0 10 1 τ))
theorem fX7_leastLot_25_p0 (p0 : Int32) (n : Nat) (k : Nat) (σ : MBT) (c_28 : (8 : Int32) < (nI k)) : fX7_leastLot_25 p0 (n + 1) k σ = ((-5 : Int32), σ) := by
  simp only [fX7_leastLot_25, if_pos c_28]
theorem fX7_leastLot_25_p1 (p0 : Int32) (n : Nat) (k : Nat) (σ : MBT) (c_28 : ¬ (8 : Int32) < (nI k)) (r_34 : Int32) (u_34 : MBT) (e_34 : (fX7_until p0 (nI k) σ) = (r_34, u_34)) (c_39 : r_34 = (-5 : Int32)) : fX7_leastLot_25 p0 (n + 1) k σ = fX7_leastLot_25 p0 n (k + 1) u_34 := by
  simp only [fX7_leastLot_25, if_neg c_28, e_34, if_pos c_39]
theorem fX7_leastLot_25_p2 (p0 : Int32) (n : Nat) (k : Nat) (σ : MBT) (c_28 : ¬ (8 : Int32) < (nI k)) (r_34 : Int32) (u_34 : MBT) (e_34 : (fX7_until p0 (nI k) σ) = (r_34, u_34)) (c_39 : ¬ r_34 = (-5 : Int32)) : fX7_leastLot_25 p0 (n + 1) k σ = ((nI k), u_34) := by
  simp only [fX7_leastLot_25, if_neg c_28, e_34, if_neg c_39]
theorem fX7_leastLot_p3 (p0 : Int32) (τ : MBT) (c_7 : ¬ (fX7_in p0 (1 : Int32) (99 : Int32)) = (0 : Int32)) (c_17 : ¬ (fX7_canAsk τ.1) = (0 : Int32)) : (fX7_leastLot p0 τ) = fX7_leastLot_25 p0 10 1 τ := by
  simp only [fX7_leastLot, if_neg c_7, if_neg c_17]
theorem fX7_leastLot_p4 (p0 : Int32) (τ : MBT) (c_7 : ¬ (fX7_in p0 (1 : Int32) (99 : Int32)) = (0 : Int32)) (c_17 : (fX7_canAsk τ.1) = (0 : Int32)) : (fX7_leastLot p0 τ) = ((-4 : Int32), τ) := by
  simp only [fX7_leastLot, if_neg c_7, if_pos c_17]
theorem fX7_leastLot_p5 (p0 : Int32) (τ : MBT) (c_7 : (fX7_in p0 (1 : Int32) (99 : Int32)) = (0 : Int32)) : (fX7_leastLot p0 τ) = ((-2 : Int32), τ) := by
  simp only [fX7_leastLot, if_pos c_7]
set_option maxHeartbeats 4000000 in
set_option maxRecDepth 100000 in
theorem kX7_leastLot (l : Launch) (D : va_G) (cI cS : ClassId) (h0 h1 h2 : Nat) (w1 : Nat) (w2 : Int32) (w3 : Nat) (w4 : Int32) (w6 : Nat) (w7 : Int32) (w8 : Int32) (w9 : Int32) (w10 : Int32) (w11 : Int32) (w12 : Int32) (p0 : Int32) (τ : MBT) (hm : WM τ.1) : KI l yX7_leastLot wsX7_leastLot { frames := 5, cells := 0, slots := 0, locals := 110 } D (tysA cI cS) [.ref h0, .int p0] [(h0, .inr (7, [.ref h1, .ref w1, .int w2, .ref w3, .int w4, .ref h2, .ref w6, .int w7, .int w8, .int w9, .int w10, .int w11, .int w12])), (h1, .inl (cI, 163, .inl τ.1)), (h2, .inl (cI, 163, .inl τ.2))] (fX7_leastLot p0 τ) (fun u => [(h0, .inr (7, [.ref h1, .ref w1, .int w2, .ref w3, .int w4, .ref h2, .ref w6, .int w7, .int w8, .int w9, .int w10, .int w11, .int w12])), (h1, .inl (cI, 163, .inl u.1)), (h2, .inl (cI, 163, .inl u.2))]) := by
  refine KI.of (cc := cX7_leastLot) (maxL := 3) (ty := .int) (by decide) rfl (Nat.le_of_ble_eq_true rfl) rfl (fun p e s m args below meth c ls Q A hx hb hml hown hts hE hP hD hS hl hend => ?_)
  have hown : s.vm.findClass RX7 = some m.cls := hown
  have hl : lv_has ls 3 [(0, .ref h0), (1, .int p0)] := hl
  have loop_25 : ∀ (n : Nat) (k : Nat) (σ : MBT), WM σ.1 → Bd p0 200 → k ≤ 9 → 9 - k < n → (fX7_leastLot p0 τ) = fX7_leastLot_25 p0 n k σ → ∀ (H : Heap) (locs : List Loc), va_P D vwCl [(h0, .inr (7, [.ref h1, .ref w1, .int w2, .ref w3, .int w4, .ref h2, .ref w6, .int w7, .int w8, .int w9, .int w10, .int w11, .int w12])), (h1, .inl (cI, 163, .inl σ.1)), (h2, .inl (cI, 163, .inl σ.2))] H → va_D A [(h0, .inr (7, [.ref h1, .ref w1, .int w2, .ref w3, .int w4, .ref h2, .ref w6, .int w7, .int w8, .int w9, .int w10, .int w11, .int w12])), (h1, .inl (cI, 163, .inl σ.1)), (h2, .inl (cI, 163, .inl σ.2))] → va_S A s.heap H locs → ∀ (ls : Array Slot), lv_has ls 3 [(0, .ref h0), (1, .int p0), (2, .int (nI k))] → W p l e { frames := 5, cells := 0, slots := 0, locals := 110 } s m args below meth c H locs 0 0 Q (F0 m 25 ls []) := by
    intro n
    induction n with
    | zero =>
      intro k σ hm hq hk hn
      exact absurd hn (by omega)
    | succ n ih =>
      intro k σ hm hq hk hn hF H locs hP hD hS ls hl
      refine lv_iload_n hx hb dX7_leastLot_25 rfl (lv_at hl 2 rfl) ?_
      refine lv_bipush (v := (8 : Int32)) hx hb dX7_leastLot_26 (by decide +kernel) ?_
      refine lv_icmp_gt (tgt := 50) hx hb dX7_leastLot_28 (by decide) (fun c_28 => ?_) (fun c_28 => ?_)
      · have d_28 : 8 < k := (nI_ltI (a := 8) (b := k) (by omega) (by omega)).mp c_28
        refine lv_bipush (v := (-5 : Int32)) hx hb dX7_leastLot_50 (by decide +kernel) ?_
        exact hend _ _ _ _ _ _ dX7_leastLot_52 rfl (hF.trans (fX7_leastLot_25_p0 p0 n k σ c_28)) hP hS
      · have d_28 : k ≤ 8 := Nat.le_of_not_lt (fun q => c_28 ((nI_ltI (a := 8) (b := k) (by omega) (by omega)).mpr q))
        refine lv_aload_n hx hb dX7_leastLot_31 rfl (lv_at hl 0 rfl) ?_
        refine lv_iload_n hx hb dX7_leastLot_32 rfl (lv_at hl 1 rfl) ?_
        refine lv_iload_n hx hb dX7_leastLot_33 rfl (lv_at hl 2 rfl) ?_
        refine cIV ⟨hx, hb, hml, hown, hts⟩ (kX7_until l D cI cS h0 h1 h2 w1 w2 w3 w4 w6 w7 w8 w9 w10 w11 w12 p0 (nI k) σ hm hq) (cwV 2 hts gX7_leastLot_X7_until rfl rfl rfl (by decide +kernel) ⟨Nat.le_of_ble_eq_true rfl, Nat.le_of_ble_eq_true rfl⟩) hE hP hD hS 0 rfl rfl [0, 1, 2] rfl (by decide) (fun _ => rfl) rfl hl.1 rfl (Nat.le_of_ble_eq_true rfl) ⟨Nat.zero_le _, Nat.zero_le _⟩ dX7_leastLot_34 (fun r_34 u_34 H locs e_34 hP hD hS => ?_)
        have hP : va_P D vwCl [(h0, .inr (7, [.ref h1, .ref w1, .int w2, .ref w3, .int w4, .ref h2, .ref w6, .int w7, .int w8, .int w9, .int w10, .int w11, .int w12])), (h1, .inl (cI, 163, .inl u_34.1)), (h2, .inl (cI, 163, .inl u_34.2))] H := hP
        have hD : va_D A [(h0, .inr (7, [.ref h1, .ref w1, .int w2, .ref w3, .int w4, .ref h2, .ref w6, .int w7, .int w8, .int w9, .int w10, .int w11, .int w12])), (h1, .inl (cI, 163, .inl u_34.1)), (h2, .inl (cI, 163, .inl u_34.2))] := hD
        refine lv_bipush (v := (-5 : Int32)) hx hb dX7_leastLot_37 (by decide +kernel) ?_
        refine lv_icmp_eq (tgt := 44) hx hb dX7_leastLot_39 (by decide) (fun c_39 => ?_) (fun c_39 => ?_)
        · refine lv_iinc (v := (nI (k + 1))) (lv' := [(2, .int (nI (k + 1))), (0, .ref h0), (1, .int p0)]) hx hb dX7_leastLot_44 hl (k := 2) rfl (nI_1 _) (by decide) rfl (fun ls hl => ?_)
          refine lv_goto (tgt := 25) hx hb dX7_leastLot_47 (by decide) ?_
          exact ih (k + 1) u_34 (zz_WM_until e_34 hm hq) hq (by omega) (by omega) (hF.trans (fX7_leastLot_25_p1 p0 n k σ c_28 r_34 u_34 e_34 c_39)) _ _ hP hD hS _ (lv_sub hl [1, 2, 0] rfl)
        · refine lv_iload_n hx hb dX7_leastLot_42 rfl (lv_at hl 2 rfl) ?_
          exact hend _ _ _ _ _ _ dX7_leastLot_43 rfl (hF.trans (fX7_leastLot_25_p2 p0 n k σ c_28 r_34 u_34 e_34 c_39)) hP hS
  refine lv_iload_n hx hb dX7_leastLot_0 rfl (lv_at hl 1 rfl) ?_
  refine lv_iconst (v := (1 : Int32)) hx hb dX7_leastLot_1 (by decide +kernel) ?_
  refine lv_bipush (v := (99 : Int32)) hx hb dX7_leastLot_2 (by decide +kernel) ?_
  refine cRS ⟨hx, hb, hml, hown, hts⟩ (kX7_in l D cI cS p0 (1 : Int32) (99 : Int32)) (va_cwS 3 hts gX7_leastLot_X7_in rfl rfl rfl (by decide +kernel) ⟨Nat.le_of_ble_eq_true rfl, Nat.le_of_ble_eq_true rfl⟩) hE hP [] rfl rfl hl.1 rfl (Nat.le_of_ble_eq_true rfl) ⟨Nat.zero_le _, Nat.zero_le _⟩ dX7_leastLot_4 ?_
  refine lv_if_ne (tgt := 13) hx hb dX7_leastLot_7 (by decide) (fun c_7 => ?_) (fun c_7 => ?_)
  · refine lv_aload_n hx hb dX7_leastLot_13 rfl (lv_at hl 0 rfl) ?_
    refine cRV ⟨hx, hb, hml, hown, hts⟩ (kX7_canAsk l D cI cS h0 h1 w1 w2 w3 w4 h2 w6 w7 w8 w9 w10 w11 w12 τ.1) (cwV 0 hts gX7_leastLot_X7_canAsk rfl rfl rfl (by decide +kernel) ⟨Nat.le_of_ble_eq_true rfl, Nat.le_of_ble_eq_true rfl⟩) hE hP 0 rfl rfl [0, 1] rfl rfl hl.1 rfl (Nat.le_of_ble_eq_true rfl) ⟨Nat.zero_le _, Nat.zero_le _⟩ dX7_leastLot_14 ?_
    refine lv_if_ne (tgt := 23) hx hb dX7_leastLot_17 (by decide) (fun c_17 => ?_) (fun c_17 => ?_)
    · refine lv_iconst (v := (1 : Int32)) hx hb dX7_leastLot_23 (by decide +kernel) ?_
      refine lv_istore_n (lv' := [(2, .int (1 : Int32)), (0, .ref h0), (1, .int p0)]) hx hb dX7_leastLot_24 rfl hl (by decide) rfl (fun ls hl => ?_)
      exact loop_25 10 1 τ hm ((zz_in99 c_7).mono (by omega)) (by omega) (by omega) (fX7_leastLot_p3 p0 τ c_7 c_17) _ _ hP hD hS _ (lv_sub hl [1, 2, 0] rfl)
    · refine lv_bipush (v := (-4 : Int32)) hx hb dX7_leastLot_20 (by decide +kernel) ?_
      exact hend _ _ _ _ _ _ dX7_leastLot_22 rfl (fX7_leastLot_p4 p0 τ c_7 c_17) hP hS
  · refine lv_bipush (v := (-2 : Int32)) hx hb dX7_leastLot_10 (by decide +kernel) ?_
    exact hend _ _ _ _ _ _ dX7_leastLot_12 rfl (fX7_leastLot_p5 p0 τ c_7) hP hS

def fX7_save (τ : MVT) : Int32 × MVT := (let u_10 := (fX7_copyAll (0 : Int32) (0 : Int32) τ.1 τ.2.1); ((fX7_rows (0 : Int32) τ.1), (τ.1, u_10, (1 : Int32))))
theorem fX7_save_p0 (τ : MVT) (u_10 : FnI) (e_10 : (fX7_copyAll (0 : Int32) (0 : Int32) τ.1 τ.2.1) = u_10) : (fX7_save τ) = ((fX7_rows (0 : Int32) τ.1), (τ.1, u_10, (1 : Int32))) := by
  simp only [fX7_save, e_10]
set_option maxHeartbeats 4000000 in
set_option maxRecDepth 100000 in
theorem kX7_save (l : Launch) (D : va_G) (cI cS : ClassId) (h0 h1 h2 : Nat) (w1 : Nat) (w2 : Int32) (w5 : Nat) (w6 : Nat) (w7 : Int32) (w8 : Int32) (w9 : Int32) (w10 : Int32) (w11 : Int32) (w12 : Int32) (τ : MVT) : KI l yX7_save wsX7_save { frames := 2, cells := 0, slots := 0, locals := 45 } D (tysA cI cS) [.ref h0] [(h0, .inr (7, [.ref h1, .ref w1, .int w2, .ref h2, .int τ.2.2, .ref w5, .ref w6, .int w7, .int w8, .int w9, .int w10, .int w11, .int w12])), (h1, .inl (cI, 163, .inl τ.1)), (h2, .inl (cI, 163, .inl τ.2.1))] (fX7_save τ) (fun u => [(h0, .inr (7, [.ref h1, .ref w1, .int w2, .ref h2, .int u.2.2, .ref w5, .ref w6, .int w7, .int w8, .int w9, .int w10, .int w11, .int w12])), (h1, .inl (cI, 163, .inl u.1)), (h2, .inl (cI, 163, .inl u.2.1))]) := by
  refine KI.of (cc := cX7_save) (maxL := 1) (ty := .int) (by decide) rfl (Nat.le_of_ble_eq_true rfl) rfl (fun p e s m args below meth c ls Q A hx hb hml hown hts hE hP hD hS hl hend => ?_)
  have hown : s.vm.findClass RX7 = some m.cls := hown
  have hl : lv_has ls 1 [(0, .ref h0)] := hl
  refine lv_aload_n hx hb dX7_save_0 rfl (lv_at hl 0 rfl) ?_
  refine va_get (D := D) (ci := 7) (v := .ref h1) (C := RX7) (T := TX7) (N := 13) hx hb hts (fun _ h9 => List.mem_cons_of_mem _ (List.mem_append_right _ h9)) hown hE.1 hP 0 rfl rfl 0 (by decide) (hts (.fieldLink RX7 7 "ShadowTableModel" "s" "[I") (List.mem_of_getElem? (i := 1) rfl)) (fun _ h9 => h9) rfl dX7_save_1 ?_
  refine lv_iconst (v := (0 : Int32)) hx hb dX7_save_4 (by decide +kernel) ?_
  refine lv_aload_n hx hb dX7_save_5 rfl (lv_at hl 0 rfl) ?_
  refine va_get (D := D) (ci := 7) (v := .ref h2) (C := RX7) (T := TX7) (N := 13) hx hb hts (fun _ h9 => List.mem_cons_of_mem _ (List.mem_append_right _ h9)) hown hE.1 hP 0 rfl rfl 3 (by decide) (hts (.fieldLink RX7 16 "ShadowTableModel" "snapshot" "[I") (List.mem_of_getElem? (i := 2) rfl)) (fun _ h9 => h9) rfl dX7_save_6 ?_
  refine lv_iconst (v := (0 : Int32)) hx hb dX7_save_9 (by decide +kernel) ?_
  refine cVS ⟨hx, hb, hml, hown, hts⟩ (kX7_copyAll l D cI cS h1 h2 (0 : Int32) (0 : Int32) τ.1 τ.2.1 163 163 zz_c0a zz_c0b (by omega) zz_c0a zz_c0b (by omega)) (va_cwS 4 hts gX7_save_X7_copyAll rfl rfl rfl (by decide +kernel) ⟨Nat.le_of_ble_eq_true rfl, Nat.le_of_ble_eq_true rfl⟩) hE hP hD hS [1, 2] rfl (by decide) (fun _ => rfl) rfl hl.1 rfl (Nat.le_of_ble_eq_true rfl) ⟨Nat.zero_le _, Nat.zero_le _⟩ dX7_save_10 (fun u_10 H locs e_10 hP hD hS => ?_)
  have hP : va_P D vwCl [(h0, .inr (7, [.ref h1, .ref w1, .int w2, .ref h2, .int τ.2.2, .ref w5, .ref w6, .int w7, .int w8, .int w9, .int w10, .int w11, .int w12])), (h1, .inl (cI, 163, .inl τ.1)), (h2, .inl (cI, 163, .inl u_10))] H := hP
  have hD : va_D A [(h0, .inr (7, [.ref h1, .ref w1, .int w2, .ref h2, .int τ.2.2, .ref w5, .ref w6, .int w7, .int w8, .int w9, .int w10, .int w11, .int w12])), (h1, .inl (cI, 163, .inl τ.1)), (h2, .inl (cI, 163, .inl u_10))] := hD
  refine lv_aload_n hx hb dX7_save_13 rfl (lv_at hl 0 rfl) ?_
  refine lv_iconst (v := (1 : Int32)) hx hb dX7_save_14 (by decide +kernel) ?_
  refine xpf (ty := .boolean) (v := .int (1 : Int32)) (C := RX7) (T := TX7) (N := 13) hx hb hts (fun _ h9 => List.mem_cons_of_mem _ (List.mem_append_right _ h9)) tyX7 tyX7_ok nmX7 hown hE hP hD hS 0 rfl rfl 4 (by decide) (hts (.fieldLink RX7 172 "ShadowTableModel" "isTaken" "Z") (List.mem_of_getElem? (i := 3) rfl)) rfl rfl (by decide +kernel) rfl rfl (Nat.le_of_ble_eq_true rfl) [(h0, .inr (7, [.ref h1, .ref w1, .int w2, .ref h2, .int (1 : Int32), .ref w5, .ref w6, .int w7, .int w8, .int w9, .int w10, .int w11, .int w12])), (h1, .inl (cI, 163, .inl τ.1)), (h2, .inl (cI, 163, .inl u_10))] rfl dX7_save_15 (fun H locs hP hD hS => ?_)
  refine lv_aload_n hx hb dX7_save_18 rfl (lv_at hl 0 rfl) ?_
  refine lv_iconst (v := (0 : Int32)) hx hb dX7_save_19 (by decide +kernel) ?_
  refine cRV ⟨hx, hb, hml, hown, hts⟩ (kX7_rows l D cI cS h0 h1 w1 w2 h2 (1 : Int32) w5 w6 w7 w8 w9 w10 w11 w12 (0 : Int32) τ.1 zz_T0) (cwV 1 hts gX7_save_X7_rows rfl rfl rfl (by decide +kernel) ⟨Nat.le_of_ble_eq_true rfl, Nat.le_of_ble_eq_true rfl⟩) hE hP 0 rfl rfl [0, 1] rfl rfl hl.1 rfl (Nat.le_of_ble_eq_true rfl) ⟨Nat.zero_le _, Nat.zero_le _⟩ dX7_save_20 ?_
  exact hend _ _ _ _ _ _ dX7_save_23 rfl (fX7_save_p0 τ u_10 e_10) hP hS

def fX7_restore (τ : MWT) : Int32 × MWT := (if τ.2.2.2.2 = (0 : Int32) then ((-4 : Int32), τ) else (let u_11 := (fX7_record (τ.1, τ.2.1, τ.2.2.1)); (let u_24 := (fX7_copyAll (0 : Int32) (0 : Int32) τ.2.2.2.1 u_11.1); ((fX7_rows (0 : Int32) u_24), (u_24, u_11.2.1, u_11.2.2, τ.2.2.2.1, τ.2.2.2.2)))))
theorem fX7_restore_p0 (τ : MWT) (c_4 : ¬ τ.2.2.2.2 = (0 : Int32)) (u_11 : MHT) (e_11 : (fX7_record (τ.1, τ.2.1, τ.2.2.1)) = u_11) (u_24 : FnI) (e_24 : (fX7_copyAll (0 : Int32) (0 : Int32) τ.2.2.2.1 u_11.1) = u_24) : (fX7_restore τ) = ((fX7_rows (0 : Int32) u_24), (u_24, u_11.2.1, u_11.2.2, τ.2.2.2.1, τ.2.2.2.2)) := by
  simp only [fX7_restore, if_neg c_4, e_11, e_24]
theorem fX7_restore_p1 (τ : MWT) (c_4 : τ.2.2.2.2 = (0 : Int32)) : (fX7_restore τ) = ((-4 : Int32), τ) := by
  simp only [fX7_restore, if_pos c_4]
set_option maxHeartbeats 4000000 in
set_option maxRecDepth 100000 in
theorem kX7_restore (l : Launch) (D : va_G) (cI cS : ClassId) (h0 h1 h2 h3 : Nat) (w5 : Nat) (w6 : Nat) (w7 : Int32) (w8 : Int32) (w9 : Int32) (w10 : Int32) (w11 : Int32) (w12 : Int32) (τ : MWT) (hkp : Bd τ.2.2.1 5) : KI l yX7_restore wsX7_restore { frames := 2, cells := 0, slots := 0, locals := 45 } D (tysA cI cS) [.ref h0] [(h0, .inr (7, [.ref h1, .ref h2, .int τ.2.2.1, .ref h3, .int τ.2.2.2.2, .ref w5, .ref w6, .int w7, .int w8, .int w9, .int w10, .int w11, .int w12])), (h1, .inl (cI, 163, .inl τ.1)), (h2, .inl (cI, 815, .inl τ.2.1)), (h3, .inl (cI, 163, .inl τ.2.2.2.1))] (fX7_restore τ) (fun u => [(h0, .inr (7, [.ref h1, .ref h2, .int u.2.2.1, .ref h3, .int u.2.2.2.2, .ref w5, .ref w6, .int w7, .int w8, .int w9, .int w10, .int w11, .int w12])), (h1, .inl (cI, 163, .inl u.1)), (h2, .inl (cI, 815, .inl u.2.1)), (h3, .inl (cI, 163, .inl u.2.2.2.1))]) := by
  refine KI.of (cc := cX7_restore) (maxL := 1) (ty := .int) (by decide) rfl (Nat.le_of_ble_eq_true rfl) rfl (fun p e s m args below meth c ls Q A hx hb hml hown hts hE hP hD hS hl hend => ?_)
  have hown : s.vm.findClass RX7 = some m.cls := hown
  have hl : lv_has ls 1 [(0, .ref h0)] := hl
  refine lv_aload_n hx hb dX7_restore_0 rfl (lv_at hl 0 rfl) ?_
  refine va_get (D := D) (ci := 7) (v := .int τ.2.2.2.2) (C := RX7) (T := TX7) (N := 13) hx hb hts (fun _ h9 => List.mem_cons_of_mem _ (List.mem_append_right _ h9)) hown hE.1 hP 0 rfl rfl 4 (by decide) (hts (.fieldLink RX7 172 "ShadowTableModel" "isTaken" "Z") (List.mem_of_getElem? (i := 1) rfl)) (fun _ h9 => h9) rfl dX7_restore_1 ?_
  refine lv_if_ne (tgt := 10) hx hb dX7_restore_4 (by decide) (fun c_4 => ?_) (fun c_4 => ?_)
  · refine lv_aload_n hx hb dX7_restore_10 rfl (lv_at hl 0 rfl) ?_
    refine cVV ⟨hx, hb, hml, hown, hts⟩ (kX7_record l D cI cS h0 h1 h2 h3 τ.2.2.2.2 w5 w6 w7 w8 w9 w10 w11 w12 (τ.1, τ.2.1, τ.2.2.1) hkp) (cwV 0 hts gX7_restore_X7_record rfl rfl rfl (by decide +kernel) ⟨Nat.le_of_ble_eq_true rfl, Nat.le_of_ble_eq_true rfl⟩) hE hP hD hS 0 rfl rfl [0, 1, 2] rfl (by decide) (fun _ => rfl) rfl hl.1 rfl (Nat.le_of_ble_eq_true rfl) ⟨Nat.zero_le _, Nat.zero_le _⟩ dX7_restore_11 (fun u_11 H locs e_11 hP hD hS => ?_)
    have hP : va_P D vwCl [(h0, .inr (7, [.ref h1, .ref h2, .int u_11.2.2, .ref h3, .int τ.2.2.2.2, .ref w5, .ref w6, .int w7, .int w8, .int w9, .int w10, .int w11, .int w12])), (h1, .inl (cI, 163, .inl u_11.1)), (h2, .inl (cI, 815, .inl u_11.2.1)), (h3, .inl (cI, 163, .inl τ.2.2.2.1))] H := hP
    have hD : va_D A [(h0, .inr (7, [.ref h1, .ref h2, .int u_11.2.2, .ref h3, .int τ.2.2.2.2, .ref w5, .ref w6, .int w7, .int w8, .int w9, .int w10, .int w11, .int w12])), (h1, .inl (cI, 163, .inl u_11.1)), (h2, .inl (cI, 815, .inl u_11.2.1)), (h3, .inl (cI, 163, .inl τ.2.2.2.1))] := hD
    refine lv_aload_n hx hb dX7_restore_14 rfl (lv_at hl 0 rfl) ?_
    refine va_get (D := D) (ci := 7) (v := .ref h3) (C := RX7) (T := TX7) (N := 13) hx hb hts (fun _ h9 => List.mem_cons_of_mem _ (List.mem_append_right _ h9)) hown hE.1 hP 0 rfl rfl 3 (by decide) (hts (.fieldLink RX7 16 "ShadowTableModel" "snapshot" "[I") (List.mem_of_getElem? (i := 2) rfl)) (fun _ h9 => h9) rfl dX7_restore_15 ?_
    refine lv_iconst (v := (0 : Int32)) hx hb dX7_restore_18 (by decide +kernel) ?_
    refine lv_aload_n hx hb dX7_restore_19 rfl (lv_at hl 0 rfl) ?_
    refine va_get (D := D) (ci := 7) (v := .ref h1) (C := RX7) (T := TX7) (N := 13) hx hb hts (fun _ h9 => List.mem_cons_of_mem _ (List.mem_append_right _ h9)) hown hE.1 hP 0 rfl rfl 0 (by decide) (hts (.fieldLink RX7 7 "ShadowTableModel" "s" "[I") (List.mem_of_getElem? (i := 3) rfl)) (fun _ h9 => h9) rfl dX7_restore_20 ?_
    refine lv_iconst (v := (0 : Int32)) hx hb dX7_restore_23 (by decide +kernel) ?_
    refine cVS ⟨hx, hb, hml, hown, hts⟩ (kX7_copyAll l D cI cS h3 h1 (0 : Int32) (0 : Int32) τ.2.2.2.1 u_11.1 163 163 zz_c0a zz_c0b (by omega) zz_c0a zz_c0b (by omega)) (va_cwS 4 hts gX7_restore_X7_copyAll rfl rfl rfl (by decide +kernel) ⟨Nat.le_of_ble_eq_true rfl, Nat.le_of_ble_eq_true rfl⟩) hE hP hD hS [3, 1] rfl (by decide) (fun _ => rfl) rfl hl.1 rfl (Nat.le_of_ble_eq_true rfl) ⟨Nat.zero_le _, Nat.zero_le _⟩ dX7_restore_24 (fun u_24 H locs e_24 hP hD hS => ?_)
    have hP : va_P D vwCl [(h0, .inr (7, [.ref h1, .ref h2, .int u_11.2.2, .ref h3, .int τ.2.2.2.2, .ref w5, .ref w6, .int w7, .int w8, .int w9, .int w10, .int w11, .int w12])), (h1, .inl (cI, 163, .inl u_24)), (h2, .inl (cI, 815, .inl u_11.2.1)), (h3, .inl (cI, 163, .inl τ.2.2.2.1))] H := hP
    have hD : va_D A [(h0, .inr (7, [.ref h1, .ref h2, .int u_11.2.2, .ref h3, .int τ.2.2.2.2, .ref w5, .ref w6, .int w7, .int w8, .int w9, .int w10, .int w11, .int w12])), (h1, .inl (cI, 163, .inl u_24)), (h2, .inl (cI, 815, .inl u_11.2.1)), (h3, .inl (cI, 163, .inl τ.2.2.2.1))] := hD
    refine lv_aload_n hx hb dX7_restore_27 rfl (lv_at hl 0 rfl) ?_
    refine lv_iconst (v := (0 : Int32)) hx hb dX7_restore_28 (by decide +kernel) ?_
    refine cRV ⟨hx, hb, hml, hown, hts⟩ (kX7_rows l D cI cS h0 h1 h2 u_11.2.2 h3 τ.2.2.2.2 w5 w6 w7 w8 w9 w10 w11 w12 (0 : Int32) u_24 zz_T0) (cwV 1 hts gX7_restore_X7_rows rfl rfl rfl (by decide +kernel) ⟨Nat.le_of_ble_eq_true rfl, Nat.le_of_ble_eq_true rfl⟩) hE hP 0 rfl rfl [0, 1] rfl rfl hl.1 rfl (Nat.le_of_ble_eq_true rfl) ⟨Nat.zero_le _, Nat.zero_le _⟩ dX7_restore_29 ?_
    exact hend _ _ _ _ _ _ dX7_restore_32 rfl (fX7_restore_p0 τ c_4 u_11 e_11 u_24 e_24) hP hS
  · refine lv_bipush (v := (-4 : Int32)) hx hb dX7_restore_7 (by decide +kernel) ?_
    exact hend _ _ _ _ _ _ dX7_restore_9 rfl (fX7_restore_p1 τ c_4) hP hS

def fX7_undo (τ : MHT) : Int32 × MHT := (if τ.2.2 = (0 : Int32) then ((-5 : Int32), τ) else (let u_37 := (fX7_copyAll ((163 : Int32) * (τ.2.2 - (1 : Int32))) (0 : Int32) τ.2.1 τ.1); ((τ.2.2 - (1 : Int32)), (u_37, τ.2.1, (τ.2.2 - (1 : Int32))))))
theorem fX7_undo_p0 (τ : MHT) (c_4 : ¬ τ.2.2 = (0 : Int32)) (u_37 : FnI) (e_37 : (fX7_copyAll ((163 : Int32) * (τ.2.2 - (1 : Int32))) (0 : Int32) τ.2.1 τ.1) = u_37) : (fX7_undo τ) = ((τ.2.2 - (1 : Int32)), (u_37, τ.2.1, (τ.2.2 - (1 : Int32)))) := by
  simp only [fX7_undo, if_neg c_4, e_37]
theorem fX7_undo_p1 (τ : MHT) (c_4 : τ.2.2 = (0 : Int32)) : (fX7_undo τ) = ((-5 : Int32), τ) := by
  simp only [fX7_undo, if_pos c_4]
set_option maxHeartbeats 4000000 in
set_option maxRecDepth 100000 in
theorem kX7_undo (l : Launch) (D : va_G) (cI cS : ClassId) (h0 h1 h2 : Nat) (w3 : Nat) (w4 : Int32) (w5 : Nat) (w6 : Nat) (w7 : Int32) (w8 : Int32) (w9 : Int32) (w10 : Int32) (w11 : Int32) (w12 : Int32) (τ : MHT) (hkp : Bd τ.2.2 5) : KI l yX7_undo wsX7_undo { frames := 1, cells := 0, slots := 0, locals := 24 } D (tysA cI cS) [.ref h0] [(h0, .inr (7, [.ref h1, .ref h2, .int τ.2.2, .ref w3, .int w4, .ref w5, .ref w6, .int w7, .int w8, .int w9, .int w10, .int w11, .int w12])), (h1, .inl (cI, 163, .inl τ.1)), (h2, .inl (cI, 815, .inl τ.2.1))] (fX7_undo τ) (fun u => [(h0, .inr (7, [.ref h1, .ref h2, .int u.2.2, .ref w3, .int w4, .ref w5, .ref w6, .int w7, .int w8, .int w9, .int w10, .int w11, .int w12])), (h1, .inl (cI, 163, .inl u.1)), (h2, .inl (cI, 815, .inl u.2.1))]) := by
  refine KI.of (cc := cX7_undo) (maxL := 1) (ty := .int) (by decide) rfl (Nat.le_of_ble_eq_true rfl) rfl (fun p e s m args below meth c ls Q A hx hb hml hown hts hE hP hD hS hl hend => ?_)
  have hown : s.vm.findClass RX7 = some m.cls := hown
  have hl : lv_has ls 1 [(0, .ref h0)] := hl
  refine lv_aload_n hx hb dX7_undo_0 rfl (lv_at hl 0 rfl) ?_
  refine va_get (D := D) (ci := 7) (v := .int τ.2.2) (C := RX7) (T := TX7) (N := 13) hx hb hts (fun _ h9 => List.mem_cons_of_mem _ (List.mem_append_right _ h9)) hown hE.1 hP 0 rfl rfl 2 (by decide) (hts (.fieldLink RX7 37 "ShadowTableModel" "kept" "I") (List.mem_of_getElem? (i := 1) rfl)) (fun _ h9 => h9) rfl dX7_undo_1 ?_
  refine lv_if_ne (tgt := 10) hx hb dX7_undo_4 (by decide) (fun c_4 => ?_) (fun c_4 => ?_)
  · refine lv_aload_n hx hb dX7_undo_10 rfl (lv_at hl 0 rfl) ?_
    refine lv_dup hx hb dX7_undo_11 rfl ?_
    refine va_get (D := D) (ci := 7) (v := .int τ.2.2) (C := RX7) (T := TX7) (N := 13) hx hb hts (fun _ h9 => List.mem_cons_of_mem _ (List.mem_append_right _ h9)) hown hE.1 hP 0 rfl rfl 2 (by decide) (hts (.fieldLink RX7 37 "ShadowTableModel" "kept" "I") (List.mem_of_getElem? (i := 1) rfl)) (fun _ h9 => h9) rfl dX7_undo_12 ?_
    refine lv_iconst (v := (1 : Int32)) hx hb dX7_undo_15 (by decide +kernel) ?_
    refine lv_isub hx hb dX7_undo_16 ?_
    refine xpf (ty := .int) (v := .int (τ.2.2 - (1 : Int32))) (C := RX7) (T := TX7) (N := 13) hx hb hts (fun _ h9 => List.mem_cons_of_mem _ (List.mem_append_right _ h9)) tyX7 tyX7_ok nmX7 hown hE hP hD hS 0 rfl rfl 2 (by decide) (hts (.fieldLink RX7 37 "ShadowTableModel" "kept" "I") (List.mem_of_getElem? (i := 1) rfl)) rfl rfl (by decide +kernel) rfl rfl (Nat.le_of_ble_eq_true rfl) [(h0, .inr (7, [.ref h1, .ref h2, .int (τ.2.2 - (1 : Int32)), .ref w3, .int w4, .ref w5, .ref w6, .int w7, .int w8, .int w9, .int w10, .int w11, .int w12])), (h1, .inl (cI, 163, .inl τ.1)), (h2, .inl (cI, 815, .inl τ.2.1))] rfl dX7_undo_17 (fun H locs hP hD hS => ?_)
    refine lv_aload_n hx hb dX7_undo_20 rfl (lv_at hl 0 rfl) ?_
    refine va_get (D := D) (ci := 7) (v := .ref h2) (C := RX7) (T := TX7) (N := 13) hx hb hts (fun _ h9 => List.mem_cons_of_mem _ (List.mem_append_right _ h9)) hown hE.1 hP 0 rfl rfl 1 (by decide) (hts (.fieldLink RX7 13 "ShadowTableModel" "history" "[I") (List.mem_of_getElem? (i := 2) rfl)) (fun _ h9 => h9) rfl dX7_undo_21 ?_
    refine lv_sipush (v := (163 : Int32)) hx hb dX7_undo_24 (by decide +kernel) ?_
    refine lv_aload_n hx hb dX7_undo_27 rfl (lv_at hl 0 rfl) ?_
    refine va_get (D := D) (ci := 7) (v := .int (τ.2.2 - (1 : Int32))) (C := RX7) (T := TX7) (N := 13) hx hb hts (fun _ h9 => List.mem_cons_of_mem _ (List.mem_append_right _ h9)) hown hE.1 hP 0 rfl rfl 2 (by decide) (hts (.fieldLink RX7 37 "ShadowTableModel" "kept" "I") (List.mem_of_getElem? (i := 1) rfl)) (fun _ h9 => h9) rfl dX7_undo_28 ?_
    refine lv_imul hx hb dX7_undo_31 ?_
    refine lv_aload_n hx hb dX7_undo_32 rfl (lv_at hl 0 rfl) ?_
    refine va_get (D := D) (ci := 7) (v := .ref h1) (C := RX7) (T := TX7) (N := 13) hx hb hts (fun _ h9 => List.mem_cons_of_mem _ (List.mem_append_right _ h9)) hown hE.1 hP 0 rfl rfl 0 (by decide) (hts (.fieldLink RX7 7 "ShadowTableModel" "s" "[I") (List.mem_of_getElem? (i := 3) rfl)) (fun _ h9 => h9) rfl dX7_undo_33 ?_
    refine lv_iconst (v := (0 : Int32)) hx hb dX7_undo_36 (by decide +kernel) ?_
    refine cVS ⟨hx, hb, hml, hown, hts⟩ (kX7_copyAll l D cI cS h2 h1 ((163 : Int32) * (τ.2.2 - (1 : Int32))) (0 : Int32) τ.2.1 τ.1 815 163 (zz_kU hkp c_4).1 (zz_kU hkp c_4).2 (by omega) zz_c0a zz_c0b (by omega)) (va_cwS 4 hts gX7_undo_X7_copyAll rfl rfl rfl (by decide +kernel) ⟨Nat.le_of_ble_eq_true rfl, Nat.le_of_ble_eq_true rfl⟩) hE hP hD hS [2, 1] rfl (by decide) (fun _ => rfl) rfl hl.1 rfl (Nat.le_of_ble_eq_true rfl) ⟨Nat.zero_le _, Nat.zero_le _⟩ dX7_undo_37 (fun u_37 H locs e_37 hP hD hS => ?_)
    have hP : va_P D vwCl [(h0, .inr (7, [.ref h1, .ref h2, .int (τ.2.2 - (1 : Int32)), .ref w3, .int w4, .ref w5, .ref w6, .int w7, .int w8, .int w9, .int w10, .int w11, .int w12])), (h1, .inl (cI, 163, .inl u_37)), (h2, .inl (cI, 815, .inl τ.2.1))] H := hP
    have hD : va_D A [(h0, .inr (7, [.ref h1, .ref h2, .int (τ.2.2 - (1 : Int32)), .ref w3, .int w4, .ref w5, .ref w6, .int w7, .int w8, .int w9, .int w10, .int w11, .int w12])), (h1, .inl (cI, 163, .inl u_37)), (h2, .inl (cI, 815, .inl τ.2.1))] := hD
    refine lv_aload_n hx hb dX7_undo_40 rfl (lv_at hl 0 rfl) ?_
    refine va_get (D := D) (ci := 7) (v := .int (τ.2.2 - (1 : Int32))) (C := RX7) (T := TX7) (N := 13) hx hb hts (fun _ h9 => List.mem_cons_of_mem _ (List.mem_append_right _ h9)) hown hE.1 hP 0 rfl rfl 2 (by decide) (hts (.fieldLink RX7 37 "ShadowTableModel" "kept" "I") (List.mem_of_getElem? (i := 1) rfl)) (fun _ h9 => h9) rfl dX7_undo_41 ?_
    exact hend _ _ _ _ _ _ dX7_undo_44 rfl (fX7_undo_p0 τ c_4 u_37 e_37) hP hS
  · refine lv_bipush (v := (-5 : Int32)) hx hb dX7_undo_7 (by decide +kernel) ?_
    exact hend _ _ _ _ _ _ dX7_undo_9 rfl (fX7_undo_p1 τ c_4) hP hS

def fX7_errorOfOrder (τ : MOT) : Int32 := (if τ.2.1 = (98 : Int32) then (fX7_beginError τ.2.2.1 τ.2.2.2 τ.1) else (if τ.2.1 = (101 : Int32) then (fX7_eraseError τ.2.2.1 τ.1) else (if τ.2.1 = (103 : Int32) then (if (fX7_isCopy τ.1) = (0 : Int32) then (-4 : Int32) else (0 : Int32)) else (if τ.2.1 = (108 : Int32) then (fX7_phaseError (2 : Int32) τ.1) else (if τ.2.1 = (112 : Int32) then (fX7_putError τ.2.2.1 τ.2.2.2 τ.1) else (if τ.2.1 = (115 : Int32) then (fX7_swapError τ.1) else (if τ.2.1 = (117 : Int32) then (fX7_phaseError (3 : Int32) τ.1) else (0 : Int32))))))))
theorem fX7_errorOfOrder_p0 (τ : MOT) (c_4_0 : τ.2.1 = (98 : Int32)) : (fX7_errorOfOrder τ) = (fX7_beginError τ.2.2.1 τ.2.2.2 τ.1) := by
  simp only [fX7_errorOfOrder, if_pos c_4_0]
theorem fX7_errorOfOrder_p1 (τ : MOT) (c_4_0 : ¬ τ.2.1 = (98 : Int32)) (c_4_1 : τ.2.1 = (101 : Int32)) : (fX7_errorOfOrder τ) = (fX7_eraseError τ.2.2.1 τ.1) := by
  simp only [fX7_errorOfOrder, if_neg c_4_0, if_pos c_4_1]
theorem fX7_errorOfOrder_p2 (τ : MOT) (c_4_0 : ¬ τ.2.1 = (98 : Int32)) (c_4_1 : ¬ τ.2.1 = (101 : Int32)) (c_4_2 : τ.2.1 = (103 : Int32)) (c_156 : (fX7_isCopy τ.1) = (0 : Int32)) : (fX7_errorOfOrder τ) = (-4 : Int32) := by
  simp only [fX7_errorOfOrder, if_neg c_4_0, if_neg c_4_1, if_pos c_4_2, if_pos c_156]
theorem fX7_errorOfOrder_p3 (τ : MOT) (c_4_0 : ¬ τ.2.1 = (98 : Int32)) (c_4_1 : ¬ τ.2.1 = (101 : Int32)) (c_4_2 : τ.2.1 = (103 : Int32)) (c_156 : ¬ (fX7_isCopy τ.1) = (0 : Int32)) : (fX7_errorOfOrder τ) = (0 : Int32) := by
  simp only [fX7_errorOfOrder, if_neg c_4_0, if_neg c_4_1, if_pos c_4_2, if_neg c_156]
theorem fX7_errorOfOrder_p4 (τ : MOT) (c_4_0 : ¬ τ.2.1 = (98 : Int32)) (c_4_1 : ¬ τ.2.1 = (101 : Int32)) (c_4_2 : ¬ τ.2.1 = (103 : Int32)) (c_4_3 : τ.2.1 = (108 : Int32)) : (fX7_errorOfOrder τ) = (fX7_phaseError (2 : Int32) τ.1) := by
  simp only [fX7_errorOfOrder, if_neg c_4_0, if_neg c_4_1, if_neg c_4_2, if_pos c_4_3]
theorem fX7_errorOfOrder_p5 (τ : MOT) (c_4_0 : ¬ τ.2.1 = (98 : Int32)) (c_4_1 : ¬ τ.2.1 = (101 : Int32)) (c_4_2 : ¬ τ.2.1 = (103 : Int32)) (c_4_3 : ¬ τ.2.1 = (108 : Int32)) (c_4_4 : τ.2.1 = (112 : Int32)) : (fX7_errorOfOrder τ) = (fX7_putError τ.2.2.1 τ.2.2.2 τ.1) := by
  simp only [fX7_errorOfOrder, if_neg c_4_0, if_neg c_4_1, if_neg c_4_2, if_neg c_4_3, if_pos c_4_4]
theorem fX7_errorOfOrder_p6 (τ : MOT) (c_4_0 : ¬ τ.2.1 = (98 : Int32)) (c_4_1 : ¬ τ.2.1 = (101 : Int32)) (c_4_2 : ¬ τ.2.1 = (103 : Int32)) (c_4_3 : ¬ τ.2.1 = (108 : Int32)) (c_4_4 : ¬ τ.2.1 = (112 : Int32)) (c_4_5 : τ.2.1 = (115 : Int32)) : (fX7_errorOfOrder τ) = (fX7_swapError τ.1) := by
  simp only [fX7_errorOfOrder, if_neg c_4_0, if_neg c_4_1, if_neg c_4_2, if_neg c_4_3, if_neg c_4_4, if_pos c_4_5]
theorem fX7_errorOfOrder_p7 (τ : MOT) (c_4_0 : ¬ τ.2.1 = (98 : Int32)) (c_4_1 : ¬ τ.2.1 = (101 : Int32)) (c_4_2 : ¬ τ.2.1 = (103 : Int32)) (c_4_3 : ¬ τ.2.1 = (108 : Int32)) (c_4_4 : ¬ τ.2.1 = (112 : Int32)) (c_4_5 : ¬ τ.2.1 = (115 : Int32)) (c_4_6 : τ.2.1 = (117 : Int32)) : (fX7_errorOfOrder τ) = (fX7_phaseError (3 : Int32) τ.1) := by
  simp only [fX7_errorOfOrder, if_neg c_4_0, if_neg c_4_1, if_neg c_4_2, if_neg c_4_3, if_neg c_4_4, if_neg c_4_5, if_pos c_4_6]
theorem fX7_errorOfOrder_p8 (τ : MOT) (c_4_0 : ¬ τ.2.1 = (98 : Int32)) (c_4_1 : ¬ τ.2.1 = (101 : Int32)) (c_4_2 : ¬ τ.2.1 = (103 : Int32)) (c_4_3 : ¬ τ.2.1 = (108 : Int32)) (c_4_4 : ¬ τ.2.1 = (112 : Int32)) (c_4_5 : ¬ τ.2.1 = (115 : Int32)) (c_4_6 : ¬ τ.2.1 = (117 : Int32)) : (fX7_errorOfOrder τ) = (0 : Int32) := by
  simp only [fX7_errorOfOrder, if_neg c_4_0, if_neg c_4_1, if_neg c_4_2, if_neg c_4_3, if_neg c_4_4, if_neg c_4_5, if_neg c_4_6]
set_option maxHeartbeats 4000000 in
set_option maxRecDepth 100000 in
theorem kX7_errorOfOrder (l : Launch) (D : va_G) (cI cS : ClassId) (h0 h1 : Nat) (w1 : Nat) (w2 : Int32) (w3 : Nat) (w4 : Int32) (w5 : Nat) (w6 : Nat) (w7 : Int32) (w8 : Int32) (w12 : Int32) (τ : MOT) : KR l yX7_errorOfOrder wsX7_errorOfOrder { frames := 4, cells := 0, slots := 0, locals := 82 } D (tysA cI cS) [.ref h0] [(h0, .inr (7, [.ref h1, .ref w1, .int w2, .ref w3, .int w4, .ref w5, .ref w6, .int w7, .int w8, .int τ.2.1, .int τ.2.2.1, .int τ.2.2.2, .int w12])), (h1, .inl (cI, 163, .inl τ.1))] (fX7_errorOfOrder τ) := by
  refine KR.of (cc := cX7_errorOfOrder) (maxL := 1) (ty := .int) (by decide) rfl (Nat.le_of_ble_eq_true rfl) rfl (fun p e s m args below meth c ls Q hx hb hml hown hts hE hP hl hend => ?_)
  have hown : s.vm.findClass RX7 = some m.cls := hown
  have hl : lv_has ls 1 [(0, .ref h0)] := hl
  refine lv_aload_n hx hb dX7_errorOfOrder_0 rfl (lv_at hl 0 rfl) ?_
  refine va_get (D := D) (ci := 7) (v := .int τ.2.1) (C := RX7) (T := TX7) (N := 13) hx hb hts (fun _ h9 => List.mem_cons_of_mem _ (List.mem_append_right _ h9)) hown hE.1 hP 0 rfl rfl 9 (by decide) (hts (.fieldLink RX7 141 "ShadowTableModel" "letter" "I") (List.mem_of_getElem? (i := 1) rfl)) (fun _ h9 => h9) rfl dX7_errorOfOrder_1 ?_
  refine (Decidable.em (τ.2.1 = (98 : Int32))).elim (fun c_4_0 => ?_) (fun c_4_0 => ?_)
  · refine lv_tableIn (off := 118) (tgt := 122) hx hb dX7_errorOfOrder_4 (by rw [c_4_0]; decide +kernel) (by rw [c_4_0]; decide +kernel) (by rw [c_4_0]; decide +kernel) (by decide) ?_
    refine lv_aload_n hx hb dX7_errorOfOrder_122 rfl (lv_at hl 0 rfl) ?_
    refine lv_aload_n hx hb dX7_errorOfOrder_123 rfl (lv_at hl 0 rfl) ?_
    refine va_get (D := D) (ci := 7) (v := .int τ.2.2.1) (C := RX7) (T := TX7) (N := 13) hx hb hts (fun _ h9 => List.mem_cons_of_mem _ (List.mem_append_right _ h9)) hown hE.1 hP 0 rfl rfl 10 (by decide) (hts (.fieldLink RX7 147 "ShadowTableModel" "one" "I") (List.mem_of_getElem? (i := 2) rfl)) (fun _ h9 => h9) rfl dX7_errorOfOrder_124 ?_
    refine lv_aload_n hx hb dX7_errorOfOrder_127 rfl (lv_at hl 0 rfl) ?_
    refine va_get (D := D) (ci := 7) (v := .int τ.2.2.2) (C := RX7) (T := TX7) (N := 13) hx hb hts (fun _ h9 => List.mem_cons_of_mem _ (List.mem_append_right _ h9)) hown hE.1 hP 0 rfl rfl 11 (by decide) (hts (.fieldLink RX7 153 "ShadowTableModel" "other" "I") (List.mem_of_getElem? (i := 3) rfl)) (fun _ h9 => h9) rfl dX7_errorOfOrder_128 ?_
    refine cRV ⟨hx, hb, hml, hown, hts⟩ (kX7_beginError l D cI cS h0 h1 w1 w2 w3 w4 w5 w6 w7 w8 τ.2.1 τ.2.2.1 τ.2.2.2 w12 τ.2.2.1 τ.2.2.2 τ.1) (cwV 2 hts gX7_errorOfOrder_X7_beginError rfl rfl rfl (by decide +kernel) ⟨Nat.le_of_ble_eq_true rfl, Nat.le_of_ble_eq_true rfl⟩) hE hP 0 rfl rfl [0, 1] rfl rfl hl.1 rfl (Nat.le_of_ble_eq_true rfl) ⟨Nat.zero_le _, Nat.zero_le _⟩ dX7_errorOfOrder_131 ?_
    exact hend _ _ _ dX7_errorOfOrder_134 rfl (fX7_errorOfOrder_p0 τ c_4_0)
  · refine (Decidable.em (τ.2.1 = (101 : Int32))).elim (fun c_4_1 => ?_) (fun c_4_1 => ?_)
    · refine lv_tableIn (off := 109) (tgt := 113) hx hb dX7_errorOfOrder_4 (by rw [c_4_1]; decide +kernel) (by rw [c_4_1]; decide +kernel) (by rw [c_4_1]; decide +kernel) (by decide) ?_
      refine lv_aload_n hx hb dX7_errorOfOrder_113 rfl (lv_at hl 0 rfl) ?_
      refine lv_aload_n hx hb dX7_errorOfOrder_114 rfl (lv_at hl 0 rfl) ?_
      refine va_get (D := D) (ci := 7) (v := .int τ.2.2.1) (C := RX7) (T := TX7) (N := 13) hx hb hts (fun _ h9 => List.mem_cons_of_mem _ (List.mem_append_right _ h9)) hown hE.1 hP 0 rfl rfl 10 (by decide) (hts (.fieldLink RX7 147 "ShadowTableModel" "one" "I") (List.mem_of_getElem? (i := 2) rfl)) (fun _ h9 => h9) rfl dX7_errorOfOrder_115 ?_
      refine cRV ⟨hx, hb, hml, hown, hts⟩ (kX7_eraseError l D cI cS h0 h1 w1 w2 w3 w4 w5 w6 w7 w8 τ.2.1 τ.2.2.1 τ.2.2.2 w12 τ.2.2.1 τ.1) (cwV 1 hts gX7_errorOfOrder_X7_eraseError rfl rfl rfl (by decide +kernel) ⟨Nat.le_of_ble_eq_true rfl, Nat.le_of_ble_eq_true rfl⟩) hE hP 0 rfl rfl [0, 1] rfl rfl hl.1 rfl (Nat.le_of_ble_eq_true rfl) ⟨Nat.zero_le _, Nat.zero_le _⟩ dX7_errorOfOrder_118 ?_
      exact hend _ _ _ dX7_errorOfOrder_121 rfl (fX7_errorOfOrder_p1 τ c_4_0 c_4_1)
    · refine (Decidable.em (τ.2.1 = (103 : Int32))).elim (fun c_4_2 => ?_) (fun c_4_2 => ?_)
      · refine lv_tableIn (off := 148) (tgt := 152) hx hb dX7_errorOfOrder_4 (by rw [c_4_2]; decide +kernel) (by rw [c_4_2]; decide +kernel) (by rw [c_4_2]; decide +kernel) (by decide) ?_
        refine lv_aload_n hx hb dX7_errorOfOrder_152 rfl (lv_at hl 0 rfl) ?_
        refine cRV ⟨hx, hb, hml, hown, hts⟩ (kX7_isCopy l D cI cS h0 h1 w1 w2 w3 w4 w5 w6 w7 w8 τ.2.1 τ.2.2.1 τ.2.2.2 w12 τ.1) (cwV 0 hts gX7_errorOfOrder_X7_isCopy rfl rfl rfl (by decide +kernel) ⟨Nat.le_of_ble_eq_true rfl, Nat.le_of_ble_eq_true rfl⟩) hE hP 0 rfl rfl [0, 1] rfl rfl hl.1 rfl (Nat.le_of_ble_eq_true rfl) ⟨Nat.zero_le _, Nat.zero_le _⟩ dX7_errorOfOrder_153 ?_
        refine lv_if_eq (tgt := 163) hx hb dX7_errorOfOrder_156 (by decide) (fun c_156 => ?_) (fun c_156 => ?_)
        · refine lv_bipush (v := (-4 : Int32)) hx hb dX7_errorOfOrder_163 (by decide +kernel) ?_
          exact hend _ _ _ dX7_errorOfOrder_165 rfl (fX7_errorOfOrder_p2 τ c_4_0 c_4_1 c_4_2 c_156)
        · refine lv_iconst (v := (0 : Int32)) hx hb dX7_errorOfOrder_159 (by decide +kernel) ?_
          refine lv_goto (tgt := 165) hx hb dX7_errorOfOrder_160 (by decide) ?_
          exact hend _ _ _ dX7_errorOfOrder_165 rfl (fX7_errorOfOrder_p3 τ c_4_0 c_4_1 c_4_2 c_156)
      · refine (Decidable.em (τ.2.1 = (108 : Int32))).elim (fun c_4_3 => ?_) (fun c_4_3 => ?_)
        · refine lv_tableIn (off := 131) (tgt := 135) hx hb dX7_errorOfOrder_4 (by rw [c_4_3]; decide +kernel) (by rw [c_4_3]; decide +kernel) (by rw [c_4_3]; decide +kernel) (by decide) ?_
          refine lv_aload_n hx hb dX7_errorOfOrder_135 rfl (lv_at hl 0 rfl) ?_
          refine lv_iconst (v := (2 : Int32)) hx hb dX7_errorOfOrder_136 (by decide +kernel) ?_
          refine cRV ⟨hx, hb, hml, hown, hts⟩ (kX7_phaseError l D cI cS h0 h1 w1 w2 w3 w4 w5 w6 w7 w8 τ.2.1 τ.2.2.1 τ.2.2.2 w12 (2 : Int32) τ.1) (cwV 1 hts gX7_errorOfOrder_X7_phaseError rfl rfl rfl (by decide +kernel) ⟨Nat.le_of_ble_eq_true rfl, Nat.le_of_ble_eq_true rfl⟩) hE hP 0 rfl rfl [0, 1] rfl rfl hl.1 rfl (Nat.le_of_ble_eq_true rfl) ⟨Nat.zero_le _, Nat.zero_le _⟩ dX7_errorOfOrder_137 ?_
          exact hend _ _ _ dX7_errorOfOrder_140 rfl (fX7_errorOfOrder_p4 τ c_4_0 c_4_1 c_4_2 c_4_3)
        · refine (Decidable.em (τ.2.1 = (112 : Int32))).elim (fun c_4_4 => ?_) (fun c_4_4 => ?_)
          · refine lv_tableIn (off := 96) (tgt := 100) hx hb dX7_errorOfOrder_4 (by rw [c_4_4]; decide +kernel) (by rw [c_4_4]; decide +kernel) (by rw [c_4_4]; decide +kernel) (by decide) ?_
            refine lv_aload_n hx hb dX7_errorOfOrder_100 rfl (lv_at hl 0 rfl) ?_
            refine lv_aload_n hx hb dX7_errorOfOrder_101 rfl (lv_at hl 0 rfl) ?_
            refine va_get (D := D) (ci := 7) (v := .int τ.2.2.1) (C := RX7) (T := TX7) (N := 13) hx hb hts (fun _ h9 => List.mem_cons_of_mem _ (List.mem_append_right _ h9)) hown hE.1 hP 0 rfl rfl 10 (by decide) (hts (.fieldLink RX7 147 "ShadowTableModel" "one" "I") (List.mem_of_getElem? (i := 2) rfl)) (fun _ h9 => h9) rfl dX7_errorOfOrder_102 ?_
            refine lv_aload_n hx hb dX7_errorOfOrder_105 rfl (lv_at hl 0 rfl) ?_
            refine va_get (D := D) (ci := 7) (v := .int τ.2.2.2) (C := RX7) (T := TX7) (N := 13) hx hb hts (fun _ h9 => List.mem_cons_of_mem _ (List.mem_append_right _ h9)) hown hE.1 hP 0 rfl rfl 11 (by decide) (hts (.fieldLink RX7 153 "ShadowTableModel" "other" "I") (List.mem_of_getElem? (i := 3) rfl)) (fun _ h9 => h9) rfl dX7_errorOfOrder_106 ?_
            refine cRV ⟨hx, hb, hml, hown, hts⟩ (kX7_putError l D cI cS h0 h1 w1 w2 w3 w4 w5 w6 w7 w8 τ.2.1 τ.2.2.1 τ.2.2.2 w12 τ.2.2.1 τ.2.2.2 τ.1) (cwV 2 hts gX7_errorOfOrder_X7_putError rfl rfl rfl (by decide +kernel) ⟨Nat.le_of_ble_eq_true rfl, Nat.le_of_ble_eq_true rfl⟩) hE hP 0 rfl rfl [0, 1] rfl rfl hl.1 rfl (Nat.le_of_ble_eq_true rfl) ⟨Nat.zero_le _, Nat.zero_le _⟩ dX7_errorOfOrder_109 ?_
            exact hend _ _ _ dX7_errorOfOrder_112 rfl (fX7_errorOfOrder_p5 τ c_4_0 c_4_1 c_4_2 c_4_3 c_4_4)
          · refine (Decidable.em (τ.2.1 = (115 : Int32))).elim (fun c_4_5 => ?_) (fun c_4_5 => ?_)
            · refine lv_tableIn (off := 143) (tgt := 147) hx hb dX7_errorOfOrder_4 (by rw [c_4_5]; decide +kernel) (by rw [c_4_5]; decide +kernel) (by rw [c_4_5]; decide +kernel) (by decide) ?_
              refine lv_aload_n hx hb dX7_errorOfOrder_147 rfl (lv_at hl 0 rfl) ?_
              refine cRV ⟨hx, hb, hml, hown, hts⟩ (kX7_swapError l D cI cS h0 h1 w1 w2 w3 w4 w5 w6 w7 w8 τ.2.1 τ.2.2.1 τ.2.2.2 w12 τ.1) (cwV 0 hts gX7_errorOfOrder_X7_swapError rfl rfl rfl (by decide +kernel) ⟨Nat.le_of_ble_eq_true rfl, Nat.le_of_ble_eq_true rfl⟩) hE hP 0 rfl rfl [0, 1] rfl rfl hl.1 rfl (Nat.le_of_ble_eq_true rfl) ⟨Nat.zero_le _, Nat.zero_le _⟩ dX7_errorOfOrder_148 ?_
              exact hend _ _ _ dX7_errorOfOrder_151 rfl (fX7_errorOfOrder_p6 τ c_4_0 c_4_1 c_4_2 c_4_3 c_4_4 c_4_5)
            · refine (Decidable.em (τ.2.1 = (117 : Int32))).elim (fun c_4_6 => ?_) (fun c_4_6 => ?_)
              · refine lv_tableIn (off := 137) (tgt := 141) hx hb dX7_errorOfOrder_4 (by rw [c_4_6]; decide +kernel) (by rw [c_4_6]; decide +kernel) (by rw [c_4_6]; decide +kernel) (by decide) ?_
                refine lv_aload_n hx hb dX7_errorOfOrder_141 rfl (lv_at hl 0 rfl) ?_
                refine lv_iconst (v := (3 : Int32)) hx hb dX7_errorOfOrder_142 (by decide +kernel) ?_
                refine cRV ⟨hx, hb, hml, hown, hts⟩ (kX7_phaseError l D cI cS h0 h1 w1 w2 w3 w4 w5 w6 w7 w8 τ.2.1 τ.2.2.1 τ.2.2.2 w12 (3 : Int32) τ.1) (cwV 1 hts gX7_errorOfOrder_X7_phaseError rfl rfl rfl (by decide +kernel) ⟨Nat.le_of_ble_eq_true rfl, Nat.le_of_ble_eq_true rfl⟩) hE hP 0 rfl rfl [0, 1] rfl rfl hl.1 rfl (Nat.le_of_ble_eq_true rfl) ⟨Nat.zero_le _, Nat.zero_le _⟩ dX7_errorOfOrder_143 ?_
                exact hend _ _ _ dX7_errorOfOrder_146 rfl (fX7_errorOfOrder_p7 τ c_4_0 c_4_1 c_4_2 c_4_3 c_4_4 c_4_5 c_4_6)
              · refine xtabD (tgt := 166) hx hb dX7_errorOfOrder_4 (xno_cons (a := 98) c_4_0 (by decide) (xno_cons (a := 101) c_4_1 (by decide) (xno_cons (a := 103) c_4_2 (by decide) (xno_cons (a := 108) c_4_3 (by decide) (xno_cons (a := 112) c_4_4 (by decide) (xno_cons (a := 115) c_4_5 (by decide) (xno_cons (a := 117) c_4_6 (by decide) xno_nil))))))) (by decide +kernel) (by decide) ?_
                refine lv_iconst (v := (0 : Int32)) hx hb dX7_errorOfOrder_166 (by decide +kernel) ?_
                exact hend _ _ _ dX7_errorOfOrder_167 rfl (fX7_errorOfOrder_p8 τ c_4_0 c_4_1 c_4_2 c_4_3 c_4_4 c_4_5 c_4_6)

theorem WM_end {τ : FnI} (hm : WM τ) : WM (fX7_endCopy τ) := by
  refine ⟨Bd.of (j := 0) (by omega) (by omega), hm.2.1, fun i hi => ?_⟩
  exact absurd hi (by rw [show (fX7_endCopy τ 4) = (0 : Int32) from rfl, show (0 : Int32).toNatClampNeg = 0 from by decide]; omega)
theorem WM_u {s : FnI} {j : Nat} {x : Int32} (hm : WM s) (h3 : j ≠ 3) (h4 : j ≠ 4) (hj : j < 115) : WM (upd s j x) := zz_WMu h3 h4 hj hm
theorem WM_app {τ : FnI} {a v : Int32} (hm : WM τ) (ha : Bd a 31) (h : Bd (τ 4) 23) : WM (upd (upd (upd τ (115 + 2 * (τ 4).toNatClampNeg) a) (115 + 2 * (τ 4).toNatClampNeg + 1) v) 4 ((τ 4) + (1 : Int32))) := by
  have h2 := h.2
  have hi := bd_inc (M := 24) h (by omega) (by omega) (by omega)
  refine ⟨by rw [pk_us]; exact hi.1, by rw [pk_un (by omega), pk_un (by omega), pk_un (by omega)]; exact hm.2.1, fun i hi2 => ?_⟩
  rw [pk_us, hi.2] at hi2
  rw [pk_un (by omega), pk_un (by omega)]
  by_cases q : i = (τ 4).toNatClampNeg
  · rw [q, pk_us]; exact ha
  · rw [pk_un (by omega)]; exact hm.2.2 i (by omega)
theorem WM_change {τ : FnI} {a v : Int32} (hm : WM τ) (ha : Bd a 31) : WM (fX7_doChange a v τ).2 := by
  have h13 : WM (upd (fX7_endCopy τ) 13 ((fX7_endCopy τ 13) + (1 : Int32))) := WM_u (WM_end hm) (by decide) (by decide) (by decide)
  unfold fX7_doChange
  by_cases c1 : fX7_isLogFull τ = (0 : Int32)
  · rw [if_pos c1]
    by_cases c2 : fX7_isCopy τ = (0 : Int32)
    · rw [if_pos c2]; exact WM_lay hm zz_T0 ha
    · rw [if_neg c2]; exact WM_lay (WM_app hm ha (zz_nf hm c1 c2)) zz_T0 ha
  · rw [if_neg c1]
    dsimp only
    have hz : fX7_isCopy (upd (fX7_endCopy τ) 13 ((fX7_endCopy τ 13) + (1 : Int32))) = (0 : Int32) := rfl
    rw [if_pos hz]
    exact WM_lay h13 zz_T0 ha
theorem WM_erase {τ : FnI} {a : Int32} (hm : WM τ) (ha : Bd a 31) : WM (fX7_doErase a τ).2 := by
  unfold fX7_doErase
  split
  · exact hm
  · exact WM_change hm ha
theorem WM_begin37 (a b : Int32) : ∀ (n k : Nat) (σ : FnI), k ≤ 32 → WM σ → WM (fX7_doBegin_37 a b n k σ).2
  | 0, _, _, _, h => h
  | n + 1, k, σ, hk, hm => by
    unfold fX7_doBegin_37
    by_cases c : (32 : Int32) ≤ nI k
    · rw [if_pos c]; exact WM_u hm (by decide) (by decide) (by decide)
    · have h : k < 32 := Nat.lt_of_not_le (fun q => c (nI_le (a := 32) q (by omega)))
      rw [if_neg c]
      exact WM_begin37 a b n (k + 1) _ (by omega) (WM_lay hm zz_T1 (Bd.of (by omega) (by omega)))
theorem WM_begin (a b : Int32) (τ : FnI) : WM (fX7_doBegin a b τ).2 := by
  refine WM_begin37 a b 33 0 _ (by omega) ?_
  refine ⟨Bd.of (j := 0) (by omega) (by omega), Bd.of (j := 0) (by omega) (by omega), fun i hi => ?_⟩
  exact absurd hi (by rw [pk_us, show (0 : Int32).toNatClampNeg = 0 from by decide]; omega)
theorem WM_doTick2 (a : Int32) : ∀ (n k : Nat) (σ : FnI), WM σ → WM (fX7_doTick_2 a n k σ).2
  | 0, _, _, h => h
  | n + 1, k, σ, hm => by
    unfold fX7_doTick_2
    split
    · exact hm
    · exact WM_doTick2 a n (k + 1) _ (zz_WM_tick rfl hm)
theorem WM_swap2 : ∀ (n k : Nat) (σ : FnI), k ≤ 32 → WM σ → WM (fX7_doSwap_2 n k σ).2
  | 0, _, _, _, h => h
  | n + 1, k, σ, hk, hm => by
    unfold fX7_doSwap_2
    by_cases c : (32 : Int32) ≤ nI k
    · rw [if_pos c]
      exact WM_u (WM_end (WM_u hm (by decide) (by decide) (by decide))) (by decide) (by decide) (by decide)
    · have h : k < 32 := Nat.lt_of_not_le (fun q => c (nI_le (a := 32) q (by omega)))
      rw [if_neg c]
      have hb : Bd (nI k) 31 := Bd.of (by omega) (by omega)
      exact WM_swap2 n (k + 1) _ (by omega) (WM_lay (WM_lay hm zz_T2 hb) zz_T0 hb)

def fX7_carryOut (τ : MOT) : Int32 × MOT := (if τ.2.1 = (98 : Int32) then (match (fX7_doBegin τ.2.2.1 τ.2.2.2 τ.1) with | (r_131, u_131) => (r_131, (u_131, τ.2.1, τ.2.2.1, τ.2.2.2))) else (if τ.2.1 = (101 : Int32) then (match (fX7_doErase τ.2.2.1 τ.1) with | (r_118, u_118) => (r_118, (u_118, τ.2.1, τ.2.2.1, τ.2.2.2))) else (if τ.2.1 = (103 : Int32) then (match (fX7_doGiveUp τ.1) with | (r_151, u_151) => (r_151, (u_151, τ.2.1, τ.2.2.1, τ.2.2.2))) else (if τ.2.1 = (108 : Int32) then (match (fX7_doLock τ.1) with | (r_136, u_136) => (r_136, (u_136, τ.2.1, τ.2.2.1, τ.2.2.2))) else (if τ.2.1 = (112 : Int32) then (match (fX7_doChange τ.2.2.1 τ.2.2.2 τ.1) with | (r_109, u_109) => (r_109, (u_109, τ.2.1, τ.2.2.1, τ.2.2.2))) else (if τ.2.1 = (115 : Int32) then (match (fX7_doSwap τ.1) with | (r_146, u_146) => (r_146, (u_146, τ.2.1, τ.2.2.1, τ.2.2.2))) else (if τ.2.1 = (117 : Int32) then (match (fX7_doUnlock τ.1) with | (r_141, u_141) => (r_141, (u_141, τ.2.1, τ.2.2.1, τ.2.2.2))) else (match (fX7_doTick τ.2.2.1 τ.1) with | (r_160, u_160) => (r_160, (u_160, τ.2.1, τ.2.2.1, τ.2.2.2))))))))))
theorem fX7_carryOut_p0 (τ : MOT) (c_4_0 : τ.2.1 = (98 : Int32)) (r_131 : Int32) (u_131 : FnI) (e_131 : (fX7_doBegin τ.2.2.1 τ.2.2.2 τ.1) = (r_131, u_131)) : (fX7_carryOut τ) = (r_131, (u_131, τ.2.1, τ.2.2.1, τ.2.2.2)) := by
  simp only [fX7_carryOut, if_pos c_4_0, e_131]
theorem fX7_carryOut_p1 (τ : MOT) (c_4_0 : ¬ τ.2.1 = (98 : Int32)) (c_4_1 : τ.2.1 = (101 : Int32)) (r_118 : Int32) (u_118 : FnI) (e_118 : (fX7_doErase τ.2.2.1 τ.1) = (r_118, u_118)) : (fX7_carryOut τ) = (r_118, (u_118, τ.2.1, τ.2.2.1, τ.2.2.2)) := by
  simp only [fX7_carryOut, if_neg c_4_0, if_pos c_4_1, e_118]
theorem fX7_carryOut_p2 (τ : MOT) (c_4_0 : ¬ τ.2.1 = (98 : Int32)) (c_4_1 : ¬ τ.2.1 = (101 : Int32)) (c_4_2 : τ.2.1 = (103 : Int32)) (r_151 : Int32) (u_151 : FnI) (e_151 : (fX7_doGiveUp τ.1) = (r_151, u_151)) : (fX7_carryOut τ) = (r_151, (u_151, τ.2.1, τ.2.2.1, τ.2.2.2)) := by
  simp only [fX7_carryOut, if_neg c_4_0, if_neg c_4_1, if_pos c_4_2, e_151]
theorem fX7_carryOut_p3 (τ : MOT) (c_4_0 : ¬ τ.2.1 = (98 : Int32)) (c_4_1 : ¬ τ.2.1 = (101 : Int32)) (c_4_2 : ¬ τ.2.1 = (103 : Int32)) (c_4_3 : τ.2.1 = (108 : Int32)) (r_136 : Int32) (u_136 : FnI) (e_136 : (fX7_doLock τ.1) = (r_136, u_136)) : (fX7_carryOut τ) = (r_136, (u_136, τ.2.1, τ.2.2.1, τ.2.2.2)) := by
  simp only [fX7_carryOut, if_neg c_4_0, if_neg c_4_1, if_neg c_4_2, if_pos c_4_3, e_136]
theorem fX7_carryOut_p4 (τ : MOT) (c_4_0 : ¬ τ.2.1 = (98 : Int32)) (c_4_1 : ¬ τ.2.1 = (101 : Int32)) (c_4_2 : ¬ τ.2.1 = (103 : Int32)) (c_4_3 : ¬ τ.2.1 = (108 : Int32)) (c_4_4 : τ.2.1 = (112 : Int32)) (r_109 : Int32) (u_109 : FnI) (e_109 : (fX7_doChange τ.2.2.1 τ.2.2.2 τ.1) = (r_109, u_109)) : (fX7_carryOut τ) = (r_109, (u_109, τ.2.1, τ.2.2.1, τ.2.2.2)) := by
  simp only [fX7_carryOut, if_neg c_4_0, if_neg c_4_1, if_neg c_4_2, if_neg c_4_3, if_pos c_4_4, e_109]
theorem fX7_carryOut_p5 (τ : MOT) (c_4_0 : ¬ τ.2.1 = (98 : Int32)) (c_4_1 : ¬ τ.2.1 = (101 : Int32)) (c_4_2 : ¬ τ.2.1 = (103 : Int32)) (c_4_3 : ¬ τ.2.1 = (108 : Int32)) (c_4_4 : ¬ τ.2.1 = (112 : Int32)) (c_4_5 : τ.2.1 = (115 : Int32)) (r_146 : Int32) (u_146 : FnI) (e_146 : (fX7_doSwap τ.1) = (r_146, u_146)) : (fX7_carryOut τ) = (r_146, (u_146, τ.2.1, τ.2.2.1, τ.2.2.2)) := by
  simp only [fX7_carryOut, if_neg c_4_0, if_neg c_4_1, if_neg c_4_2, if_neg c_4_3, if_neg c_4_4, if_pos c_4_5, e_146]
theorem fX7_carryOut_p6 (τ : MOT) (c_4_0 : ¬ τ.2.1 = (98 : Int32)) (c_4_1 : ¬ τ.2.1 = (101 : Int32)) (c_4_2 : ¬ τ.2.1 = (103 : Int32)) (c_4_3 : ¬ τ.2.1 = (108 : Int32)) (c_4_4 : ¬ τ.2.1 = (112 : Int32)) (c_4_5 : ¬ τ.2.1 = (115 : Int32)) (c_4_6 : τ.2.1 = (117 : Int32)) (r_141 : Int32) (u_141 : FnI) (e_141 : (fX7_doUnlock τ.1) = (r_141, u_141)) : (fX7_carryOut τ) = (r_141, (u_141, τ.2.1, τ.2.2.1, τ.2.2.2)) := by
  simp only [fX7_carryOut, if_neg c_4_0, if_neg c_4_1, if_neg c_4_2, if_neg c_4_3, if_neg c_4_4, if_neg c_4_5, if_pos c_4_6, e_141]
theorem fX7_carryOut_p7 (τ : MOT) (c_4_0 : ¬ τ.2.1 = (98 : Int32)) (c_4_1 : ¬ τ.2.1 = (101 : Int32)) (c_4_2 : ¬ τ.2.1 = (103 : Int32)) (c_4_3 : ¬ τ.2.1 = (108 : Int32)) (c_4_4 : ¬ τ.2.1 = (112 : Int32)) (c_4_5 : ¬ τ.2.1 = (115 : Int32)) (c_4_6 : ¬ τ.2.1 = (117 : Int32)) (r_160 : Int32) (u_160 : FnI) (e_160 : (fX7_doTick τ.2.2.1 τ.1) = (r_160, u_160)) : (fX7_carryOut τ) = (r_160, (u_160, τ.2.1, τ.2.2.1, τ.2.2.2)) := by
  simp only [fX7_carryOut, if_neg c_4_0, if_neg c_4_1, if_neg c_4_2, if_neg c_4_3, if_neg c_4_4, if_neg c_4_5, if_neg c_4_6, e_160]
set_option maxHeartbeats 4000000 in
set_option maxRecDepth 100000 in
theorem kX7_carryOut (l : Launch) (D : va_G) (cI cS : ClassId) (h0 h1 : Nat) (w1 : Nat) (w2 : Int32) (w3 : Nat) (w4 : Int32) (w5 : Nat) (w6 : Nat) (w7 : Int32) (w8 : Int32) (w12 : Int32) (τ : MOT) (hm : WM τ.1) (hv : VO τ.2.1 τ.2.2.1) : KI l yX7_carryOut wsX7_carryOut { frames := 5, cells := 0, slots := 0, locals := 108 } D (tysA cI cS) [.ref h0] [(h0, .inr (7, [.ref h1, .ref w1, .int w2, .ref w3, .int w4, .ref w5, .ref w6, .int w7, .int w8, .int τ.2.1, .int τ.2.2.1, .int τ.2.2.2, .int w12])), (h1, .inl (cI, 163, .inl τ.1))] (fX7_carryOut τ) (fun u => [(h0, .inr (7, [.ref h1, .ref w1, .int w2, .ref w3, .int w4, .ref w5, .ref w6, .int w7, .int w8, .int u.2.1, .int u.2.2.1, .int u.2.2.2, .int w12])), (h1, .inl (cI, 163, .inl u.1))]) := by
  refine KI.of (cc := cX7_carryOut) (maxL := 1) (ty := .int) (by decide) rfl (Nat.le_of_ble_eq_true rfl) rfl (fun p e s m args below meth c ls Q A hx hb hml hown hts hE hP hD hS hl hend => ?_)
  have hown : s.vm.findClass RX7 = some m.cls := hown
  have hl : lv_has ls 1 [(0, .ref h0)] := hl
  refine lv_aload_n hx hb dX7_carryOut_0 rfl (lv_at hl 0 rfl) ?_
  refine va_get (D := D) (ci := 7) (v := .int τ.2.1) (C := RX7) (T := TX7) (N := 13) hx hb hts (fun _ h9 => List.mem_cons_of_mem _ (List.mem_append_right _ h9)) hown hE.1 hP 0 rfl rfl 9 (by decide) (hts (.fieldLink RX7 141 "ShadowTableModel" "letter" "I") (List.mem_of_getElem? (i := 1) rfl)) (fun _ h9 => h9) rfl dX7_carryOut_1 ?_
  refine (Decidable.em (τ.2.1 = (98 : Int32))).elim (fun c_4_0 => ?_) (fun c_4_0 => ?_)
  · refine lv_tableIn (off := 118) (tgt := 122) hx hb dX7_carryOut_4 (by rw [c_4_0]; decide +kernel) (by rw [c_4_0]; decide +kernel) (by rw [c_4_0]; decide +kernel) (by decide) ?_
    refine lv_aload_n hx hb dX7_carryOut_122 rfl (lv_at hl 0 rfl) ?_
    refine lv_aload_n hx hb dX7_carryOut_123 rfl (lv_at hl 0 rfl) ?_
    refine va_get (D := D) (ci := 7) (v := .int τ.2.2.1) (C := RX7) (T := TX7) (N := 13) hx hb hts (fun _ h9 => List.mem_cons_of_mem _ (List.mem_append_right _ h9)) hown hE.1 hP 0 rfl rfl 10 (by decide) (hts (.fieldLink RX7 147 "ShadowTableModel" "one" "I") (List.mem_of_getElem? (i := 2) rfl)) (fun _ h9 => h9) rfl dX7_carryOut_124 ?_
    refine lv_aload_n hx hb dX7_carryOut_127 rfl (lv_at hl 0 rfl) ?_
    refine va_get (D := D) (ci := 7) (v := .int τ.2.2.2) (C := RX7) (T := TX7) (N := 13) hx hb hts (fun _ h9 => List.mem_cons_of_mem _ (List.mem_append_right _ h9)) hown hE.1 hP 0 rfl rfl 11 (by decide) (hts (.fieldLink RX7 153 "ShadowTableModel" "other" "I") (List.mem_of_getElem? (i := 3) rfl)) (fun _ h9 => h9) rfl dX7_carryOut_128 ?_
    refine cIV ⟨hx, hb, hml, hown, hts⟩ (kX7_doBegin l D cI cS h0 h1 w1 w2 w3 w4 w5 w6 w7 w8 τ.2.1 τ.2.2.1 τ.2.2.2 w12 τ.2.2.1 τ.2.2.2 τ.1) (cwV 2 hts gX7_carryOut_X7_doBegin rfl rfl rfl (by decide +kernel) ⟨Nat.le_of_ble_eq_true rfl, Nat.le_of_ble_eq_true rfl⟩) hE hP hD hS 0 rfl rfl [0, 1] rfl (by decide) (fun _ => rfl) rfl hl.1 rfl (Nat.le_of_ble_eq_true rfl) ⟨Nat.zero_le _, Nat.zero_le _⟩ dX7_carryOut_131 (fun r_131 u_131 H locs e_131 hP hD hS => ?_)
    have hP : va_P D vwCl [(h0, .inr (7, [.ref h1, .ref w1, .int w2, .ref w3, .int w4, .ref w5, .ref w6, .int w7, .int w8, .int τ.2.1, .int τ.2.2.1, .int τ.2.2.2, .int w12])), (h1, .inl (cI, 163, .inl u_131))] H := hP
    have hD : va_D A [(h0, .inr (7, [.ref h1, .ref w1, .int w2, .ref w3, .int w4, .ref w5, .ref w6, .int w7, .int w8, .int τ.2.1, .int τ.2.2.1, .int τ.2.2.2, .int w12])), (h1, .inl (cI, 163, .inl u_131))] := hD
    exact hend _ _ _ _ _ _ dX7_carryOut_134 rfl (fX7_carryOut_p0 τ c_4_0 r_131 u_131 e_131) hP hS
  · refine (Decidable.em (τ.2.1 = (101 : Int32))).elim (fun c_4_1 => ?_) (fun c_4_1 => ?_)
    · refine lv_tableIn (off := 109) (tgt := 113) hx hb dX7_carryOut_4 (by rw [c_4_1]; decide +kernel) (by rw [c_4_1]; decide +kernel) (by rw [c_4_1]; decide +kernel) (by decide) ?_
      refine lv_aload_n hx hb dX7_carryOut_113 rfl (lv_at hl 0 rfl) ?_
      refine lv_aload_n hx hb dX7_carryOut_114 rfl (lv_at hl 0 rfl) ?_
      refine va_get (D := D) (ci := 7) (v := .int τ.2.2.1) (C := RX7) (T := TX7) (N := 13) hx hb hts (fun _ h9 => List.mem_cons_of_mem _ (List.mem_append_right _ h9)) hown hE.1 hP 0 rfl rfl 10 (by decide) (hts (.fieldLink RX7 147 "ShadowTableModel" "one" "I") (List.mem_of_getElem? (i := 2) rfl)) (fun _ h9 => h9) rfl dX7_carryOut_115 ?_
      refine cIV ⟨hx, hb, hml, hown, hts⟩ (kX7_doErase l D cI cS h0 h1 w1 w2 w3 w4 w5 w6 w7 w8 τ.2.1 τ.2.2.1 τ.2.2.2 w12 τ.2.2.1 τ.1 hm (hv.1 (Or.inr c_4_1))) (cwV 1 hts gX7_carryOut_X7_doErase rfl rfl rfl (by decide +kernel) ⟨Nat.le_of_ble_eq_true rfl, Nat.le_of_ble_eq_true rfl⟩) hE hP hD hS 0 rfl rfl [0, 1] rfl (by decide) (fun _ => rfl) rfl hl.1 rfl (Nat.le_of_ble_eq_true rfl) ⟨Nat.zero_le _, Nat.zero_le _⟩ dX7_carryOut_118 (fun r_118 u_118 H locs e_118 hP hD hS => ?_)
      have hP : va_P D vwCl [(h0, .inr (7, [.ref h1, .ref w1, .int w2, .ref w3, .int w4, .ref w5, .ref w6, .int w7, .int w8, .int τ.2.1, .int τ.2.2.1, .int τ.2.2.2, .int w12])), (h1, .inl (cI, 163, .inl u_118))] H := hP
      have hD : va_D A [(h0, .inr (7, [.ref h1, .ref w1, .int w2, .ref w3, .int w4, .ref w5, .ref w6, .int w7, .int w8, .int τ.2.1, .int τ.2.2.1, .int τ.2.2.2, .int w12])), (h1, .inl (cI, 163, .inl u_118))] := hD
      exact hend _ _ _ _ _ _ dX7_carryOut_121 rfl (fX7_carryOut_p1 τ c_4_0 c_4_1 r_118 u_118 e_118) hP hS
    · refine (Decidable.em (τ.2.1 = (103 : Int32))).elim (fun c_4_2 => ?_) (fun c_4_2 => ?_)
      · refine lv_tableIn (off := 146) (tgt := 150) hx hb dX7_carryOut_4 (by rw [c_4_2]; decide +kernel) (by rw [c_4_2]; decide +kernel) (by rw [c_4_2]; decide +kernel) (by decide) ?_
        refine lv_aload_n hx hb dX7_carryOut_150 rfl (lv_at hl 0 rfl) ?_
        refine cIV ⟨hx, hb, hml, hown, hts⟩ (kX7_doGiveUp l D cI cS h0 h1 w1 w2 w3 w4 w5 w6 w7 w8 τ.2.1 τ.2.2.1 τ.2.2.2 w12 τ.1) (cwV 0 hts gX7_carryOut_X7_doGiveUp rfl rfl rfl (by decide +kernel) ⟨Nat.le_of_ble_eq_true rfl, Nat.le_of_ble_eq_true rfl⟩) hE hP hD hS 0 rfl rfl [0, 1] rfl (by decide) (fun _ => rfl) rfl hl.1 rfl (Nat.le_of_ble_eq_true rfl) ⟨Nat.zero_le _, Nat.zero_le _⟩ dX7_carryOut_151 (fun r_151 u_151 H locs e_151 hP hD hS => ?_)
        have hP : va_P D vwCl [(h0, .inr (7, [.ref h1, .ref w1, .int w2, .ref w3, .int w4, .ref w5, .ref w6, .int w7, .int w8, .int τ.2.1, .int τ.2.2.1, .int τ.2.2.2, .int w12])), (h1, .inl (cI, 163, .inl u_151))] H := hP
        have hD : va_D A [(h0, .inr (7, [.ref h1, .ref w1, .int w2, .ref w3, .int w4, .ref w5, .ref w6, .int w7, .int w8, .int τ.2.1, .int τ.2.2.1, .int τ.2.2.2, .int w12])), (h1, .inl (cI, 163, .inl u_151))] := hD
        exact hend _ _ _ _ _ _ dX7_carryOut_154 rfl (fX7_carryOut_p2 τ c_4_0 c_4_1 c_4_2 r_151 u_151 e_151) hP hS
      · refine (Decidable.em (τ.2.1 = (108 : Int32))).elim (fun c_4_3 => ?_) (fun c_4_3 => ?_)
        · refine lv_tableIn (off := 131) (tgt := 135) hx hb dX7_carryOut_4 (by rw [c_4_3]; decide +kernel) (by rw [c_4_3]; decide +kernel) (by rw [c_4_3]; decide +kernel) (by decide) ?_
          refine lv_aload_n hx hb dX7_carryOut_135 rfl (lv_at hl 0 rfl) ?_
          refine cIV ⟨hx, hb, hml, hown, hts⟩ (kX7_doLock l D cI cS h0 h1 w1 w2 w3 w4 w5 w6 w7 w8 τ.2.1 τ.2.2.1 τ.2.2.2 w12 τ.1) (cwV 0 hts gX7_carryOut_X7_doLock rfl rfl rfl (by decide +kernel) ⟨Nat.le_of_ble_eq_true rfl, Nat.le_of_ble_eq_true rfl⟩) hE hP hD hS 0 rfl rfl [0, 1] rfl (by decide) (fun _ => rfl) rfl hl.1 rfl (Nat.le_of_ble_eq_true rfl) ⟨Nat.zero_le _, Nat.zero_le _⟩ dX7_carryOut_136 (fun r_136 u_136 H locs e_136 hP hD hS => ?_)
          have hP : va_P D vwCl [(h0, .inr (7, [.ref h1, .ref w1, .int w2, .ref w3, .int w4, .ref w5, .ref w6, .int w7, .int w8, .int τ.2.1, .int τ.2.2.1, .int τ.2.2.2, .int w12])), (h1, .inl (cI, 163, .inl u_136))] H := hP
          have hD : va_D A [(h0, .inr (7, [.ref h1, .ref w1, .int w2, .ref w3, .int w4, .ref w5, .ref w6, .int w7, .int w8, .int τ.2.1, .int τ.2.2.1, .int τ.2.2.2, .int w12])), (h1, .inl (cI, 163, .inl u_136))] := hD
          exact hend _ _ _ _ _ _ dX7_carryOut_139 rfl (fX7_carryOut_p3 τ c_4_0 c_4_1 c_4_2 c_4_3 r_136 u_136 e_136) hP hS
        · refine (Decidable.em (τ.2.1 = (112 : Int32))).elim (fun c_4_4 => ?_) (fun c_4_4 => ?_)
          · refine lv_tableIn (off := 96) (tgt := 100) hx hb dX7_carryOut_4 (by rw [c_4_4]; decide +kernel) (by rw [c_4_4]; decide +kernel) (by rw [c_4_4]; decide +kernel) (by decide) ?_
            refine lv_aload_n hx hb dX7_carryOut_100 rfl (lv_at hl 0 rfl) ?_
            refine lv_aload_n hx hb dX7_carryOut_101 rfl (lv_at hl 0 rfl) ?_
            refine va_get (D := D) (ci := 7) (v := .int τ.2.2.1) (C := RX7) (T := TX7) (N := 13) hx hb hts (fun _ h9 => List.mem_cons_of_mem _ (List.mem_append_right _ h9)) hown hE.1 hP 0 rfl rfl 10 (by decide) (hts (.fieldLink RX7 147 "ShadowTableModel" "one" "I") (List.mem_of_getElem? (i := 2) rfl)) (fun _ h9 => h9) rfl dX7_carryOut_102 ?_
            refine lv_aload_n hx hb dX7_carryOut_105 rfl (lv_at hl 0 rfl) ?_
            refine va_get (D := D) (ci := 7) (v := .int τ.2.2.2) (C := RX7) (T := TX7) (N := 13) hx hb hts (fun _ h9 => List.mem_cons_of_mem _ (List.mem_append_right _ h9)) hown hE.1 hP 0 rfl rfl 11 (by decide) (hts (.fieldLink RX7 153 "ShadowTableModel" "other" "I") (List.mem_of_getElem? (i := 3) rfl)) (fun _ h9 => h9) rfl dX7_carryOut_106 ?_
            refine cIV ⟨hx, hb, hml, hown, hts⟩ (kX7_doChange l D cI cS h0 h1 w1 w2 w3 w4 w5 w6 w7 w8 τ.2.1 τ.2.2.1 τ.2.2.2 w12 τ.2.2.1 τ.2.2.2 τ.1 hm (hv.1 (Or.inl c_4_4))) (cwV 2 hts gX7_carryOut_X7_doChange rfl rfl rfl (by decide +kernel) ⟨Nat.le_of_ble_eq_true rfl, Nat.le_of_ble_eq_true rfl⟩) hE hP hD hS 0 rfl rfl [0, 1] rfl (by decide) (fun _ => rfl) rfl hl.1 rfl (Nat.le_of_ble_eq_true rfl) ⟨Nat.zero_le _, Nat.zero_le _⟩ dX7_carryOut_109 (fun r_109 u_109 H locs e_109 hP hD hS => ?_)
            have hP : va_P D vwCl [(h0, .inr (7, [.ref h1, .ref w1, .int w2, .ref w3, .int w4, .ref w5, .ref w6, .int w7, .int w8, .int τ.2.1, .int τ.2.2.1, .int τ.2.2.2, .int w12])), (h1, .inl (cI, 163, .inl u_109))] H := hP
            have hD : va_D A [(h0, .inr (7, [.ref h1, .ref w1, .int w2, .ref w3, .int w4, .ref w5, .ref w6, .int w7, .int w8, .int τ.2.1, .int τ.2.2.1, .int τ.2.2.2, .int w12])), (h1, .inl (cI, 163, .inl u_109))] := hD
            exact hend _ _ _ _ _ _ dX7_carryOut_112 rfl (fX7_carryOut_p4 τ c_4_0 c_4_1 c_4_2 c_4_3 c_4_4 r_109 u_109 e_109) hP hS
          · refine (Decidable.em (τ.2.1 = (115 : Int32))).elim (fun c_4_5 => ?_) (fun c_4_5 => ?_)
            · refine lv_tableIn (off := 141) (tgt := 145) hx hb dX7_carryOut_4 (by rw [c_4_5]; decide +kernel) (by rw [c_4_5]; decide +kernel) (by rw [c_4_5]; decide +kernel) (by decide) ?_
              refine lv_aload_n hx hb dX7_carryOut_145 rfl (lv_at hl 0 rfl) ?_
              refine cIV ⟨hx, hb, hml, hown, hts⟩ (kX7_doSwap l D cI cS h0 h1 w1 w2 w3 w4 w5 w6 w7 w8 τ.2.1 τ.2.2.1 τ.2.2.2 w12 τ.1) (cwV 0 hts gX7_carryOut_X7_doSwap rfl rfl rfl (by decide +kernel) ⟨Nat.le_of_ble_eq_true rfl, Nat.le_of_ble_eq_true rfl⟩) hE hP hD hS 0 rfl rfl [0, 1] rfl (by decide) (fun _ => rfl) rfl hl.1 rfl (Nat.le_of_ble_eq_true rfl) ⟨Nat.zero_le _, Nat.zero_le _⟩ dX7_carryOut_146 (fun r_146 u_146 H locs e_146 hP hD hS => ?_)
              have hP : va_P D vwCl [(h0, .inr (7, [.ref h1, .ref w1, .int w2, .ref w3, .int w4, .ref w5, .ref w6, .int w7, .int w8, .int τ.2.1, .int τ.2.2.1, .int τ.2.2.2, .int w12])), (h1, .inl (cI, 163, .inl u_146))] H := hP
              have hD : va_D A [(h0, .inr (7, [.ref h1, .ref w1, .int w2, .ref w3, .int w4, .ref w5, .ref w6, .int w7, .int w8, .int τ.2.1, .int τ.2.2.1, .int τ.2.2.2, .int w12])), (h1, .inl (cI, 163, .inl u_146))] := hD
              exact hend _ _ _ _ _ _ dX7_carryOut_149 rfl (fX7_carryOut_p5 τ c_4_0 c_4_1 c_4_2 c_4_3 c_4_4 c_4_5 r_146 u_146 e_146) hP hS
            · refine (Decidable.em (τ.2.1 = (117 : Int32))).elim (fun c_4_6 => ?_) (fun c_4_6 => ?_)
              · refine lv_tableIn (off := 136) (tgt := 140) hx hb dX7_carryOut_4 (by rw [c_4_6]; decide +kernel) (by rw [c_4_6]; decide +kernel) (by rw [c_4_6]; decide +kernel) (by decide) ?_
                refine lv_aload_n hx hb dX7_carryOut_140 rfl (lv_at hl 0 rfl) ?_
                refine cIV ⟨hx, hb, hml, hown, hts⟩ (kX7_doUnlock l D cI cS h0 h1 w1 w2 w3 w4 w5 w6 w7 w8 τ.2.1 τ.2.2.1 τ.2.2.2 w12 τ.1) (cwV 0 hts gX7_carryOut_X7_doUnlock rfl rfl rfl (by decide +kernel) ⟨Nat.le_of_ble_eq_true rfl, Nat.le_of_ble_eq_true rfl⟩) hE hP hD hS 0 rfl rfl [0, 1] rfl (by decide) (fun _ => rfl) rfl hl.1 rfl (Nat.le_of_ble_eq_true rfl) ⟨Nat.zero_le _, Nat.zero_le _⟩ dX7_carryOut_141 (fun r_141 u_141 H locs e_141 hP hD hS => ?_)
                have hP : va_P D vwCl [(h0, .inr (7, [.ref h1, .ref w1, .int w2, .ref w3, .int w4, .ref w5, .ref w6, .int w7, .int w8, .int τ.2.1, .int τ.2.2.1, .int τ.2.2.2, .int w12])), (h1, .inl (cI, 163, .inl u_141))] H := hP
                have hD : va_D A [(h0, .inr (7, [.ref h1, .ref w1, .int w2, .ref w3, .int w4, .ref w5, .ref w6, .int w7, .int w8, .int τ.2.1, .int τ.2.2.1, .int τ.2.2.2, .int w12])), (h1, .inl (cI, 163, .inl u_141))] := hD
                exact hend _ _ _ _ _ _ dX7_carryOut_144 rfl (fX7_carryOut_p6 τ c_4_0 c_4_1 c_4_2 c_4_3 c_4_4 c_4_5 c_4_6 r_141 u_141 e_141) hP hS
              · refine xtabD (tgt := 155) hx hb dX7_carryOut_4 (xno_cons (a := 98) c_4_0 (by decide) (xno_cons (a := 101) c_4_1 (by decide) (xno_cons (a := 103) c_4_2 (by decide) (xno_cons (a := 108) c_4_3 (by decide) (xno_cons (a := 112) c_4_4 (by decide) (xno_cons (a := 115) c_4_5 (by decide) (xno_cons (a := 117) c_4_6 (by decide) xno_nil))))))) (by decide +kernel) (by decide) ?_
                refine lv_aload_n hx hb dX7_carryOut_155 rfl (lv_at hl 0 rfl) ?_
                refine lv_aload_n hx hb dX7_carryOut_156 rfl (lv_at hl 0 rfl) ?_
                refine va_get (D := D) (ci := 7) (v := .int τ.2.2.1) (C := RX7) (T := TX7) (N := 13) hx hb hts (fun _ h9 => List.mem_cons_of_mem _ (List.mem_append_right _ h9)) hown hE.1 hP 0 rfl rfl 10 (by decide) (hts (.fieldLink RX7 147 "ShadowTableModel" "one" "I") (List.mem_of_getElem? (i := 2) rfl)) (fun _ h9 => h9) rfl dX7_carryOut_157 ?_
                refine cIV ⟨hx, hb, hml, hown, hts⟩ (kX7_doTick l D cI cS h0 h1 w1 w2 w3 w4 w5 w6 w7 w8 τ.2.1 τ.2.2.1 τ.2.2.2 w12 τ.2.2.1 τ.1 hm (hv.2 c_4_0 c_4_1 c_4_2 c_4_3 c_4_4 c_4_5 c_4_6)) (cwV 1 hts gX7_carryOut_X7_doTick rfl rfl rfl (by decide +kernel) ⟨Nat.le_of_ble_eq_true rfl, Nat.le_of_ble_eq_true rfl⟩) hE hP hD hS 0 rfl rfl [0, 1] rfl (by decide) (fun _ => rfl) rfl hl.1 rfl (Nat.le_of_ble_eq_true rfl) ⟨Nat.zero_le _, Nat.zero_le _⟩ dX7_carryOut_160 (fun r_160 u_160 H locs e_160 hP hD hS => ?_)
                have hP : va_P D vwCl [(h0, .inr (7, [.ref h1, .ref w1, .int w2, .ref w3, .int w4, .ref w5, .ref w6, .int w7, .int w8, .int τ.2.1, .int τ.2.2.1, .int τ.2.2.2, .int w12])), (h1, .inl (cI, 163, .inl u_160))] H := hP
                have hD : va_D A [(h0, .inr (7, [.ref h1, .ref w1, .int w2, .ref w3, .int w4, .ref w5, .ref w6, .int w7, .int w8, .int τ.2.1, .int τ.2.2.1, .int τ.2.2.2, .int w12])), (h1, .inl (cI, 163, .inl u_160))] := hD
                exact hend _ _ _ _ _ _ dX7_carryOut_163 rfl (fX7_carryOut_p7 τ c_4_0 c_4_1 c_4_2 c_4_3 c_4_4 c_4_5 c_4_6 r_160 u_160 e_160) hP hS

theorem WM_co {τ : MOT} (hm : WM τ.1) (hv : VO τ.2.1 τ.2.2.1) : WM (fX7_carryOut τ).2.1 := by
  unfold fX7_carryOut
  by_cases c0 : τ.2.1 = (98 : Int32)
  · rw [if_pos c0]; exact WM_begin _ _ _
  · rw [if_neg c0]
    by_cases c1 : τ.2.1 = (101 : Int32)
    · rw [if_pos c1]; exact WM_erase hm (hv.1 (Or.inr c1))
    · rw [if_neg c1]
      by_cases c2 : τ.2.1 = (103 : Int32)
      · rw [if_pos c2]; exact WM_u (WM_end hm) (by decide) (by decide) (by decide)
      · rw [if_neg c2]
        by_cases c3 : τ.2.1 = (108 : Int32)
        · rw [if_pos c3]; exact WM_u (WM_u hm (by decide) (by decide) (by decide)) (by decide) (by decide) (by decide)
        · rw [if_neg c3]
          by_cases c4 : τ.2.1 = (112 : Int32)
          · rw [if_pos c4]; exact WM_change hm (hv.1 (Or.inl c4))
          · rw [if_neg c4]
            by_cases c5 : τ.2.1 = (115 : Int32)
            · rw [if_pos c5]; exact WM_swap2 33 0 _ (by omega) hm
            · rw [if_neg c5]
              by_cases c6 : τ.2.1 = (117 : Int32)
              · rw [if_pos c6]; exact WM_u hm (by decide) (by decide) (by decide)
              · rw [if_neg c6]; exact WM_doTick2 _ 100 0 _ hm
theorem zz_WM_co {r : Int32} {τ u : MOT} (e : fX7_carryOut τ = (r, u)) (hm : WM τ.1) (hv : VO τ.2.1 τ.2.2.1) : WM u.1 := by
  have h := WM_co hm hv
  rw [e] at h
  exact h

def fX7_readText_15 (p0 : Int32) : Nat → Int32 → MXT → Int32 × MXT
  | 0, x, σ => (0, σ)
  | n + 1, x, σ => (if x = (0 : Int32) then ((0 : Int32), σ) else (if p0 = (0 : Int32) then (if σ.2.2.2.1 = σ.2.2.1 then ((1 : Int32), (σ.1, σ.2.1, σ.2.2.1, σ.2.2.2.1, σ.2.2.2.2.1, σ.2.2.2.2.2.1, σ.2.2.2.2.2.2.1, (σ.2.2.2.2.2.2.2 + (1 : Int32)))) else (match (fX7_takes (44 : Int32) (σ.2.1, σ.2.2.1, σ.2.2.2.1, σ.2.2.2.2.1, σ.2.2.2.2.2.1, σ.2.2.2.2.2.2.1)) with | (r_63, u_63) => (if r_63 = (0 : Int32) then fX7_readText_15 p0 n (0 : Int32) (σ.1, u_63.1, u_63.2.1, u_63.2.2.1, u_63.2.2.2.1, u_63.2.2.2.2.1, u_63.2.2.2.2.2, (σ.2.2.2.2.2.2.2 + (1 : Int32))) else (match (fX7_readOrder u_63) with | (r_70, u_70) => (if r_70 = (0 : Int32) then fX7_readText_15 p0 n (0 : Int32) (σ.1, u_70.1, u_70.2.1, u_70.2.2.1, u_70.2.2.2.1, u_70.2.2.2.2.1, u_70.2.2.2.2.2, (σ.2.2.2.2.2.2.2 + (1 : Int32))) else fX7_readText_15 p0 n (1 : Int32) (σ.1, u_70.1, u_70.2.1, u_70.2.2.1, u_70.2.2.2.1, u_70.2.2.2.2.1, u_70.2.2.2.2.2, (σ.2.2.2.2.2.2.2 + (1 : Int32)))))))) else (if (0 : Int32) ≤ (fX7_errorOfOrder (σ.1, σ.2.2.2.2.1, σ.2.2.2.2.2.1, σ.2.2.2.2.2.2.1)) then (match (fX7_carryOut (σ.1, σ.2.2.2.2.1, σ.2.2.2.2.2.1, σ.2.2.2.2.2.2.1)) with | (r_33, u_33) => (if σ.2.2.2.1 = σ.2.2.1 then ((1 : Int32), (u_33.1, σ.2.1, σ.2.2.1, σ.2.2.2.1, u_33.2.1, u_33.2.2.1, u_33.2.2.2, (σ.2.2.2.2.2.2.2 + (1 : Int32)))) else (match (fX7_takes (44 : Int32) (σ.2.1, σ.2.2.1, σ.2.2.2.1, u_33.2.1, u_33.2.2.1, u_33.2.2.2)) with | (r_63, u_63) => (if r_63 = (0 : Int32) then fX7_readText_15 p0 n (0 : Int32) (u_33.1, u_63.1, u_63.2.1, u_63.2.2.1, u_63.2.2.2.1, u_63.2.2.2.2.1, u_63.2.2.2.2.2, (σ.2.2.2.2.2.2.2 + (1 : Int32))) else (match (fX7_readOrder u_63) with | (r_70, u_70) => (if r_70 = (0 : Int32) then fX7_readText_15 p0 n (0 : Int32) (u_33.1, u_70.1, u_70.2.1, u_70.2.2.1, u_70.2.2.2.1, u_70.2.2.2.2.1, u_70.2.2.2.2.2, (σ.2.2.2.2.2.2.2 + (1 : Int32))) else fX7_readText_15 p0 n (1 : Int32) (u_33.1, u_70.1, u_70.2.1, u_70.2.2.1, u_70.2.2.2.1, u_70.2.2.2.2.1, u_70.2.2.2.2.2, (σ.2.2.2.2.2.2.2 + (1 : Int32))))))))) else ((1 : Int32), σ))))
def fX7_readText (p0 : Int32) (τ : MXT) : Int32 × MXT := (match (fX7_readOrder (τ.2.1, τ.2.2.1, (0 : Int32), τ.2.2.2.2.1, τ.2.2.2.2.2.1, τ.2.2.2.2.2.2.1)) with | (r_11, u_11) => fX7_readText_15 p0 83 r_11 (τ.1, u_11.1, u_11.2.1, u_11.2.2.1, u_11.2.2.2.1, u_11.2.2.2.2.1, u_11.2.2.2.2.2, (0 : Int32)))
theorem fX7_readText_15_p0 (p0 : Int32) (n : Nat) (x : Int32) (σ : MXT) (c_16 : x = (0 : Int32)) : fX7_readText_15 p0 (n + 1) x σ = ((0 : Int32), σ) := by
  simp only [fX7_readText_15, if_pos c_16]
theorem fX7_readText_15_p1 (p0 : Int32) (n : Nat) (x : Int32) (σ : MXT) (c_16 : ¬ x = (0 : Int32)) (c_20 : p0 = (0 : Int32)) (c_55 : ¬ σ.2.2.2.1 = σ.2.2.1) (r_63 : Int32) (u_63 : MTT) (e_63 : (fX7_takes (44 : Int32) (σ.2.1, σ.2.2.1, σ.2.2.2.1, σ.2.2.2.2.1, σ.2.2.2.2.2.1, σ.2.2.2.2.2.2.1)) = (r_63, u_63)) (c_66 : r_63 = (0 : Int32)) : fX7_readText_15 p0 (n + 1) x σ = fX7_readText_15 p0 n (0 : Int32) (σ.1, u_63.1, u_63.2.1, u_63.2.2.1, u_63.2.2.2.1, u_63.2.2.2.2.1, u_63.2.2.2.2.2, (σ.2.2.2.2.2.2.2 + (1 : Int32))) := by
  simp only [fX7_readText_15, if_neg c_16, if_pos c_20, if_neg c_55, e_63, if_pos c_66]
theorem fX7_readText_15_p2 (p0 : Int32) (n : Nat) (x : Int32) (σ : MXT) (c_16 : ¬ x = (0 : Int32)) (c_20 : p0 = (0 : Int32)) (c_55 : ¬ σ.2.2.2.1 = σ.2.2.1) (r_63 : Int32) (u_63 : MTT) (e_63 : (fX7_takes (44 : Int32) (σ.2.1, σ.2.2.1, σ.2.2.2.1, σ.2.2.2.2.1, σ.2.2.2.2.2.1, σ.2.2.2.2.2.2.1)) = (r_63, u_63)) (c_66 : ¬ r_63 = (0 : Int32)) (r_70 : Int32) (u_70 : MTT) (e_70 : (fX7_readOrder u_63) = (r_70, u_70)) (c_73 : r_70 = (0 : Int32)) : fX7_readText_15 p0 (n + 1) x σ = fX7_readText_15 p0 n (0 : Int32) (σ.1, u_70.1, u_70.2.1, u_70.2.2.1, u_70.2.2.2.1, u_70.2.2.2.2.1, u_70.2.2.2.2.2, (σ.2.2.2.2.2.2.2 + (1 : Int32))) := by
  simp only [fX7_readText_15, if_neg c_16, if_pos c_20, if_neg c_55, e_63, if_neg c_66, e_70, if_pos c_73]
theorem fX7_readText_15_p3 (p0 : Int32) (n : Nat) (x : Int32) (σ : MXT) (c_16 : ¬ x = (0 : Int32)) (c_20 : p0 = (0 : Int32)) (c_55 : ¬ σ.2.2.2.1 = σ.2.2.1) (r_63 : Int32) (u_63 : MTT) (e_63 : (fX7_takes (44 : Int32) (σ.2.1, σ.2.2.1, σ.2.2.2.1, σ.2.2.2.2.1, σ.2.2.2.2.2.1, σ.2.2.2.2.2.2.1)) = (r_63, u_63)) (c_66 : ¬ r_63 = (0 : Int32)) (r_70 : Int32) (u_70 : MTT) (e_70 : (fX7_readOrder u_63) = (r_70, u_70)) (c_73 : ¬ r_70 = (0 : Int32)) : fX7_readText_15 p0 (n + 1) x σ = fX7_readText_15 p0 n (1 : Int32) (σ.1, u_70.1, u_70.2.1, u_70.2.2.1, u_70.2.2.2.1, u_70.2.2.2.2.1, u_70.2.2.2.2.2, (σ.2.2.2.2.2.2.2 + (1 : Int32))) := by
  simp only [fX7_readText_15, if_neg c_16, if_pos c_20, if_neg c_55, e_63, if_neg c_66, e_70, if_neg c_73]
theorem fX7_readText_15_p4 (p0 : Int32) (n : Nat) (x : Int32) (σ : MXT) (c_16 : ¬ x = (0 : Int32)) (c_20 : p0 = (0 : Int32)) (c_55 : σ.2.2.2.1 = σ.2.2.1) : fX7_readText_15 p0 (n + 1) x σ = ((1 : Int32), (σ.1, σ.2.1, σ.2.2.1, σ.2.2.2.1, σ.2.2.2.2.1, σ.2.2.2.2.2.1, σ.2.2.2.2.2.2.1, (σ.2.2.2.2.2.2.2 + (1 : Int32)))) := by
  simp only [fX7_readText_15, if_neg c_16, if_pos c_20, if_pos c_55]
theorem fX7_readText_15_p5 (p0 : Int32) (n : Nat) (x : Int32) (σ : MXT) (c_16 : ¬ x = (0 : Int32)) (c_20 : ¬ p0 = (0 : Int32)) (c_27 : (0 : Int32) ≤ (fX7_errorOfOrder (σ.1, σ.2.2.2.2.1, σ.2.2.2.2.2.1, σ.2.2.2.2.2.2.1))) (r_33 : Int32) (u_33 : MOT) (e_33 : (fX7_carryOut (σ.1, σ.2.2.2.2.1, σ.2.2.2.2.2.1, σ.2.2.2.2.2.2.1)) = (r_33, u_33)) (c_55 : ¬ σ.2.2.2.1 = σ.2.2.1) (r_63 : Int32) (u_63 : MTT) (e_63 : (fX7_takes (44 : Int32) (σ.2.1, σ.2.2.1, σ.2.2.2.1, u_33.2.1, u_33.2.2.1, u_33.2.2.2)) = (r_63, u_63)) (c_66 : r_63 = (0 : Int32)) : fX7_readText_15 p0 (n + 1) x σ = fX7_readText_15 p0 n (0 : Int32) (u_33.1, u_63.1, u_63.2.1, u_63.2.2.1, u_63.2.2.2.1, u_63.2.2.2.2.1, u_63.2.2.2.2.2, (σ.2.2.2.2.2.2.2 + (1 : Int32))) := by
  simp only [fX7_readText_15, if_neg c_16, if_neg c_20, if_pos c_27, e_33, if_neg c_55, e_63, if_pos c_66]
theorem fX7_readText_15_p6 (p0 : Int32) (n : Nat) (x : Int32) (σ : MXT) (c_16 : ¬ x = (0 : Int32)) (c_20 : ¬ p0 = (0 : Int32)) (c_27 : (0 : Int32) ≤ (fX7_errorOfOrder (σ.1, σ.2.2.2.2.1, σ.2.2.2.2.2.1, σ.2.2.2.2.2.2.1))) (r_33 : Int32) (u_33 : MOT) (e_33 : (fX7_carryOut (σ.1, σ.2.2.2.2.1, σ.2.2.2.2.2.1, σ.2.2.2.2.2.2.1)) = (r_33, u_33)) (c_55 : ¬ σ.2.2.2.1 = σ.2.2.1) (r_63 : Int32) (u_63 : MTT) (e_63 : (fX7_takes (44 : Int32) (σ.2.1, σ.2.2.1, σ.2.2.2.1, u_33.2.1, u_33.2.2.1, u_33.2.2.2)) = (r_63, u_63)) (c_66 : ¬ r_63 = (0 : Int32)) (r_70 : Int32) (u_70 : MTT) (e_70 : (fX7_readOrder u_63) = (r_70, u_70)) (c_73 : r_70 = (0 : Int32)) : fX7_readText_15 p0 (n + 1) x σ = fX7_readText_15 p0 n (0 : Int32) (u_33.1, u_70.1, u_70.2.1, u_70.2.2.1, u_70.2.2.2.1, u_70.2.2.2.2.1, u_70.2.2.2.2.2, (σ.2.2.2.2.2.2.2 + (1 : Int32))) := by
  simp only [fX7_readText_15, if_neg c_16, if_neg c_20, if_pos c_27, e_33, if_neg c_55, e_63, if_neg c_66, e_70, if_pos c_73]
theorem fX7_readText_15_p7 (p0 : Int32) (n : Nat) (x : Int32) (σ : MXT) (c_16 : ¬ x = (0 : Int32)) (c_20 : ¬ p0 = (0 : Int32)) (c_27 : (0 : Int32) ≤ (fX7_errorOfOrder (σ.1, σ.2.2.2.2.1, σ.2.2.2.2.2.1, σ.2.2.2.2.2.2.1))) (r_33 : Int32) (u_33 : MOT) (e_33 : (fX7_carryOut (σ.1, σ.2.2.2.2.1, σ.2.2.2.2.2.1, σ.2.2.2.2.2.2.1)) = (r_33, u_33)) (c_55 : ¬ σ.2.2.2.1 = σ.2.2.1) (r_63 : Int32) (u_63 : MTT) (e_63 : (fX7_takes (44 : Int32) (σ.2.1, σ.2.2.1, σ.2.2.2.1, u_33.2.1, u_33.2.2.1, u_33.2.2.2)) = (r_63, u_63)) (c_66 : ¬ r_63 = (0 : Int32)) (r_70 : Int32) (u_70 : MTT) (e_70 : (fX7_readOrder u_63) = (r_70, u_70)) (c_73 : ¬ r_70 = (0 : Int32)) : fX7_readText_15 p0 (n + 1) x σ = fX7_readText_15 p0 n (1 : Int32) (u_33.1, u_70.1, u_70.2.1, u_70.2.2.1, u_70.2.2.2.1, u_70.2.2.2.2.1, u_70.2.2.2.2.2, (σ.2.2.2.2.2.2.2 + (1 : Int32))) := by
  simp only [fX7_readText_15, if_neg c_16, if_neg c_20, if_pos c_27, e_33, if_neg c_55, e_63, if_neg c_66, e_70, if_neg c_73]
theorem fX7_readText_15_p8 (p0 : Int32) (n : Nat) (x : Int32) (σ : MXT) (c_16 : ¬ x = (0 : Int32)) (c_20 : ¬ p0 = (0 : Int32)) (c_27 : (0 : Int32) ≤ (fX7_errorOfOrder (σ.1, σ.2.2.2.2.1, σ.2.2.2.2.2.1, σ.2.2.2.2.2.2.1))) (r_33 : Int32) (u_33 : MOT) (e_33 : (fX7_carryOut (σ.1, σ.2.2.2.2.1, σ.2.2.2.2.2.1, σ.2.2.2.2.2.2.1)) = (r_33, u_33)) (c_55 : σ.2.2.2.1 = σ.2.2.1) : fX7_readText_15 p0 (n + 1) x σ = ((1 : Int32), (u_33.1, σ.2.1, σ.2.2.1, σ.2.2.2.1, u_33.2.1, u_33.2.2.1, u_33.2.2.2, (σ.2.2.2.2.2.2.2 + (1 : Int32)))) := by
  simp only [fX7_readText_15, if_neg c_16, if_neg c_20, if_pos c_27, e_33, if_pos c_55]
theorem fX7_readText_15_p9 (p0 : Int32) (n : Nat) (x : Int32) (σ : MXT) (c_16 : ¬ x = (0 : Int32)) (c_20 : ¬ p0 = (0 : Int32)) (c_27 : ¬ (0 : Int32) ≤ (fX7_errorOfOrder (σ.1, σ.2.2.2.2.1, σ.2.2.2.2.2.1, σ.2.2.2.2.2.2.1))) : fX7_readText_15 p0 (n + 1) x σ = ((1 : Int32), σ) := by
  simp only [fX7_readText_15, if_neg c_16, if_neg c_20, if_neg c_27]
theorem fX7_readText_p10 (p0 : Int32) (τ : MXT) (r_11 : Int32) (u_11 : MTT) (e_11 : (fX7_readOrder (τ.2.1, τ.2.2.1, (0 : Int32), τ.2.2.2.2.1, τ.2.2.2.2.2.1, τ.2.2.2.2.2.2.1)) = (r_11, u_11)) : (fX7_readText p0 τ) = fX7_readText_15 p0 83 r_11 (τ.1, u_11.1, u_11.2.1, u_11.2.2.1, u_11.2.2.2.1, u_11.2.2.2.2.1, u_11.2.2.2.2.2, (0 : Int32)) := by
  simp only [fX7_readText, e_11]
set_option maxHeartbeats 4000000 in
set_option maxRecDepth 100000 in
theorem kX7_readText (l : Launch) (D : va_G) (cI cS : ClassId) (h0 h1 h2 : Nat) (w1 : Nat) (w2 : Int32) (w3 : Nat) (w4 : Int32) (w5 : Nat) (p0 : Int32) (τ : MXT) (hm : WM τ.1) (hlb : Bd τ.2.2.1 80) : KI l yX7_readText wsX7_readText { frames := 6, cells := 0, slots := 0, locals := 128 } D (tysA cI cS) [.ref h0, .int p0] [(h0, .inr (7, [.ref h1, .ref w1, .int w2, .ref w3, .int w4, .ref w5, .ref h2, .int τ.2.2.1, .int τ.2.2.2.1, .int τ.2.2.2.2.1, .int τ.2.2.2.2.2.1, .int τ.2.2.2.2.2.2.1, .int τ.2.2.2.2.2.2.2])), (h1, .inl (cI, 163, .inl τ.1)), (h2, .inl (cI, 80, .inl τ.2.1))] (fX7_readText p0 τ) (fun u => [(h0, .inr (7, [.ref h1, .ref w1, .int w2, .ref w3, .int w4, .ref w5, .ref h2, .int u.2.2.1, .int u.2.2.2.1, .int u.2.2.2.2.1, .int u.2.2.2.2.2.1, .int u.2.2.2.2.2.2.1, .int u.2.2.2.2.2.2.2])), (h1, .inl (cI, 163, .inl u.1)), (h2, .inl (cI, 80, .inl u.2.1))]) := by
  refine KI.of (cc := cX7_readText) (maxL := 3) (ty := .boolean) (by decide) rfl (Nat.le_of_ble_eq_true rfl) rfl (fun p e s m args below meth c ls Q A hx hb hml hown hts hE hP hD hS hl hend => ?_)
  have hown : s.vm.findClass RX7 = some m.cls := hown
  have hl : lv_has ls 3 [(0, .ref h0), (1, .int p0)] := hl
  have loop_15 : ∀ (n : Nat) (x : Int32) (σ : MXT), WM σ.1 → WP σ.2.2.1 σ.2.2.2.1 → ¬ x = (0 : Int32) → VO σ.2.2.2.2.1 σ.2.2.2.2.2.1 → (¬ x = (0 : Int32) → 82 - σ.2.2.2.1.toNatClampNeg < n) ∧ 0 < n → (fX7_readText p0 τ) = fX7_readText_15 p0 n x σ → ∀ (H : Heap) (locs : List Loc), va_P D vwCl [(h0, .inr (7, [.ref h1, .ref w1, .int w2, .ref w3, .int w4, .ref w5, .ref h2, .int σ.2.2.1, .int σ.2.2.2.1, .int σ.2.2.2.2.1, .int σ.2.2.2.2.2.1, .int σ.2.2.2.2.2.2.1, .int σ.2.2.2.2.2.2.2])), (h1, .inl (cI, 163, .inl σ.1)), (h2, .inl (cI, 80, .inl σ.2.1))] H → va_D A [(h0, .inr (7, [.ref h1, .ref w1, .int w2, .ref w3, .int w4, .ref w5, .ref h2, .int σ.2.2.1, .int σ.2.2.2.1, .int σ.2.2.2.2.1, .int σ.2.2.2.2.2.1, .int σ.2.2.2.2.2.2.1, .int σ.2.2.2.2.2.2.2])), (h1, .inl (cI, 163, .inl σ.1)), (h2, .inl (cI, 80, .inl σ.2.1))] → va_S A s.heap H locs → ∀ (ls : Array Slot), lv_has ls 3 [(0, .ref h0), (1, .int p0), (2, .int x)] → W p l e { frames := 6, cells := 0, slots := 0, locals := 128 } s m args below meth c H locs 0 0 Q (F0 m 15 ls []) := by
    intro n
    induction n with
    | zero =>
      intro x σ hm ht hv hn
      exact absurd hn.2 (by omega)
    | succ n ih =>
      intro x σ hm ht hv hn hF H locs hP hD hS ls hl
      refine lv_iload_n hx hb dX7_readText_15 rfl (lv_at hl 2 rfl) ?_
      refine lv_if_eq (tgt := 85) hx hb dX7_readText_16 (by decide) (fun c_16 => ?_) (fun c_16 => ?_)
      · refine lv_iconst (v := (0 : Int32)) hx hb dX7_readText_85 (by decide +kernel) ?_
        exact hend _ _ _ _ _ _ dX7_readText_86 rfl (hF.trans (fX7_readText_15_p0 p0 n x σ c_16)) hP hS
      · refine lv_iload_n hx hb dX7_readText_19 rfl (lv_at hl 1 rfl) ?_
        refine lv_if_eq (tgt := 37) hx hb dX7_readText_20 (by decide) (fun c_20 => ?_) (fun c_20 => ?_)
        · refine lv_aload_n hx hb dX7_readText_37 rfl (lv_at hl 0 rfl) ?_
          refine lv_dup hx hb dX7_readText_38 rfl ?_
          refine va_get (D := D) (ci := 7) (v := .int σ.2.2.2.2.2.2.2) (C := RX7) (T := TX7) (N := 13) hx hb hts (fun _ h9 => List.mem_cons_of_mem _ (List.mem_append_right _ h9)) hown hE.1 hP 0 rfl rfl 12 (by decide) (hts (.fieldLink RX7 156 "ShadowTableModel" "carriedOut" "I") (List.mem_of_getElem? (i := 2) rfl)) (fun _ h9 => h9) rfl dX7_readText_39 ?_
          refine lv_iconst (v := (1 : Int32)) hx hb dX7_readText_42 (by decide +kernel) ?_
          refine lv_iadd hx hb dX7_readText_43 ?_
          refine xpf (ty := .int) (v := .int (σ.2.2.2.2.2.2.2 + (1 : Int32))) (C := RX7) (T := TX7) (N := 13) hx hb hts (fun _ h9 => List.mem_cons_of_mem _ (List.mem_append_right _ h9)) tyX7 tyX7_ok nmX7 hown hE hP hD hS 0 rfl rfl 12 (by decide) (hts (.fieldLink RX7 156 "ShadowTableModel" "carriedOut" "I") (List.mem_of_getElem? (i := 2) rfl)) rfl rfl (by decide +kernel) rfl rfl (Nat.le_of_ble_eq_true rfl) [(h0, .inr (7, [.ref h1, .ref w1, .int w2, .ref w3, .int w4, .ref w5, .ref h2, .int σ.2.2.1, .int σ.2.2.2.1, .int σ.2.2.2.2.1, .int σ.2.2.2.2.2.1, .int σ.2.2.2.2.2.2.1, .int (σ.2.2.2.2.2.2.2 + (1 : Int32))])), (h1, .inl (cI, 163, .inl σ.1)), (h2, .inl (cI, 80, .inl σ.2.1))] rfl dX7_readText_44 (fun H locs hP hD hS => ?_)
          refine lv_aload_n hx hb dX7_readText_47 rfl (lv_at hl 0 rfl) ?_
          refine va_get (D := D) (ci := 7) (v := .int σ.2.2.2.1) (C := RX7) (T := TX7) (N := 13) hx hb hts (fun _ h9 => List.mem_cons_of_mem _ (List.mem_append_right _ h9)) hown hE.1 hP 0 rfl rfl 8 (by decide) (hts (.fieldLink RX7 135 "ShadowTableModel" "place" "I") (List.mem_of_getElem? (i := 1) rfl)) (fun _ h9 => h9) rfl dX7_readText_48 ?_
          refine lv_aload_n hx hb dX7_readText_51 rfl (lv_at hl 0 rfl) ?_
          refine va_get (D := D) (ci := 7) (v := .int σ.2.2.1) (C := RX7) (T := TX7) (N := 13) hx hb hts (fun _ h9 => List.mem_cons_of_mem _ (List.mem_append_right _ h9)) hown hE.1 hP 0 rfl rfl 7 (by decide) (hts (.fieldLink RX7 132 "ShadowTableModel" "length" "I") (List.mem_of_getElem? (i := 3) rfl)) (fun _ h9 => h9) rfl dX7_readText_52 ?_
          refine lv_icmp_ne (tgt := 60) hx hb dX7_readText_55 (by decide) (fun c_55 => ?_) (fun c_55 => ?_)
          · refine lv_aload_n hx hb dX7_readText_60 rfl (lv_at hl 0 rfl) ?_
            refine lv_bipush (v := (44 : Int32)) hx hb dX7_readText_61 (by decide +kernel) ?_
            refine cIV ⟨hx, hb, hml, hown, hts⟩ (kX7_takes l D cI cS h0 h2 h1 w1 w2 w3 w4 w5 (σ.2.2.2.2.2.2.2 + (1 : Int32)) (44 : Int32) (σ.2.1, σ.2.2.1, σ.2.2.2.1, σ.2.2.2.2.1, σ.2.2.2.2.2.1, σ.2.2.2.2.2.2.1) (zz_WPT ht)) (cwV 1 hts gX7_readText_X7_takes rfl rfl rfl (by decide +kernel) ⟨Nat.le_of_ble_eq_true rfl, Nat.le_of_ble_eq_true rfl⟩) hE hP hD hS 0 rfl rfl [0, 2] rfl (by decide) (fun _ => rfl) rfl hl.1 rfl (Nat.le_of_ble_eq_true rfl) ⟨Nat.zero_le _, Nat.zero_le _⟩ dX7_readText_63 (fun r_63 u_63 H locs e_63 hP hD hS => ?_)
            have hP : va_P D vwCl [(h0, .inr (7, [.ref h1, .ref w1, .int w2, .ref w3, .int w4, .ref w5, .ref h2, .int u_63.2.1, .int u_63.2.2.1, .int u_63.2.2.2.1, .int u_63.2.2.2.2.1, .int u_63.2.2.2.2.2, .int (σ.2.2.2.2.2.2.2 + (1 : Int32))])), (h1, .inl (cI, 163, .inl σ.1)), (h2, .inl (cI, 80, .inl u_63.1))] H := hP
            have hD : va_D A [(h0, .inr (7, [.ref h1, .ref w1, .int w2, .ref w3, .int w4, .ref w5, .ref h2, .int u_63.2.1, .int u_63.2.2.1, .int u_63.2.2.2.1, .int u_63.2.2.2.2.1, .int u_63.2.2.2.2.2, .int (σ.2.2.2.2.2.2.2 + (1 : Int32))])), (h1, .inl (cI, 163, .inl σ.1)), (h2, .inl (cI, 80, .inl u_63.1))] := hD
            refine lv_if_eq (tgt := 80) hx hb dX7_readText_66 (by decide) (fun c_66 => ?_) (fun c_66 => ?_)
            · refine lv_iconst (v := (0 : Int32)) hx hb dX7_readText_80 (by decide +kernel) ?_
              refine lv_istore_n (lv' := [(2, .int (0 : Int32)), (0, .ref h0), (1, .int p0)]) hx hb dX7_readText_81 rfl hl (by decide) rfl (fun ls hl => ?_)
              refine lv_goto (tgt := 15) hx hb dX7_readText_82 (by decide) ?_
              exact ih (0 : Int32) (σ.1, u_63.1, u_63.2.1, u_63.2.2.1, u_63.2.2.2.1, u_63.2.2.2.2.1, u_63.2.2.2.2.2, (σ.2.2.2.2.2.2.2 + (1 : Int32))) (by first | exact hm | exact zz_WM_co e_33 hm (hv c_16)) (by first | exact zz_ro_P e_70 (zz_tk_P e_63 ht) | exact zz_tk_P e_63 ht) (by first | exact (fun c => absurd rfl c) | exact (fun _ => zz_ro_V e_70 (zz_tk_P e_63 ht) c_73)) (by first | exact (And.intro (fun c => absurd rfl c) (zz_rt_n ht (hn.1 c_16))) | exact (And.intro (fun _ => zz_rt_m e_63 c_66 e_70 ht (hn.1 c_16)) (zz_rt_n ht (hn.1 c_16)))) (hF.trans (fX7_readText_15_p1 p0 n x σ c_16 c_20 c_55 r_63 u_63 e_63 c_66)) _ _ hP hD hS _ (lv_sub hl [1, 2, 0] rfl)
            · refine lv_aload_n hx hb dX7_readText_69 rfl (lv_at hl 0 rfl) ?_
              refine cIV ⟨hx, hb, hml, hown, hts⟩ (kX7_readOrder l D cI cS h0 h2 h1 w1 w2 w3 w4 w5 (σ.2.2.2.2.2.2.2 + (1 : Int32)) u_63 (zz_WPT (zz_tk_P e_63 ht)) (zz_tk_P e_63 ht).2.2) (cwV 0 hts gX7_readText_X7_readOrder rfl rfl rfl (by decide +kernel) ⟨Nat.le_of_ble_eq_true rfl, Nat.le_of_ble_eq_true rfl⟩) hE hP hD hS 0 rfl rfl [0, 2] rfl (by decide) (fun _ => rfl) rfl hl.1 rfl (Nat.le_of_ble_eq_true rfl) ⟨Nat.zero_le _, Nat.zero_le _⟩ dX7_readText_70 (fun r_70 u_70 H locs e_70 hP hD hS => ?_)
              have hP : va_P D vwCl [(h0, .inr (7, [.ref h1, .ref w1, .int w2, .ref w3, .int w4, .ref w5, .ref h2, .int u_70.2.1, .int u_70.2.2.1, .int u_70.2.2.2.1, .int u_70.2.2.2.2.1, .int u_70.2.2.2.2.2, .int (σ.2.2.2.2.2.2.2 + (1 : Int32))])), (h1, .inl (cI, 163, .inl σ.1)), (h2, .inl (cI, 80, .inl u_70.1))] H := hP
              have hD : va_D A [(h0, .inr (7, [.ref h1, .ref w1, .int w2, .ref w3, .int w4, .ref w5, .ref h2, .int u_70.2.1, .int u_70.2.2.1, .int u_70.2.2.2.1, .int u_70.2.2.2.2.1, .int u_70.2.2.2.2.2, .int (σ.2.2.2.2.2.2.2 + (1 : Int32))])), (h1, .inl (cI, 163, .inl σ.1)), (h2, .inl (cI, 80, .inl u_70.1))] := hD
              refine lv_if_eq (tgt := 80) hx hb dX7_readText_73 (by decide) (fun c_73 => ?_) (fun c_73 => ?_)
              · refine lv_iconst (v := (0 : Int32)) hx hb dX7_readText_80 (by decide +kernel) ?_
                refine lv_istore_n (lv' := [(2, .int (0 : Int32)), (0, .ref h0), (1, .int p0)]) hx hb dX7_readText_81 rfl hl (by decide) rfl (fun ls hl => ?_)
                refine lv_goto (tgt := 15) hx hb dX7_readText_82 (by decide) ?_
                exact ih (0 : Int32) (σ.1, u_70.1, u_70.2.1, u_70.2.2.1, u_70.2.2.2.1, u_70.2.2.2.2.1, u_70.2.2.2.2.2, (σ.2.2.2.2.2.2.2 + (1 : Int32))) (by first | exact hm | exact zz_WM_co e_33 hm (hv c_16)) (by first | exact zz_ro_P e_70 (zz_tk_P e_63 ht) | exact zz_tk_P e_63 ht) (by first | exact (fun c => absurd rfl c) | exact (fun _ => zz_ro_V e_70 (zz_tk_P e_63 ht) c_73)) (by first | exact (And.intro (fun c => absurd rfl c) (zz_rt_n ht (hn.1 c_16))) | exact (And.intro (fun _ => zz_rt_m e_63 c_66 e_70 ht (hn.1 c_16)) (zz_rt_n ht (hn.1 c_16)))) (hF.trans (fX7_readText_15_p2 p0 n x σ c_16 c_20 c_55 r_63 u_63 e_63 c_66 r_70 u_70 e_70 c_73)) _ _ hP hD hS _ (lv_sub hl [1, 2, 0] rfl)
              · refine lv_iconst (v := (1 : Int32)) hx hb dX7_readText_76 (by decide +kernel) ?_
                refine lv_goto (tgt := 81) hx hb dX7_readText_77 (by decide) ?_
                refine lv_istore_n (lv' := [(2, .int (1 : Int32)), (0, .ref h0), (1, .int p0)]) hx hb dX7_readText_81 rfl hl (by decide) rfl (fun ls hl => ?_)
                refine lv_goto (tgt := 15) hx hb dX7_readText_82 (by decide) ?_
                exact ih (1 : Int32) (σ.1, u_70.1, u_70.2.1, u_70.2.2.1, u_70.2.2.2.1, u_70.2.2.2.2.1, u_70.2.2.2.2.2, (σ.2.2.2.2.2.2.2 + (1 : Int32))) (by first | exact hm | exact zz_WM_co e_33 hm (hv c_16)) (by first | exact zz_ro_P e_70 (zz_tk_P e_63 ht) | exact zz_tk_P e_63 ht) (by first | exact (fun c => absurd rfl c) | exact (fun _ => zz_ro_V e_70 (zz_tk_P e_63 ht) c_73)) (by first | exact (And.intro (fun c => absurd rfl c) (zz_rt_n ht (hn.1 c_16))) | exact (And.intro (fun _ => zz_rt_m e_63 c_66 e_70 ht (hn.1 c_16)) (zz_rt_n ht (hn.1 c_16)))) (hF.trans (fX7_readText_15_p3 p0 n x σ c_16 c_20 c_55 r_63 u_63 e_63 c_66 r_70 u_70 e_70 c_73)) _ _ hP hD hS _ (lv_sub hl [1, 2, 0] rfl)
          · refine lv_iconst (v := (1 : Int32)) hx hb dX7_readText_58 (by decide +kernel) ?_
            exact hend _ _ _ _ _ _ dX7_readText_59 rfl (hF.trans (fX7_readText_15_p4 p0 n x σ c_16 c_20 c_55)) hP hS
        · refine lv_aload_n hx hb dX7_readText_23 rfl (lv_at hl 0 rfl) ?_
          refine cRV ⟨hx, hb, hml, hown, hts⟩ (kX7_errorOfOrder l D cI cS h0 h1 w1 w2 w3 w4 w5 h2 σ.2.2.1 σ.2.2.2.1 σ.2.2.2.2.2.2.2 (σ.1, σ.2.2.2.2.1, σ.2.2.2.2.2.1, σ.2.2.2.2.2.2.1)) (cwV 0 hts gX7_readText_X7_errorOfOrder rfl rfl rfl (by decide +kernel) ⟨Nat.le_of_ble_eq_true rfl, Nat.le_of_ble_eq_true rfl⟩) hE hP 0 rfl rfl [0, 1] rfl rfl hl.1 rfl (Nat.le_of_ble_eq_true rfl) ⟨Nat.zero_le _, Nat.zero_le _⟩ dX7_readText_24 ?_
          refine lv_if_ge (tgt := 32) hx hb dX7_readText_27 (by decide) (fun c_27 => ?_) (fun c_27 => ?_)
          · refine lv_aload_n hx hb dX7_readText_32 rfl (lv_at hl 0 rfl) ?_
            refine cIV ⟨hx, hb, hml, hown, hts⟩ (kX7_carryOut l D cI cS h0 h1 w1 w2 w3 w4 w5 h2 σ.2.2.1 σ.2.2.2.1 σ.2.2.2.2.2.2.2 (σ.1, σ.2.2.2.2.1, σ.2.2.2.2.2.1, σ.2.2.2.2.2.2.1) hm (hv c_16)) (cwV 0 hts gX7_readText_X7_carryOut rfl rfl rfl (by decide +kernel) ⟨Nat.le_of_ble_eq_true rfl, Nat.le_of_ble_eq_true rfl⟩) hE hP hD hS 0 rfl rfl [0, 1] rfl (by decide) (fun _ => rfl) rfl hl.1 rfl (Nat.le_of_ble_eq_true rfl) ⟨Nat.zero_le _, Nat.zero_le _⟩ dX7_readText_33 (fun r_33 u_33 H locs e_33 hP hD hS => ?_)
            have hP : va_P D vwCl [(h0, .inr (7, [.ref h1, .ref w1, .int w2, .ref w3, .int w4, .ref w5, .ref h2, .int σ.2.2.1, .int σ.2.2.2.1, .int u_33.2.1, .int u_33.2.2.1, .int u_33.2.2.2, .int σ.2.2.2.2.2.2.2])), (h1, .inl (cI, 163, .inl u_33.1)), (h2, .inl (cI, 80, .inl σ.2.1))] H := hP
            have hD : va_D A [(h0, .inr (7, [.ref h1, .ref w1, .int w2, .ref w3, .int w4, .ref w5, .ref h2, .int σ.2.2.1, .int σ.2.2.2.1, .int u_33.2.1, .int u_33.2.2.1, .int u_33.2.2.2, .int σ.2.2.2.2.2.2.2])), (h1, .inl (cI, 163, .inl u_33.1)), (h2, .inl (cI, 80, .inl σ.2.1))] := hD
            refine lv_pop hx hb dX7_readText_36 rfl ?_
            refine lv_aload_n hx hb dX7_readText_37 rfl (lv_at hl 0 rfl) ?_
            refine lv_dup hx hb dX7_readText_38 rfl ?_
            refine va_get (D := D) (ci := 7) (v := .int σ.2.2.2.2.2.2.2) (C := RX7) (T := TX7) (N := 13) hx hb hts (fun _ h9 => List.mem_cons_of_mem _ (List.mem_append_right _ h9)) hown hE.1 hP 0 rfl rfl 12 (by decide) (hts (.fieldLink RX7 156 "ShadowTableModel" "carriedOut" "I") (List.mem_of_getElem? (i := 2) rfl)) (fun _ h9 => h9) rfl dX7_readText_39 ?_
            refine lv_iconst (v := (1 : Int32)) hx hb dX7_readText_42 (by decide +kernel) ?_
            refine lv_iadd hx hb dX7_readText_43 ?_
            refine xpf (ty := .int) (v := .int (σ.2.2.2.2.2.2.2 + (1 : Int32))) (C := RX7) (T := TX7) (N := 13) hx hb hts (fun _ h9 => List.mem_cons_of_mem _ (List.mem_append_right _ h9)) tyX7 tyX7_ok nmX7 hown hE hP hD hS 0 rfl rfl 12 (by decide) (hts (.fieldLink RX7 156 "ShadowTableModel" "carriedOut" "I") (List.mem_of_getElem? (i := 2) rfl)) rfl rfl (by decide +kernel) rfl rfl (Nat.le_of_ble_eq_true rfl) [(h0, .inr (7, [.ref h1, .ref w1, .int w2, .ref w3, .int w4, .ref w5, .ref h2, .int σ.2.2.1, .int σ.2.2.2.1, .int u_33.2.1, .int u_33.2.2.1, .int u_33.2.2.2, .int (σ.2.2.2.2.2.2.2 + (1 : Int32))])), (h1, .inl (cI, 163, .inl u_33.1)), (h2, .inl (cI, 80, .inl σ.2.1))] rfl dX7_readText_44 (fun H locs hP hD hS => ?_)
            refine lv_aload_n hx hb dX7_readText_47 rfl (lv_at hl 0 rfl) ?_
            refine va_get (D := D) (ci := 7) (v := .int σ.2.2.2.1) (C := RX7) (T := TX7) (N := 13) hx hb hts (fun _ h9 => List.mem_cons_of_mem _ (List.mem_append_right _ h9)) hown hE.1 hP 0 rfl rfl 8 (by decide) (hts (.fieldLink RX7 135 "ShadowTableModel" "place" "I") (List.mem_of_getElem? (i := 1) rfl)) (fun _ h9 => h9) rfl dX7_readText_48 ?_
            refine lv_aload_n hx hb dX7_readText_51 rfl (lv_at hl 0 rfl) ?_
            refine va_get (D := D) (ci := 7) (v := .int σ.2.2.1) (C := RX7) (T := TX7) (N := 13) hx hb hts (fun _ h9 => List.mem_cons_of_mem _ (List.mem_append_right _ h9)) hown hE.1 hP 0 rfl rfl 7 (by decide) (hts (.fieldLink RX7 132 "ShadowTableModel" "length" "I") (List.mem_of_getElem? (i := 3) rfl)) (fun _ h9 => h9) rfl dX7_readText_52 ?_
            refine lv_icmp_ne (tgt := 60) hx hb dX7_readText_55 (by decide) (fun c_55 => ?_) (fun c_55 => ?_)
            · refine lv_aload_n hx hb dX7_readText_60 rfl (lv_at hl 0 rfl) ?_
              refine lv_bipush (v := (44 : Int32)) hx hb dX7_readText_61 (by decide +kernel) ?_
              refine cIV ⟨hx, hb, hml, hown, hts⟩ (kX7_takes l D cI cS h0 h2 h1 w1 w2 w3 w4 w5 (σ.2.2.2.2.2.2.2 + (1 : Int32)) (44 : Int32) (σ.2.1, σ.2.2.1, σ.2.2.2.1, u_33.2.1, u_33.2.2.1, u_33.2.2.2) (zz_WPT ht)) (cwV 1 hts gX7_readText_X7_takes rfl rfl rfl (by decide +kernel) ⟨Nat.le_of_ble_eq_true rfl, Nat.le_of_ble_eq_true rfl⟩) hE hP hD hS 0 rfl rfl [0, 2] rfl (by decide) (fun _ => rfl) rfl hl.1 rfl (Nat.le_of_ble_eq_true rfl) ⟨Nat.zero_le _, Nat.zero_le _⟩ dX7_readText_63 (fun r_63 u_63 H locs e_63 hP hD hS => ?_)
              have hP : va_P D vwCl [(h0, .inr (7, [.ref h1, .ref w1, .int w2, .ref w3, .int w4, .ref w5, .ref h2, .int u_63.2.1, .int u_63.2.2.1, .int u_63.2.2.2.1, .int u_63.2.2.2.2.1, .int u_63.2.2.2.2.2, .int (σ.2.2.2.2.2.2.2 + (1 : Int32))])), (h1, .inl (cI, 163, .inl u_33.1)), (h2, .inl (cI, 80, .inl u_63.1))] H := hP
              have hD : va_D A [(h0, .inr (7, [.ref h1, .ref w1, .int w2, .ref w3, .int w4, .ref w5, .ref h2, .int u_63.2.1, .int u_63.2.2.1, .int u_63.2.2.2.1, .int u_63.2.2.2.2.1, .int u_63.2.2.2.2.2, .int (σ.2.2.2.2.2.2.2 + (1 : Int32))])), (h1, .inl (cI, 163, .inl u_33.1)), (h2, .inl (cI, 80, .inl u_63.1))] := hD
              refine lv_if_eq (tgt := 80) hx hb dX7_readText_66 (by decide) (fun c_66 => ?_) (fun c_66 => ?_)
              · refine lv_iconst (v := (0 : Int32)) hx hb dX7_readText_80 (by decide +kernel) ?_
                refine lv_istore_n (lv' := [(2, .int (0 : Int32)), (0, .ref h0), (1, .int p0)]) hx hb dX7_readText_81 rfl hl (by decide) rfl (fun ls hl => ?_)
                refine lv_goto (tgt := 15) hx hb dX7_readText_82 (by decide) ?_
                exact ih (0 : Int32) (u_33.1, u_63.1, u_63.2.1, u_63.2.2.1, u_63.2.2.2.1, u_63.2.2.2.2.1, u_63.2.2.2.2.2, (σ.2.2.2.2.2.2.2 + (1 : Int32))) (by first | exact hm | exact zz_WM_co e_33 hm (hv c_16)) (by first | exact zz_ro_P e_70 (zz_tk_P e_63 ht) | exact zz_tk_P e_63 ht) (by first | exact (fun c => absurd rfl c) | exact (fun _ => zz_ro_V e_70 (zz_tk_P e_63 ht) c_73)) (by first | exact (And.intro (fun c => absurd rfl c) (zz_rt_n ht (hn.1 c_16))) | exact (And.intro (fun _ => zz_rt_m e_63 c_66 e_70 ht (hn.1 c_16)) (zz_rt_n ht (hn.1 c_16)))) (hF.trans (fX7_readText_15_p5 p0 n x σ c_16 c_20 c_27 r_33 u_33 e_33 c_55 r_63 u_63 e_63 c_66)) _ _ hP hD hS _ (lv_sub hl [1, 2, 0] rfl)
              · refine lv_aload_n hx hb dX7_readText_69 rfl (lv_at hl 0 rfl) ?_
                refine cIV ⟨hx, hb, hml, hown, hts⟩ (kX7_readOrder l D cI cS h0 h2 h1 w1 w2 w3 w4 w5 (σ.2.2.2.2.2.2.2 + (1 : Int32)) u_63 (zz_WPT (zz_tk_P e_63 ht)) (zz_tk_P e_63 ht).2.2) (cwV 0 hts gX7_readText_X7_readOrder rfl rfl rfl (by decide +kernel) ⟨Nat.le_of_ble_eq_true rfl, Nat.le_of_ble_eq_true rfl⟩) hE hP hD hS 0 rfl rfl [0, 2] rfl (by decide) (fun _ => rfl) rfl hl.1 rfl (Nat.le_of_ble_eq_true rfl) ⟨Nat.zero_le _, Nat.zero_le _⟩ dX7_readText_70 (fun r_70 u_70 H locs e_70 hP hD hS => ?_)
                have hP : va_P D vwCl [(h0, .inr (7, [.ref h1, .ref w1, .int w2, .ref w3, .int w4, .ref w5, .ref h2, .int u_70.2.1, .int u_70.2.2.1, .int u_70.2.2.2.1, .int u_70.2.2.2.2.1, .int u_70.2.2.2.2.2, .int (σ.2.2.2.2.2.2.2 + (1 : Int32))])), (h1, .inl (cI, 163, .inl u_33.1)), (h2, .inl (cI, 80, .inl u_70.1))] H := hP
                have hD : va_D A [(h0, .inr (7, [.ref h1, .ref w1, .int w2, .ref w3, .int w4, .ref w5, .ref h2, .int u_70.2.1, .int u_70.2.2.1, .int u_70.2.2.2.1, .int u_70.2.2.2.2.1, .int u_70.2.2.2.2.2, .int (σ.2.2.2.2.2.2.2 + (1 : Int32))])), (h1, .inl (cI, 163, .inl u_33.1)), (h2, .inl (cI, 80, .inl u_70.1))] := hD
                refine lv_if_eq (tgt := 80) hx hb dX7_readText_73 (by decide) (fun c_73 => ?_) (fun c_73 => ?_)
                · refine lv_iconst (v := (0 : Int32)) hx hb dX7_readText_80 (by decide +kernel) ?_
                  refine lv_istore_n (lv' := [(2, .int (0 : Int32)), (0, .ref h0), (1, .int p0)]) hx hb dX7_readText_81 rfl hl (by decide) rfl (fun ls hl => ?_)
                  refine lv_goto (tgt := 15) hx hb dX7_readText_82 (by decide) ?_
                  exact ih (0 : Int32) (u_33.1, u_70.1, u_70.2.1, u_70.2.2.1, u_70.2.2.2.1, u_70.2.2.2.2.1, u_70.2.2.2.2.2, (σ.2.2.2.2.2.2.2 + (1 : Int32))) (by first | exact hm | exact zz_WM_co e_33 hm (hv c_16)) (by first | exact zz_ro_P e_70 (zz_tk_P e_63 ht) | exact zz_tk_P e_63 ht) (by first | exact (fun c => absurd rfl c) | exact (fun _ => zz_ro_V e_70 (zz_tk_P e_63 ht) c_73)) (by first | exact (And.intro (fun c => absurd rfl c) (zz_rt_n ht (hn.1 c_16))) | exact (And.intro (fun _ => zz_rt_m e_63 c_66 e_70 ht (hn.1 c_16)) (zz_rt_n ht (hn.1 c_16)))) (hF.trans (fX7_readText_15_p6 p0 n x σ c_16 c_20 c_27 r_33 u_33 e_33 c_55 r_63 u_63 e_63 c_66 r_70 u_70 e_70 c_73)) _ _ hP hD hS _ (lv_sub hl [1, 2, 0] rfl)
                · refine lv_iconst (v := (1 : Int32)) hx hb dX7_readText_76 (by decide +kernel) ?_
                  refine lv_goto (tgt := 81) hx hb dX7_readText_77 (by decide) ?_
                  refine lv_istore_n (lv' := [(2, .int (1 : Int32)), (0, .ref h0), (1, .int p0)]) hx hb dX7_readText_81 rfl hl (by decide) rfl (fun ls hl => ?_)
                  refine lv_goto (tgt := 15) hx hb dX7_readText_82 (by decide) ?_
                  exact ih (1 : Int32) (u_33.1, u_70.1, u_70.2.1, u_70.2.2.1, u_70.2.2.2.1, u_70.2.2.2.2.1, u_70.2.2.2.2.2, (σ.2.2.2.2.2.2.2 + (1 : Int32))) (by first | exact hm | exact zz_WM_co e_33 hm (hv c_16)) (by first | exact zz_ro_P e_70 (zz_tk_P e_63 ht) | exact zz_tk_P e_63 ht) (by first | exact (fun c => absurd rfl c) | exact (fun _ => zz_ro_V e_70 (zz_tk_P e_63 ht) c_73)) (by first | exact (And.intro (fun c => absurd rfl c) (zz_rt_n ht (hn.1 c_16))) | exact (And.intro (fun _ => zz_rt_m e_63 c_66 e_70 ht (hn.1 c_16)) (zz_rt_n ht (hn.1 c_16)))) (hF.trans (fX7_readText_15_p7 p0 n x σ c_16 c_20 c_27 r_33 u_33 e_33 c_55 r_63 u_63 e_63 c_66 r_70 u_70 e_70 c_73)) _ _ hP hD hS _ (lv_sub hl [1, 2, 0] rfl)
            · refine lv_iconst (v := (1 : Int32)) hx hb dX7_readText_58 (by decide +kernel) ?_
              exact hend _ _ _ _ _ _ dX7_readText_59 rfl (hF.trans (fX7_readText_15_p8 p0 n x σ c_16 c_20 c_27 r_33 u_33 e_33 c_55)) hP hS
          · refine lv_iconst (v := (1 : Int32)) hx hb dX7_readText_30 (by decide +kernel) ?_
            exact hend _ _ _ _ _ _ dX7_readText_31 rfl (hF.trans (fX7_readText_15_p9 p0 n x σ c_16 c_20 c_27)) hP hS
  refine lv_aload_n hx hb dX7_readText_0 rfl (lv_at hl 0 rfl) ?_
  refine lv_iconst (v := (0 : Int32)) hx hb dX7_readText_1 (by decide +kernel) ?_
  refine xpf (ty := .int) (v := .int (0 : Int32)) (C := RX7) (T := TX7) (N := 13) hx hb hts (fun _ h9 => List.mem_cons_of_mem _ (List.mem_append_right _ h9)) tyX7 tyX7_ok nmX7 hown hE hP hD hS 0 rfl rfl 8 (by decide) (hts (.fieldLink RX7 135 "ShadowTableModel" "place" "I") (List.mem_of_getElem? (i := 1) rfl)) rfl rfl (by decide +kernel) rfl rfl (Nat.le_of_ble_eq_true rfl) [(h0, .inr (7, [.ref h1, .ref w1, .int w2, .ref w3, .int w4, .ref w5, .ref h2, .int τ.2.2.1, .int (0 : Int32), .int τ.2.2.2.2.1, .int τ.2.2.2.2.2.1, .int τ.2.2.2.2.2.2.1, .int τ.2.2.2.2.2.2.2])), (h1, .inl (cI, 163, .inl τ.1)), (h2, .inl (cI, 80, .inl τ.2.1))] rfl dX7_readText_2 (fun H locs hP hD hS => ?_)
  refine lv_aload_n hx hb dX7_readText_5 rfl (lv_at hl 0 rfl) ?_
  refine lv_iconst (v := (0 : Int32)) hx hb dX7_readText_6 (by decide +kernel) ?_
  refine xpf (ty := .int) (v := .int (0 : Int32)) (C := RX7) (T := TX7) (N := 13) hx hb hts (fun _ h9 => List.mem_cons_of_mem _ (List.mem_append_right _ h9)) tyX7 tyX7_ok nmX7 hown hE hP hD hS 0 rfl rfl 12 (by decide) (hts (.fieldLink RX7 156 "ShadowTableModel" "carriedOut" "I") (List.mem_of_getElem? (i := 2) rfl)) rfl rfl (by decide +kernel) rfl rfl (Nat.le_of_ble_eq_true rfl) [(h0, .inr (7, [.ref h1, .ref w1, .int w2, .ref w3, .int w4, .ref w5, .ref h2, .int τ.2.2.1, .int (0 : Int32), .int τ.2.2.2.2.1, .int τ.2.2.2.2.2.1, .int τ.2.2.2.2.2.2.1, .int (0 : Int32)])), (h1, .inl (cI, 163, .inl τ.1)), (h2, .inl (cI, 80, .inl τ.2.1))] rfl dX7_readText_7 (fun H locs hP hD hS => ?_)
  refine lv_aload_n hx hb dX7_readText_10 rfl (lv_at hl 0 rfl) ?_
  refine cIV ⟨hx, hb, hml, hown, hts⟩ (kX7_readOrder l D cI cS h0 h2 h1 w1 w2 w3 w4 w5 (0 : Int32) (τ.2.1, τ.2.2.1, (0 : Int32), τ.2.2.2.2.1, τ.2.2.2.2.2.1, τ.2.2.2.2.2.2.1) (And.intro hlb zz_b0) (zz_0le _)) (cwV 0 hts gX7_readText_X7_readOrder rfl rfl rfl (by decide +kernel) ⟨Nat.le_of_ble_eq_true rfl, Nat.le_of_ble_eq_true rfl⟩) hE hP hD hS 0 rfl rfl [0, 2] rfl (by decide) (fun _ => rfl) rfl hl.1 rfl (Nat.le_of_ble_eq_true rfl) ⟨Nat.zero_le _, Nat.zero_le _⟩ dX7_readText_11 (fun r_11 u_11 H locs e_11 hP hD hS => ?_)
  have hP : va_P D vwCl [(h0, .inr (7, [.ref h1, .ref w1, .int w2, .ref w3, .int w4, .ref w5, .ref h2, .int u_11.2.1, .int u_11.2.2.1, .int u_11.2.2.2.1, .int u_11.2.2.2.2.1, .int u_11.2.2.2.2.2, .int (0 : Int32)])), (h1, .inl (cI, 163, .inl τ.1)), (h2, .inl (cI, 80, .inl u_11.1))] H := hP
  have hD : va_D A [(h0, .inr (7, [.ref h1, .ref w1, .int w2, .ref w3, .int w4, .ref w5, .ref h2, .int u_11.2.1, .int u_11.2.2.1, .int u_11.2.2.2.1, .int u_11.2.2.2.2.1, .int u_11.2.2.2.2.2, .int (0 : Int32)])), (h1, .inl (cI, 163, .inl τ.1)), (h2, .inl (cI, 80, .inl u_11.1))] := hD
  refine lv_istore_n (lv' := [(2, .int r_11), (0, .ref h0), (1, .int p0)]) hx hb dX7_readText_14 rfl hl (by decide) rfl (fun ls hl => ?_)
  exact loop_15 83 r_11 (τ.1, u_11.1, u_11.2.1, u_11.2.2.1, u_11.2.2.2.1, u_11.2.2.2.2.1, u_11.2.2.2.2.2, (0 : Int32)) (by omega) (zz_ro_P e_11 (And.intro hlb (And.intro zz_b00 (zz_0le _)))) (fun c => zz_ro_V e_11 (And.intro hlb (And.intro zz_b00 (zz_0le _))) c) (And.intro (fun _ => by omega) (by omega)) (fX7_readText_p10 p0 τ r_11 u_11 e_11) _ _ hP hD hS _ (lv_sub hl [1, 2, 0] rfl)

theorem rt0 : ∀ (n : Nat) (x : Int32) (σ : MXT), WP σ.2.2.1 σ.2.2.2.1 → (fX7_readText_15 (0 : Int32) n x σ).2.1 = σ.1 ∧ (fX7_readText_15 (0 : Int32) n x σ).2.2.2.1 = σ.2.2.1
  | 0, _, _, _ => ⟨rfl, rfl⟩
  | n + 1, x, σ, h => by
    unfold fX7_readText_15
    by_cases c : x = (0 : Int32)
    · rw [if_pos c]; exact ⟨rfl, rfl⟩
    · rw [if_neg c, if_pos (rfl : (0 : Int32) = (0 : Int32))]
      by_cases c2 : σ.2.2.2.1 = σ.2.2.1
      · rw [if_pos c2]; exact ⟨rfl, rfl⟩
      · rw [if_neg c2]
        generalize e1 : fX7_takes _ _ = q1
        obtain ⟨r1, u1⟩ := q1
        have g1 := tk_RN e1 (show WT (σ.2.1, σ.2.2.1, σ.2.2.2.1, σ.2.2.2.2.1, σ.2.2.2.2.2.1, σ.2.2.2.2.2.2.1) from zz_WPT h)
        have p1 : WP u1.2.1 u1.2.2.1 := g1.1.WP h
        have l1 : u1.2.1 = σ.2.2.1 := g1.1.2.1
        dsimp only
        by_cases d1 : r1 = (0 : Int32)
        · rw [if_pos d1]
          have k := rt0 n (0 : Int32) (σ.1, u1.1, u1.2.1, u1.2.2.1, u1.2.2.2.1, u1.2.2.2.2.1, u1.2.2.2.2.2, (σ.2.2.2.2.2.2.2 + (1 : Int32))) p1
          exact ⟨k.1, k.2.trans l1⟩
        · rw [if_neg d1]
          generalize e2 : fX7_readOrder _ = q2
          obtain ⟨r2, u2⟩ := q2
          have g2 := ro_RN e2 p1
          have p2 : WP u2.2.1 u2.2.2.1 := g2.WP p1
          have l2 : u2.2.1 = σ.2.2.1 := g2.2.1.trans l1
          dsimp only
          by_cases d2 : r2 = (0 : Int32)
          · rw [if_pos d2]
            have k := rt0 n (0 : Int32) (σ.1, u2.1, u2.2.1, u2.2.2.1, u2.2.2.2.1, u2.2.2.2.2.1, u2.2.2.2.2.2, (σ.2.2.2.2.2.2.2 + (1 : Int32))) p2
            exact ⟨k.1, k.2.trans l2⟩
          · rw [if_neg d2]
            have k := rt0 n (1 : Int32) (σ.1, u2.1, u2.2.1, u2.2.2.1, u2.2.2.2.1, u2.2.2.2.2.1, u2.2.2.2.2.2, (σ.2.2.2.2.2.2.2 + (1 : Int32))) p2
            exact ⟨k.1, k.2.trans l2⟩
theorem rt0_all (τ : MXT) (hlb : Bd τ.2.2.1 80) : (fX7_readText (0 : Int32) τ).2.1 = τ.1 ∧ (fX7_readText (0 : Int32) τ).2.2.2.1 = τ.2.2.1 := by
  unfold fX7_readText
  have h0 : WP τ.2.2.1 (0 : Int32) := And.intro hlb (And.intro zz_b00 (zz_0le _))
  generalize e2 : fX7_readOrder _ = q2
  obtain ⟨r2, u2⟩ := q2
  have g2 := ro_RN e2 h0
  have p2 : WP u2.2.1 u2.2.2.1 := g2.WP h0
  have l2 : u2.2.1 = τ.2.2.1 := g2.2.1
  have k := rt0 83 r2 (τ.1, u2.1, u2.2.1, u2.2.2.1, u2.2.2.2.1, u2.2.2.2.2.1, u2.2.2.2.2.2, (0 : Int32)) p2
  exact ⟨k.1, k.2.trans l2⟩
theorem zz_rt_WM {r : Int32} {τ u : MXT} (e : fX7_readText (0 : Int32) τ = (r, u)) (hm : WM τ.1) (hlb : Bd τ.2.2.1 80) : WM u.1 := by
  have h := (rt0_all τ hlb).1
  rw [e] at h
  rw [show u.1 = τ.1 from h]
  exact hm
theorem zz_rt_len {r : Int32} {τ u : MXT} (e : fX7_readText (0 : Int32) τ = (r, u)) (hlb : Bd τ.2.2.1 80) : Bd u.2.2.1 80 := by
  have h := (rt0_all τ hlb).2
  rw [e] at h
  rw [show u.2.2.1 = τ.2.2.1 from h]
  exact hlb

def fX7_fault (τ : MXT) : Int32 × MXT := (match (fX7_readText (0 : Int32) τ) with | (r_2, u_2) => (if r_2 = (0 : Int32) then (u_2.2.2.2.1, u_2) else ((-5 : Int32), u_2)))
theorem fX7_fault_p0 (τ : MXT) (r_2 : Int32) (u_2 : MXT) (e_2 : (fX7_readText (0 : Int32) τ) = (r_2, u_2)) (c_5 : r_2 = (0 : Int32)) : (fX7_fault τ) = (u_2.2.2.2.1, u_2) := by
  simp only [fX7_fault, e_2, if_pos c_5]
theorem fX7_fault_p1 (τ : MXT) (r_2 : Int32) (u_2 : MXT) (e_2 : (fX7_readText (0 : Int32) τ) = (r_2, u_2)) (c_5 : ¬ r_2 = (0 : Int32)) : (fX7_fault τ) = ((-5 : Int32), u_2) := by
  simp only [fX7_fault, e_2, if_neg c_5]
set_option maxHeartbeats 4000000 in
set_option maxRecDepth 100000 in
theorem kX7_fault (l : Launch) (D : va_G) (cI cS : ClassId) (h0 h1 h2 : Nat) (w1 : Nat) (w2 : Int32) (w3 : Nat) (w4 : Int32) (w5 : Nat) (τ : MXT) (hm : WM τ.1) (hlb : Bd τ.2.2.1 80) : KI l yX7_fault wsX7_fault { frames := 7, cells := 0, slots := 0, locals := 150 } D (tysA cI cS) [.ref h0] [(h0, .inr (7, [.ref h1, .ref w1, .int w2, .ref w3, .int w4, .ref w5, .ref h2, .int τ.2.2.1, .int τ.2.2.2.1, .int τ.2.2.2.2.1, .int τ.2.2.2.2.2.1, .int τ.2.2.2.2.2.2.1, .int τ.2.2.2.2.2.2.2])), (h1, .inl (cI, 163, .inl τ.1)), (h2, .inl (cI, 80, .inl τ.2.1))] (fX7_fault τ) (fun u => [(h0, .inr (7, [.ref h1, .ref w1, .int w2, .ref w3, .int w4, .ref w5, .ref h2, .int u.2.2.1, .int u.2.2.2.1, .int u.2.2.2.2.1, .int u.2.2.2.2.2.1, .int u.2.2.2.2.2.2.1, .int u.2.2.2.2.2.2.2])), (h1, .inl (cI, 163, .inl u.1)), (h2, .inl (cI, 80, .inl u.2.1))]) := by
  refine KI.of (cc := cX7_fault) (maxL := 1) (ty := .int) (by decide) rfl (Nat.le_of_ble_eq_true rfl) rfl (fun p e s m args below meth c ls Q A hx hb hml hown hts hE hP hD hS hl hend => ?_)
  have hown : s.vm.findClass RX7 = some m.cls := hown
  have hl : lv_has ls 1 [(0, .ref h0)] := hl
  refine lv_aload_n hx hb dX7_fault_0 rfl (lv_at hl 0 rfl) ?_
  refine lv_iconst (v := (0 : Int32)) hx hb dX7_fault_1 (by decide +kernel) ?_
  refine cIV ⟨hx, hb, hml, hown, hts⟩ (kX7_readText l D cI cS h0 h1 h2 w1 w2 w3 w4 w5 (0 : Int32) τ hm hlb) (cwV 1 hts gX7_fault_X7_readText rfl rfl rfl (by decide +kernel) ⟨Nat.le_of_ble_eq_true rfl, Nat.le_of_ble_eq_true rfl⟩) hE hP hD hS 0 rfl rfl [0, 1, 2] rfl (by decide) (fun _ => rfl) rfl hl.1 rfl (Nat.le_of_ble_eq_true rfl) ⟨Nat.zero_le _, Nat.zero_le _⟩ dX7_fault_2 (fun r_2 u_2 H locs e_2 hP hD hS => ?_)
  have hP : va_P D vwCl [(h0, .inr (7, [.ref h1, .ref w1, .int w2, .ref w3, .int w4, .ref w5, .ref h2, .int u_2.2.2.1, .int u_2.2.2.2.1, .int u_2.2.2.2.2.1, .int u_2.2.2.2.2.2.1, .int u_2.2.2.2.2.2.2.1, .int u_2.2.2.2.2.2.2.2])), (h1, .inl (cI, 163, .inl u_2.1)), (h2, .inl (cI, 80, .inl u_2.2.1))] H := hP
  have hD : va_D A [(h0, .inr (7, [.ref h1, .ref w1, .int w2, .ref w3, .int w4, .ref w5, .ref h2, .int u_2.2.2.1, .int u_2.2.2.2.1, .int u_2.2.2.2.2.1, .int u_2.2.2.2.2.2.1, .int u_2.2.2.2.2.2.2.1, .int u_2.2.2.2.2.2.2.2])), (h1, .inl (cI, 163, .inl u_2.1)), (h2, .inl (cI, 80, .inl u_2.2.1))] := hD
  refine lv_if_eq (tgt := 13) hx hb dX7_fault_5 (by decide) (fun c_5 => ?_) (fun c_5 => ?_)
  · refine lv_aload_n hx hb dX7_fault_13 rfl (lv_at hl 0 rfl) ?_
    refine va_get (D := D) (ci := 7) (v := .int u_2.2.2.2.1) (C := RX7) (T := TX7) (N := 13) hx hb hts (fun _ h9 => List.mem_cons_of_mem _ (List.mem_append_right _ h9)) hown hE.1 hP 0 rfl rfl 8 (by decide) (hts (.fieldLink RX7 135 "ShadowTableModel" "place" "I") (List.mem_of_getElem? (i := 1) rfl)) (fun _ h9 => h9) rfl dX7_fault_14 ?_
    exact hend _ _ _ _ _ _ dX7_fault_17 rfl (fX7_fault_p0 τ r_2 u_2 e_2 c_5) hP hS
  · refine lv_bipush (v := (-5 : Int32)) hx hb dX7_fault_8 (by decide +kernel) ?_
    refine lv_goto (tgt := 17) hx hb dX7_fault_10 (by decide) ?_
    exact hend _ _ _ _ _ _ dX7_fault_17 rfl (fX7_fault_p1 τ r_2 u_2 e_2 c_5) hP hS

def fX7_run (τ : MRT) : Int32 × MRT := (match (fX7_readText (0 : Int32) (τ.1, τ.2.2.2.1, τ.2.2.2.2.1, τ.2.2.2.2.2.1, τ.2.2.2.2.2.2.1, τ.2.2.2.2.2.2.2.1, τ.2.2.2.2.2.2.2.2.1, τ.2.2.2.2.2.2.2.2.2)) with | (r_2, u_2) => (if r_2 = (0 : Int32) then (((-100 : Int32) - u_2.2.2.2.1), (u_2.1, τ.2.1, τ.2.2.1, u_2.2.1, u_2.2.2.1, u_2.2.2.2.1, u_2.2.2.2.2.1, u_2.2.2.2.2.2.1, u_2.2.2.2.2.2.2.1, u_2.2.2.2.2.2.2.2)) else (let u_17 := (fX7_record (u_2.1, τ.2.1, τ.2.2.1)); (match (fX7_readText (1 : Int32) (u_17.1, u_2.2.1, u_2.2.2.1, u_2.2.2.2.1, u_2.2.2.2.2.1, u_2.2.2.2.2.2.1, u_2.2.2.2.2.2.2.1, u_2.2.2.2.2.2.2.2)) with | (r_22, u_22) => (if r_22 = (0 : Int32) then ((0 : Int32), (u_22.1, u_17.2.1, u_17.2.2, u_22.2.1, u_22.2.2.1, u_22.2.2.2.1, u_22.2.2.2.2.1, u_22.2.2.2.2.2.1, u_22.2.2.2.2.2.2.1, u_22.2.2.2.2.2.2.2)) else (u_22.2.2.2.2.2.2.2, (u_22.1, u_17.2.1, u_17.2.2, u_22.2.1, u_22.2.2.1, u_22.2.2.2.1, u_22.2.2.2.2.1, u_22.2.2.2.2.2.1, u_22.2.2.2.2.2.2.1, u_22.2.2.2.2.2.2.2)))))))
theorem fX7_run_p0 (τ : MRT) (r_2 : Int32) (u_2 : MXT) (e_2 : (fX7_readText (0 : Int32) (τ.1, τ.2.2.2.1, τ.2.2.2.2.1, τ.2.2.2.2.2.1, τ.2.2.2.2.2.2.1, τ.2.2.2.2.2.2.2.1, τ.2.2.2.2.2.2.2.2.1, τ.2.2.2.2.2.2.2.2.2)) = (r_2, u_2)) (c_5 : ¬ r_2 = (0 : Int32)) (u_17 : MHT) (e_17 : (fX7_record (u_2.1, τ.2.1, τ.2.2.1)) = u_17) (r_22 : Int32) (u_22 : MXT) (e_22 : (fX7_readText (1 : Int32) (u_17.1, u_2.2.1, u_2.2.2.1, u_2.2.2.2.1, u_2.2.2.2.2.1, u_2.2.2.2.2.2.1, u_2.2.2.2.2.2.2.1, u_2.2.2.2.2.2.2.2)) = (r_22, u_22)) (c_25 : r_22 = (0 : Int32)) : (fX7_run τ) = ((0 : Int32), (u_22.1, u_17.2.1, u_17.2.2, u_22.2.1, u_22.2.2.1, u_22.2.2.2.1, u_22.2.2.2.2.1, u_22.2.2.2.2.2.1, u_22.2.2.2.2.2.2.1, u_22.2.2.2.2.2.2.2)) := by
  simp only [fX7_run, e_2, if_neg c_5, e_17, e_22, if_pos c_25]
theorem fX7_run_p1 (τ : MRT) (r_2 : Int32) (u_2 : MXT) (e_2 : (fX7_readText (0 : Int32) (τ.1, τ.2.2.2.1, τ.2.2.2.2.1, τ.2.2.2.2.2.1, τ.2.2.2.2.2.2.1, τ.2.2.2.2.2.2.2.1, τ.2.2.2.2.2.2.2.2.1, τ.2.2.2.2.2.2.2.2.2)) = (r_2, u_2)) (c_5 : ¬ r_2 = (0 : Int32)) (u_17 : MHT) (e_17 : (fX7_record (u_2.1, τ.2.1, τ.2.2.1)) = u_17) (r_22 : Int32) (u_22 : MXT) (e_22 : (fX7_readText (1 : Int32) (u_17.1, u_2.2.1, u_2.2.2.1, u_2.2.2.2.1, u_2.2.2.2.2.1, u_2.2.2.2.2.2.1, u_2.2.2.2.2.2.2.1, u_2.2.2.2.2.2.2.2)) = (r_22, u_22)) (c_25 : ¬ r_22 = (0 : Int32)) : (fX7_run τ) = (u_22.2.2.2.2.2.2.2, (u_22.1, u_17.2.1, u_17.2.2, u_22.2.1, u_22.2.2.1, u_22.2.2.2.1, u_22.2.2.2.2.1, u_22.2.2.2.2.2.1, u_22.2.2.2.2.2.2.1, u_22.2.2.2.2.2.2.2)) := by
  simp only [fX7_run, e_2, if_neg c_5, e_17, e_22, if_neg c_25]
theorem fX7_run_p2 (τ : MRT) (r_2 : Int32) (u_2 : MXT) (e_2 : (fX7_readText (0 : Int32) (τ.1, τ.2.2.2.1, τ.2.2.2.2.1, τ.2.2.2.2.2.1, τ.2.2.2.2.2.2.1, τ.2.2.2.2.2.2.2.1, τ.2.2.2.2.2.2.2.2.1, τ.2.2.2.2.2.2.2.2.2)) = (r_2, u_2)) (c_5 : r_2 = (0 : Int32)) : (fX7_run τ) = (((-100 : Int32) - u_2.2.2.2.1), (u_2.1, τ.2.1, τ.2.2.1, u_2.2.1, u_2.2.2.1, u_2.2.2.2.1, u_2.2.2.2.2.1, u_2.2.2.2.2.2.1, u_2.2.2.2.2.2.2.1, u_2.2.2.2.2.2.2.2)) := by
  simp only [fX7_run, e_2, if_pos c_5]
set_option maxHeartbeats 4000000 in
set_option maxRecDepth 100000 in
theorem kX7_run (l : Launch) (D : va_G) (cI cS : ClassId) (h0 h1 h2 h3 : Nat) (w3 : Nat) (w4 : Int32) (w5 : Nat) (τ : MRT) (hm : WM τ.1) (hkp : Bd τ.2.2.1 5) (hlb : Bd τ.2.2.2.2.1 80) : KI l yX7_run wsX7_run { frames := 7, cells := 0, slots := 0, locals := 150 } D (tysA cI cS) [.ref h0] [(h0, .inr (7, [.ref h1, .ref h2, .int τ.2.2.1, .ref w3, .int w4, .ref w5, .ref h3, .int τ.2.2.2.2.1, .int τ.2.2.2.2.2.1, .int τ.2.2.2.2.2.2.1, .int τ.2.2.2.2.2.2.2.1, .int τ.2.2.2.2.2.2.2.2.1, .int τ.2.2.2.2.2.2.2.2.2])), (h1, .inl (cI, 163, .inl τ.1)), (h2, .inl (cI, 815, .inl τ.2.1)), (h3, .inl (cI, 80, .inl τ.2.2.2.1))] (fX7_run τ) (fun u => [(h0, .inr (7, [.ref h1, .ref h2, .int u.2.2.1, .ref w3, .int w4, .ref w5, .ref h3, .int u.2.2.2.2.1, .int u.2.2.2.2.2.1, .int u.2.2.2.2.2.2.1, .int u.2.2.2.2.2.2.2.1, .int u.2.2.2.2.2.2.2.2.1, .int u.2.2.2.2.2.2.2.2.2])), (h1, .inl (cI, 163, .inl u.1)), (h2, .inl (cI, 815, .inl u.2.1)), (h3, .inl (cI, 80, .inl u.2.2.2.1))]) := by
  refine KI.of (cc := cX7_run) (maxL := 1) (ty := .int) (by decide) rfl (Nat.le_of_ble_eq_true rfl) rfl (fun p e s m args below meth c ls Q A hx hb hml hown hts hE hP hD hS hl hend => ?_)
  have hown : s.vm.findClass RX7 = some m.cls := hown
  have hl : lv_has ls 1 [(0, .ref h0)] := hl
  refine lv_aload_n hx hb dX7_run_0 rfl (lv_at hl 0 rfl) ?_
  refine lv_iconst (v := (0 : Int32)) hx hb dX7_run_1 (by decide +kernel) ?_
  refine cIV ⟨hx, hb, hml, hown, hts⟩ (kX7_readText l D cI cS h0 h1 h3 h2 τ.2.2.1 w3 w4 w5 (0 : Int32) (τ.1, τ.2.2.2.1, τ.2.2.2.2.1, τ.2.2.2.2.2.1, τ.2.2.2.2.2.2.1, τ.2.2.2.2.2.2.2.1, τ.2.2.2.2.2.2.2.2.1, τ.2.2.2.2.2.2.2.2.2) hm hlb) (cwV 1 hts gX7_run_X7_readText rfl rfl rfl (by decide +kernel) ⟨Nat.le_of_ble_eq_true rfl, Nat.le_of_ble_eq_true rfl⟩) hE hP hD hS 0 rfl rfl [0, 1, 3] rfl (by decide) (fun _ => rfl) rfl hl.1 rfl (Nat.le_of_ble_eq_true rfl) ⟨Nat.zero_le _, Nat.zero_le _⟩ dX7_run_2 (fun r_2 u_2 H locs e_2 hP hD hS => ?_)
  have hP : va_P D vwCl [(h0, .inr (7, [.ref h1, .ref h2, .int τ.2.2.1, .ref w3, .int w4, .ref w5, .ref h3, .int u_2.2.2.1, .int u_2.2.2.2.1, .int u_2.2.2.2.2.1, .int u_2.2.2.2.2.2.1, .int u_2.2.2.2.2.2.2.1, .int u_2.2.2.2.2.2.2.2])), (h1, .inl (cI, 163, .inl u_2.1)), (h2, .inl (cI, 815, .inl τ.2.1)), (h3, .inl (cI, 80, .inl u_2.2.1))] H := hP
  have hD : va_D A [(h0, .inr (7, [.ref h1, .ref h2, .int τ.2.2.1, .ref w3, .int w4, .ref w5, .ref h3, .int u_2.2.2.1, .int u_2.2.2.2.1, .int u_2.2.2.2.2.1, .int u_2.2.2.2.2.2.1, .int u_2.2.2.2.2.2.2.1, .int u_2.2.2.2.2.2.2.2])), (h1, .inl (cI, 163, .inl u_2.1)), (h2, .inl (cI, 815, .inl τ.2.1)), (h3, .inl (cI, 80, .inl u_2.2.1))] := hD
  refine lv_if_ne (tgt := 16) hx hb dX7_run_5 (by decide) (fun c_5 => ?_) (fun c_5 => ?_)
  · refine lv_aload_n hx hb dX7_run_16 rfl (lv_at hl 0 rfl) ?_
    refine cVV ⟨hx, hb, hml, hown, hts⟩ (kX7_record l D cI cS h0 h1 h2 w3 w4 w5 h3 u_2.2.2.1 u_2.2.2.2.1 u_2.2.2.2.2.1 u_2.2.2.2.2.2.1 u_2.2.2.2.2.2.2.1 u_2.2.2.2.2.2.2.2 (u_2.1, τ.2.1, τ.2.2.1) hkp) (cwV 0 hts gX7_run_X7_record rfl rfl rfl (by decide +kernel) ⟨Nat.le_of_ble_eq_true rfl, Nat.le_of_ble_eq_true rfl⟩) hE hP hD hS 0 rfl rfl [0, 1, 2] rfl (by decide) (fun _ => rfl) rfl hl.1 rfl (Nat.le_of_ble_eq_true rfl) ⟨Nat.zero_le _, Nat.zero_le _⟩ dX7_run_17 (fun u_17 H locs e_17 hP hD hS => ?_)
    have hP : va_P D vwCl [(h0, .inr (7, [.ref h1, .ref h2, .int u_17.2.2, .ref w3, .int w4, .ref w5, .ref h3, .int u_2.2.2.1, .int u_2.2.2.2.1, .int u_2.2.2.2.2.1, .int u_2.2.2.2.2.2.1, .int u_2.2.2.2.2.2.2.1, .int u_2.2.2.2.2.2.2.2])), (h1, .inl (cI, 163, .inl u_17.1)), (h2, .inl (cI, 815, .inl u_17.2.1)), (h3, .inl (cI, 80, .inl u_2.2.1))] H := hP
    have hD : va_D A [(h0, .inr (7, [.ref h1, .ref h2, .int u_17.2.2, .ref w3, .int w4, .ref w5, .ref h3, .int u_2.2.2.1, .int u_2.2.2.2.1, .int u_2.2.2.2.2.1, .int u_2.2.2.2.2.2.1, .int u_2.2.2.2.2.2.2.1, .int u_2.2.2.2.2.2.2.2])), (h1, .inl (cI, 163, .inl u_17.1)), (h2, .inl (cI, 815, .inl u_17.2.1)), (h3, .inl (cI, 80, .inl u_2.2.1))] := hD
    refine lv_aload_n hx hb dX7_run_20 rfl (lv_at hl 0 rfl) ?_
    refine lv_iconst (v := (1 : Int32)) hx hb dX7_run_21 (by decide +kernel) ?_
    refine cIV ⟨hx, hb, hml, hown, hts⟩ (kX7_readText l D cI cS h0 h1 h3 h2 u_17.2.2 w3 w4 w5 (1 : Int32) (u_17.1, u_2.2.1, u_2.2.2.1, u_2.2.2.2.1, u_2.2.2.2.2.1, u_2.2.2.2.2.2.1, u_2.2.2.2.2.2.2.1, u_2.2.2.2.2.2.2.2) (zz_WM_rec e_17 (zz_rt_WM e_2 hm hlb)) (zz_rt_len e_2 hlb)) (cwV 1 hts gX7_run_X7_readText rfl rfl rfl (by decide +kernel) ⟨Nat.le_of_ble_eq_true rfl, Nat.le_of_ble_eq_true rfl⟩) hE hP hD hS 0 rfl rfl [0, 1, 3] rfl (by decide) (fun _ => rfl) rfl hl.1 rfl (Nat.le_of_ble_eq_true rfl) ⟨Nat.zero_le _, Nat.zero_le _⟩ dX7_run_22 (fun r_22 u_22 H locs e_22 hP hD hS => ?_)
    have hP : va_P D vwCl [(h0, .inr (7, [.ref h1, .ref h2, .int u_17.2.2, .ref w3, .int w4, .ref w5, .ref h3, .int u_22.2.2.1, .int u_22.2.2.2.1, .int u_22.2.2.2.2.1, .int u_22.2.2.2.2.2.1, .int u_22.2.2.2.2.2.2.1, .int u_22.2.2.2.2.2.2.2])), (h1, .inl (cI, 163, .inl u_22.1)), (h2, .inl (cI, 815, .inl u_17.2.1)), (h3, .inl (cI, 80, .inl u_22.2.1))] H := hP
    have hD : va_D A [(h0, .inr (7, [.ref h1, .ref h2, .int u_17.2.2, .ref w3, .int w4, .ref w5, .ref h3, .int u_22.2.2.1, .int u_22.2.2.2.1, .int u_22.2.2.2.2.1, .int u_22.2.2.2.2.2.1, .int u_22.2.2.2.2.2.2.1, .int u_22.2.2.2.2.2.2.2])), (h1, .inl (cI, 163, .inl u_22.1)), (h2, .inl (cI, 815, .inl u_17.2.1)), (h3, .inl (cI, 80, .inl u_22.2.1))] := hD
    refine lv_if_eq (tgt := 35) hx hb dX7_run_25 (by decide) (fun c_25 => ?_) (fun c_25 => ?_)
    · refine lv_iconst (v := (0 : Int32)) hx hb dX7_run_35 (by decide +kernel) ?_
      exact hend _ _ _ _ _ _ dX7_run_36 rfl (fX7_run_p0 τ r_2 u_2 e_2 c_5 u_17 e_17 r_22 u_22 e_22 c_25) hP hS
    · refine lv_aload_n hx hb dX7_run_28 rfl (lv_at hl 0 rfl) ?_
      refine va_get (D := D) (ci := 7) (v := .int u_22.2.2.2.2.2.2.2) (C := RX7) (T := TX7) (N := 13) hx hb hts (fun _ h9 => List.mem_cons_of_mem _ (List.mem_append_right _ h9)) hown hE.1 hP 0 rfl rfl 12 (by decide) (hts (.fieldLink RX7 156 "ShadowTableModel" "carriedOut" "I") (List.mem_of_getElem? (i := 2) rfl)) (fun _ h9 => h9) rfl dX7_run_29 ?_
      refine lv_goto (tgt := 36) hx hb dX7_run_32 (by decide) ?_
      exact hend _ _ _ _ _ _ dX7_run_36 rfl (fX7_run_p1 τ r_2 u_2 e_2 c_5 u_17 e_17 r_22 u_22 e_22 c_25) hP hS
  · refine lv_bipush (v := (-100 : Int32)) hx hb dX7_run_8 (by decide +kernel) ?_
    refine lv_aload_n hx hb dX7_run_10 rfl (lv_at hl 0 rfl) ?_
    refine va_get (D := D) (ci := 7) (v := .int u_2.2.2.2.1) (C := RX7) (T := TX7) (N := 13) hx hb hts (fun _ h9 => List.mem_cons_of_mem _ (List.mem_append_right _ h9)) hown hE.1 hP 0 rfl rfl 8 (by decide) (hts (.fieldLink RX7 135 "ShadowTableModel" "place" "I") (List.mem_of_getElem? (i := 1) rfl)) (fun _ h9 => h9) rfl dX7_run_11 ?_
    refine lv_isub hx hb dX7_run_14 ?_
    exact hend _ _ _ _ _ _ dX7_run_15 rfl (fX7_run_p2 τ r_2 u_2 e_2 c_5) hP hS
