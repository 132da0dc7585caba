theorem zz_kU {x : Int32} (h : Bd x 5) (c : ¬ x = (0 : Int32)) : Bd ((163 : Int32) * (x - (1 : Int32))) 652 ∧ ((163 : Int32) * (x - (1 : Int32))).toNatClampNeg + 163 ≤ 815 := by
  obtain ⟨j, hj, rfl⟩ := h.num
  cases j with
  | zero => exact absurd rfl c
  | succ j => rw [nI_pred]; exact zz_k163 (by omega)
theorem zz_200 : Bd (200 : Int32) 200 := Bd.of (j := 200) (by omega) (by omega)
/-- the reference's text: its length, and its place -/
def WT (τ : MTT) : Prop := Bd τ.2.1 80 ∧ Bd τ.2.2.1 81
def WP (len place : Int32) : Prop := Bd len 80 ∧ Bd place 80 ∧ place.toNatClampNeg ≤ len.toNatClampNeg
theorem zz_WPT {τ : MTT} (h : WP τ.2.1 τ.2.2.1) : WT τ := And.intro h.1 (h.2.1.mono (by omega))
theorem bd_lt {x y : Int32} {N M : Nat} (hx : Bd x N) (hy : Bd y M) (hN : N < 2 ^ 31) (hM : M < 2 ^ 31) (c : ¬ x ≤ y) : y.toNatClampNeg < x.toNatClampNeg := by
  obtain ⟨i, hi, rfl⟩ := hx.num
  obtain ⟨j, hj, rfl⟩ := hy.num
  rw [nI_clamp (by omega), nI_clamp (by omega)]
  exact Nat.lt_of_not_le (fun q => c (nI_le q (by omega)))
theorem bd_inc {x : Int32} {N M : Nat} (hx : Bd x N) (h : x.toNatClampNeg < M) (hM : M < 2 ^ 31) (hN : N < 2 ^ 31) : Bd (x + (1 : Int32)) M ∧ (x + (1 : Int32)).toNatClampNeg = x.toNatClampNeg + 1 := by
  obtain ⟨i, hi, rfl⟩ := hx.num
  rw [nI_clamp (by omega)] at h
  rw [nI_1, nI_clamp (by omega), nI_clamp (by omega)]
  exact ⟨Bd.of (by omega) hM, rfl⟩
theorem zz_pl {τ : MTT} (ht : WT τ) (c : ¬ τ.2.1 ≤ τ.2.2.1) : vp_in τ.2.2.1 80 := by
  have h := bd_lt ht.1 ht.2 (by omega) (by omega) c
  have h2 := ht.1.2
  rw [ht.2.1]
  exact vp_in_nI (by omega) (by omega)
theorem zz_b0 : Bd (0 : Int32) 81 := Bd.of (j := 0) (by omega) (by omega)
theorem zz_b00 : Bd (0 : Int32) 80 := Bd.of (j := 0) (by omega) (by omega)
theorem zz_0le (n : Nat) : (0 : Int32).toNatClampNeg ≤ n := by rw [show (0 : Int32).toNatClampNeg = 0 from by decide]; exact Nat.zero_le n
theorem zz_WTs {τ : MTT} {t : FnI} {x y z : Int32} (ht : WT τ) (h : τ.2.2.1.toNatClampNeg ≤ τ.2.1.toNatClampNeg) : WT (t, τ.2.1, (τ.2.2.1 + (1 : Int32)), x, y, z) := by
  have h2 := ht.1.2
  exact And.intro ht.1 (bd_inc ht.2 (by omega) (by omega) (by omega)).1
/-- an order's number is in its range where the letter wants it -/
def VO (letter one : Int32) : Prop := (letter = 112 ∨ letter = 101 → Bd one 31) ∧ (¬ letter = 98 → ¬ letter = 101 → ¬ letter = 103 → ¬ letter = 108 → ¬ letter = 112 → ¬ letter = 115 → ¬ letter = 117 → Bd one 99)
def fX7_put (p0 : Int32) (p1 : Int32) (τ : MHT) : Int32 × MHT := (if (0 : Int32) ≤ (fX7_putError p0 p1 τ.1) then (let u_14 := (fX7_record τ); (match (fX7_doChange p0 p1 u_14.1) with | (r_20, u_20) => (r_20, (u_20, u_14.2.1, u_14.2.2)))) else ((fX7_putError p0 p1 τ.1), τ))
theorem fX7_put_p0 (p0 : Int32) (p1 : Int32) (τ : MHT) (c_8 : (0 : Int32) ≤ (fX7_putError p0 p1 τ.1)) (u_14 : MHT) (e_14 : (fX7_record τ) = u_14) (r_20 : Int32) (u_20 : FnI) (e_20 : (fX7_doChange p0 p1 u_14.1) = (r_20, u_20)) : (fX7_put p0 p1 τ) = (r_20, (u_20, u_14.2.1, u_14.2.2)) := by
  simp only [fX7_put, if_pos c_8, e_14, e_20]
theorem fX7_put_p1 (p0 : Int32) (p1 : Int32) (τ : MHT) (c_8 : ¬ (0 : Int32) ≤ (fX7_putError p0 p1 τ.1)) : (fX7_put p0 p1 τ) = ((fX7_putError p0 p1 τ.1), τ) := by
  simp only [fX7_put, if_neg c_8]
set_option maxHeartbeats 4000000 in
set_option maxRecDepth 100000 in
theorem kX7_put (l : Launch) (D : va_G) (cI cS : ClassId) (h0 h1 h2 : Nat) (w3 : Nat) (w4 : Int32) (w5 : Nat) (w6 : Nat) (w7 : Int32) (w8 : Int32) (w9 : Int32) (w10 : Int32) (w11 : Int32) (w12 : Int32) (p0 : Int32) (p1 : Int32) (τ : MHT) (hm : WM τ.1) (hkp : Bd τ.2.2 5) : KI l yX7_put wsX7_put { frames := 4, cells := 0, slots := 0, locals := 82 } D (tysA cI cS) [.ref h0, .int p0, .int p1] [(h0, .inr (7, [.ref h1, .ref h2, .int τ.2.2, .ref w3, .int w4, .ref w5, .ref w6, .int w7, .int w8, .int w9, .int w10, .int w11, .int w12])), (h1, .inl (cI, 163, .inl τ.1)), (h2, .inl (cI, 815, .inl τ.2.1))] (fX7_put p0 p1 τ) (fun u => [(h0, .inr (7, [.ref h1, .ref h2, .int u.2.2, .ref w3, .int w4, .ref w5, .ref w6, .int w7, .int w8, .int w9, .int w10, .int w11, .int w12])), (h1, .inl (cI, 163, .inl u.1)), (h2, .inl (cI, 815, .inl u.2.1))]) := by
  refine KI.of (cc := cX7_put) (maxL := 4) (ty := .int) (by decide) rfl (Nat.le_of_ble_eq_true rfl) rfl (fun p e s m args below meth c ls Q A hx hb hml hown hts hE hP hD hS hl hend => ?_)
  have hown : s.vm.findClass RX7 = some m.cls := hown
  have hl : lv_has ls 4 [(0, .ref h0), (1, .int p0), (2, .int p1)] := hl
  refine lv_aload_n hx hb dX7_put_0 rfl (lv_at hl 0 rfl) ?_
  refine lv_iload_n hx hb dX7_put_1 rfl (lv_at hl 1 rfl) ?_
  refine lv_iload_n hx hb dX7_put_2 rfl (lv_at hl 2 rfl) ?_
  refine cRV ⟨hx, hb, hml, hown, hts⟩ (kX7_putError l D cI cS h0 h1 h2 τ.2.2 w3 w4 w5 w6 w7 w8 w9 w10 w11 w12 p0 p1 τ.1) (cwV 2 hts gX7_put_X7_putError rfl rfl rfl (by decide +kernel) ⟨Nat.le_of_ble_eq_true rfl, Nat.le_of_ble_eq_true rfl⟩) hE hP 0 rfl rfl [0, 1] rfl rfl hl.1 rfl (Nat.le_of_ble_eq_true rfl) ⟨Nat.zero_le _, Nat.zero_le _⟩ dX7_put_3 ?_
  refine lv_istore_n (lv' := [(3, .int (fX7_putError p0 p1 τ.1)), (0, .ref h0), (1, .int p0), (2, .int p1)]) hx hb dX7_put_6 rfl hl (by decide) rfl (fun ls hl => ?_)
  refine lv_iload_n hx hb dX7_put_7 rfl (lv_at hl 0 rfl) ?_
  refine lv_if_ge (tgt := 13) hx hb dX7_put_8 (by decide) (fun c_8 => ?_) (fun c_8 => ?_)
  · refine lv_aload_n hx hb dX7_put_13 rfl (lv_at hl 1 rfl) ?_
    refine cVV ⟨hx, hb, hml, hown, hts⟩ (kX7_record l D cI cS h0 h1 h2 w3 w4 w5 w6 w7 w8 w9 w10 w11 w12 τ hkp) (cwV 0 hts gX7_put_X7_record rfl rfl rfl (by decide +kernel) ⟨Nat.le_of_ble_eq_true rfl, Nat.le_of_ble_eq_true rfl⟩) hE hP hD hS 0 rfl rfl [0, 1, 2] rfl (by decide) (fun _ => rfl) rfl hl.1 rfl (Nat.le_of_ble_eq_true rfl) ⟨Nat.zero_le _, Nat.zero_le _⟩ dX7_put_14 (fun u_14 H locs e_14 hP hD hS => ?_)
    have hP : va_P D vwCl [(h0, .inr (7, [.ref h1, .ref h2, .int u_14.2.2, .ref w3, .int w4, .ref w5, .ref w6, .int w7, .int w8, .int w9, .int w10, .int w11, .int w12])), (h1, .inl (cI, 163, .inl u_14.1)), (h2, .inl (cI, 815, .inl u_14.2.1))] H := hP
    have hD : va_D A [(h0, .inr (7, [.ref h1, .ref h2, .int u_14.2.2, .ref w3, .int w4, .ref w5, .ref w6, .int w7, .int w8, .int w9, .int w10, .int w11, .int w12])), (h1, .inl (cI, 163, .inl u_14.1)), (h2, .inl (cI, 815, .inl u_14.2.1))] := hD
    refine lv_aload_n hx hb dX7_put_17 rfl (lv_at hl 1 rfl) ?_
    refine lv_iload_n hx hb dX7_put_18 rfl (lv_at hl 2 rfl) ?_
    refine lv_iload_n hx hb dX7_put_19 rfl (lv_at hl 3 rfl) ?_
    refine cIV ⟨hx, hb, hml, hown, hts⟩ (kX7_doChange l D cI cS h0 h1 h2 u_14.2.2 w3 w4 w5 w6 w7 w8 w9 w10 w11 w12 p0 p1 u_14.1 (zz_WM_rec e_14 hm) (zz_pe c_8)) (cwV 2 hts gX7_put_X7_doChange rfl rfl rfl (by decide +kernel) ⟨Nat.le_of_ble_eq_true rfl, Nat.le_of_ble_eq_true rfl⟩) hE hP hD hS 0 rfl rfl [0, 1] rfl (by decide) (fun _ => rfl) rfl hl.1 rfl (Nat.le_of_ble_eq_true rfl) ⟨Nat.zero_le _, Nat.zero_le _⟩ dX7_put_20 (fun r_20 u_20 H locs e_20 hP hD hS => ?_)
    have hP : va_P D vwCl [(h0, .inr (7, [.ref h1, .ref h2, .int u_14.2.2, .ref w3, .int w4, .ref w5, .ref w6, .int w7, .int w8, .int w9, .int w10, .int w11, .int w12])), (h1, .inl (cI, 163, .inl u_20)), (h2, .inl (cI, 815, .inl u_14.2.1))] H := hP
    have hD : va_D A [(h0, .inr (7, [.ref h1, .ref h2, .int u_14.2.2, .ref w3, .int w4, .ref w5, .ref w6, .int w7, .int w8, .int w9, .int w10, .int w11, .int w12])), (h1, .inl (cI, 163, .inl u_20)), (h2, .inl (cI, 815, .inl u_14.2.1))] := hD
    exact hend _ _ _ _ _ _ dX7_put_23 rfl (fX7_put_p0 p0 p1 τ c_8 u_14 e_14 r_20 u_20 e_20) hP hS
  · refine lv_iload_n hx hb dX7_put_11 rfl (lv_at hl 0 rfl) ?_
    exact hend _ _ _ _ _ _ dX7_put_12 rfl (fX7_put_p1 p0 p1 τ c_8) hP hS

def fX7_erase (p0 : Int32) (τ : MHT) : Int32 × MHT := (if (0 : Int32) ≤ (fX7_eraseError p0 τ.1) then (let u_13 := (fX7_record τ); (match (fX7_doErase p0 u_13.1) with | (r_18, u_18) => (r_18, (u_18, u_13.2.1, u_13.2.2)))) else ((fX7_eraseError p0 τ.1), τ))
theorem fX7_erase_p0 (p0 : Int32) (τ : MHT) (c_7 : (0 : Int32) ≤ (fX7_eraseError p0 τ.1)) (u_13 : MHT) (e_13 : (fX7_record τ) = u_13) (r_18 : Int32) (u_18 : FnI) (e_18 : (fX7_doErase p0 u_13.1) = (r_18, u_18)) : (fX7_erase p0 τ) = (r_18, (u_18, u_13.2.1, u_13.2.2)) := by
  simp only [fX7_erase, if_pos c_7, e_13, e_18]
theorem fX7_erase_p1 (p0 : Int32) (τ : MHT) (c_7 : ¬ (0 : Int32) ≤ (fX7_eraseError p0 τ.1)) : (fX7_erase p0 τ) = ((fX7_eraseError p0 τ.1), τ) := by
  simp only [fX7_erase, if_neg c_7]
set_option maxHeartbeats 4000000 in
set_option maxRecDepth 100000 in
theorem kX7_erase (l : Launch) (D : va_G) (cI cS : ClassId) (h0 h1 h2 : Nat) (w3 : Nat) (w4 : Int32) (w5 : Nat) (w6 : Nat) (w7 : Int32) (w8 : Int32) (w9 : Int32) (w10 : Int32) (w11 : Int32) (w12 : Int32) (p0 : Int32) (τ : MHT) (hm : WM τ.1) (hkp : Bd τ.2.2 5) : KI l yX7_erase wsX7_erase { frames := 4, cells := 0, slots := 0, locals := 84 } D (tysA cI cS) [.ref h0, .int p0] [(h0, .inr (7, [.ref h1, .ref h2, .int τ.2.2, .ref w3, .int w4, .ref w5, .ref w6, .int w7, .int w8, .int w9, .int w10, .int w11, .int w12])), (h1, .inl (cI, 163, .inl τ.1)), (h2, .inl (cI, 815, .inl τ.2.1))] (fX7_erase p0 τ) (fun u => [(h0, .inr (7, [.ref h1, .ref h2, .int u.2.2, .ref w3, .int w4, .ref w5, .ref w6, .int w7, .int w8, .int w9, .int w10, .int w11, .int w12])), (h1, .inl (cI, 163, .inl u.1)), (h2, .inl (cI, 815, .inl u.2.1))]) := by
  refine KI.of (cc := cX7_erase) (maxL := 3) (ty := .int) (by decide) rfl (Nat.le_of_ble_eq_true rfl) rfl (fun p e s m args below meth c ls Q A hx hb hml hown hts hE hP hD hS hl hend => ?_)
  have hown : s.vm.findClass RX7 = some m.cls := hown
  have hl : lv_has ls 3 [(0, .ref h0), (1, .int p0)] := hl
  refine lv_aload_n hx hb dX7_erase_0 rfl (lv_at hl 0 rfl) ?_
  refine lv_iload_n hx hb dX7_erase_1 rfl (lv_at hl 1 rfl) ?_
  refine cRV ⟨hx, hb, hml, hown, hts⟩ (kX7_eraseError l D cI cS h0 h1 h2 τ.2.2 w3 w4 w5 w6 w7 w8 w9 w10 w11 w12 p0 τ.1) (cwV 1 hts gX7_erase_X7_eraseError rfl rfl rfl (by decide +kernel) ⟨Nat.le_of_ble_eq_true rfl, Nat.le_of_ble_eq_true rfl⟩) hE hP 0 rfl rfl [0, 1] rfl rfl hl.1 rfl (Nat.le_of_ble_eq_true rfl) ⟨Nat.zero_le _, Nat.zero_le _⟩ dX7_erase_2 ?_
  refine lv_istore_n (lv' := [(2, .int (fX7_eraseError p0 τ.1)), (0, .ref h0), (1, .int p0)]) hx hb dX7_erase_5 rfl hl (by decide) rfl (fun ls hl => ?_)
  refine lv_iload_n hx hb dX7_erase_6 rfl (lv_at hl 0 rfl) ?_
  refine lv_if_ge (tgt := 12) hx hb dX7_erase_7 (by decide) (fun c_7 => ?_) (fun c_7 => ?_)
  · refine lv_aload_n hx hb dX7_erase_12 rfl (lv_at hl 1 rfl) ?_
    refine cVV ⟨hx, hb, hml, hown, hts⟩ (kX7_record l D cI cS h0 h1 h2 w3 w4 w5 w6 w7 w8 w9 w10 w11 w12 τ hkp) (cwV 0 hts gX7_erase_X7_record rfl rfl rfl (by decide +kernel) ⟨Nat.le_of_ble_eq_true rfl, Nat.le_of_ble_eq_true rfl⟩) hE hP hD hS 0 rfl rfl [0, 1, 2] rfl (by decide) (fun _ => rfl) rfl hl.1 rfl (Nat.le_of_ble_eq_true rfl) ⟨Nat.zero_le _, Nat.zero_le _⟩ dX7_erase_13 (fun u_13 H locs e_13 hP hD hS => ?_)
    have hP : va_P D vwCl [(h0, .inr (7, [.ref h1, .ref h2, .int u_13.2.2, .ref w3, .int w4, .ref w5, .ref w6, .int w7, .int w8, .int w9, .int w10, .int w11, .int w12])), (h1, .inl (cI, 163, .inl u_13.1)), (h2, .inl (cI, 815, .inl u_13.2.1))] H := hP
    have hD : va_D A [(h0, .inr (7, [.ref h1, .ref h2, .int u_13.2.2, .ref w3, .int w4, .ref w5, .ref w6, .int w7, .int w8, .int w9, .int w10, .int w11, .int w12])), (h1, .inl (cI, 163, .inl u_13.1)), (h2, .inl (cI, 815, .inl u_13.2.1))] := hD
    refine lv_aload_n hx hb dX7_erase_16 rfl (lv_at hl 1 rfl) ?_
    refine lv_iload_n hx hb dX7_erase_17 rfl (lv_at hl 2 rfl) ?_
    refine cIV ⟨hx, hb, hml, hown, hts⟩ (kX7_doErase l D cI cS h0 h1 h2 u_13.2.2 w3 w4 w5 w6 w7 w8 w9 w10 w11 w12 p0 u_13.1 (zz_WM_rec e_13 hm) (zz_ee c_7)) (cwV 1 hts gX7_erase_X7_doErase rfl rfl rfl (by decide +kernel) ⟨Nat.le_of_ble_eq_true rfl, Nat.le_of_ble_eq_true rfl⟩) hE hP hD hS 0 rfl rfl [0, 1] rfl (by decide) (fun _ => rfl) rfl hl.1 rfl (Nat.le_of_ble_eq_true rfl) ⟨Nat.zero_le _, Nat.zero_le _⟩ dX7_erase_18 (fun r_18 u_18 H locs e_18 hP hD hS => ?_)
    have hP : va_P D vwCl [(h0, .inr (7, [.ref h1, .ref h2, .int u_13.2.2, .ref w3, .int w4, .ref w5, .ref w6, .int w7, .int w8, .int w9, .int w10, .int w11, .int w12])), (h1, .inl (cI, 163, .inl u_18)), (h2, .inl (cI, 815, .inl u_13.2.1))] H := hP
    have hD : va_D A [(h0, .inr (7, [.ref h1, .ref h2, .int u_13.2.2, .ref w3, .int w4, .ref w5, .ref w6, .int w7, .int w8, .int w9, .int w10, .int w11, .int w12])), (h1, .inl (cI, 163, .inl u_18)), (h2, .inl (cI, 815, .inl u_13.2.1))] := hD
    exact hend _ _ _ _ _ _ dX7_erase_21 rfl (fX7_erase_p0 p0 τ c_7 u_13 e_13 r_18 u_18 e_18) hP hS
  · refine lv_iload_n hx hb dX7_erase_10 rfl (lv_at hl 0 rfl) ?_
    exact hend _ _ _ _ _ _ dX7_erase_11 rfl (fX7_erase_p1 p0 τ c_7) hP hS

def fX7_begin (p0 : Int32) (p1 : Int32) (τ : MHT) : Int32 × MHT := (if (0 : Int32) ≤ (fX7_beginError p0 p1 τ.1) then (let u_14 := (fX7_record τ); (match (fX7_doBegin p0 p1 u_14.1) with | (r_20, u_20) => (r_20, (u_20, u_14.2.1, u_14.2.2)))) else ((fX7_beginError p0 p1 τ.1), τ))
theorem fX7_begin_p0 (p0 : Int32) (p1 : Int32) (τ : MHT) (c_8 : (0 : Int32) ≤ (fX7_beginError p0 p1 τ.1)) (u_14 : MHT) (e_14 : (fX7_record τ) = u_14) (r_20 : Int32) (u_20 : FnI) (e_20 : (fX7_doBegin p0 p1 u_14.1) = (r_20, u_20)) : (fX7_begin p0 p1 τ) = (r_20, (u_20, u_14.2.1, u_14.2.2)) := by
  simp only [fX7_begin, if_pos c_8, e_14, e_20]
theorem fX7_begin_p1 (p0 : Int32) (p1 : Int32) (τ : MHT) (c_8 : ¬ (0 : Int32) ≤ (fX7_beginError p0 p1 τ.1)) : (fX7_begin p0 p1 τ) = ((fX7_beginError p0 p1 τ.1), τ) := by
  simp only [fX7_begin, if_neg c_8]
set_option maxHeartbeats 4000000 in
set_option maxRecDepth 100000 in
theorem kX7_begin (l : Launch) (D : va_G) (cI cS : ClassId) (h0 h1 h2 : Nat) (w3 : Nat) (w4 : Int32) (w5 : Nat) (w6 : Nat) (w7 : Int32) (w8 : Int32) (w9 : Int32) (w10 : Int32) (w11 : Int32) (w12 : Int32) (p0 : Int32) (p1 : Int32) (τ : MHT) (hkp : Bd τ.2.2 5) : KI l yX7_begin wsX7_begin { frames := 3, cells := 0, slots := 0, locals := 68 } D (tysA cI cS) [.ref h0, .int p0, .int p1] [(h0, .inr (7, [.ref h1, .ref h2, .int τ.2.2, .ref w3, .int w4, .ref w5, .ref w6, .int w7, .int w8, .int w9, .int w10, .int w11, .int w12])), (h1, .inl (cI, 163, .inl τ.1)), (h2, .inl (cI, 815, .inl τ.2.1))] (fX7_begin p0 p1 τ) (fun u => [(h0, .inr (7, [.ref h1, .ref h2, .int u.2.2, .ref w3, .int w4, .ref w5, .ref w6, .int w7, .int w8, .int w9, .int w10, .int w11, .int w12])), (h1, .inl (cI, 163, .inl u.1)), (h2, .inl (cI, 815, .inl u.2.1))]) := by
  refine KI.of (cc := cX7_begin) (maxL := 4) (ty := .int) (by decide) rfl (Nat.le_of_ble_eq_true rfl) rfl (fun p e s m args below meth c ls Q A hx hb hml hown hts hE hP hD hS hl hend => ?_)
  have hown : s.vm.findClass RX7 = some m.cls := hown
  have hl : lv_has ls 4 [(0, .ref h0), (1, .int p0), (2, .int p1)] := hl
  refine lv_aload_n hx hb dX7_begin_0 rfl (lv_at hl 0 rfl) ?_
  refine lv_iload_n hx hb dX7_begin_1 rfl (lv_at hl 1 rfl) ?_
  refine lv_iload_n hx hb dX7_begin_2 rfl (lv_at hl 2 rfl) ?_
  refine cRV ⟨hx, hb, hml, hown, hts⟩ (kX7_beginError l D cI cS h0 h1 h2 τ.2.2 w3 w4 w5 w6 w7 w8 w9 w10 w11 w12 p0 p1 τ.1) (cwV 2 hts gX7_begin_X7_beginError rfl rfl rfl (by decide +kernel) ⟨Nat.le_of_ble_eq_true rfl, Nat.le_of_ble_eq_true rfl⟩) hE hP 0 rfl rfl [0, 1] rfl rfl hl.1 rfl (Nat.le_of_ble_eq_true rfl) ⟨Nat.zero_le _, Nat.zero_le _⟩ dX7_begin_3 ?_
  refine lv_istore_n (lv' := [(3, .int (fX7_beginError p0 p1 τ.1)), (0, .ref h0), (1, .int p0), (2, .int p1)]) hx hb dX7_begin_6 rfl hl (by decide) rfl (fun ls hl => ?_)
  refine lv_iload_n hx hb dX7_begin_7 rfl (lv_at hl 0 rfl) ?_
  refine lv_if_ge (tgt := 13) hx hb dX7_begin_8 (by decide) (fun c_8 => ?_) (fun c_8 => ?_)
  · refine lv_aload_n hx hb dX7_begin_13 rfl (lv_at hl 1 rfl) ?_
    refine cVV ⟨hx, hb, hml, hown, hts⟩ (kX7_record l D cI cS h0 h1 h2 w3 w4 w5 w6 w7 w8 w9 w10 w11 w12 τ hkp) (cwV 0 hts gX7_begin_X7_record rfl rfl rfl (by decide +kernel) ⟨Nat.le_of_ble_eq_true rfl, Nat.le_of_ble_eq_true rfl⟩) hE hP hD hS 0 rfl rfl [0, 1, 2] rfl (by decide) (fun _ => rfl) rfl hl.1 rfl (Nat.le_of_ble_eq_true rfl) ⟨Nat.zero_le _, Nat.zero_le _⟩ dX7_begin_14 (fun u_14 H locs e_14 hP hD hS => ?_)
    have hP : va_P D vwCl [(h0, .inr (7, [.ref h1, .ref h2, .int u_14.2.2, .ref w3, .int w4, .ref w5, .ref w6, .int w7, .int w8, .int w9, .int w10, .int w11, .int w12])), (h1, .inl (cI, 163, .inl u_14.1)), (h2, .inl (cI, 815, .inl u_14.2.1))] H := hP
    have hD : va_D A [(h0, .inr (7, [.ref h1, .ref h2, .int u_14.2.2, .ref w3, .int w4, .ref w5, .ref w6, .int w7, .int w8, .int w9, .int w10, .int w11, .int w12])), (h1, .inl (cI, 163, .inl u_14.1)), (h2, .inl (cI, 815, .inl u_14.2.1))] := hD
    refine lv_aload_n hx hb dX7_begin_17 rfl (lv_at hl 1 rfl) ?_
    refine lv_iload_n hx hb dX7_begin_18 rfl (lv_at hl 2 rfl) ?_
    refine lv_iload_n hx hb dX7_begin_19 rfl (lv_at hl 3 rfl) ?_
    refine cIV ⟨hx, hb, hml, hown, hts⟩ (kX7_doBegin l D cI cS h0 h1 h2 u_14.2.2 w3 w4 w5 w6 w7 w8 w9 w10 w11 w12 p0 p1 u_14.1) (cwV 2 hts gX7_begin_X7_doBegin rfl rfl rfl (by decide +kernel) ⟨Nat.le_of_ble_eq_true rfl, Nat.le_of_ble_eq_true rfl⟩) hE hP hD hS 0 rfl rfl [0, 1] rfl (by decide) (fun _ => rfl) rfl hl.1 rfl (Nat.le_of_ble_eq_true rfl) ⟨Nat.zero_le _, Nat.zero_le _⟩ dX7_begin_20 (fun r_20 u_20 H locs e_20 hP hD hS => ?_)
    have hP : va_P D vwCl [(h0, .inr (7, [.ref h1, .ref h2, .int u_14.2.2, .ref w3, .int w4, .ref w5, .ref w6, .int w7, .int w8, .int w9, .int w10, .int w11, .int w12])), (h1, .inl (cI, 163, .inl u_20)), (h2, .inl (cI, 815, .inl u_14.2.1))] H := hP
    have hD : va_D A [(h0, .inr (7, [.ref h1, .ref h2, .int u_14.2.2, .ref w3, .int w4, .ref w5, .ref w6, .int w7, .int w8, .int w9, .int w10, .int w11, .int w12])), (h1, .inl (cI, 163, .inl u_20)), (h2, .inl (cI, 815, .inl u_14.2.1))] := hD
    exact hend _ _ _ _ _ _ dX7_begin_23 rfl (fX7_begin_p0 p0 p1 τ c_8 u_14 e_14 r_20 u_20 e_20) hP hS
  · refine lv_iload_n hx hb dX7_begin_11 rfl (lv_at hl 0 rfl) ?_
    exact hend _ _ _ _ _ _ dX7_begin_12 rfl (fX7_begin_p1 p0 p1 τ c_8) hP hS

def fX7_tick (p0 : Int32) (τ : MHT) : Int32 × MHT := (if (fX7_in p0 (1 : Int32) (99 : Int32)) = (0 : Int32) then ((-2 : Int32), τ) else (let u_14 := (fX7_record τ); (match (fX7_doTick p0 u_14.1) with | (r_19, u_19) => (r_19, (u_19, u_14.2.1, u_14.2.2)))))
theorem fX7_tick_p0 (p0 : Int32) (τ : MHT) (c_7 : ¬ (fX7_in p0 (1 : Int32) (99 : Int32)) = (0 : Int32)) (u_14 : MHT) (e_14 : (fX7_record τ) = u_14) (r_19 : Int32) (u_19 : FnI) (e_19 : (fX7_doTick p0 u_14.1) = (r_19, u_19)) : (fX7_tick p0 τ) = (r_19, (u_19, u_14.2.1, u_14.2.2)) := by
  simp only [fX7_tick, if_neg c_7, e_14, e_19]
theorem fX7_tick_p1 (p0 : Int32) (τ : MHT) (c_7 : (fX7_in p0 (1 : Int32) (99 : Int32)) = (0 : Int32)) : (fX7_tick p0 τ) = ((-2 : Int32), τ) := by
  simp only [fX7_tick, if_pos c_7]
set_option maxHeartbeats 4000000 in
set_option maxRecDepth 100000 in
theorem kX7_tick (l : Launch) (D : va_G) (cI cS : ClassId) (h0 h1 h2 : Nat) (w3 : Nat) (w4 : Int32) (w5 : Nat) (w6 : Nat) (w7 : Int32) (w8 : Int32) (w9 : Int32) (w10 : Int32) (w11 : Int32) (w12 : Int32) (p0 : Int32) (τ : MHT) (hm : WM τ.1) (hkp : Bd τ.2.2 5) : KI l yX7_tick wsX7_tick { frames := 5, cells := 0, slots := 0, locals := 108 } D (tysA cI cS) [.ref h0, .int p0] [(h0, .inr (7, [.ref h1, .ref h2, .int τ.2.2, .ref w3, .int w4, .ref w5, .ref w6, .int w7, .int w8, .int w9, .int w10, .int w11, .int w12])), (h1, .inl (cI, 163, .inl τ.1)), (h2, .inl (cI, 815, .inl τ.2.1))] (fX7_tick p0 τ) (fun u => [(h0, .inr (7, [.ref h1, .ref h2, .int u.2.2, .ref w3, .int w4, .ref w5, .ref w6, .int w7, .int w8, .int w9, .int w10, .int w11, .int w12])), (h1, .inl (cI, 163, .inl u.1)), (h2, .inl (cI, 815, .inl u.2.1))]) := by
  refine KI.of (cc := cX7_tick) (maxL := 2) (ty := .int) (by decide) rfl (Nat.le_of_ble_eq_true rfl) rfl (fun p e s m args below meth c ls Q A hx hb hml hown hts hE hP hD hS hl hend => ?_)
  have hown : s.vm.findClass RX7 = some m.cls := hown
  have hl : lv_has ls 2 [(0, .ref h0), (1, .int p0)] := hl
  refine lv_iload_n hx hb dX7_tick_0 rfl (lv_at hl 1 rfl) ?_
  refine lv_iconst (v := (1 : Int32)) hx hb dX7_tick_1 (by decide +kernel) ?_
  refine lv_bipush (v := (99 : Int32)) hx hb dX7_tick_2 (by decide +kernel) ?_
  refine cRS ⟨hx, hb, hml, hown, hts⟩ (kX7_in l D cI cS p0 (1 : Int32) (99 : Int32)) (va_cwS 3 hts gX7_tick_X7_in rfl rfl rfl (by decide +kernel) ⟨Nat.le_of_ble_eq_true rfl, Nat.le_of_ble_eq_true rfl⟩) hE hP [] rfl rfl hl.1 rfl (Nat.le_of_ble_eq_true rfl) ⟨Nat.zero_le _, Nat.zero_le _⟩ dX7_tick_4 ?_
  refine lv_if_ne (tgt := 13) hx hb dX7_tick_7 (by decide) (fun c_7 => ?_) (fun c_7 => ?_)
  · refine lv_aload_n hx hb dX7_tick_13 rfl (lv_at hl 0 rfl) ?_
    refine cVV ⟨hx, hb, hml, hown, hts⟩ (kX7_record l D cI cS h0 h1 h2 w3 w4 w5 w6 w7 w8 w9 w10 w11 w12 τ hkp) (cwV 0 hts gX7_tick_X7_record rfl rfl rfl (by decide +kernel) ⟨Nat.le_of_ble_eq_true rfl, Nat.le_of_ble_eq_true rfl⟩) hE hP hD hS 0 rfl rfl [0, 1, 2] rfl (by decide) (fun _ => rfl) rfl hl.1 rfl (Nat.le_of_ble_eq_true rfl) ⟨Nat.zero_le _, Nat.zero_le _⟩ dX7_tick_14 (fun u_14 H locs e_14 hP hD hS => ?_)
    have hP : va_P D vwCl [(h0, .inr (7, [.ref h1, .ref h2, .int u_14.2.2, .ref w3, .int w4, .ref w5, .ref w6, .int w7, .int w8, .int w9, .int w10, .int w11, .int w12])), (h1, .inl (cI, 163, .inl u_14.1)), (h2, .inl (cI, 815, .inl u_14.2.1))] H := hP
    have hD : va_D A [(h0, .inr (7, [.ref h1, .ref h2, .int u_14.2.2, .ref w3, .int w4, .ref w5, .ref w6, .int w7, .int w8, .int w9, .int w10, .int w11, .int w12])), (h1, .inl (cI, 163, .inl u_14.1)), (h2, .inl (cI, 815, .inl u_14.2.1))] := hD
    refine lv_aload_n hx hb dX7_tick_17 rfl (lv_at hl 0 rfl) ?_
    refine lv_iload_n hx hb dX7_tick_18 rfl (lv_at hl 1 rfl) ?_
    refine cIV ⟨hx, hb, hml, hown, hts⟩ (kX7_doTick l D cI cS h0 h1 h2 u_14.2.2 w3 w4 w5 w6 w7 w8 w9 w10 w11 w12 p0 u_14.1 (zz_WM_rec e_14 hm) (zz_in99 c_7)) (cwV 1 hts gX7_tick_X7_doTick rfl rfl rfl (by decide +kernel) ⟨Nat.le_of_ble_eq_true rfl, Nat.le_of_ble_eq_true rfl⟩) hE hP hD hS 0 rfl rfl [0, 1] rfl (by decide) (fun _ => rfl) rfl hl.1 rfl (Nat.le_of_ble_eq_true rfl) ⟨Nat.zero_le _, Nat.zero_le _⟩ dX7_tick_19 (fun r_19 u_19 H locs e_19 hP hD hS => ?_)
    have hP : va_P D vwCl [(h0, .inr (7, [.ref h1, .ref h2, .int u_14.2.2, .ref w3, .int w4, .ref w5, .ref w6, .int w7, .int w8, .int w9, .int w10, .int w11, .int w12])), (h1, .inl (cI, 163, .inl u_19)), (h2, .inl (cI, 815, .inl u_14.2.1))] H := hP
    have hD : va_D A [(h0, .inr (7, [.ref h1, .ref h2, .int u_14.2.2, .ref w3, .int w4, .ref w5, .ref w6, .int w7, .int w8, .int w9, .int w10, .int w11, .int w12])), (h1, .inl (cI, 163, .inl u_19)), (h2, .inl (cI, 815, .inl u_14.2.1))] := hD
    exact hend _ _ _ _ _ _ dX7_tick_22 rfl (fX7_tick_p0 p0 τ c_7 u_14 e_14 r_19 u_19 e_19) hP hS
  · refine lv_bipush (v := (-2 : Int32)) hx hb dX7_tick_10 (by decide +kernel) ?_
    exact hend _ _ _ _ _ _ dX7_tick_12 rfl (fX7_tick_p1 p0 τ c_7) hP hS

def fX7_lock (τ : MHT) : Int32 × MHT := (if (0 : Int32) ≤ (fX7_phaseError (2 : Int32) τ.1) then (let u_13 := (fX7_record τ); (match (fX7_doLock u_13.1) with | (r_17, u_17) => (r_17, (u_17, u_13.2.1, u_13.2.2)))) else ((fX7_phaseError (2 : Int32) τ.1), τ))
theorem fX7_lock_p0 (τ : MHT) (c_7 : (0 : Int32) ≤ (fX7_phaseError (2 : Int32) τ.1)) (u_13 : MHT) (e_13 : (fX7_record τ) = u_13) (r_17 : Int32) (u_17 : FnI) (e_17 : (fX7_doLock u_13.1) = (r_17, u_17)) : (fX7_lock τ) = (r_17, (u_17, u_13.2.1, u_13.2.2)) := by
  simp only [fX7_lock, if_pos c_7, e_13, e_17]
theorem fX7_lock_p1 (τ : MHT) (c_7 : ¬ (0 : Int32) ≤ (fX7_phaseError (2 : Int32) τ.1)) : (fX7_lock τ) = ((fX7_phaseError (2 : Int32) τ.1), τ) := by
  simp only [fX7_lock, if_neg c_7]
set_option maxHeartbeats 4000000 in
set_option maxRecDepth 100000 in
theorem kX7_lock (l : Launch) (D : va_G) (cI cS : ClassId) (h0 h1 h2 : Nat) (w3 : Nat) (w4 : Int32) (w5 : Nat) (w6 : Nat) (w7 : Int32) (w8 : Int32) (w9 : Int32) (w10 : Int32) (w11 : Int32) (w12 : Int32) (τ : MHT) (hkp : Bd τ.2.2 5) : KI l yX7_lock wsX7_lock { frames := 2, cells := 0, slots := 0, locals := 45 } D (tysA cI cS) [.ref h0] [(h0, .inr (7, [.ref h1, .ref h2, .int τ.2.2, .ref w3, .int w4, .ref w5, .ref w6, .int w7, .int w8, .int w9, .int w10, .int w11, .int w12])), (h1, .inl (cI, 163, .inl τ.1)), (h2, .inl (cI, 815, .inl τ.2.1))] (fX7_lock τ) (fun u => [(h0, .inr (7, [.ref h1, .ref h2, .int u.2.2, .ref w3, .int w4, .ref w5, .ref w6, .int w7, .int w8, .int w9, .int w10, .int w11, .int w12])), (h1, .inl (cI, 163, .inl u.1)), (h2, .inl (cI, 815, .inl u.2.1))]) := by
  refine KI.of (cc := cX7_lock) (maxL := 2) (ty := .int) (by decide) rfl (Nat.le_of_ble_eq_true rfl) rfl (fun p e s m args below meth c ls Q A hx hb hml hown hts hE hP hD hS hl hend => ?_)
  have hown : s.vm.findClass RX7 = some m.cls := hown
  have hl : lv_has ls 2 [(0, .ref h0)] := hl
  refine lv_aload_n hx hb dX7_lock_0 rfl (lv_at hl 0 rfl) ?_
  refine lv_iconst (v := (2 : Int32)) hx hb dX7_lock_1 (by decide +kernel) ?_
  refine cRV ⟨hx, hb, hml, hown, hts⟩ (kX7_phaseError l D cI cS h0 h1 h2 τ.2.2 w3 w4 w5 w6 w7 w8 w9 w10 w11 w12 (2 : Int32) τ.1) (cwV 1 hts gX7_lock_X7_phaseError rfl rfl rfl (by decide +kernel) ⟨Nat.le_of_ble_eq_true rfl, Nat.le_of_ble_eq_true rfl⟩) hE hP 0 rfl rfl [0, 1] rfl rfl hl.1 rfl (Nat.le_of_ble_eq_true rfl) ⟨Nat.zero_le _, Nat.zero_le _⟩ dX7_lock_2 ?_
  refine lv_istore_n (lv' := [(1, .int (fX7_phaseError (2 : Int32) τ.1)), (0, .ref h0)]) hx hb dX7_lock_5 rfl hl (by decide) rfl (fun ls hl => ?_)
  refine lv_iload_n hx hb dX7_lock_6 rfl (lv_at hl 0 rfl) ?_
  refine lv_if_ge (tgt := 12) hx hb dX7_lock_7 (by decide) (fun c_7 => ?_) (fun c_7 => ?_)
  · refine lv_aload_n hx hb dX7_lock_12 rfl (lv_at hl 1 rfl) ?_
    refine cVV ⟨hx, hb, hml, hown, hts⟩ (kX7_record l D cI cS h0 h1 h2 w3 w4 w5 w6 w7 w8 w9 w10 w11 w12 τ hkp) (cwV 0 hts gX7_lock_X7_record rfl rfl rfl (by decide +kernel) ⟨Nat.le_of_ble_eq_true rfl, Nat.le_of_ble_eq_true rfl⟩) hE hP hD hS 0 rfl rfl [0, 1, 2] rfl (by decide) (fun _ => rfl) rfl hl.1 rfl (Nat.le_of_ble_eq_true rfl) ⟨Nat.zero_le _, Nat.zero_le _⟩ dX7_lock_13 (fun u_13 H locs e_13 hP hD hS => ?_)
    have hP : va_P D vwCl [(h0, .inr (7, [.ref h1, .ref h2, .int u_13.2.2, .ref w3, .int w4, .ref w5, .ref w6, .int w7, .int w8, .int w9, .int w10, .int w11, .int w12])), (h1, .inl (cI, 163, .inl u_13.1)), (h2, .inl (cI, 815, .inl u_13.2.1))] H := hP
    have hD : va_D A [(h0, .inr (7, [.ref h1, .ref h2, .int u_13.2.2, .ref w3, .int w4, .ref w5, .ref w6, .int w7, .int w8, .int w9, .int w10, .int w11, .int w12])), (h1, .inl (cI, 163, .inl u_13.1)), (h2, .inl (cI, 815, .inl u_13.2.1))] := hD
    refine lv_aload_n hx hb dX7_lock_16 rfl (lv_at hl 1 rfl) ?_
    refine cIV ⟨hx, hb, hml, hown, hts⟩ (kX7_doLock l D cI cS h0 h1 h2 u_13.2.2 w3 w4 w5 w6 w7 w8 w9 w10 w11 w12 u_13.1) (cwV 0 hts gX7_lock_X7_doLock rfl rfl rfl (by decide +kernel) ⟨Nat.le_of_ble_eq_true rfl, Nat.le_of_ble_eq_true rfl⟩) hE hP hD hS 0 rfl rfl [0, 1] rfl (by decide) (fun _ => rfl) rfl hl.1 rfl (Nat.le_of_ble_eq_true rfl) ⟨Nat.zero_le _, Nat.zero_le _⟩ dX7_lock_17 (fun r_17 u_17 H locs e_17 hP hD hS => ?_)
    have hP : va_P D vwCl [(h0, .inr (7, [.ref h1, .ref h2, .int u_13.2.2, .ref w3, .int w4, .ref w5, .ref w6, .int w7, .int w8, .int w9, .int w10, .int w11, .int w12])), (h1, .inl (cI, 163, .inl u_17)), (h2, .inl (cI, 815, .inl u_13.2.1))] H := hP
    have hD : va_D A [(h0, .inr (7, [.ref h1, .ref h2, .int u_13.2.2, .ref w3, .int w4, .ref w5, .ref w6, .int w7, .int w8, .int w9, .int w10, .int w11, .int w12])), (h1, .inl (cI, 163, .inl u_17)), (h2, .inl (cI, 815, .inl u_13.2.1))] := hD
    exact hend _ _ _ _ _ _ dX7_lock_20 rfl (fX7_lock_p0 τ c_7 u_13 e_13 r_17 u_17 e_17) hP hS
  · refine lv_iload_n hx hb dX7_lock_10 rfl (lv_at hl 0 rfl) ?_
    exact hend _ _ _ _ _ _ dX7_lock_11 rfl (fX7_lock_p1 τ c_7) hP hS

def fX7_unlock (τ : MHT) : Int32 × MHT := (if (0 : Int32) ≤ (fX7_phaseError (3 : Int32) τ.1) then (let u_13 := (fX7_record τ); (match (fX7_doUnlock u_13.1) with | (r_17, u_17) => (r_17, (u_17, u_13.2.1, u_13.2.2)))) else ((fX7_phaseError (3 : Int32) τ.1), τ))
theorem fX7_unlock_p0 (τ : MHT) (c_7 : (0 : Int32) ≤ (fX7_phaseError (3 : Int32) τ.1)) (u_13 : MHT) (e_13 : (fX7_record τ) = u_13) (r_17 : Int32) (u_17 : FnI) (e_17 : (fX7_doUnlock u_13.1) = (r_17, u_17)) : (fX7_unlock τ) = (r_17, (u_17, u_13.2.1, u_13.2.2)) := by
  simp only [fX7_unlock, if_pos c_7, e_13, e_17]
theorem fX7_unlock_p1 (τ : MHT) (c_7 : ¬ (0 : Int32) ≤ (fX7_phaseError (3 : Int32) τ.1)) : (fX7_unlock τ) = ((fX7_phaseError (3 : Int32) τ.1), τ) := by
  simp only [fX7_unlock, if_neg c_7]
set_option maxHeartbeats 4000000 in
set_option maxRecDepth 100000 in
theorem kX7_unlock (l : Launch) (D : va_G) (cI cS : ClassId) (h0 h1 h2 : Nat) (w3 : Nat) (w4 : Int32) (w5 : Nat) (w6 : Nat) (w7 : Int32) (w8 : Int32) (w9 : Int32) (w10 : Int32) (w11 : Int32) (w12 : Int32) (τ : MHT) (hkp : Bd τ.2.2 5) : KI l yX7_unlock wsX7_unlock { frames := 2, cells := 0, slots := 0, locals := 45 } D (tysA cI cS) [.ref h0] [(h0, .inr (7, [.ref h1, .ref h2, .int τ.2.2, .ref w3, .int w4, .ref w5, .ref w6, .int w7, .int w8, .int w9, .int w10, .int w11, .int w12])), (h1, .inl (cI, 163, .inl τ.1)), (h2, .inl (cI, 815, .inl τ.2.1))] (fX7_unlock τ) (fun u => [(h0, .inr (7, [.ref h1, .ref h2, .int u.2.2, .ref w3, .int w4, .ref w5, .ref w6, .int w7, .int w8, .int w9, .int w10, .int w11, .int w12])), (h1, .inl (cI, 163, .inl u.1)), (h2, .inl (cI, 815, .inl u.2.1))]) := by
  refine KI.of (cc := cX7_unlock) (maxL := 2) (ty := .int) (by decide) rfl (Nat.le_of_ble_eq_true rfl) rfl (fun p e s m args below meth c ls Q A hx hb hml hown hts hE hP hD hS hl hend => ?_)
  have hown : s.vm.findClass RX7 = some m.cls := hown
  have hl : lv_has ls 2 [(0, .ref h0)] := hl
  refine lv_aload_n hx hb dX7_unlock_0 rfl (lv_at hl 0 rfl) ?_
  refine lv_iconst (v := (3 : Int32)) hx hb dX7_unlock_1 (by decide +kernel) ?_
  refine cRV ⟨hx, hb, hml, hown, hts⟩ (kX7_phaseError l D cI cS h0 h1 h2 τ.2.2 w3 w4 w5 w6 w7 w8 w9 w10 w11 w12 (3 : Int32) τ.1) (cwV 1 hts gX7_unlock_X7_phaseError rfl rfl rfl (by decide +kernel) ⟨Nat.le_of_ble_eq_true rfl, Nat.le_of_ble_eq_true rfl⟩) hE hP 0 rfl rfl [0, 1] rfl rfl hl.1 rfl (Nat.le_of_ble_eq_true rfl) ⟨Nat.zero_le _, Nat.zero_le _⟩ dX7_unlock_2 ?_
  refine lv_istore_n (lv' := [(1, .int (fX7_phaseError (3 : Int32) τ.1)), (0, .ref h0)]) hx hb dX7_unlock_5 rfl hl (by decide) rfl (fun ls hl => ?_)
  refine lv_iload_n hx hb dX7_unlock_6 rfl (lv_at hl 0 rfl) ?_
  refine lv_if_ge (tgt := 12) hx hb dX7_unlock_7 (by decide) (fun c_7 => ?_) (fun c_7 => ?_)
  · refine lv_aload_n hx hb dX7_unlock_12 rfl (lv_at hl 1 rfl) ?_
    refine cVV ⟨hx, hb, hml, hown, hts⟩ (kX7_record l D cI cS h0 h1 h2 w3 w4 w5 w6 w7 w8 w9 w10 w11 w12 τ hkp) (cwV 0 hts gX7_unlock_X7_record rfl rfl rfl (by decide +kernel) ⟨Nat.le_of_ble_eq_true rfl, Nat.le_of_ble_eq_true rfl⟩) hE hP hD hS 0 rfl rfl [0, 1, 2] rfl (by decide) (fun _ => rfl) rfl hl.1 rfl (Nat.le_of_ble_eq_true rfl) ⟨Nat.zero_le _, Nat.zero_le _⟩ dX7_unlock_13 (fun u_13 H locs e_13 hP hD hS => ?_)
    have hP : va_P D vwCl [(h0, .inr (7, [.ref h1, .ref h2, .int u_13.2.2, .ref w3, .int w4, .ref w5, .ref w6, .int w7, .int w8, .int w9, .int w10, .int w11, .int w12])), (h1, .inl (cI, 163, .inl u_13.1)), (h2, .inl (cI, 815, .inl u_13.2.1))] H := hP
    have hD : va_D A [(h0, .inr (7, [.ref h1, .ref h2, .int u_13.2.2, .ref w3, .int w4, .ref w5, .ref w6, .int w7, .int w8, .int w9, .int w10, .int w11, .int w12])), (h1, .inl (cI, 163, .inl u_13.1)), (h2, .inl (cI, 815, .inl u_13.2.1))] := hD
    refine lv_aload_n hx hb dX7_unlock_16 rfl (lv_at hl 1 rfl) ?_
    refine cIV ⟨hx, hb, hml, hown, hts⟩ (kX7_doUnlock l D cI cS h0 h1 h2 u_13.2.2 w3 w4 w5 w6 w7 w8 w9 w10 w11 w12 u_13.1) (cwV 0 hts gX7_unlock_X7_doUnlock rfl rfl rfl (by decide +kernel) ⟨Nat.le_of_ble_eq_true rfl, Nat.le_of_ble_eq_true rfl⟩) hE hP hD hS 0 rfl rfl [0, 1] rfl (by decide) (fun _ => rfl) rfl hl.1 rfl (Nat.le_of_ble_eq_true rfl) ⟨Nat.zero_le _, Nat.zero_le _⟩ dX7_unlock_17 (fun r_17 u_17 H locs e_17 hP hD hS => ?_)
    have hP : va_P D vwCl [(h0, .inr (7, [.ref h1, .ref h2, .int u_13.2.2, .ref w3, .int w4, .ref w5, .ref w6, .int w7, .int w8, .int w9, .int w10, .int w11, .int w12])), (h1, .inl (cI, 163, .inl u_17)), (h2, .inl (cI, 815, .inl u_13.2.1))] H := hP
    have hD : va_D A [(h0, .inr (7, [.ref h1, .ref h2, .int u_13.2.2, .ref w3, .int w4, .ref w5, .ref w6, .int w7, .int w8, .int w9, .int w10, .int w11, .int w12])), (h1, .inl (cI, 163, .inl u_17)), (h2, .inl (cI, 815, .inl u_13.2.1))] := hD
    exact hend _ _ _ _ _ _ dX7_unlock_20 rfl (fX7_unlock_p0 τ c_7 u_13 e_13 r_17 u_17 e_17) hP hS
  · refine lv_iload_n hx hb dX7_unlock_10 rfl (lv_at hl 0 rfl) ?_
    exact hend _ _ _ _ _ _ dX7_unlock_11 rfl (fX7_unlock_p1 τ c_7) hP hS

def fX7_swap (τ : MHT) : Int32 × MHT := (if (0 : Int32) ≤ (fX7_swapError τ.1) then (let u_12 := (fX7_record τ); (match (fX7_doSwap u_12.1) with | (r_16, u_16) => (r_16, (u_16, u_12.2.1, u_12.2.2)))) else ((fX7_swapError τ.1), τ))
theorem fX7_swap_p0 (τ : MHT) (c_6 : (0 : Int32) ≤ (fX7_swapError τ.1)) (u_12 : MHT) (e_12 : (fX7_record τ) = u_12) (r_16 : Int32) (u_16 : FnI) (e_16 : (fX7_doSwap u_12.1) = (r_16, u_16)) : (fX7_swap τ) = (r_16, (u_16, u_12.2.1, u_12.2.2)) := by
  simp only [fX7_swap, if_pos c_6, e_12, e_16]
theorem fX7_swap_p1 (τ : MHT) (c_6 : ¬ (0 : Int32) ≤ (fX7_swapError τ.1)) : (fX7_swap τ) = ((fX7_swapError τ.1), τ) := by
  simp only [fX7_swap, if_neg c_6]
set_option maxHeartbeats 4000000 in
set_option maxRecDepth 100000 in
theorem kX7_swap (l : Launch) (D : va_G) (cI cS : ClassId) (h0 h1 h2 : Nat) (w3 : Nat) (w4 : Int32) (w5 : Nat) (w6 : Nat) (w7 : Int32) (w8 : Int32) (w9 : Int32) (w10 : Int32) (w11 : Int32) (w12 : Int32) (τ : MHT) (hkp : Bd τ.2.2 5) : KI l yX7_swap wsX7_swap { frames := 3, cells := 0, slots := 0, locals := 66 } D (tysA cI cS) [.ref h0] [(h0, .inr (7, [.ref h1, .ref h2, .int τ.2.2, .ref w3, .int w4, .ref w5, .ref w6, .int w7, .int w8, .int w9, .int w10, .int w11, .int w12])), (h1, .inl (cI, 163, .inl τ.1)), (h2, .inl (cI, 815, .inl τ.2.1))] (fX7_swap τ) (fun u => [(h0, .inr (7, [.ref h1, .ref h2, .int u.2.2, .ref w3, .int w4, .ref w5, .ref w6, .int w7, .int w8, .int w9, .int w10, .int w11, .int w12])), (h1, .inl (cI, 163, .inl u.1)), (h2, .inl (cI, 815, .inl u.2.1))]) := by
  refine KI.of (cc := cX7_swap) (maxL := 2) (ty := .int) (by decide) rfl (Nat.le_of_ble_eq_true rfl) rfl (fun p e s m args below meth c ls Q A hx hb hml hown hts hE hP hD hS hl hend => ?_)
  have hown : s.vm.findClass RX7 = some m.cls := hown
  have hl : lv_has ls 2 [(0, .ref h0)] := hl
  refine lv_aload_n hx hb dX7_swap_0 rfl (lv_at hl 0 rfl) ?_
  refine cRV ⟨hx, hb, hml, hown, hts⟩ (kX7_swapError l D cI cS h0 h1 h2 τ.2.2 w3 w4 w5 w6 w7 w8 w9 w10 w11 w12 τ.1) (cwV 0 hts gX7_swap_X7_swapError rfl rfl rfl (by decide +kernel) ⟨Nat.le_of_ble_eq_true rfl, Nat.le_of_ble_eq_true rfl⟩) hE hP 0 rfl rfl [0, 1] rfl rfl hl.1 rfl (Nat.le_of_ble_eq_true rfl) ⟨Nat.zero_le _, Nat.zero_le _⟩ dX7_swap_1 ?_
  refine lv_istore_n (lv' := [(1, .int (fX7_swapError τ.1)), (0, .ref h0)]) hx hb dX7_swap_4 rfl hl (by decide) rfl (fun ls hl => ?_)
  refine lv_iload_n hx hb dX7_swap_5 rfl (lv_at hl 0 rfl) ?_
  refine lv_if_ge (tgt := 11) hx hb dX7_swap_6 (by decide) (fun c_6 => ?_) (fun c_6 => ?_)
  · refine lv_aload_n hx hb dX7_swap_11 rfl (lv_at hl 1 rfl) ?_
    refine cVV ⟨hx, hb, hml, hown, hts⟩ (kX7_record l D cI cS h0 h1 h2 w3 w4 w5 w6 w7 w8 w9 w10 w11 w12 τ hkp) (cwV 0 hts gX7_swap_X7_record rfl rfl rfl (by decide +kernel) ⟨Nat.le_of_ble_eq_true rfl, Nat.le_of_ble_eq_true rfl⟩) hE hP hD hS 0 rfl rfl [0, 1, 2] rfl (by decide) (fun _ => rfl) rfl hl.1 rfl (Nat.le_of_ble_eq_true rfl) ⟨Nat.zero_le _, Nat.zero_le _⟩ dX7_swap_12 (fun u_12 H locs e_12 hP hD hS => ?_)
    have hP : va_P D vwCl [(h0, .inr (7, [.ref h1, .ref h2, .int u_12.2.2, .ref w3, .int w4, .ref w5, .ref w6, .int w7, .int w8, .int w9, .int w10, .int w11, .int w12])), (h1, .inl (cI, 163, .inl u_12.1)), (h2, .inl (cI, 815, .inl u_12.2.1))] H := hP
    have hD : va_D A [(h0, .inr (7, [.ref h1, .ref h2, .int u_12.2.2, .ref w3, .int w4, .ref w5, .ref w6, .int w7, .int w8, .int w9, .int w10, .int w11, .int w12])), (h1, .inl (cI, 163, .inl u_12.1)), (h2, .inl (cI, 815, .inl u_12.2.1))] := hD
    refine lv_aload_n hx hb dX7_swap_15 rfl (lv_at hl 1 rfl) ?_
    refine cIV ⟨hx, hb, hml, hown, hts⟩ (kX7_doSwap l D cI cS h0 h1 h2 u_12.2.2 w3 w4 w5 w6 w7 w8 w9 w10 w11 w12 u_12.1) (cwV 0 hts gX7_swap_X7_doSwap rfl rfl rfl (by decide +kernel) ⟨Nat.le_of_ble_eq_true rfl, Nat.le_of_ble_eq_true rfl⟩) hE hP hD hS 0 rfl rfl [0, 1] rfl (by decide) (fun _ => rfl) rfl hl.1 rfl (Nat.le_of_ble_eq_true rfl) ⟨Nat.zero_le _, Nat.zero_le _⟩ dX7_swap_16 (fun r_16 u_16 H locs e_16 hP hD hS => ?_)
    have hP : va_P D vwCl [(h0, .inr (7, [.ref h1, .ref h2, .int u_12.2.2, .ref w3, .int w4, .ref w5, .ref w6, .int w7, .int w8, .int w9, .int w10, .int w11, .int w12])), (h1, .inl (cI, 163, .inl u_16)), (h2, .inl (cI, 815, .inl u_12.2.1))] H := hP
    have hD : va_D A [(h0, .inr (7, [.ref h1, .ref h2, .int u_12.2.2, .ref w3, .int w4, .ref w5, .ref w6, .int w7, .int w8, .int w9, .int w10, .int w11, .int w12])), (h1, .inl (cI, 163, .inl u_16)), (h2, .inl (cI, 815, .inl u_12.2.1))] := hD
    exact hend _ _ _ _ _ _ dX7_swap_19 rfl (fX7_swap_p0 τ c_6 u_12 e_12 r_16 u_16 e_16) hP hS
  · refine lv_iload_n hx hb dX7_swap_9 rfl (lv_at hl 0 rfl) ?_
    exact hend _ _ _ _ _ _ dX7_swap_10 rfl (fX7_swap_p1 τ c_6) hP hS

def fX7_giveUp (τ : MHT) : Int32 × MHT := (if (fX7_isCopy τ.1) = (0 : Int32) then ((-4 : Int32), τ) else (let u_11 := (fX7_record τ); (match (fX7_doGiveUp u_11.1) with | (r_15, u_15) => (r_15, (u_15, u_11.2.1, u_11.2.2)))))
theorem fX7_giveUp_p0 (τ : MHT) (c_4 : ¬ (fX7_isCopy τ.1) = (0 : Int32)) (u_11 : MHT) (e_11 : (fX7_record τ) = u_11) (r_15 : Int32) (u_15 : FnI) (e_15 : (fX7_doGiveUp u_11.1) = (r_15, u_15)) : (fX7_giveUp τ) = (r_15, (u_15, u_11.2.1, u_11.2.2)) := by
  simp only [fX7_giveUp, if_neg c_4, e_11, e_15]
theorem fX7_giveUp_p1 (τ : MHT) (c_4 : (fX7_isCopy τ.1) = (0 : Int32)) : (fX7_giveUp τ) = ((-4 : Int32), τ) := by
  simp only [fX7_giveUp, if_pos c_4]
set_option maxHeartbeats 4000000 in
set_option maxRecDepth 100000 in
theorem kX7_giveUp (l : Launch) (D : va_G) (cI cS : ClassId) (h0 h1 h2 : Nat) (w3 : Nat) (w4 : Int32) (w5 : Nat) (w6 : Nat) (w7 : Int32) (w8 : Int32) (w9 : Int32) (w10 : Int32) (w11 : Int32) (w12 : Int32) (τ : MHT) (hkp : Bd τ.2.2 5) : KI l yX7_giveUp wsX7_giveUp { frames := 3, cells := 0, slots := 0, locals := 66 } D (tysA cI cS) [.ref h0] [(h0, .inr (7, [.ref h1, .ref h2, .int τ.2.2, .ref w3, .int w4, .ref w5, .ref w6, .int w7, .int w8, .int w9, .int w10, .int w11, .int w12])), (h1, .inl (cI, 163, .inl τ.1)), (h2, .inl (cI, 815, .inl τ.2.1))] (fX7_giveUp τ) (fun u => [(h0, .inr (7, [.ref h1, .ref h2, .int u.2.2, .ref w3, .int w4, .ref w5, .ref w6, .int w7, .int w8, .int w9, .int w10, .int w11, .int w12])), (h1, .inl (cI, 163, .inl u.1)), (h2, .inl (cI, 815, .inl u.2.1))]) := by
  refine KI.of (cc := cX7_giveUp) (maxL := 1) (ty := .int) (by decide) rfl (Nat.le_of_ble_eq_true rfl) rfl (fun p e s m args below meth c ls Q A hx hb hml hown hts hE hP hD hS hl hend => ?_)
  have hown : s.vm.findClass RX7 = some m.cls := hown
  have hl : lv_has ls 1 [(0, .ref h0)] := hl
  refine lv_aload_n hx hb dX7_giveUp_0 rfl (lv_at hl 0 rfl) ?_
  refine cRV ⟨hx, hb, hml, hown, hts⟩ (kX7_isCopy l D cI cS h0 h1 h2 τ.2.2 w3 w4 w5 w6 w7 w8 w9 w10 w11 w12 τ.1) (cwV 0 hts gX7_giveUp_X7_isCopy rfl rfl rfl (by decide +kernel) ⟨Nat.le_of_ble_eq_true rfl, Nat.le_of_ble_eq_true rfl⟩) hE hP 0 rfl rfl [0, 1] rfl rfl hl.1 rfl (Nat.le_of_ble_eq_true rfl) ⟨Nat.zero_le _, Nat.zero_le _⟩ dX7_giveUp_1 ?_
  refine lv_if_ne (tgt := 10) hx hb dX7_giveUp_4 (by decide) (fun c_4 => ?_) (fun c_4 => ?_)
  · refine lv_aload_n hx hb dX7_giveUp_10 rfl (lv_at hl 0 rfl) ?_
    refine cVV ⟨hx, hb, hml, hown, hts⟩ (kX7_record l D cI cS h0 h1 h2 w3 w4 w5 w6 w7 w8 w9 w10 w11 w12 τ hkp) (cwV 0 hts gX7_giveUp_X7_record rfl rfl rfl (by decide +kernel) ⟨Nat.le_of_ble_eq_true rfl, Nat.le_of_ble_eq_true rfl⟩) hE hP hD hS 0 rfl rfl [0, 1, 2] rfl (by decide) (fun _ => rfl) rfl hl.1 rfl (Nat.le_of_ble_eq_true rfl) ⟨Nat.zero_le _, Nat.zero_le _⟩ dX7_giveUp_11 (fun u_11 H locs e_11 hP hD hS => ?_)
    have hP : va_P D vwCl [(h0, .inr (7, [.ref h1, .ref h2, .int u_11.2.2, .ref w3, .int w4, .ref w5, .ref w6, .int w7, .int w8, .int w9, .int w10, .int w11, .int w12])), (h1, .inl (cI, 163, .inl u_11.1)), (h2, .inl (cI, 815, .inl u_11.2.1))] H := hP
    have hD : va_D A [(h0, .inr (7, [.ref h1, .ref h2, .int u_11.2.2, .ref w3, .int w4, .ref w5, .ref w6, .int w7, .int w8, .int w9, .int w10, .int w11, .int w12])), (h1, .inl (cI, 163, .inl u_11.1)), (h2, .inl (cI, 815, .inl u_11.2.1))] := hD
    refine lv_aload_n hx hb dX7_giveUp_14 rfl (lv_at hl 0 rfl) ?_
    refine cIV ⟨hx, hb, hml, hown, hts⟩ (kX7_doGiveUp l D cI cS h0 h1 h2 u_11.2.2 w3 w4 w5 w6 w7 w8 w9 w10 w11 w12 u_11.1) (cwV 0 hts gX7_giveUp_X7_doGiveUp rfl rfl rfl (by decide +kernel) ⟨Nat.le_of_ble_eq_true rfl, Nat.le_of_ble_eq_true rfl⟩) hE hP hD hS 0 rfl rfl [0, 1] rfl (by decide) (fun _ => rfl) rfl hl.1 rfl (Nat.le_of_ble_eq_true rfl) ⟨Nat.zero_le _, Nat.zero_le _⟩ dX7_giveUp_15 (fun r_15 u_15 H locs e_15 hP hD hS => ?_)
    have hP : va_P D vwCl [(h0, .inr (7, [.ref h1, .ref h2, .int u_11.2.2, .ref w3, .int w4, .ref w5, .ref w6, .int w7, .int w8, .int w9, .int w10, .int w11, .int w12])), (h1, .inl (cI, 163, .inl u_15)), (h2, .inl (cI, 815, .inl u_11.2.1))] H := hP
    have hD : va_D A [(h0, .inr (7, [.ref h1, .ref h2, .int u_11.2.2, .ref w3, .int w4, .ref w5, .ref w6, .int w7, .int w8, .int w9, .int w10, .int w11, .int w12])), (h1, .inl (cI, 163, .inl u_15)), (h2, .inl (cI, 815, .inl u_11.2.1))] := hD
    exact hend _ _ _ _ _ _ dX7_giveUp_18 rfl (fX7_giveUp_p0 τ c_4 u_11 e_11 r_15 u_15 e_15) hP hS
  · refine lv_bipush (v := (-4 : Int32)) hx hb dX7_giveUp_7 (by decide +kernel) ?_
    exact hend _ _ _ _ _ _ dX7_giveUp_9 rfl (fX7_giveUp_p1 τ c_4) hP hS

def fX7_set (p0 : Int32) (p1 : Int32) (τ : MHT) : Int32 × MHT := (if (fX7_in p0 (0 : Int32) (3 : Int32)) = (0 : Int32) then ((-1 : Int32), τ) else (if (fX7_fits p0 p1) = (0 : Int32) then ((-2 : Int32), τ) else (let u_23 := (fX7_record τ); ((u_23.1 (7 + p0.toNatClampNeg)), ((upd u_23.1 (7 + p0.toNatClampNeg) p1), u_23.2.1, u_23.2.2)))))
theorem fX7_set_p0 (p0 : Int32) (p1 : Int32) (τ : MHT) (c_6 : ¬ (fX7_in p0 (0 : Int32) (3 : Int32)) = (0 : Int32)) (c_16 : ¬ (fX7_fits p0 p1) = (0 : Int32)) (u_23 : MHT) (e_23 : (fX7_record τ) = u_23) : (fX7_set p0 p1 τ) = ((u_23.1 (7 + p0.toNatClampNeg)), ((upd u_23.1 (7 + p0.toNatClampNeg) p1), u_23.2.1, u_23.2.2)) := by
  simp only [fX7_set, if_neg c_6, if_neg c_16, e_23]
theorem fX7_set_p1 (p0 : Int32) (p1 : Int32) (τ : MHT) (c_6 : ¬ (fX7_in p0 (0 : Int32) (3 : Int32)) = (0 : Int32)) (c_16 : (fX7_fits p0 p1) = (0 : Int32)) : (fX7_set p0 p1 τ) = ((-2 : Int32), τ) := by
  simp only [fX7_set, if_neg c_6, if_pos c_16]
theorem fX7_set_p2 (p0 : Int32) (p1 : Int32) (τ : MHT) (c_6 : (fX7_in p0 (0 : Int32) (3 : Int32)) = (0 : Int32)) : (fX7_set p0 p1 τ) = ((-1 : Int32), τ) := by
  simp only [fX7_set, if_pos c_6]
set_option maxHeartbeats 4000000 in
set_option maxRecDepth 100000 in
theorem kX7_set (l : Launch) (D : va_G) (cI cS : ClassId) (h0 h1 h2 : Nat) (w3 : Nat) (w4 : Int32) (w5 : Nat) (w6 : Nat) (w7 : Int32) (w8 : Int32) (w9 : Int32) (w10 : Int32) (w11 : Int32) (w12 : Int32) (p0 : Int32) (p1 : Int32) (τ : MHT) (hkp : Bd τ.2.2 5) : KI l yX7_set wsX7_set { frames := 2, cells := 0, slots := 0, locals := 45 } D (tysA cI cS) [.ref h0, .int p0, .int p1] [(h0, .inr (7, [.ref h1, .ref h2, .int τ.2.2, .ref w3, .int w4, .ref w5, .ref w6, .int w7, .int w8, .int w9, .int w10, .int w11, .int w12])), (h1, .inl (cI, 163, .inl τ.1)), (h2, .inl (cI, 815, .inl τ.2.1))] (fX7_set p0 p1 τ) (fun u => [(h0, .inr (7, [.ref h1, .ref h2, .int u.2.2, .ref w3, .int w4, .ref w5, .ref w6, .int w7, .int w8, .int w9, .int w10, .int w11, .int w12])), (h1, .inl (cI, 163, .inl u.1)), (h2, .inl (cI, 815, .inl u.2.1))]) := by
  refine KI.of (cc := cX7_set) (maxL := 4) (ty := .int) (by decide) rfl (Nat.le_of_ble_eq_true rfl) rfl (fun p e s m args below meth c ls Q A hx hb hml hown hts hE hP hD hS hl hend => ?_)
  have hown : s.vm.findClass RX7 = some m.cls := hown
  have hl : lv_has ls 4 [(0, .ref h0), (1, .int p0), (2, .int p1)] := hl
  refine lv_iload_n hx hb dX7_set_0 rfl (lv_at hl 1 rfl) ?_
  refine lv_iconst (v := (0 : Int32)) hx hb dX7_set_1 (by decide +kernel) ?_
  refine lv_iconst (v := (3 : Int32)) hx hb dX7_set_2 (by decide +kernel) ?_
  refine cRS ⟨hx, hb, hml, hown, hts⟩ (kX7_in l D cI cS p0 (0 : Int32) (3 : Int32)) (va_cwS 3 hts gX7_set_X7_in rfl rfl rfl (by decide +kernel) ⟨Nat.le_of_ble_eq_true rfl, Nat.le_of_ble_eq_true rfl⟩) hE hP [] rfl rfl hl.1 rfl (Nat.le_of_ble_eq_true rfl) ⟨Nat.zero_le _, Nat.zero_le _⟩ dX7_set_3 ?_
  refine lv_if_ne (tgt := 11) hx hb dX7_set_6 (by decide) (fun c_6 => ?_) (fun c_6 => ?_)
  · refine lv_iload_n hx hb dX7_set_11 rfl (lv_at hl 1 rfl) ?_
    refine lv_iload_n hx hb dX7_set_12 rfl (lv_at hl 2 rfl) ?_
    refine cRS ⟨hx, hb, hml, hown, hts⟩ (kX7_fits l D cI cS p0 p1) (va_cwS 2 hts gX7_set_X7_fits rfl rfl rfl (by decide +kernel) ⟨Nat.le_of_ble_eq_true rfl, Nat.le_of_ble_eq_true rfl⟩) hE hP [] rfl rfl hl.1 rfl (Nat.le_of_ble_eq_true rfl) ⟨Nat.zero_le _, Nat.zero_le _⟩ dX7_set_13 ?_
    refine lv_if_ne (tgt := 22) hx hb dX7_set_16 (by decide) (fun c_16 => ?_) (fun c_16 => ?_)
    · refine lv_aload_n hx hb dX7_set_22 rfl (lv_at hl 0 rfl) ?_
      refine cVV ⟨hx, hb, hml, hown, hts⟩ (kX7_record l D cI cS h0 h1 h2 w3 w4 w5 w6 w7 w8 w9 w10 w11 w12 τ hkp) (cwV 0 hts gX7_set_X7_record rfl rfl rfl (by decide +kernel) ⟨Nat.le_of_ble_eq_true rfl, Nat.le_of_ble_eq_true rfl⟩) hE hP hD hS 0 rfl rfl [0, 1, 2] rfl (by decide) (fun _ => rfl) rfl hl.1 rfl (Nat.le_of_ble_eq_true rfl) ⟨Nat.zero_le _, Nat.zero_le _⟩ dX7_set_23 (fun u_23 H locs e_23 hP hD hS => ?_)
      have hP : va_P D vwCl [(h0, .inr (7, [.ref h1, .ref h2, .int u_23.2.2, .ref w3, .int w4, .ref w5, .ref w6, .int w7, .int w8, .int w9, .int w10, .int w11, .int w12])), (h1, .inl (cI, 163, .inl u_23.1)), (h2, .inl (cI, 815, .inl u_23.2.1))] H := hP
      have hD : va_D A [(h0, .inr (7, [.ref h1, .ref h2, .int u_23.2.2, .ref w3, .int w4, .ref w5, .ref w6, .int w7, .int w8, .int w9, .int w10, .int w11, .int w12])), (h1, .inl (cI, 163, .inl u_23.1)), (h2, .inl (cI, 815, .inl u_23.2.1))] := hD
      refine lv_aload_n hx hb dX7_set_26 rfl (lv_at hl 0 rfl) ?_
      refine va_get (D := D) (ci := 7) (v := .ref h1) (C := RX7) (T := TX7) (N := 13) hx hb hts (fun _ h9 => List.mem_cons_of_mem _ (List.mem_append_right _ h9)) hown hE.1 hP 0 rfl rfl 0 (by decide) (hts (.fieldLink RX7 7 "ShadowTableModel" "s" "[I") (List.mem_of_getElem? (i := 1) rfl)) (fun _ h9 => h9) rfl dX7_set_27 ?_
      refine lv_bipush (v := (7 : Int32)) hx hb dX7_set_30 (by decide +kernel) ?_
      refine lv_iload_n hx hb dX7_set_32 rfl (lv_at hl 1 rfl) ?_
      refine lv_iadd hx hb dX7_set_33 ?_
      refine xld (v := (u_23.1 (7 + p0.toNatClampNeg))) (j := (7 + p0.toNatClampNeg)) hx hb hE hP 1 rfl rfl (zz_of7 c_6).1 (zz_of7 c_6).2 rfl dX7_set_34 ?_
      refine lv_istore_n (lv' := [(3, .int (u_23.1 (7 + p0.toNatClampNeg))), (0, .ref h0), (1, .int p0), (2, .int p1)]) hx hb dX7_set_35 rfl hl (by decide) rfl (fun ls hl => ?_)
      refine lv_aload_n hx hb dX7_set_36 rfl (lv_at hl 1 rfl) ?_
      refine va_get (D := D) (ci := 7) (v := .ref h1) (C := RX7) (T := TX7) (N := 13) hx hb hts (fun _ h9 => List.mem_cons_of_mem _ (List.mem_append_right _ h9)) hown hE.1 hP 0 rfl rfl 0 (by decide) (hts (.fieldLink RX7 7 "ShadowTableModel" "s" "[I") (List.mem_of_getElem? (i := 1) rfl)) (fun _ h9 => h9) rfl dX7_set_37 ?_
      refine lv_bipush (v := (7 : Int32)) hx hb dX7_set_40 (by decide +kernel) ?_
      refine lv_iload_n hx hb dX7_set_42 rfl (lv_at hl 2 rfl) ?_
      refine lv_iadd hx hb dX7_set_43 ?_
      refine lv_iload_n hx hb dX7_set_44 rfl (lv_at hl 3 rfl) ?_
      refine xst (j := (7 + p0.toNatClampNeg)) hx hb hE hP hD hS 1 rfl rfl (zz_of7 c_6).1 (zz_of7 c_6).2 [(h0, .inr (7, [.ref h1, .ref h2, .int u_23.2.2, .ref w3, .int w4, .ref w5, .ref w6, .int w7, .int w8, .int w9, .int w10, .int w11, .int w12])), (h1, .inl (cI, 163, .inl (upd u_23.1 (7 + p0.toNatClampNeg) p1))), (h2, .inl (cI, 815, .inl u_23.2.1))] rfl dX7_set_45 (fun H locs hP hD hS => ?_)
      refine lv_iload_n hx hb dX7_set_46 rfl (lv_at hl 0 rfl) ?_
      exact hend _ _ _ _ _ _ dX7_set_47 rfl (fX7_set_p0 p0 p1 τ c_6 c_16 u_23 e_23) hP hS
    · refine lv_bipush (v := (-2 : Int32)) hx hb dX7_set_19 (by decide +kernel) ?_
      exact hend _ _ _ _ _ _ dX7_set_21 rfl (fX7_set_p1 p0 p1 τ c_6 c_16) hP hS
  · refine lv_iconst (v := (-1 : Int32)) hx hb dX7_set_9 (by decide +kernel) ?_
    exact hend _ _ _ _ _ _ dX7_set_10 rfl (fX7_set_p2 p0 p1 τ c_6) hP hS

def fX7_append (p0 : Int32) (τ : MLT) : Int32 × MLT := (if (fX7_in p0 (32 : Int32) (126 : Int32)) = (0 : Int32) then ((-2 : Int32), τ) else (if τ.2 = (80 : Int32) then ((-3 : Int32), τ) else ((τ.2 + (1 : Int32)), ((upd τ.1 τ.2.toNatClampNeg p0), (τ.2 + (1 : Int32))))))
theorem fX7_append_p0 (p0 : Int32) (τ : MLT) (c_8 : ¬ (fX7_in p0 (32 : Int32) (126 : Int32)) = (0 : Int32)) (c_20 : ¬ τ.2 = (80 : Int32)) : (fX7_append p0 τ) = ((τ.2 + (1 : Int32)), ((upd τ.1 τ.2.toNatClampNeg p0), (τ.2 + (1 : Int32)))) := by
  simp only [fX7_append, if_neg c_8, if_neg c_20]
theorem fX7_append_p1 (p0 : Int32) (τ : MLT) (c_8 : ¬ (fX7_in p0 (32 : Int32) (126 : Int32)) = (0 : Int32)) (c_20 : τ.2 = (80 : Int32)) : (fX7_append p0 τ) = ((-3 : Int32), τ) := by
  simp only [fX7_append, if_neg c_8, if_pos c_20]
theorem fX7_append_p2 (p0 : Int32) (τ : MLT) (c_8 : (fX7_in p0 (32 : Int32) (126 : Int32)) = (0 : Int32)) : (fX7_append p0 τ) = ((-2 : Int32), τ) := by
  simp only [fX7_append, if_pos c_8]
set_option maxHeartbeats 4000000 in
set_option maxRecDepth 100000 in
theorem kX7_append (l : Launch) (D : va_G) (cI cS : ClassId) (h0 h1 : Nat) (w0 : Nat) (w1 : Nat) (w2 : Int32) (w3 : Nat) (w4 : Int32) (w5 : Nat) (w8 : Int32) (w9 : Int32) (w10 : Int32) (w11 : Int32) (w12 : Int32) (p0 : Int32) (τ : MLT) (hlb : Bd τ.2 80) : KI l yX7_append wsX7_append { frames := 1, cells := 0, slots := 0, locals := 22 } D (tysA cI cS) [.ref h0, .int p0] [(h0, .inr (7, [.ref w0, .ref w1, .int w2, .ref w3, .int w4, .ref w5, .ref h1, .int τ.2, .int w8, .int w9, .int w10, .int w11, .int w12])), (h1, .inl (cI, 80, .inl τ.1))] (fX7_append p0 τ) (fun u => [(h0, .inr (7, [.ref w0, .ref w1, .int w2, .ref w3, .int w4, .ref w5, .ref h1, .int u.2, .int w8, .int w9, .int w10, .int w11, .int w12])), (h1, .inl (cI, 80, .inl u.1))]) := by
  refine KI.of (cc := cX7_append) (maxL := 2) (ty := .int) (by decide) rfl (Nat.le_of_ble_eq_true rfl) rfl (fun p e s m args below meth c ls Q A hx hb hml hown hts hE hP hD hS hl hend => ?_)
  have hown : s.vm.findClass RX7 = some m.cls := hown
  have hl : lv_has ls 2 [(0, .ref h0), (1, .int p0)] := hl
  refine lv_iload_n hx hb dX7_append_0 rfl (lv_at hl 1 rfl) ?_
  refine lv_bipush (v := (32 : Int32)) hx hb dX7_append_1 (by decide +kernel) ?_
  refine lv_bipush (v := (126 : Int32)) hx hb dX7_append_3 (by decide +kernel) ?_
  refine cRS ⟨hx, hb, hml, hown, hts⟩ (kX7_in l D cI cS p0 (32 : Int32) (126 : Int32)) (va_cwS 3 hts gX7_append_X7_in rfl rfl rfl (by decide +kernel) ⟨Nat.le_of_ble_eq_true rfl, Nat.le_of_ble_eq_true rfl⟩) hE hP [] rfl rfl hl.1 rfl (Nat.le_of_ble_eq_true rfl) ⟨Nat.zero_le _, Nat.zero_le _⟩ dX7_append_5 ?_
  refine lv_if_ne (tgt := 14) hx hb dX7_append_8 (by decide) (fun c_8 => ?_) (fun c_8 => ?_)
  · refine lv_aload_n hx hb dX7_append_14 rfl (lv_at hl 0 rfl) ?_
    refine va_get (D := D) (ci := 7) (v := .int τ.2) (C := RX7) (T := TX7) (N := 13) hx hb hts (fun _ h9 => List.mem_cons_of_mem _ (List.mem_append_right _ h9)) hown hE.1 hP 0 rfl rfl 7 (by decide) (hts (.fieldLink RX7 132 "ShadowTableModel" "length" "I") (List.mem_of_getElem? (i := 1) rfl)) (fun _ h9 => h9) rfl dX7_append_15 ?_
    refine lv_bipush (v := (80 : Int32)) hx hb dX7_append_18 (by decide +kernel) ?_
    refine lv_icmp_ne (tgt := 26) hx hb dX7_append_20 (by decide) (fun c_20 => ?_) (fun c_20 => ?_)
    · refine lv_aload_n hx hb dX7_append_26 rfl (lv_at hl 0 rfl) ?_
      refine va_get (D := D) (ci := 7) (v := .ref h1) (C := RX7) (T := TX7) (N := 13) hx hb hts (fun _ h9 => List.mem_cons_of_mem _ (List.mem_append_right _ h9)) hown hE.1 hP 0 rfl rfl 6 (by decide) (hts (.fieldLink RX7 22 "ShadowTableModel" "text" "[I") (List.mem_of_getElem? (i := 2) rfl)) (fun _ h9 => h9) rfl dX7_append_27 ?_
      refine lv_aload_n hx hb dX7_append_30 rfl (lv_at hl 0 rfl) ?_
      refine va_get (D := D) (ci := 7) (v := .int τ.2) (C := RX7) (T := TX7) (N := 13) hx hb hts (fun _ h9 => List.mem_cons_of_mem _ (List.mem_append_right _ h9)) hown hE.1 hP 0 rfl rfl 7 (by decide) (hts (.fieldLink RX7 132 "ShadowTableModel" "length" "I") (List.mem_of_getElem? (i := 1) rfl)) (fun _ h9 => h9) rfl dX7_append_31 ?_
      refine lv_iload_n hx hb dX7_append_34 rfl (lv_at hl 1 rfl) ?_
      refine xst (j := τ.2.toNatClampNeg) hx hb hE hP hD hS 1 rfl rfl rfl (zz_app7 hlb c_20) [(h0, .inr (7, [.ref w0, .ref w1, .int w2, .ref w3, .int w4, .ref w5, .ref h1, .int τ.2, .int w8, .int w9, .int w10, .int w11, .int w12])), (h1, .inl (cI, 80, .inl (upd τ.1 τ.2.toNatClampNeg p0)))] rfl dX7_append_35 (fun H locs hP hD hS => ?_)
      refine lv_aload_n hx hb dX7_append_36 rfl (lv_at hl 0 rfl) ?_
      refine lv_dup hx hb dX7_append_37 rfl ?_
      refine va_get (D := D) (ci := 7) (v := .int τ.2) (C := RX7) (T := TX7) (N := 13) hx hb hts (fun _ h9 => List.mem_cons_of_mem _ (List.mem_append_right _ h9)) hown hE.1 hP 0 rfl rfl 7 (by decide) (hts (.fieldLink RX7 132 "ShadowTableModel" "length" "I") (List.mem_of_getElem? (i := 1) rfl)) (fun _ h9 => h9) rfl dX7_append_38 ?_
      refine lv_iconst (v := (1 : Int32)) hx hb dX7_append_41 (by decide +kernel) ?_
      refine lv_iadd hx hb dX7_append_42 ?_
      refine xpf (ty := .int) (v := .int (τ.2 + (1 : Int32))) (C := RX7) (T := TX7) (N := 13) hx hb hts (fun _ h9 => List.mem_cons_of_mem _ (List.mem_append_right _ h9)) tyX7 tyX7_ok nmX7 hown hE hP hD hS 0 rfl rfl 7 (by decide) (hts (.fieldLink RX7 132 "ShadowTableModel" "length" "I") (List.mem_of_getElem? (i := 1) rfl)) rfl rfl (by decide +kernel) rfl rfl (Nat.le_of_ble_eq_true rfl) [(h0, .inr (7, [.ref w0, .ref w1, .int w2, .ref w3, .int w4, .ref w5, .ref h1, .int (τ.2 + (1 : Int32)), .int w8, .int w9, .int w10, .int w11, .int w12])), (h1, .inl (cI, 80, .inl (upd τ.1 τ.2.toNatClampNeg p0)))] rfl dX7_append_43 (fun H locs hP hD hS => ?_)
      refine lv_aload_n hx hb dX7_append_46 rfl (lv_at hl 0 rfl) ?_
      refine va_get (D := D) (ci := 7) (v := .int (τ.2 + (1 : Int32))) (C := RX7) (T := TX7) (N := 13) hx hb hts (fun _ h9 => List.mem_cons_of_mem _ (List.mem_append_right _ h9)) hown hE.1 hP 0 rfl rfl 7 (by decide) (hts (.fieldLink RX7 132 "ShadowTableModel" "length" "I") (List.mem_of_getElem? (i := 1) rfl)) (fun _ h9 => h9) rfl dX7_append_47 ?_
      exact hend _ _ _ _ _ _ dX7_append_50 rfl (fX7_append_p0 p0 τ c_8 c_20) hP hS
    · refine lv_bipush (v := (-3 : Int32)) hx hb dX7_append_23 (by decide +kernel) ?_
      exact hend _ _ _ _ _ _ dX7_append_25 rfl (fX7_append_p1 p0 τ c_8 c_20) hP hS
  · refine lv_bipush (v := (-2 : Int32)) hx hb dX7_append_11 (by decide +kernel) ?_
    exact hend _ _ _ _ _ _ dX7_append_13 rfl (fX7_append_p2 p0 τ c_8) hP hS

def fX7_clearText (τ : MLT) : Int32 × MLT := (τ.2, (τ.1, (0 : Int32)))
theorem fX7_clearText_p0 (τ : MLT) : (fX7_clearText τ) = (τ.2, (τ.1, (0 : Int32))) := by
  simp only [fX7_clearText]
set_option maxHeartbeats 4000000 in
set_option maxRecDepth 100000 in
theorem kX7_clearText (l : Launch) (D : va_G) (cI cS : ClassId) (h0 h1 : Nat) (w0 : Nat) (w1 : Nat) (w2 : Int32) (w3 : Nat) (w4 : Int32) (w5 : Nat) (w8 : Int32) (w9 : Int32) (w10 : Int32) (w11 : Int32) (w12 : Int32) (τ : MLT) : KI l yX7_clearText wsX7_clearText { frames := 0, cells := 0, slots := 0, locals := 0 } D (tysA cI cS) [.ref h0] [(h0, .inr (7, [.ref w0, .ref w1, .int w2, .ref w3, .int w4, .ref w5, .ref h1, .int τ.2, .int w8, .int w9, .int w10, .int w11, .int w12])), (h1, .inl (cI, 80, .inl τ.1))] (fX7_clearText τ) (fun u => [(h0, .inr (7, [.ref w0, .ref w1, .int w2, .ref w3, .int w4, .ref w5, .ref h1, .int u.2, .int w8, .int w9, .int w10, .int w11, .int w12])), (h1, .inl (cI, 80, .inl u.1))]) := by
  refine KI.of (cc := cX7_clearText) (maxL := 2) (ty := .int) (by decide) rfl (Nat.le_of_ble_eq_true rfl) rfl (fun p e s m args below meth c ls Q A hx hb hml hown hts hE hP hD hS hl hend => ?_)
  have hown : s.vm.findClass RX7 = some m.cls := hown
  have hl : lv_has ls 2 [(0, .ref h0)] := hl
  refine lv_aload_n hx hb dX7_clearText_0 rfl (lv_at hl 0 rfl) ?_
  refine va_get (D := D) (ci := 7) (v := .int τ.2) (C := RX7) (T := TX7) (N := 13) hx hb hts (fun _ h9 => List.mem_cons_of_mem _ (List.mem_append_right _ h9)) hown hE.1 hP 0 rfl rfl 7 (by decide) (hts (.fieldLink RX7 132 "ShadowTableModel" "length" "I") (List.mem_of_getElem? (i := 1) rfl)) (fun _ h9 => h9) rfl dX7_clearText_1 ?_
  refine lv_istore_n (lv' := [(1, .int τ.2), (0, .ref h0)]) hx hb dX7_clearText_4 rfl hl (by decide) rfl (fun ls hl => ?_)
  refine lv_aload_n hx hb dX7_clearText_5 rfl (lv_at hl 1 rfl) ?_
  refine lv_iconst (v := (0 : Int32)) hx hb dX7_clearText_6 (by decide +kernel) ?_
  refine xpf (ty := .int) (v := .int (0 : Int32)) (C := RX7) (T := TX7) (N := 13) hx hb hts (fun _ h9 => List.mem_cons_of_mem _ (List.mem_append_right _ h9)) tyX7 tyX7_ok nmX7 hown hE hP hD hS 0 rfl rfl 7 (by decide) (hts (.fieldLink RX7 132 "ShadowTableModel" "length" "I") (List.mem_of_getElem? (i := 1) rfl)) rfl rfl (by decide +kernel) rfl rfl (Nat.le_of_ble_eq_true rfl) [(h0, .inr (7, [.ref w0, .ref w1, .int w2, .ref w3, .int w4, .ref w5, .ref h1, .int (0 : Int32), .int w8, .int w9, .int w10, .int w11, .int w12])), (h1, .inl (cI, 80, .inl τ.1))] rfl dX7_clearText_7 (fun H locs hP hD hS => ?_)
  refine lv_iload_n hx hb dX7_clearText_10 rfl (lv_at hl 0 rfl) ?_
  exact hend _ _ _ _ _ _ dX7_clearText_11 rfl (fX7_clearText_p0 τ) hP hS

def fX7_value (p0 : Int32) (p1 : Int32) (τ : FnI) : Int32 := (if (fX7_isKey p1) = (0 : Int32) then (-1 : Int32) else (if (fX7_in p0 (0 : Int32) (2 : Int32)) = (0 : Int32) then (-2 : Int32) else (if (fX7_isTable p0 τ) = (0 : Int32) then (-5 : Int32) else (fX7_outside (fX7_row p0 p1 τ)))))
theorem fX7_value_p0 (p0 : Int32) (p1 : Int32) (τ : FnI) (c_4 : ¬ (fX7_isKey p1) = (0 : Int32)) (c_15 : ¬ (fX7_in p0 (0 : Int32) (2 : Int32)) = (0 : Int32)) (c_26 : (fX7_isTable p0 τ) = (0 : Int32)) : (fX7_value p0 p1 τ) = (-5 : Int32) := by
  simp only [fX7_value, if_neg c_4, if_neg c_15, if_pos c_26]
theorem fX7_value_p1 (p0 : Int32) (p1 : Int32) (τ : FnI) (c_4 : ¬ (fX7_isKey p1) = (0 : Int32)) (c_15 : ¬ (fX7_in p0 (0 : Int32) (2 : Int32)) = (0 : Int32)) (c_26 : ¬ (fX7_isTable p0 τ) = (0 : Int32)) : (fX7_value p0 p1 τ) = (fX7_outside (fX7_row p0 p1 τ)) := by
  simp only [fX7_value, if_neg c_4, if_neg c_15, if_neg c_26]
theorem fX7_value_p2 (p0 : Int32) (p1 : Int32) (τ : FnI) (c_4 : ¬ (fX7_isKey p1) = (0 : Int32)) (c_15 : (fX7_in p0 (0 : Int32) (2 : Int32)) = (0 : Int32)) : (fX7_value p0 p1 τ) = (-2 : Int32) := by
  simp only [fX7_value, if_neg c_4, if_pos c_15]
theorem fX7_value_p3 (p0 : Int32) (p1 : Int32) (τ : FnI) (c_4 : (fX7_isKey p1) = (0 : Int32)) : (fX7_value p0 p1 τ) = (-1 : Int32) := by
  simp only [fX7_value, if_pos c_4]
set_option maxHeartbeats 4000000 in
set_option maxRecDepth 100000 in
theorem kX7_value (l : Launch) (D : va_G) (cI cS : ClassId) (h0 h1 : Nat) (w1 : Nat) (w2 : Int32) (w3 : Nat) (w4 : Int32) (w5 : Nat) (w6 : Nat) (w7 : Int32) (w8 : Int32) (w9 : Int32) (w10 : Int32) (w11 : Int32) (w12 : Int32) (p0 : Int32) (p1 : Int32) (τ : FnI) : KR l yX7_value wsX7_value { frames := 2, cells := 0, slots := 0, locals := 42 } D (tysA cI cS) [.ref h0, .int p0, .int p1] [(h0, .inr (7, [.ref h1, .ref w1, .int w2, .ref w3, .int w4, .ref w5, .ref w6, .int w7, .int w8, .int w9, .int w10, .int w11, .int w12])), (h1, .inl (cI, 163, .inl τ))] (fX7_value p0 p1 τ) := by
  refine KR.of (cc := cX7_value) (maxL := 3) (ty := .int) (by decide) rfl (Nat.le_of_ble_eq_true rfl) rfl (fun p e s m args below meth c ls Q hx hb hml hown hts hE hP hl hend => ?_)
  have hown : s.vm.findClass RX7 = some m.cls := hown
  have hl : lv_has ls 3 [(0, .ref h0), (1, .int p0), (2, .int p1)] := hl
  refine lv_iload_n hx hb dX7_value_0 rfl (lv_at hl 2 rfl) ?_
  refine cRS ⟨hx, hb, hml, hown, hts⟩ (kX7_isKey l D cI cS p1) (va_cwS 1 hts gX7_value_X7_isKey rfl rfl rfl (by decide +kernel) ⟨Nat.le_of_ble_eq_true rfl, Nat.le_of_ble_eq_true rfl⟩) hE hP [] rfl rfl hl.1 rfl (Nat.le_of_ble_eq_true rfl) ⟨Nat.zero_le _, Nat.zero_le _⟩ dX7_value_1 ?_
  refine lv_if_ne (tgt := 9) hx hb dX7_value_4 (by decide) (fun c_4 => ?_) (fun c_4 => ?_)
  · refine lv_iload_n hx hb dX7_value_9 rfl (lv_at hl 1 rfl) ?_
    refine lv_iconst (v := (0 : Int32)) hx hb dX7_value_10 (by decide +kernel) ?_
    refine lv_iconst (v := (2 : Int32)) hx hb dX7_value_11 (by decide +kernel) ?_
    refine cRS ⟨hx, hb, hml, hown, hts⟩ (kX7_in l D cI cS p0 (0 : Int32) (2 : Int32)) (va_cwS 3 hts gX7_value_X7_in rfl rfl rfl (by decide +kernel) ⟨Nat.le_of_ble_eq_true rfl, Nat.le_of_ble_eq_true rfl⟩) hE hP [] rfl rfl hl.1 rfl (Nat.le_of_ble_eq_true rfl) ⟨Nat.zero_le _, Nat.zero_le _⟩ dX7_value_12 ?_
    refine lv_if_ne (tgt := 21) hx hb dX7_value_15 (by decide) (fun c_15 => ?_) (fun c_15 => ?_)
    · refine lv_aload_n hx hb dX7_value_21 rfl (lv_at hl 0 rfl) ?_
      refine lv_iload_n hx hb dX7_value_22 rfl (lv_at hl 1 rfl) ?_
      refine cRV ⟨hx, hb, hml, hown, hts⟩ (kX7_isTable l D cI cS h0 h1 w1 w2 w3 w4 w5 w6 w7 w8 w9 w10 w11 w12 p0 τ) (cwV 1 hts gX7_value_X7_isTable rfl rfl rfl (by decide +kernel) ⟨Nat.le_of_ble_eq_true rfl, Nat.le_of_ble_eq_true rfl⟩) hE hP 0 rfl rfl [0, 1] rfl rfl hl.1 rfl (Nat.le_of_ble_eq_true rfl) ⟨Nat.zero_le _, Nat.zero_le _⟩ dX7_value_23 ?_
      refine lv_if_eq (tgt := 41) hx hb dX7_value_26 (by decide) (fun c_26 => ?_) (fun c_26 => ?_)
      · refine lv_bipush (v := (-5 : Int32)) hx hb dX7_value_41 (by decide +kernel) ?_
        exact hend _ _ _ dX7_value_43 rfl (fX7_value_p0 p0 p1 τ c_4 c_15 c_26)
      · refine lv_aload_n hx hb dX7_value_29 rfl (lv_at hl 0 rfl) ?_
        refine lv_iload_n hx hb dX7_value_30 rfl (lv_at hl 1 rfl) ?_
        refine lv_iload_n hx hb dX7_value_31 rfl (lv_at hl 2 rfl) ?_
        refine cRV ⟨hx, hb, hml, hown, hts⟩ (kX7_row l D cI cS h0 h1 w1 w2 w3 w4 w5 w6 w7 w8 w9 w10 w11 w12 p0 p1 τ (zz_rowK (zz_in2 c_15) (zz_isKey7 c_4))) (cwV 2 hts gX7_value_X7_row rfl rfl rfl (by decide +kernel) ⟨Nat.le_of_ble_eq_true rfl, Nat.le_of_ble_eq_true rfl⟩) hE hP 0 rfl rfl [0, 1] rfl rfl hl.1 rfl (Nat.le_of_ble_eq_true rfl) ⟨Nat.zero_le _, Nat.zero_le _⟩ dX7_value_32 ?_
        refine cRS ⟨hx, hb, hml, hown, hts⟩ (kX7_outside l D cI cS (fX7_row p0 p1 τ)) (va_cwS 1 hts gX7_value_X7_outside rfl rfl rfl (by decide +kernel) ⟨Nat.le_of_ble_eq_true rfl, Nat.le_of_ble_eq_true rfl⟩) hE hP [] rfl rfl hl.1 rfl (Nat.le_of_ble_eq_true rfl) ⟨Nat.zero_le _, Nat.zero_le _⟩ dX7_value_35 ?_
        refine lv_goto (tgt := 43) hx hb dX7_value_38 (by decide) ?_
        exact hend _ _ _ dX7_value_43 rfl (fX7_value_p1 p0 p1 τ c_4 c_15 c_26)
    · refine lv_bipush (v := (-2 : Int32)) hx hb dX7_value_18 (by decide +kernel) ?_
      exact hend _ _ _ dX7_value_20 rfl (fX7_value_p2 p0 p1 τ c_4 c_15)
  · refine lv_iconst (v := (-1 : Int32)) hx hb dX7_value_7 (by decide +kernel) ?_
    exact hend _ _ _ dX7_value_8 rfl (fX7_value_p3 p0 p1 τ c_4)

def fX7_table (p0 : Int32) (p1 : Int32) (τ : FnI) : Int32 := (if (fX7_in p0 (0 : Int32) (2 : Int32)) = (0 : Int32) then (-2 : Int32) else (if (fX7_in p1 (0 : Int32) (3 : Int32)) = (0 : Int32) then (-2 : Int32) else (if (fX7_isTable p0 τ) = (0 : Int32) then (-5 : Int32) else (if p1 = (0 : Int32) then (fX7_rows p0 τ) else (if p1 = (1 : Int32) then (fX7_sum p0 τ) else (if p1 = (3 : Int32) then (fX7_endKey p0 (1 : Int32) τ) else (fX7_endKey p0 (0 : Int32) τ)))))))
theorem fX7_table_p0 (p0 : Int32) (p1 : Int32) (τ : FnI) (c_6 : (fX7_in p0 (0 : Int32) (2 : Int32)) = (0 : Int32)) : (fX7_table p0 p1 τ) = (-2 : Int32) := by
  simp only [fX7_table, if_pos c_6]
theorem fX7_table_p1 (p0 : Int32) (p1 : Int32) (τ : FnI) (c_6 : ¬ (fX7_in p0 (0 : Int32) (2 : Int32)) = (0 : Int32)) (c_15 : ¬ (fX7_in p1 (0 : Int32) (3 : Int32)) = (0 : Int32)) (c_26 : ¬ (fX7_isTable p0 τ) = (0 : Int32)) (c_33 : ¬ p1 = (0 : Int32)) (c_46 : ¬ p1 = (1 : Int32)) (c_61 : ¬ p1 = (3 : Int32)) : (fX7_table p0 p1 τ) = (fX7_endKey p0 (0 : Int32) τ) := by
  simp only [fX7_table, if_neg c_6, if_neg c_15, if_neg c_26, if_neg c_33, if_neg c_46, if_neg c_61]
theorem fX7_table_p2 (p0 : Int32) (p1 : Int32) (τ : FnI) (c_6 : ¬ (fX7_in p0 (0 : Int32) (2 : Int32)) = (0 : Int32)) (c_15 : ¬ (fX7_in p1 (0 : Int32) (3 : Int32)) = (0 : Int32)) (c_26 : ¬ (fX7_isTable p0 τ) = (0 : Int32)) (c_33 : ¬ p1 = (0 : Int32)) (c_46 : ¬ p1 = (1 : Int32)) (c_61 : p1 = (3 : Int32)) : (fX7_table p0 p1 τ) = (fX7_endKey p0 (1 : Int32) τ) := by
  simp only [fX7_table, if_neg c_6, if_neg c_15, if_neg c_26, if_neg c_33, if_neg c_46, if_pos c_61]
theorem fX7_table_p3 (p0 : Int32) (p1 : Int32) (τ : FnI) (c_6 : ¬ (fX7_in p0 (0 : Int32) (2 : Int32)) = (0 : Int32)) (c_15 : ¬ (fX7_in p1 (0 : Int32) (3 : Int32)) = (0 : Int32)) (c_26 : ¬ (fX7_isTable p0 τ) = (0 : Int32)) (c_33 : ¬ p1 = (0 : Int32)) (c_46 : p1 = (1 : Int32)) : (fX7_table p0 p1 τ) = (fX7_sum p0 τ) := by
  simp only [fX7_table, if_neg c_6, if_neg c_15, if_neg c_26, if_neg c_33, if_pos c_46]
theorem fX7_table_p4 (p0 : Int32) (p1 : Int32) (τ : FnI) (c_6 : ¬ (fX7_in p0 (0 : Int32) (2 : Int32)) = (0 : Int32)) (c_15 : ¬ (fX7_in p1 (0 : Int32) (3 : Int32)) = (0 : Int32)) (c_26 : ¬ (fX7_isTable p0 τ) = (0 : Int32)) (c_33 : p1 = (0 : Int32)) : (fX7_table p0 p1 τ) = (fX7_rows p0 τ) := by
  simp only [fX7_table, if_neg c_6, if_neg c_15, if_neg c_26, if_pos c_33]
theorem fX7_table_p5 (p0 : Int32) (p1 : Int32) (τ : FnI) (c_6 : ¬ (fX7_in p0 (0 : Int32) (2 : Int32)) = (0 : Int32)) (c_15 : ¬ (fX7_in p1 (0 : Int32) (3 : Int32)) = (0 : Int32)) (c_26 : (fX7_isTable p0 τ) = (0 : Int32)) : (fX7_table p0 p1 τ) = (-5 : Int32) := by
  simp only [fX7_table, if_neg c_6, if_neg c_15, if_pos c_26]
theorem fX7_table_p6 (p0 : Int32) (p1 : Int32) (τ : FnI) (c_6 : ¬ (fX7_in p0 (0 : Int32) (2 : Int32)) = (0 : Int32)) (c_15 : (fX7_in p1 (0 : Int32) (3 : Int32)) = (0 : Int32)) : (fX7_table p0 p1 τ) = (-2 : Int32) := by
  simp only [fX7_table, if_neg c_6, if_pos c_15]
set_option maxHeartbeats 4000000 in
set_option maxRecDepth 100000 in
theorem kX7_table (l : Launch) (D : va_G) (cI cS : ClassId) (h0 h1 : Nat) (w1 : Nat) (w2 : Int32) (w3 : Nat) (w4 : Int32) (w5 : Nat) (w6 : Nat) (w7 : Int32) (w8 : Int32) (w9 : Int32) (w10 : Int32) (w11 : Int32) (w12 : Int32) (p0 : Int32) (p1 : Int32) (τ : FnI) : KR l yX7_table wsX7_table { frames := 2, cells := 0, slots := 0, locals := 46 } D (tysA cI cS) [.ref h0, .int p0, .int p1] [(h0, .inr (7, [.ref h1, .ref w1, .int w2, .ref w3, .int w4, .ref w5, .ref w6, .int w7, .int w8, .int w9, .int w10, .int w11, .int w12])), (h1, .inl (cI, 163, .inl τ))] (fX7_table p0 p1 τ) := by
  refine KR.of (cc := cX7_table) (maxL := 3) (ty := .int) (by decide) rfl (Nat.le_of_ble_eq_true rfl) rfl (fun p e s m args below meth c ls Q hx hb hml hown hts hE hP hl hend => ?_)
  have hown : s.vm.findClass RX7 = some m.cls := hown
  have hl : lv_has ls 3 [(0, .ref h0), (1, .int p0), (2, .int p1)] := hl
  refine lv_iload_n hx hb dX7_table_0 rfl (lv_at hl 1 rfl) ?_
  refine lv_iconst (v := (0 : Int32)) hx hb dX7_table_1 (by decide +kernel) ?_
  refine lv_iconst (v := (2 : Int32)) hx hb dX7_table_2 (by decide +kernel) ?_
  refine cRS ⟨hx, hb, hml, hown, hts⟩ (kX7_in l D cI cS p0 (0 : Int32) (2 : Int32)) (va_cwS 3 hts gX7_table_X7_in rfl rfl rfl (by decide +kernel) ⟨Nat.le_of_ble_eq_true rfl, Nat.le_of_ble_eq_true rfl⟩) hE hP [] rfl rfl hl.1 rfl (Nat.le_of_ble_eq_true rfl) ⟨Nat.zero_le _, Nat.zero_le _⟩ dX7_table_3 ?_
  refine lv_if_eq (tgt := 18) hx hb dX7_table_6 (by decide) (fun c_6 => ?_) (fun c_6 => ?_)
  · refine lv_bipush (v := (-2 : Int32)) hx hb dX7_table_18 (by decide +kernel) ?_
    exact hend _ _ _ dX7_table_20 rfl (fX7_table_p0 p0 p1 τ c_6)
  · refine lv_iload_n hx hb dX7_table_9 rfl (lv_at hl 2 rfl) ?_
    refine lv_iconst (v := (0 : Int32)) hx hb dX7_table_10 (by decide +kernel) ?_
    refine lv_iconst (v := (3 : Int32)) hx hb dX7_table_11 (by decide +kernel) ?_
    refine cRS ⟨hx, hb, hml, hown, hts⟩ (kX7_in l D cI cS p1 (0 : Int32) (3 : Int32)) (va_cwS 3 hts gX7_table_X7_in rfl rfl rfl (by decide +kernel) ⟨Nat.le_of_ble_eq_true rfl, Nat.le_of_ble_eq_true rfl⟩) hE hP [] rfl rfl hl.1 rfl (Nat.le_of_ble_eq_true rfl) ⟨Nat.zero_le _, Nat.zero_le _⟩ dX7_table_12 ?_
    refine lv_if_ne (tgt := 21) hx hb dX7_table_15 (by decide) (fun c_15 => ?_) (fun c_15 => ?_)
    · refine lv_aload_n hx hb dX7_table_21 rfl (lv_at hl 0 rfl) ?_
      refine lv_iload_n hx hb dX7_table_22 rfl (lv_at hl 1 rfl) ?_
      refine cRV ⟨hx, hb, hml, hown, hts⟩ (kX7_isTable l D cI cS h0 h1 w1 w2 w3 w4 w5 w6 w7 w8 w9 w10 w11 w12 p0 τ) (cwV 1 hts gX7_table_X7_isTable rfl rfl rfl (by decide +kernel) ⟨Nat.le_of_ble_eq_true rfl, Nat.le_of_ble_eq_true rfl⟩) hE hP 0 rfl rfl [0, 1] rfl rfl hl.1 rfl (Nat.le_of_ble_eq_true rfl) ⟨Nat.zero_le _, Nat.zero_le _⟩ dX7_table_23 ?_
      refine lv_if_ne (tgt := 32) hx hb dX7_table_26 (by decide) (fun c_26 => ?_) (fun c_26 => ?_)
      · refine lv_iload_n hx hb dX7_table_32 rfl (lv_at hl 2 rfl) ?_
        refine lv_if_ne (tgt := 44) hx hb dX7_table_33 (by decide) (fun c_33 => ?_) (fun c_33 => ?_)
        · refine lv_iload_n hx hb dX7_table_44 rfl (lv_at hl 2 rfl) ?_
          refine lv_iconst (v := (1 : Int32)) hx hb dX7_table_45 (by decide +kernel) ?_
          refine lv_icmp_ne (tgt := 57) hx hb dX7_table_46 (by decide) (fun c_46 => ?_) (fun c_46 => ?_)
          · refine lv_aload_n hx hb dX7_table_57 rfl (lv_at hl 0 rfl) ?_
            refine lv_iload_n hx hb dX7_table_58 rfl (lv_at hl 1 rfl) ?_
            refine lv_iload_n hx hb dX7_table_59 rfl (lv_at hl 2 rfl) ?_
            refine lv_iconst (v := (3 : Int32)) hx hb dX7_table_60 (by decide +kernel) ?_
            refine lv_icmp_ne (tgt := 68) hx hb dX7_table_61 (by decide) (fun c_61 => ?_) (fun c_61 => ?_)
            · refine lv_iconst (v := (0 : Int32)) hx hb dX7_table_68 (by decide +kernel) ?_
              refine cRV ⟨hx, hb, hml, hown, hts⟩ (kX7_endKey l D cI cS h0 h1 w1 w2 w3 w4 w5 w6 w7 w8 w9 w10 w11 w12 p0 (0 : Int32) τ (zz_in2 c_6)) (cwV 2 hts gX7_table_X7_endKey rfl rfl rfl (by decide +kernel) ⟨Nat.le_of_ble_eq_true rfl, Nat.le_of_ble_eq_true rfl⟩) hE hP 0 rfl rfl [0, 1] rfl rfl hl.1 rfl (Nat.le_of_ble_eq_true rfl) ⟨Nat.zero_le _, Nat.zero_le _⟩ dX7_table_69 ?_
              exact hend _ _ _ dX7_table_72 rfl (fX7_table_p1 p0 p1 τ c_6 c_15 c_26 c_33 c_46 c_61)
            · refine lv_iconst (v := (1 : Int32)) hx hb dX7_table_64 (by decide +kernel) ?_
              refine lv_goto (tgt := 69) hx hb dX7_table_65 (by decide) ?_
              refine cRV ⟨hx, hb, hml, hown, hts⟩ (kX7_endKey l D cI cS h0 h1 w1 w2 w3 w4 w5 w6 w7 w8 w9 w10 w11 w12 p0 (1 : Int32) τ (zz_in2 c_6)) (cwV 2 hts gX7_table_X7_endKey rfl rfl rfl (by decide +kernel) ⟨Nat.le_of_ble_eq_true rfl, Nat.le_of_ble_eq_true rfl⟩) hE hP 0 rfl rfl [0, 1] rfl rfl hl.1 rfl (Nat.le_of_ble_eq_true rfl) ⟨Nat.zero_le _, Nat.zero_le _⟩ dX7_table_69 ?_
              exact hend _ _ _ dX7_table_72 rfl (fX7_table_p2 p0 p1 τ c_6 c_15 c_26 c_33 c_46 c_61)
          · refine lv_aload_n hx hb dX7_table_49 rfl (lv_at hl 0 rfl) ?_
            refine lv_iload_n hx hb dX7_table_50 rfl (lv_at hl 1 rfl) ?_
            refine cRV ⟨hx, hb, hml, hown, hts⟩ (kX7_sum l D cI cS h0 h1 w1 w2 w3 w4 w5 w6 w7 w8 w9 w10 w11 w12 p0 τ (zz_in2 c_6)) (cwV 1 hts gX7_table_X7_sum rfl rfl rfl (by decide +kernel) ⟨Nat.le_of_ble_eq_true rfl, Nat.le_of_ble_eq_true rfl⟩) hE hP 0 rfl rfl [0, 1] rfl rfl hl.1 rfl (Nat.le_of_ble_eq_true rfl) ⟨Nat.zero_le _, Nat.zero_le _⟩ dX7_table_51 ?_
            refine lv_goto (tgt := 72) hx hb dX7_table_54 (by decide) ?_
            exact hend _ _ _ dX7_table_72 rfl (fX7_table_p3 p0 p1 τ c_6 c_15 c_26 c_33 c_46)
        · refine lv_aload_n hx hb dX7_table_36 rfl (lv_at hl 0 rfl) ?_
          refine lv_iload_n hx hb dX7_table_37 rfl (lv_at hl 1 rfl) ?_
          refine cRV ⟨hx, hb, hml, hown, hts⟩ (kX7_rows l D cI cS h0 h1 w1 w2 w3 w4 w5 w6 w7 w8 w9 w10 w11 w12 p0 τ (zz_in2 c_6)) (cwV 1 hts gX7_table_X7_rows rfl rfl rfl (by decide +kernel) ⟨Nat.le_of_ble_eq_true rfl, Nat.le_of_ble_eq_true rfl⟩) hE hP 0 rfl rfl [0, 1] rfl rfl hl.1 rfl (Nat.le_of_ble_eq_true rfl) ⟨Nat.zero_le _, Nat.zero_le _⟩ dX7_table_38 ?_
          refine lv_goto (tgt := 72) hx hb dX7_table_41 (by decide) ?_
          exact hend _ _ _ dX7_table_72 rfl (fX7_table_p4 p0 p1 τ c_6 c_15 c_26 c_33)
      · refine lv_bipush (v := (-5 : Int32)) hx hb dX7_table_29 (by decide +kernel) ?_
        exact hend _ _ _ dX7_table_31 rfl (fX7_table_p5 p0 p1 τ c_6 c_15 c_26)
    · refine lv_bipush (v := (-2 : Int32)) hx hb dX7_table_18 (by decide +kernel) ?_
      exact hend _ _ _ dX7_table_20 rfl (fX7_table_p6 p0 p1 τ c_6 c_15)

def fX7_copy (p0 : Int32) (τ : FnI) : Int32 := (if (fX7_in p0 (0 : Int32) (5 : Int32)) = (0 : Int32) then (-2 : Int32) else (if p0 = (0 : Int32) then (τ p0.toNatClampNeg) else (if (fX7_isCopy τ) = (0 : Int32) then (-5 : Int32) else (if p0 < (5 : Int32) then (τ p0.toNatClampNeg) else (if (τ 0) = (3 : Int32) then (τ p0.toNatClampNeg) else (-5 : Int32))))))
theorem fX7_copy_p0 (p0 : Int32) (τ : FnI) (c_6 : ¬ (fX7_in p0 (0 : Int32) (5 : Int32)) = (0 : Int32)) (c_13 : p0 = (0 : Int32)) : (fX7_copy p0 τ) = (τ p0.toNatClampNeg) := by
  simp only [fX7_copy, if_neg c_6, if_pos c_13]
theorem fX7_copy_p1 (p0 : Int32) (τ : FnI) (c_6 : ¬ (fX7_in p0 (0 : Int32) (5 : Int32)) = (0 : Int32)) (c_13 : ¬ p0 = (0 : Int32)) (c_20 : (fX7_isCopy τ) = (0 : Int32)) : (fX7_copy p0 τ) = (-5 : Int32) := by
  simp only [fX7_copy, if_neg c_6, if_neg c_13, if_pos c_20]
theorem fX7_copy_p2 (p0 : Int32) (τ : FnI) (c_6 : ¬ (fX7_in p0 (0 : Int32) (5 : Int32)) = (0 : Int32)) (c_13 : ¬ p0 = (0 : Int32)) (c_20 : ¬ (fX7_isCopy τ) = (0 : Int32)) (c_25 : p0 < (5 : Int32)) : (fX7_copy p0 τ) = (τ p0.toNatClampNeg) := by
  simp only [fX7_copy, if_neg c_6, if_neg c_13, if_neg c_20, if_pos c_25]
theorem fX7_copy_p3 (p0 : Int32) (τ : FnI) (c_6 : ¬ (fX7_in p0 (0 : Int32) (5 : Int32)) = (0 : Int32)) (c_13 : ¬ p0 = (0 : Int32)) (c_20 : ¬ (fX7_isCopy τ) = (0 : Int32)) (c_25 : ¬ p0 < (5 : Int32)) (c_35 : ¬ (τ 0) = (3 : Int32)) : (fX7_copy p0 τ) = (-5 : Int32) := by
  simp only [fX7_copy, if_neg c_6, if_neg c_13, if_neg c_20, if_neg c_25, if_neg c_35]
theorem fX7_copy_p4 (p0 : Int32) (τ : FnI) (c_6 : ¬ (fX7_in p0 (0 : Int32) (5 : Int32)) = (0 : Int32)) (c_13 : ¬ p0 = (0 : Int32)) (c_20 : ¬ (fX7_isCopy τ) = (0 : Int32)) (c_25 : ¬ p0 < (5 : Int32)) (c_35 : (τ 0) = (3 : Int32)) : (fX7_copy p0 τ) = (τ p0.toNatClampNeg) := by
  simp only [fX7_copy, if_neg c_6, if_neg c_13, if_neg c_20, if_neg c_25, if_pos c_35]
theorem fX7_copy_p5 (p0 : Int32) (τ : FnI) (c_6 : (fX7_in p0 (0 : Int32) (5 : Int32)) = (0 : Int32)) : (fX7_copy p0 τ) = (-2 : Int32) := by
  simp only [fX7_copy, if_pos c_6]
set_option maxHeartbeats 4000000 in
set_option maxRecDepth 100000 in
theorem kX7_copy (l : Launch) (D : va_G) (cI cS : ClassId) (h0 h1 : Nat) (w1 : Nat) (w2 : Int32) (w3 : Nat) (w4 : Int32) (w5 : Nat) (w6 : Nat) (w7 : Int32) (w8 : Int32) (w9 : Int32) (w10 : Int32) (w11 : Int32) (w12 : Int32) (p0 : Int32) (τ : FnI) : KR l yX7_copy wsX7_copy { frames := 1, cells := 0, slots := 0, locals := 22 } D (tysA cI cS) [.ref h0, .int p0] [(h0, .inr (7, [.ref h1, .ref w1, .int w2, .ref w3, .int w4, .ref w5, .ref w6, .int w7, .int w8, .int w9, .int w10, .int w11, .int w12])), (h1, .inl (cI, 163, .inl τ))] (fX7_copy p0 τ) := by
  refine KR.of (cc := cX7_copy) (maxL := 3) (ty := .int) (by decide) rfl (Nat.le_of_ble_eq_true rfl) rfl (fun p e s m args below meth c ls Q hx hb hml hown hts hE hP hl hend => ?_)
  have hown : s.vm.findClass RX7 = some m.cls := hown
  have hl : lv_has ls 3 [(0, .ref h0), (1, .int p0)] := hl
  refine lv_iload_n hx hb dX7_copy_0 rfl (lv_at hl 1 rfl) ?_
  refine lv_iconst (v := (0 : Int32)) hx hb dX7_copy_1 (by decide +kernel) ?_
  refine lv_iconst (v := (5 : Int32)) hx hb dX7_copy_2 (by decide +kernel) ?_
  refine cRS ⟨hx, hb, hml, hown, hts⟩ (kX7_in l D cI cS p0 (0 : Int32) (5 : Int32)) (va_cwS 3 hts gX7_copy_X7_in rfl rfl rfl (by decide +kernel) ⟨Nat.le_of_ble_eq_true rfl, Nat.le_of_ble_eq_true rfl⟩) hE hP [] rfl rfl hl.1 rfl (Nat.le_of_ble_eq_true rfl) ⟨Nat.zero_le _, Nat.zero_le _⟩ dX7_copy_3 ?_
  refine lv_if_ne (tgt := 12) hx hb dX7_copy_6 (by decide) (fun c_6 => ?_) (fun c_6 => ?_)
  · refine lv_iload_n hx hb dX7_copy_12 rfl (lv_at hl 1 rfl) ?_
    refine lv_if_eq (tgt := 38) hx hb dX7_copy_13 (by decide) (fun c_13 => ?_) (fun c_13 => ?_)
    · refine lv_iconst (v := (1 : Int32)) hx hb dX7_copy_38 (by decide +kernel) ?_
      refine lv_goto (tgt := 43) hx hb dX7_copy_39 (by decide) ?_
      refine lv_istore_n (lv' := [(2, .int (1 : Int32)), (0, .ref h0), (1, .int p0)]) hx hb dX7_copy_43 rfl hl (by decide) rfl (fun ls hl => ?_)
      refine lv_iload_n hx hb dX7_copy_44 rfl (lv_at hl 0 rfl) ?_
      refine lv_if_eq (tgt := 57) hx hb dX7_copy_45 (by decide) (fun c => absurd c (by decide)) (fun _ => ?_)
      refine lv_aload_n hx hb dX7_copy_48 rfl (lv_at hl 1 rfl) ?_
      refine va_get (D := D) (ci := 7) (v := .ref h1) (C := RX7) (T := TX7) (N := 13) hx hb hts (fun _ h9 => List.mem_cons_of_mem _ (List.mem_append_right _ h9)) hown hE.1 hP 0 rfl rfl 0 (by decide) (hts (.fieldLink RX7 7 "ShadowTableModel" "s" "[I") (List.mem_of_getElem? (i := 1) rfl)) (fun _ h9 => h9) rfl dX7_copy_49 ?_
      refine lv_iload_n hx hb dX7_copy_52 rfl (lv_at hl 2 rfl) ?_
      refine xld (v := (τ p0.toNatClampNeg)) (j := p0.toNatClampNeg) hx hb hE hP 1 rfl rfl rfl (zz_in5 c_6) rfl dX7_copy_53 ?_
      refine lv_goto (tgt := 59) hx hb dX7_copy_54 (by decide) ?_
      exact hend _ _ _ dX7_copy_59 rfl (fX7_copy_p0 p0 τ c_6 c_13)
    · refine lv_aload_n hx hb dX7_copy_16 rfl (lv_at hl 0 rfl) ?_
      refine cRV ⟨hx, hb, hml, hown, hts⟩ (kX7_isCopy l D cI cS h0 h1 w1 w2 w3 w4 w5 w6 w7 w8 w9 w10 w11 w12 τ) (cwV 0 hts gX7_copy_X7_isCopy rfl rfl rfl (by decide +kernel) ⟨Nat.le_of_ble_eq_true rfl, Nat.le_of_ble_eq_true rfl⟩) hE hP 0 rfl rfl [0, 1] rfl rfl hl.1 rfl (Nat.le_of_ble_eq_true rfl) ⟨Nat.zero_le _, Nat.zero_le _⟩ dX7_copy_17 ?_
      refine lv_if_eq (tgt := 42) hx hb dX7_copy_20 (by decide) (fun c_20 => ?_) (fun c_20 => ?_)
      · refine lv_iconst (v := (0 : Int32)) hx hb dX7_copy_42 (by decide +kernel) ?_
        refine lv_istore_n (lv' := [(2, .int (0 : Int32)), (0, .ref h0), (1, .int p0)]) hx hb dX7_copy_43 rfl hl (by decide) rfl (fun ls hl => ?_)
        refine lv_iload_n hx hb dX7_copy_44 rfl (lv_at hl 0 rfl) ?_
        refine lv_if_eq (tgt := 57) hx hb dX7_copy_45 (by decide) (fun _ => ?_) (fun c => absurd (by decide) c)
        refine lv_bipush (v := (-5 : Int32)) hx hb dX7_copy_57 (by decide +kernel) ?_
        exact hend _ _ _ dX7_copy_59 rfl (fX7_copy_p1 p0 τ c_6 c_13 c_20)
      · refine lv_iload_n hx hb dX7_copy_23 rfl (lv_at hl 1 rfl) ?_
        refine lv_iconst (v := (5 : Int32)) hx hb dX7_copy_24 (by decide +kernel) ?_
        refine lv_icmp_lt (tgt := 38) hx hb dX7_copy_25 (by decide) (fun c_25 => ?_) (fun c_25 => ?_)
        · refine lv_iconst (v := (1 : Int32)) hx hb dX7_copy_38 (by decide +kernel) ?_
          refine lv_goto (tgt := 43) hx hb dX7_copy_39 (by decide) ?_
          refine lv_istore_n (lv' := [(2, .int (1 : Int32)), (0, .ref h0), (1, .int p0)]) hx hb dX7_copy_43 rfl hl (by decide) rfl (fun ls hl => ?_)
          refine lv_iload_n hx hb dX7_copy_44 rfl (lv_at hl 0 rfl) ?_
          refine lv_if_eq (tgt := 57) hx hb dX7_copy_45 (by decide) (fun c => absurd c (by decide)) (fun _ => ?_)
          refine lv_aload_n hx hb dX7_copy_48 rfl (lv_at hl 1 rfl) ?_
          refine va_get (D := D) (ci := 7) (v := .ref h1) (C := RX7) (T := TX7) (N := 13) hx hb hts (fun _ h9 => List.mem_cons_of_mem _ (List.mem_append_right _ h9)) hown hE.1 hP 0 rfl rfl 0 (by decide) (hts (.fieldLink RX7 7 "ShadowTableModel" "s" "[I") (List.mem_of_getElem? (i := 1) rfl)) (fun _ h9 => h9) rfl dX7_copy_49 ?_
          refine lv_iload_n hx hb dX7_copy_52 rfl (lv_at hl 2 rfl) ?_
          refine xld (v := (τ p0.toNatClampNeg)) (j := p0.toNatClampNeg) hx hb hE hP 1 rfl rfl rfl (zz_in5 c_6) rfl dX7_copy_53 ?_
          refine lv_goto (tgt := 59) hx hb dX7_copy_54 (by decide) ?_
          exact hend _ _ _ dX7_copy_59 rfl (fX7_copy_p2 p0 τ c_6 c_13 c_20 c_25)
        · refine lv_aload_n hx hb dX7_copy_28 rfl (lv_at hl 0 rfl) ?_
          refine va_get (D := D) (ci := 7) (v := .ref h1) (C := RX7) (T := TX7) (N := 13) hx hb hts (fun _ h9 => List.mem_cons_of_mem _ (List.mem_append_right _ h9)) hown hE.1 hP 0 rfl rfl 0 (by decide) (hts (.fieldLink RX7 7 "ShadowTableModel" "s" "[I") (List.mem_of_getElem? (i := 1) rfl)) (fun _ h9 => h9) rfl dX7_copy_29 ?_
          refine lv_iconst (v := (0 : Int32)) hx hb dX7_copy_32 (by decide +kernel) ?_
          refine xld (v := (τ 0)) (j := 0) hx hb hE hP 1 rfl rfl cl_0 (in_0 (by decide)) rfl dX7_copy_33 ?_
          refine lv_iconst (v := (3 : Int32)) hx hb dX7_copy_34 (by decide +kernel) ?_
          refine lv_icmp_ne (tgt := 42) hx hb dX7_copy_35 (by decide) (fun c_35 => ?_) (fun c_35 => ?_)
          · refine lv_iconst (v := (0 : Int32)) hx hb dX7_copy_42 (by decide +kernel) ?_
            refine lv_istore_n (lv' := [(2, .int (0 : Int32)), (0, .ref h0), (1, .int p0)]) hx hb dX7_copy_43 rfl hl (by decide) rfl (fun ls hl => ?_)
            refine lv_iload_n hx hb dX7_copy_44 rfl (lv_at hl 0 rfl) ?_
            refine lv_if_eq (tgt := 57) hx hb dX7_copy_45 (by decide) (fun _ => ?_) (fun c => absurd (by decide) c)
            refine lv_bipush (v := (-5 : Int32)) hx hb dX7_copy_57 (by decide +kernel) ?_
            exact hend _ _ _ dX7_copy_59 rfl (fX7_copy_p3 p0 τ c_6 c_13 c_20 c_25 c_35)
          · refine lv_iconst (v := (1 : Int32)) hx hb dX7_copy_38 (by decide +kernel) ?_
            refine lv_goto (tgt := 43) hx hb dX7_copy_39 (by decide) ?_
            refine lv_istore_n (lv' := [(2, .int (1 : Int32)), (0, .ref h0), (1, .int p0)]) hx hb dX7_copy_43 rfl hl (by decide) rfl (fun ls hl => ?_)
            refine lv_iload_n hx hb dX7_copy_44 rfl (lv_at hl 0 rfl) ?_
            refine lv_if_eq (tgt := 57) hx hb dX7_copy_45 (by decide) (fun c => absurd c (by decide)) (fun _ => ?_)
            refine lv_aload_n hx hb dX7_copy_48 rfl (lv_at hl 1 rfl) ?_
            refine va_get (D := D) (ci := 7) (v := .ref h1) (C := RX7) (T := TX7) (N := 13) hx hb hts (fun _ h9 => List.mem_cons_of_mem _ (List.mem_append_right _ h9)) hown hE.1 hP 0 rfl rfl 0 (by decide) (hts (.fieldLink RX7 7 "ShadowTableModel" "s" "[I") (List.mem_of_getElem? (i := 1) rfl)) (fun _ h9 => h9) rfl dX7_copy_49 ?_
            refine lv_iload_n hx hb dX7_copy_52 rfl (lv_at hl 2 rfl) ?_
            refine xld (v := (τ p0.toNatClampNeg)) (j := p0.toNatClampNeg) hx hb hE hP 1 rfl rfl rfl (zz_in5 c_6) rfl dX7_copy_53 ?_
            refine lv_goto (tgt := 59) hx hb dX7_copy_54 (by decide) ?_
            exact hend _ _ _ dX7_copy_59 rfl (fX7_copy_p4 p0 τ c_6 c_13 c_20 c_25 c_35)
  · refine lv_bipush (v := (-2 : Int32)) hx hb dX7_copy_9 (by decide +kernel) ?_
    exact hend _ _ _ dX7_copy_11 rfl (fX7_copy_p5 p0 τ c_6)

def fX7_entry (p0 : Int32) (p1 : Int32) (τ : FnI) : Int32 := (if p0 < (0 : Int32) then (-2 : Int32) else (if (fX7_in p1 (0 : Int32) (1 : Int32)) = (0 : Int32) then (-2 : Int32) else (if (fX7_isCopy τ) = (0 : Int32) then (-5 : Int32) else (if p0 < (τ 4) then (fX7_outside (τ (115 + 2 * p0.toNatClampNeg + p1.toNatClampNeg))) else (-5 : Int32)))))
theorem fX7_entry_p0 (p0 : Int32) (p1 : Int32) (τ : FnI) (c_1 : p0 < (0 : Int32)) : (fX7_entry p0 p1 τ) = (-2 : Int32) := by
  simp only [fX7_entry, if_pos c_1]
theorem fX7_entry_p1 (p0 : Int32) (p1 : Int32) (τ : FnI) (c_1 : ¬ p0 < (0 : Int32)) (c_10 : ¬ (fX7_in p1 (0 : Int32) (1 : Int32)) = (0 : Int32)) (c_20 : (fX7_isCopy τ) = (0 : Int32)) : (fX7_entry p0 p1 τ) = (-5 : Int32) := by
  simp only [fX7_entry, if_neg c_1, if_neg c_10, if_pos c_20]
theorem fX7_entry_p2 (p0 : Int32) (p1 : Int32) (τ : FnI) (c_1 : ¬ p0 < (0 : Int32)) (c_10 : ¬ (fX7_in p1 (0 : Int32) (1 : Int32)) = (0 : Int32)) (c_20 : ¬ (fX7_isCopy τ) = (0 : Int32)) (c_30 : p0 < (τ 4)) : (fX7_entry p0 p1 τ) = (fX7_outside (τ (115 + 2 * p0.toNatClampNeg + p1.toNatClampNeg))) := by
  simp only [fX7_entry, if_neg c_1, if_neg c_10, if_neg c_20, if_pos c_30]
theorem fX7_entry_p3 (p0 : Int32) (p1 : Int32) (τ : FnI) (c_1 : ¬ p0 < (0 : Int32)) (c_10 : ¬ (fX7_in p1 (0 : Int32) (1 : Int32)) = (0 : Int32)) (c_20 : ¬ (fX7_isCopy τ) = (0 : Int32)) (c_30 : ¬ p0 < (τ 4)) : (fX7_entry p0 p1 τ) = (-5 : Int32) := by
  simp only [fX7_entry, if_neg c_1, if_neg c_10, if_neg c_20, if_neg c_30]
theorem fX7_entry_p4 (p0 : Int32) (p1 : Int32) (τ : FnI) (c_1 : ¬ p0 < (0 : Int32)) (c_10 : (fX7_in p1 (0 : Int32) (1 : Int32)) = (0 : Int32)) : (fX7_entry p0 p1 τ) = (-2 : Int32) := by
  simp only [fX7_entry, if_neg c_1, if_pos c_10]
set_option maxHeartbeats 4000000 in
set_option maxRecDepth 100000 in
theorem kX7_entry (l : Launch) (D : va_G) (cI cS : ClassId) (h0 h1 : Nat) (w1 : Nat) (w2 : Int32) (w3 : Nat) (w4 : Int32) (w5 : Nat) (w6 : Nat) (w7 : Int32) (w8 : Int32) (w9 : Int32) (w10 : Int32) (w11 : Int32) (w12 : Int32) (p0 : Int32) (p1 : Int32) (τ : FnI) (hm : WM τ) : KR l yX7_entry wsX7_entry { frames := 1, cells := 0, slots := 0, locals := 22 } D (tysA cI cS) [.ref h0, .int p0, .int p1] [(h0, .inr (7, [.ref h1, .ref w1, .int w2, .ref w3, .int w4, .ref w5, .ref w6, .int w7, .int w8, .int w9, .int w10, .int w11, .int w12])), (h1, .inl (cI, 163, .inl τ))] (fX7_entry p0 p1 τ) := by
  refine KR.of (cc := cX7_entry) (maxL := 3) (ty := .int) (by decide) rfl (Nat.le_of_ble_eq_true rfl) rfl (fun p e s m args below meth c ls Q hx hb hml hown hts hE hP hl hend => ?_)
  have hown : s.vm.findClass RX7 = some m.cls := hown
  have hl : lv_has ls 3 [(0, .ref h0), (1, .int p0), (2, .int p1)] := hl
  refine lv_iload_n hx hb dX7_entry_0 rfl (lv_at hl 1 rfl) ?_
  refine lv_if_lt (tgt := 13) hx hb dX7_entry_1 (by decide) (fun c_1 => ?_) (fun c_1 => ?_)
  · refine lv_bipush (v := (-2 : Int32)) hx hb dX7_entry_13 (by decide +kernel) ?_
    exact hend _ _ _ dX7_entry_15 rfl (fX7_entry_p0 p0 p1 τ c_1)
  · refine lv_iload_n hx hb dX7_entry_4 rfl (lv_at hl 2 rfl) ?_
    refine lv_iconst (v := (0 : Int32)) hx hb dX7_entry_5 (by decide +kernel) ?_
    refine lv_iconst (v := (1 : Int32)) hx hb dX7_entry_6 (by decide +kernel) ?_
    refine cRS ⟨hx, hb, hml, hown, hts⟩ (kX7_in l D cI cS p1 (0 : Int32) (1 : Int32)) (va_cwS 3 hts gX7_entry_X7_in rfl rfl rfl (by decide +kernel) ⟨Nat.le_of_ble_eq_true rfl, Nat.le_of_ble_eq_true rfl⟩) hE hP [] rfl rfl hl.1 rfl (Nat.le_of_ble_eq_true rfl) ⟨Nat.zero_le _, Nat.zero_le _⟩ dX7_entry_7 ?_
    refine lv_if_ne (tgt := 16) hx hb dX7_entry_10 (by decide) (fun c_10 => ?_) (fun c_10 => ?_)
    · refine lv_aload_n hx hb dX7_entry_16 rfl (lv_at hl 0 rfl) ?_
      refine cRV ⟨hx, hb, hml, hown, hts⟩ (kX7_isCopy l D cI cS h0 h1 w1 w2 w3 w4 w5 w6 w7 w8 w9 w10 w11 w12 τ) (cwV 0 hts gX7_entry_X7_isCopy rfl rfl rfl (by decide +kernel) ⟨Nat.le_of_ble_eq_true rfl, Nat.le_of_ble_eq_true rfl⟩) hE hP 0 rfl rfl [0, 1] rfl rfl hl.1 rfl (Nat.le_of_ble_eq_true rfl) ⟨Nat.zero_le _, Nat.zero_le _⟩ dX7_entry_17 ?_
      refine lv_if_eq (tgt := 33) hx hb dX7_entry_20 (by decide) (fun c_20 => ?_) (fun c_20 => ?_)
      · refine lv_bipush (v := (-5 : Int32)) hx hb dX7_entry_33 (by decide +kernel) ?_
        exact hend _ _ _ dX7_entry_35 rfl (fX7_entry_p1 p0 p1 τ c_1 c_10 c_20)
      · refine lv_iload_n hx hb dX7_entry_23 rfl (lv_at hl 1 rfl) ?_
        refine lv_aload_n hx hb dX7_entry_24 rfl (lv_at hl 0 rfl) ?_
        refine va_get (D := D) (ci := 7) (v := .ref h1) (C := RX7) (T := TX7) (N := 13) hx hb hts (fun _ h9 => List.mem_cons_of_mem _ (List.mem_append_right _ h9)) hown hE.1 hP 0 rfl rfl 0 (by decide) (hts (.fieldLink RX7 7 "ShadowTableModel" "s" "[I") (List.mem_of_getElem? (i := 1) rfl)) (fun _ h9 => h9) rfl dX7_entry_25 ?_
        refine lv_iconst (v := (4 : Int32)) hx hb dX7_entry_28 (by decide +kernel) ?_
        refine xld (v := (τ 4)) (j := 4) hx hb hE hP 1 rfl rfl cl_4 (in_4 (by decide)) rfl dX7_entry_29 ?_
        refine lv_icmp_lt (tgt := 36) hx hb dX7_entry_30 (by decide) (fun c_30 => ?_) (fun c_30 => ?_)
        · refine lv_aload_n hx hb dX7_entry_36 rfl (lv_at hl 0 rfl) ?_
          refine va_get (D := D) (ci := 7) (v := .ref h1) (C := RX7) (T := TX7) (N := 13) hx hb hts (fun _ h9 => List.mem_cons_of_mem _ (List.mem_append_right _ h9)) hown hE.1 hP 0 rfl rfl 0 (by decide) (hts (.fieldLink RX7 7 "ShadowTableModel" "s" "[I") (List.mem_of_getElem? (i := 1) rfl)) (fun _ h9 => h9) rfl dX7_entry_37 ?_
          refine lv_bipush (v := (115 : Int32)) hx hb dX7_entry_40 (by decide +kernel) ?_
          refine lv_iconst (v := (2 : Int32)) hx hb dX7_entry_42 (by decide +kernel) ?_
          refine lv_iload_n hx hb dX7_entry_43 rfl (lv_at hl 1 rfl) ?_
          refine lv_imul hx hb dX7_entry_44 ?_
          refine lv_iadd hx hb dX7_entry_45 ?_
          refine lv_iload_n hx hb dX7_entry_46 rfl (lv_at hl 2 rfl) ?_
          refine lv_iadd hx hb dX7_entry_47 ?_
          refine xld (v := (τ (115 + 2 * p0.toNatClampNeg + p1.toNatClampNeg))) (j := (115 + 2 * p0.toNatClampNeg + p1.toNatClampNeg)) hx hb hE hP 1 rfl rfl (zz_en hm c_1 c_10 c_30).1 (zz_en hm c_1 c_10 c_30).2 rfl dX7_entry_48 ?_
          refine cRS ⟨hx, hb, hml, hown, hts⟩ (kX7_outside l D cI cS (τ (115 + 2 * p0.toNatClampNeg + p1.toNatClampNeg))) (va_cwS 1 hts gX7_entry_X7_outside rfl rfl rfl (by decide +kernel) ⟨Nat.le_of_ble_eq_true rfl, Nat.le_of_ble_eq_true rfl⟩) hE hP [] rfl rfl hl.1 rfl (Nat.le_of_ble_eq_true rfl) ⟨Nat.zero_le _, Nat.zero_le _⟩ dX7_entry_49 ?_
          exact hend _ _ _ dX7_entry_52 rfl (fX7_entry_p2 p0 p1 τ c_1 c_10 c_20 c_30)
        · refine lv_bipush (v := (-5 : Int32)) hx hb dX7_entry_33 (by decide +kernel) ?_
          exact hend _ _ _ dX7_entry_35 rfl (fX7_entry_p3 p0 p1 τ c_1 c_10 c_20 c_30)
    · refine lv_bipush (v := (-2 : Int32)) hx hb dX7_entry_13 (by decide +kernel) ?_
      exact hend _ _ _ dX7_entry_15 rfl (fX7_entry_p4 p0 p1 τ c_1 c_10)

def fX7_changed (p0 : Int32) (p1 : Int32) (p2 : Int32) (τ : FnI) : Int32 := (if (fX7_isKey p1) = (0 : Int32) then (-1 : Int32) else (if (fX7_in p0 (0 : Int32) (4 : Int32)) = (0 : Int32) then (-2 : Int32) else (if (fX7_in p2 (0 : Int32) (99 : Int32)) = (0 : Int32) then (-2 : Int32) else (fX7_outside (fX7_becomes p0 p1 p2)))))
theorem fX7_changed_p0 (p0 : Int32) (p1 : Int32) (p2 : Int32) (τ : FnI) (c_4 : ¬ (fX7_isKey p1) = (0 : Int32)) (c_15 : (fX7_in p0 (0 : Int32) (4 : Int32)) = (0 : Int32)) : (fX7_changed p0 p1 p2 τ) = (-2 : Int32) := by
  simp only [fX7_changed, if_neg c_4, if_pos c_15]
theorem fX7_changed_p1 (p0 : Int32) (p1 : Int32) (p2 : Int32) (τ : FnI) (c_4 : ¬ (fX7_isKey p1) = (0 : Int32)) (c_15 : ¬ (fX7_in p0 (0 : Int32) (4 : Int32)) = (0 : Int32)) (c_25 : (fX7_in p2 (0 : Int32) (99 : Int32)) = (0 : Int32)) : (fX7_changed p0 p1 p2 τ) = (-2 : Int32) := by
  simp only [fX7_changed, if_neg c_4, if_neg c_15, if_pos c_25]
theorem fX7_changed_p2 (p0 : Int32) (p1 : Int32) (p2 : Int32) (τ : FnI) (c_4 : ¬ (fX7_isKey p1) = (0 : Int32)) (c_15 : ¬ (fX7_in p0 (0 : Int32) (4 : Int32)) = (0 : Int32)) (c_25 : ¬ (fX7_in p2 (0 : Int32) (99 : Int32)) = (0 : Int32)) : (fX7_changed p0 p1 p2 τ) = (fX7_outside (fX7_becomes p0 p1 p2)) := by
  simp only [fX7_changed, if_neg c_4, if_neg c_15, if_neg c_25]
theorem fX7_changed_p3 (p0 : Int32) (p1 : Int32) (p2 : Int32) (τ : FnI) (c_4 : (fX7_isKey p1) = (0 : Int32)) : (fX7_changed p0 p1 p2 τ) = (-1 : Int32) := by
  simp only [fX7_changed, if_pos c_4]
set_option maxHeartbeats 4000000 in
set_option maxRecDepth 100000 in
theorem kX7_changed (l : Launch) (D : va_G) (cI cS : ClassId) (h0 h1 : Nat) (w1 : Nat) (w2 : Int32) (w3 : Nat) (w4 : Int32) (w5 : Nat) (w6 : Nat) (w7 : Int32) (w8 : Int32) (w9 : Int32) (w10 : Int32) (w11 : Int32) (w12 : Int32) (p0 : Int32) (p1 : Int32) (p2 : Int32) (τ : FnI) : KR l yX7_changed wsX7_changed { frames := 2, cells := 0, slots := 0, locals := 42 } D (tysA cI cS) [.ref h0, .int p0, .int p1, .int p2] [(h0, .inr (7, [.ref h1, .ref w1, .int w2, .ref w3, .int w4, .ref w5, .ref w6, .int w7, .int w8, .int w9, .int w10, .int w11, .int w12])), (h1, .inl (cI, 163, .inl τ))] (fX7_changed p0 p1 p2 τ) := by
  refine KR.of (cc := cX7_changed) (maxL := 4) (ty := .int) (by decide) rfl (Nat.le_of_ble_eq_true rfl) rfl (fun p e s m args below meth c ls Q hx hb hml hown hts hE hP hl hend => ?_)
  have hown : s.vm.findClass RX7 = some m.cls := hown
  have hl : lv_has ls 4 [(0, .ref h0), (1, .int p0), (2, .int p1), (3, .int p2)] := hl
  refine lv_iload_n hx hb dX7_changed_0 rfl (lv_at hl 2 rfl) ?_
  refine cRS ⟨hx, hb, hml, hown, hts⟩ (kX7_isKey l D cI cS p1) (va_cwS 1 hts gX7_changed_X7_isKey rfl rfl rfl (by decide +kernel) ⟨Nat.le_of_ble_eq_true rfl, Nat.le_of_ble_eq_true rfl⟩) hE hP [] rfl rfl hl.1 rfl (Nat.le_of_ble_eq_true rfl) ⟨Nat.zero_le _, Nat.zero_le _⟩ dX7_changed_1 ?_
  refine lv_if_ne (tgt := 9) hx hb dX7_changed_4 (by decide) (fun c_4 => ?_) (fun c_4 => ?_)
  · refine lv_iload_n hx hb dX7_changed_9 rfl (lv_at hl 1 rfl) ?_
    refine lv_iconst (v := (0 : Int32)) hx hb dX7_changed_10 (by decide +kernel) ?_
    refine lv_iconst (v := (4 : Int32)) hx hb dX7_changed_11 (by decide +kernel) ?_
    refine cRS ⟨hx, hb, hml, hown, hts⟩ (kX7_in l D cI cS p0 (0 : Int32) (4 : Int32)) (va_cwS 3 hts gX7_changed_X7_in rfl rfl rfl (by decide +kernel) ⟨Nat.le_of_ble_eq_true rfl, Nat.le_of_ble_eq_true rfl⟩) hE hP [] rfl rfl hl.1 rfl (Nat.le_of_ble_eq_true rfl) ⟨Nat.zero_le _, Nat.zero_le _⟩ dX7_changed_12 ?_
    refine lv_if_eq (tgt := 40) hx hb dX7_changed_15 (by decide) (fun c_15 => ?_) (fun c_15 => ?_)
    · refine lv_bipush (v := (-2 : Int32)) hx hb dX7_changed_40 (by decide +kernel) ?_
      exact hend _ _ _ dX7_changed_42 rfl (fX7_changed_p0 p0 p1 p2 τ c_4 c_15)
    · refine lv_iload_n hx hb dX7_changed_18 rfl (lv_at hl 3 rfl) ?_
      refine lv_iconst (v := (0 : Int32)) hx hb dX7_changed_19 (by decide +kernel) ?_
      refine lv_bipush (v := (99 : Int32)) hx hb dX7_changed_20 (by decide +kernel) ?_
      refine cRS ⟨hx, hb, hml, hown, hts⟩ (kX7_in l D cI cS p2 (0 : Int32) (99 : Int32)) (va_cwS 3 hts gX7_changed_X7_in rfl rfl rfl (by decide +kernel) ⟨Nat.le_of_ble_eq_true rfl, Nat.le_of_ble_eq_true rfl⟩) hE hP [] rfl rfl hl.1 rfl (Nat.le_of_ble_eq_true rfl) ⟨Nat.zero_le _, Nat.zero_le _⟩ dX7_changed_22 ?_
      refine lv_if_eq (tgt := 40) hx hb dX7_changed_25 (by decide) (fun c_25 => ?_) (fun c_25 => ?_)
      · refine lv_bipush (v := (-2 : Int32)) hx hb dX7_changed_40 (by decide +kernel) ?_
        exact hend _ _ _ dX7_changed_42 rfl (fX7_changed_p1 p0 p1 p2 τ c_4 c_15 c_25)
      · refine lv_iload_n hx hb dX7_changed_28 rfl (lv_at hl 1 rfl) ?_
        refine lv_iload_n hx hb dX7_changed_29 rfl (lv_at hl 2 rfl) ?_
        refine lv_iload_n hx hb dX7_changed_30 rfl (lv_at hl 3 rfl) ?_
        refine cRS ⟨hx, hb, hml, hown, hts⟩ (kX7_becomes l D cI cS p0 p1 p2) (va_cwS 3 hts gX7_changed_X7_becomes rfl rfl rfl (by decide +kernel) ⟨Nat.le_of_ble_eq_true rfl, Nat.le_of_ble_eq_true rfl⟩) hE hP [] rfl rfl hl.1 rfl (Nat.le_of_ble_eq_true rfl) ⟨Nat.zero_le _, Nat.zero_le _⟩ dX7_changed_31 ?_
        refine cRS ⟨hx, hb, hml, hown, hts⟩ (kX7_outside l D cI cS (fX7_becomes p0 p1 p2)) (va_cwS 1 hts gX7_changed_X7_outside rfl rfl rfl (by decide +kernel) ⟨Nat.le_of_ble_eq_true rfl, Nat.le_of_ble_eq_true rfl⟩) hE hP [] rfl rfl hl.1 rfl (Nat.le_of_ble_eq_true rfl) ⟨Nat.zero_le _, Nat.zero_le _⟩ dX7_changed_34 ?_
        refine lv_goto (tgt := 42) hx hb dX7_changed_37 (by decide) ?_
        exact hend _ _ _ dX7_changed_42 rfl (fX7_changed_p2 p0 p1 p2 τ c_4 c_15 c_25)
  · refine lv_iconst (v := (-1 : Int32)) hx hb dX7_changed_7 (by decide +kernel) ?_
    exact hend _ _ _ dX7_changed_8 rfl (fX7_changed_p3 p0 p1 p2 τ c_4)

def fX7_differences (τ : FnI) : Int32 := (if (fX7_isCopy τ) = (0 : Int32) then (-5 : Int32) else (fX7_differing (0 : Int32) τ))
theorem fX7_differences_p0 (τ : FnI) (c_4 : (fX7_isCopy τ) = (0 : Int32)) : (fX7_differences τ) = (-5 : Int32) := by
  simp only [fX7_differences, if_pos c_4]
theorem fX7_differences_p1 (τ : FnI) (c_4 : ¬ (fX7_isCopy τ) = (0 : Int32)) : (fX7_differences τ) = (fX7_differing (0 : Int32) τ) := by
  simp only [fX7_differences, if_neg c_4]
set_option maxHeartbeats 4000000 in
set_option maxRecDepth 100000 in
theorem kX7_differences (l : Launch) (D : va_G) (cI cS : ClassId) (h0 h1 : Nat) (w1 : Nat) (w2 : Int32) (w3 : Nat) (w4 : Int32) (w5 : Nat) (w6 : Nat) (w7 : Int32) (w8 : Int32) (w9 : Int32) (w10 : Int32) (w11 : Int32) (w12 : Int32) (τ : FnI) : KR l yX7_differences wsX7_differences { frames := 3, cells := 0, slots := 0, locals := 66 } D (tysA cI cS) [.ref h0] [(h0, .inr (7, [.ref h1, .ref w1, .int w2, .ref w3, .int w4, .ref w5, .ref w6, .int w7, .int w8, .int w9, .int w10, .int w11, .int w12])), (h1, .inl (cI, 163, .inl τ))] (fX7_differences τ) := by
  refine KR.of (cc := cX7_differences) (maxL := 1) (ty := .int) (by decide) rfl (Nat.le_of_ble_eq_true rfl) rfl (fun p e s m args below meth c ls Q hx hb hml hown hts hE hP hl hend => ?_)
  have hown : s.vm.findClass RX7 = some m.cls := hown
  have hl : lv_has ls 1 [(0, .ref h0)] := hl
  refine lv_aload_n hx hb dX7_differences_0 rfl (lv_at hl 0 rfl) ?_
  refine cRV ⟨hx, hb, hml, hown, hts⟩ (kX7_isCopy l D cI cS h0 h1 w1 w2 w3 w4 w5 w6 w7 w8 w9 w10 w11 w12 τ) (cwV 0 hts gX7_differences_X7_isCopy rfl rfl rfl (by decide +kernel) ⟨Nat.le_of_ble_eq_true rfl, Nat.le_of_ble_eq_true rfl⟩) hE hP 0 rfl rfl [0, 1] rfl rfl hl.1 rfl (Nat.le_of_ble_eq_true rfl) ⟨Nat.zero_le _, Nat.zero_le _⟩ dX7_differences_1 ?_
  refine lv_if_eq (tgt := 15) hx hb dX7_differences_4 (by decide) (fun c_4 => ?_) (fun c_4 => ?_)
  · refine lv_bipush (v := (-5 : Int32)) hx hb dX7_differences_15 (by decide +kernel) ?_
    exact hend _ _ _ dX7_differences_17 rfl (fX7_differences_p0 τ c_4)
  · refine lv_aload_n hx hb dX7_differences_7 rfl (lv_at hl 0 rfl) ?_
    refine lv_iconst (v := (0 : Int32)) hx hb dX7_differences_8 (by decide +kernel) ?_
    refine cRV ⟨hx, hb, hml, hown, hts⟩ (kX7_differing l D cI cS h0 h1 w1 w2 w3 w4 w5 w6 w7 w8 w9 w10 w11 w12 (0 : Int32) τ) (cwV 1 hts gX7_differences_X7_differing rfl rfl rfl (by decide +kernel) ⟨Nat.le_of_ble_eq_true rfl, Nat.le_of_ble_eq_true rfl⟩) hE hP 0 rfl rfl [0, 1] rfl rfl hl.1 rfl (Nat.le_of_ble_eq_true rfl) ⟨Nat.zero_le _, Nat.zero_le _⟩ dX7_differences_9 ?_
    refine lv_goto (tgt := 17) hx hb dX7_differences_12 (by decide) ?_
    exact hend _ _ _ dX7_differences_17 rfl (fX7_differences_p1 τ c_4)

def fX7_firstDifference (τ : FnI) : Int32 := (if (fX7_isCopy τ) = (0 : Int32) then (-5 : Int32) else (fX7_differing (1 : Int32) τ))
theorem fX7_firstDifference_p0 (τ : FnI) (c_4 : (fX7_isCopy τ) = (0 : Int32)) : (fX7_firstDifference τ) = (-5 : Int32) := by
  simp only [fX7_firstDifference, if_pos c_4]
theorem fX7_firstDifference_p1 (τ : FnI) (c_4 : ¬ (fX7_isCopy τ) = (0 : Int32)) : (fX7_firstDifference τ) = (fX7_differing (1 : Int32) τ) := by
  simp only [fX7_firstDifference, if_neg c_4]
set_option maxHeartbeats 4000000 in
set_option maxRecDepth 100000 in
theorem kX7_firstDifference (l : Launch) (D : va_G) (cI cS : ClassId) (h0 h1 : Nat) (w1 : Nat) (w2 : Int32) (w3 : Nat) (w4 : Int32) (w5 : Nat) (w6 : Nat) (w7 : Int32) (w8 : Int32) (w9 : Int32) (w10 : Int32) (w11 : Int32) (w12 : Int32) (τ : FnI) : KR l yX7_firstDifference wsX7_firstDifference { frames := 3, cells := 0, slots := 0, locals := 66 } D (tysA cI cS) [.ref h0] [(h0, .inr (7, [.ref h1, .ref w1, .int w2, .ref w3, .int w4, .ref w5, .ref w6, .int w7, .int w8, .int w9, .int w10, .int w11, .int w12])), (h1, .inl (cI, 163, .inl τ))] (fX7_firstDifference τ) := by
  refine KR.of (cc := cX7_firstDifference) (maxL := 1) (ty := .int) (by decide) rfl (Nat.le_of_ble_eq_true rfl) rfl (fun p e s m args below meth c ls Q hx hb hml hown hts hE hP hl hend => ?_)
  have hown : s.vm.findClass RX7 = some m.cls := hown
  have hl : lv_has ls 1 [(0, .ref h0)] := hl
  refine lv_aload_n hx hb dX7_firstDifference_0 rfl (lv_at hl 0 rfl) ?_
  refine cRV ⟨hx, hb, hml, hown, hts⟩ (kX7_isCopy l D cI cS h0 h1 w1 w2 w3 w4 w5 w6 w7 w8 w9 w10 w11 w12 τ) (cwV 0 hts gX7_firstDifference_X7_isCopy rfl rfl rfl (by decide +kernel) ⟨Nat.le_of_ble_eq_true rfl, Nat.le_of_ble_eq_true rfl⟩) hE hP 0 rfl rfl [0, 1] rfl rfl hl.1 rfl (Nat.le_of_ble_eq_true rfl) ⟨Nat.zero_le _, Nat.zero_le _⟩ dX7_firstDifference_1 ?_
  refine lv_if_eq (tgt := 15) hx hb dX7_firstDifference_4 (by decide) (fun c_4 => ?_) (fun c_4 => ?_)
  · refine lv_bipush (v := (-5 : Int32)) hx hb dX7_firstDifference_15 (by decide +kernel) ?_
    exact hend _ _ _ dX7_firstDifference_17 rfl (fX7_firstDifference_p0 τ c_4)
  · refine lv_aload_n hx hb dX7_firstDifference_7 rfl (lv_at hl 0 rfl) ?_
    refine lv_iconst (v := (1 : Int32)) hx hb dX7_firstDifference_8 (by decide +kernel) ?_
    refine cRV ⟨hx, hb, hml, hown, hts⟩ (kX7_differing l D cI cS h0 h1 w1 w2 w3 w4 w5 w6 w7 w8 w9 w10 w11 w12 (1 : Int32) τ) (cwV 1 hts gX7_firstDifference_X7_differing rfl rfl rfl (by decide +kernel) ⟨Nat.le_of_ble_eq_true rfl, Nat.le_of_ble_eq_true rfl⟩) hE hP 0 rfl rfl [0, 1] rfl rfl hl.1 rfl (Nat.le_of_ble_eq_true rfl) ⟨Nat.zero_le _, Nat.zero_le _⟩ dX7_firstDifference_9 ?_
    refine lv_goto (tgt := 17) hx hb dX7_firstDifference_12 (by decide) ?_
    exact hend _ _ _ dX7_firstDifference_17 rfl (fX7_firstDifference_p1 τ c_4)

def fX7_setting (p0 : Int32) (τ : FnI) : Int32 := (if (fX7_in p0 (0 : Int32) (3 : Int32)) = (0 : Int32) then (-1 : Int32) else (τ (7 + p0.toNatClampNeg)))
theorem fX7_setting_p0 (p0 : Int32) (τ : FnI) (c_6 : (fX7_in p0 (0 : Int32) (3 : Int32)) = (0 : Int32)) : (fX7_setting p0 τ) = (-1 : Int32) := by
  simp only [fX7_setting, if_pos c_6]
theorem fX7_setting_p1 (p0 : Int32) (τ : FnI) (c_6 : ¬ (fX7_in p0 (0 : Int32) (3 : Int32)) = (0 : Int32)) : (fX7_setting p0 τ) = (τ (7 + p0.toNatClampNeg)) := by
  simp only [fX7_setting, if_neg c_6]
set_option maxHeartbeats 4000000 in
set_option maxRecDepth 100000 in
theorem kX7_setting (l : Launch) (D : va_G) (cI cS : ClassId) (h0 h1 : Nat) (w1 : Nat) (w2 : Int32) (w3 : Nat) (w4 : Int32) (w5 : Nat) (w6 : Nat) (w7 : Int32) (w8 : Int32) (w9 : Int32) (w10 : Int32) (w11 : Int32) (w12 : Int32) (p0 : Int32) (τ : FnI) : KR l yX7_setting wsX7_setting { frames := 1, cells := 0, slots := 0, locals := 22 } D (tysA cI cS) [.ref h0, .int p0] [(h0, .inr (7, [.ref h1, .ref w1, .int w2, .ref w3, .int w4, .ref w5, .ref w6, .int w7, .int w8, .int w9, .int w10, .int w11, .int w12])), (h1, .inl (cI, 163, .inl τ))] (fX7_setting p0 τ) := by
  refine KR.of (cc := cX7_setting) (maxL := 2) (ty := .int) (by decide) rfl (Nat.le_of_ble_eq_true rfl) rfl (fun p e s m args below meth c ls Q hx hb hml hown hts hE hP hl hend => ?_)
  have hown : s.vm.findClass RX7 = some m.cls := hown
  have hl : lv_has ls 2 [(0, .ref h0), (1, .int p0)] := hl
  refine lv_iload_n hx hb dX7_setting_0 rfl (lv_at hl 1 rfl) ?_
  refine lv_iconst (v := (0 : Int32)) hx hb dX7_setting_1 (by decide +kernel) ?_
  refine lv_iconst (v := (3 : Int32)) hx hb dX7_setting_2 (by decide +kernel) ?_
  refine cRS ⟨hx, hb, hml, hown, hts⟩ (kX7_in l D cI cS p0 (0 : Int32) (3 : Int32)) (va_cwS 3 hts gX7_setting_X7_in rfl rfl rfl (by decide +kernel) ⟨Nat.le_of_ble_eq_true rfl, Nat.le_of_ble_eq_true rfl⟩) hE hP [] rfl rfl hl.1 rfl (Nat.le_of_ble_eq_true rfl) ⟨Nat.zero_le _, Nat.zero_le _⟩ dX7_setting_3 ?_
  refine lv_if_eq (tgt := 21) hx hb dX7_setting_6 (by decide) (fun c_6 => ?_) (fun c_6 => ?_)
  · refine lv_iconst (v := (-1 : Int32)) hx hb dX7_setting_21 (by decide +kernel) ?_
    exact hend _ _ _ dX7_setting_22 rfl (fX7_setting_p0 p0 τ c_6)
  · refine lv_aload_n hx hb dX7_setting_9 rfl (lv_at hl 0 rfl) ?_
    refine va_get (D := D) (ci := 7) (v := .ref h1) (C := RX7) (T := TX7) (N := 13) hx hb hts (fun _ h9 => List.mem_cons_of_mem _ (List.mem_append_right _ h9)) hown hE.1 hP 0 rfl rfl 0 (by decide) (hts (.fieldLink RX7 7 "ShadowTableModel" "s" "[I") (List.mem_of_getElem? (i := 1) rfl)) (fun _ h9 => h9) rfl dX7_setting_10 ?_
    refine lv_bipush (v := (7 : Int32)) hx hb dX7_setting_13 (by decide +kernel) ?_
    refine lv_iload_n hx hb dX7_setting_15 rfl (lv_at hl 1 rfl) ?_
    refine lv_iadd hx hb dX7_setting_16 ?_
    refine xld (v := (τ (7 + p0.toNatClampNeg))) (j := (7 + p0.toNatClampNeg)) hx hb hE hP 1 rfl rfl (zz_of7 c_6).1 (zz_of7 c_6).2 rfl dX7_setting_17 ?_
    refine lv_goto (tgt := 22) hx hb dX7_setting_18 (by decide) ?_
    exact hend _ _ _ dX7_setting_22 rfl (fX7_setting_p1 p0 τ c_6)

def fX7_total (p0 : Int32) (τ : FnI) : Int32 := (if (fX7_in p0 (0 : Int32) (7 : Int32)) = (0 : Int32) then (-1 : Int32) else (τ (11 + p0.toNatClampNeg)))
theorem fX7_total_p0 (p0 : Int32) (τ : FnI) (c_7 : (fX7_in p0 (0 : Int32) (7 : Int32)) = (0 : Int32)) : (fX7_total p0 τ) = (-1 : Int32) := by
  simp only [fX7_total, if_pos c_7]
theorem fX7_total_p1 (p0 : Int32) (τ : FnI) (c_7 : ¬ (fX7_in p0 (0 : Int32) (7 : Int32)) = (0 : Int32)) : (fX7_total p0 τ) = (τ (11 + p0.toNatClampNeg)) := by
  simp only [fX7_total, if_neg c_7]
set_option maxHeartbeats 4000000 in
set_option maxRecDepth 100000 in
theorem kX7_total (l : Launch) (D : va_G) (cI cS : ClassId) (h0 h1 : Nat) (w1 : Nat) (w2 : Int32) (w3 : Nat) (w4 : Int32) (w5 : Nat) (w6 : Nat) (w7 : Int32) (w8 : Int32) (w9 : Int32) (w10 : Int32) (w11 : Int32) (w12 : Int32) (p0 : Int32) (τ : FnI) : KR l yX7_total wsX7_total { frames := 1, cells := 0, slots := 0, locals := 22 } D (tysA cI cS) [.ref h0, .int p0] [(h0, .inr (7, [.ref h1, .ref w1, .int w2, .ref w3, .int w4, .ref w5, .ref w6, .int w7, .int w8, .int w9, .int w10, .int w11, .int w12])), (h1, .inl (cI, 163, .inl τ))] (fX7_total p0 τ) := by
  refine KR.of (cc := cX7_total) (maxL := 2) (ty := .int) (by decide) rfl (Nat.le_of_ble_eq_true rfl) rfl (fun p e s m args below meth c ls Q hx hb hml hown hts hE hP hl hend => ?_)
  have hown : s.vm.findClass RX7 = some m.cls := hown
  have hl : lv_has ls 2 [(0, .ref h0), (1, .int p0)] := hl
  refine lv_iload_n hx hb dX7_total_0 rfl (lv_at hl 1 rfl) ?_
  refine lv_iconst (v := (0 : Int32)) hx hb dX7_total_1 (by decide +kernel) ?_
  refine lv_bipush (v := (7 : Int32)) hx hb dX7_total_2 (by decide +kernel) ?_
  refine cRS ⟨hx, hb, hml, hown, hts⟩ (kX7_in l D cI cS p0 (0 : Int32) (7 : Int32)) (va_cwS 3 hts gX7_total_X7_in rfl rfl rfl (by decide +kernel) ⟨Nat.le_of_ble_eq_true rfl, Nat.le_of_ble_eq_true rfl⟩) hE hP [] rfl rfl hl.1 rfl (Nat.le_of_ble_eq_true rfl) ⟨Nat.zero_le _, Nat.zero_le _⟩ dX7_total_4 ?_
  refine lv_if_eq (tgt := 22) hx hb dX7_total_7 (by decide) (fun c_7 => ?_) (fun c_7 => ?_)
  · refine lv_iconst (v := (-1 : Int32)) hx hb dX7_total_22 (by decide +kernel) ?_
    exact hend _ _ _ dX7_total_23 rfl (fX7_total_p0 p0 τ c_7)
  · refine lv_aload_n hx hb dX7_total_10 rfl (lv_at hl 0 rfl) ?_
    refine va_get (D := D) (ci := 7) (v := .ref h1) (C := RX7) (T := TX7) (N := 13) hx hb hts (fun _ h9 => List.mem_cons_of_mem _ (List.mem_append_right _ h9)) hown hE.1 hP 0 rfl rfl 0 (by decide) (hts (.fieldLink RX7 7 "ShadowTableModel" "s" "[I") (List.mem_of_getElem? (i := 1) rfl)) (fun _ h9 => h9) rfl dX7_total_11 ?_
    refine lv_bipush (v := (11 : Int32)) hx hb dX7_total_14 (by decide +kernel) ?_
    refine lv_iload_n hx hb dX7_total_16 rfl (lv_at hl 1 rfl) ?_
    refine lv_iadd hx hb dX7_total_17 ?_
    refine xld (v := (τ (11 + p0.toNatClampNeg))) (j := (11 + p0.toNatClampNeg)) hx hb hE hP 1 rfl rfl (zz_of11 c_7).1 (zz_of11 c_7).2 rfl dX7_total_18 ?_
    refine lv_goto (tgt := 23) hx hb dX7_total_19 (by decide) ?_
    exact hend _ _ _ dX7_total_23 rfl (fX7_total_p1 p0 τ c_7)

def fX7_states (τ : Int32) : Int32 := τ
theorem fX7_states_p0 (τ : Int32) : (fX7_states τ) = τ := by
  simp only [fX7_states]
set_option maxHeartbeats 4000000 in
set_option maxRecDepth 100000 in
theorem kX7_states (l : Launch) (D : va_G) (cI cS : ClassId) (h0 : Nat) (w0 : Nat) (w1 : Nat) (w3 : Nat) (w4 : Int32) (w5 : Nat) (w6 : Nat) (w7 : Int32) (w8 : Int32) (w9 : Int32) (w10 : Int32) (w11 : Int32) (w12 : Int32) (τ : Int32) : KR l yX7_states wsX7_states { frames := 0, cells := 0, slots := 0, locals := 0 } D (tysA cI cS) [.ref h0] [(h0, .inr (7, [.ref w0, .ref w1, .int τ, .ref w3, .int w4, .ref w5, .ref w6, .int w7, .int w8, .int w9, .int w10, .int w11, .int w12]))] (fX7_states τ) := by
  refine KR.of (cc := cX7_states) (maxL := 1) (ty := .int) (by decide) rfl (Nat.le_of_ble_eq_true rfl) rfl (fun p e s m args below meth c ls Q hx hb hml hown hts hE hP hl hend => ?_)
  have hown : s.vm.findClass RX7 = some m.cls := hown
  have hl : lv_has ls 1 [(0, .ref h0)] := hl
  refine lv_aload_n hx hb dX7_states_0 rfl (lv_at hl 0 rfl) ?_
  refine va_get (D := D) (ci := 7) (v := .int τ) (C := RX7) (T := TX7) (N := 13) hx hb hts (fun _ h9 => List.mem_cons_of_mem _ (List.mem_append_right _ h9)) hown hE.1 hP 0 rfl rfl 2 (by decide) (hts (.fieldLink RX7 37 "ShadowTableModel" "kept" "I") (List.mem_of_getElem? (i := 1) rfl)) (fun _ h9 => h9) rfl dX7_states_1 ?_
  exact hend _ _ _ dX7_states_4 rfl (fX7_states_p0 τ)

def fX7_isReady (τ : FnI) : Int32 := (if (τ 0) = (2 : Int32) then (if (τ 4) = (0 : Int32) then (1 : Int32) else (0 : Int32)) else (0 : Int32))
theorem fX7_isReady_p0 (τ : FnI) (c_7 : ¬ (τ 0) = (2 : Int32)) : (fX7_isReady τ) = (0 : Int32) := by
  simp only [fX7_isReady, if_neg c_7]
theorem fX7_isReady_p1 (τ : FnI) (c_7 : (τ 0) = (2 : Int32)) (c_16 : ¬ (τ 4) = (0 : Int32)) : (fX7_isReady τ) = (0 : Int32) := by
  simp only [fX7_isReady, if_pos c_7, if_neg c_16]
theorem fX7_isReady_p2 (τ : FnI) (c_7 : (τ 0) = (2 : Int32)) (c_16 : (τ 4) = (0 : Int32)) : (fX7_isReady τ) = (1 : Int32) := by
  simp only [fX7_isReady, if_pos c_7, if_pos c_16]
set_option maxHeartbeats 4000000 in
set_option maxRecDepth 100000 in
theorem kX7_isReady (l : Launch) (D : va_G) (cI cS : ClassId) (h0 h1 : Nat) (w1 : Nat) (w2 : Int32) (w3 : Nat) (w4 : Int32) (w5 : Nat) (w6 : Nat) (w7 : Int32) (w8 : Int32) (w9 : Int32) (w10 : Int32) (w11 : Int32) (w12 : Int32) (τ : FnI) : KR l yX7_isReady wsX7_isReady { frames := 0, cells := 0, slots := 0, locals := 0 } D (tysA cI cS) [.ref h0] [(h0, .inr (7, [.ref h1, .ref w1, .int w2, .ref w3, .int w4, .ref w5, .ref w6, .int w7, .int w8, .int w9, .int w10, .int w11, .int w12])), (h1, .inl (cI, 163, .inl τ))] (fX7_isReady τ) := by
  refine KR.of (cc := cX7_isReady) (maxL := 1) (ty := .boolean) (by decide) rfl (Nat.le_of_ble_eq_true rfl) rfl (fun p e s m args below meth c ls Q hx hb hml hown hts hE hP hl hend => ?_)
  have hown : s.vm.findClass RX7 = some m.cls := hown
  have hl : lv_has ls 1 [(0, .ref h0)] := hl
  refine lv_aload_n hx hb dX7_isReady_0 rfl (lv_at hl 0 rfl) ?_
  refine va_get (D := D) (ci := 7) (v := .ref h1) (C := RX7) (T := TX7) (N := 13) hx hb hts (fun _ h9 => List.mem_cons_of_mem _ (List.mem_append_right _ h9)) hown hE.1 hP 0 rfl rfl 0 (by decide) (hts (.fieldLink RX7 7 "ShadowTableModel" "s" "[I") (List.mem_of_getElem? (i := 1) rfl)) (fun _ h9 => h9) rfl dX7_isReady_1 ?_
  refine lv_iconst (v := (0 : Int32)) hx hb dX7_isReady_4 (by decide +kernel) ?_
  refine xld (v := (τ 0)) (j := 0) hx hb hE hP 1 rfl rfl cl_0 (in_0 (by decide)) rfl dX7_isReady_5 ?_
  refine lv_iconst (v := (2 : Int32)) hx hb dX7_isReady_6 (by decide +kernel) ?_
  refine lv_icmp_ne (tgt := 23) hx hb dX7_isReady_7 (by decide) (fun c_7 => ?_) (fun c_7 => ?_)
  · refine lv_iconst (v := (0 : Int32)) hx hb dX7_isReady_23 (by decide +kernel) ?_
    exact hend _ _ _ dX7_isReady_24 rfl (fX7_isReady_p0 τ c_7)
  · refine lv_aload_n hx hb dX7_isReady_10 rfl (lv_at hl 0 rfl) ?_
    refine va_get (D := D) (ci := 7) (v := .ref h1) (C := RX7) (T := TX7) (N := 13) hx hb hts (fun _ h9 => List.mem_cons_of_mem _ (List.mem_append_right _ h9)) hown hE.1 hP 0 rfl rfl 0 (by decide) (hts (.fieldLink RX7 7 "ShadowTableModel" "s" "[I") (List.mem_of_getElem? (i := 1) rfl)) (fun _ h9 => h9) rfl dX7_isReady_11 ?_
    refine lv_iconst (v := (4 : Int32)) hx hb dX7_isReady_14 (by decide +kernel) ?_
    refine xld (v := (τ 4)) (j := 4) hx hb hE hP 1 rfl rfl cl_4 (in_4 (by decide)) rfl dX7_isReady_15 ?_
    refine lv_if_ne (tgt := 23) hx hb dX7_isReady_16 (by decide) (fun c_16 => ?_) (fun c_16 => ?_)
    · refine lv_iconst (v := (0 : Int32)) hx hb dX7_isReady_23 (by decide +kernel) ?_
      exact hend _ _ _ dX7_isReady_24 rfl (fX7_isReady_p1 τ c_7 c_16)
    · refine lv_iconst (v := (1 : Int32)) hx hb dX7_isReady_19 (by decide +kernel) ?_
      refine lv_goto (tgt := 24) hx hb dX7_isReady_20 (by decide) ?_
      exact hend _ _ _ dX7_isReady_24 rfl (fX7_isReady_p2 τ c_7 c_16)

def fX7_canAsk (τ : FnI) : Int32 := (if (τ 0) = (1 : Int32) then (1 : Int32) else (if (τ 0) = (2 : Int32) then (1 : Int32) else (0 : Int32)))
theorem fX7_canAsk_p0 (τ : FnI) (c_7 : (τ 0) = (1 : Int32)) : (fX7_canAsk τ) = (1 : Int32) := by
  simp only [fX7_canAsk, if_pos c_7]
theorem fX7_canAsk_p1 (τ : FnI) (c_7 : ¬ (τ 0) = (1 : Int32)) (c_17 : ¬ (τ 0) = (2 : Int32)) : (fX7_canAsk τ) = (0 : Int32) := by
  simp only [fX7_canAsk, if_neg c_7, if_neg c_17]
theorem fX7_canAsk_p2 (τ : FnI) (c_7 : ¬ (τ 0) = (1 : Int32)) (c_17 : (τ 0) = (2 : Int32)) : (fX7_canAsk τ) = (1 : Int32) := by
  simp only [fX7_canAsk, if_neg c_7, if_pos c_17]
set_option maxHeartbeats 4000000 in
set_option maxRecDepth 100000 in
theorem kX7_canAsk (l : Launch) (D : va_G) (cI cS : ClassId) (h0 h1 : Nat) (w1 : Nat) (w2 : Int32) (w3 : Nat) (w4 : Int32) (w5 : Nat) (w6 : Nat) (w7 : Int32) (w8 : Int32) (w9 : Int32) (w10 : Int32) (w11 : Int32) (w12 : Int32) (τ : FnI) : KR l yX7_canAsk wsX7_canAsk { frames := 0, cells := 0, slots := 0, locals := 0 } D (tysA cI cS) [.ref h0] [(h0, .inr (7, [.ref h1, .ref w1, .int w2, .ref w3, .int w4, .ref w5, .ref w6, .int w7, .int w8, .int w9, .int w10, .int w11, .int w12])), (h1, .inl (cI, 163, .inl τ))] (fX7_canAsk τ) := by
  refine KR.of (cc := cX7_canAsk) (maxL := 1) (ty := .boolean) (by decide) rfl (Nat.le_of_ble_eq_true rfl) rfl (fun p e s m args below meth c ls Q hx hb hml hown hts hE hP hl hend => ?_)
  have hown : s.vm.findClass RX7 = some m.cls := hown
  have hl : lv_has ls 1 [(0, .ref h0)] := hl
  refine lv_aload_n hx hb dX7_canAsk_0 rfl (lv_at hl 0 rfl) ?_
  refine va_get (D := D) (ci := 7) (v := .ref h1) (C := RX7) (T := TX7) (N := 13) hx hb hts (fun _ h9 => List.mem_cons_of_mem _ (List.mem_append_right _ h9)) hown hE.1 hP 0 rfl rfl 0 (by decide) (hts (.fieldLink RX7 7 "ShadowTableModel" "s" "[I") (List.mem_of_getElem? (i := 1) rfl)) (fun _ h9 => h9) rfl dX7_canAsk_1 ?_
  refine lv_iconst (v := (0 : Int32)) hx hb dX7_canAsk_4 (by decide +kernel) ?_
  refine xld (v := (τ 0)) (j := 0) hx hb hE hP 1 rfl rfl cl_0 (in_0 (by decide)) rfl dX7_canAsk_5 ?_
  refine lv_iconst (v := (1 : Int32)) hx hb dX7_canAsk_6 (by decide +kernel) ?_
  refine lv_icmp_eq (tgt := 20) hx hb dX7_canAsk_7 (by decide) (fun c_7 => ?_) (fun c_7 => ?_)
  · refine lv_iconst (v := (1 : Int32)) hx hb dX7_canAsk_20 (by decide +kernel) ?_
    refine lv_goto (tgt := 25) hx hb dX7_canAsk_21 (by decide) ?_
    exact hend _ _ _ dX7_canAsk_25 rfl (fX7_canAsk_p0 τ c_7)
  · refine lv_aload_n hx hb dX7_canAsk_10 rfl (lv_at hl 0 rfl) ?_
    refine va_get (D := D) (ci := 7) (v := .ref h1) (C := RX7) (T := TX7) (N := 13) hx hb hts (fun _ h9 => List.mem_cons_of_mem _ (List.mem_append_right _ h9)) hown hE.1 hP 0 rfl rfl 0 (by decide) (hts (.fieldLink RX7 7 "ShadowTableModel" "s" "[I") (List.mem_of_getElem? (i := 1) rfl)) (fun _ h9 => h9) rfl dX7_canAsk_11 ?_
    refine lv_iconst (v := (0 : Int32)) hx hb dX7_canAsk_14 (by decide +kernel) ?_
    refine xld (v := (τ 0)) (j := 0) hx hb hE hP 1 rfl rfl cl_0 (in_0 (by decide)) rfl dX7_canAsk_15 ?_
    refine lv_iconst (v := (2 : Int32)) hx hb dX7_canAsk_16 (by decide +kernel) ?_
    refine lv_icmp_ne (tgt := 24) hx hb dX7_canAsk_17 (by decide) (fun c_17 => ?_) (fun c_17 => ?_)
    · refine lv_iconst (v := (0 : Int32)) hx hb dX7_canAsk_24 (by decide +kernel) ?_
      exact hend _ _ _ dX7_canAsk_25 rfl (fX7_canAsk_p1 τ c_7 c_17)
    · refine lv_iconst (v := (1 : Int32)) hx hb dX7_canAsk_20 (by decide +kernel) ?_
      refine lv_goto (tgt := 25) hx hb dX7_canAsk_21 (by decide) ?_
      exact hend _ _ _ dX7_canAsk_25 rfl (fX7_canAsk_p2 τ c_7 c_17)

def fX7_isNext (p0 : Int32) (p1 : Int32) (τ : MTT) : Int32 := (if τ.2.1 ≤ τ.2.2.1 then (0 : Int32) else (if (fX7_in (τ.1 τ.2.2.1.toNatClampNeg) p0 p1) = (0 : Int32) then (0 : Int32) else (1 : Int32)))
theorem fX7_isNext_p0 (p0 : Int32) (p1 : Int32) (τ : MTT) (c_8 : τ.2.1 ≤ τ.2.2.1) : (fX7_isNext p0 p1 τ) = (0 : Int32) := by
  simp only [fX7_isNext, if_pos c_8]
theorem fX7_isNext_p1 (p0 : Int32) (p1 : Int32) (τ : MTT) (c_8 : ¬ τ.2.1 ≤ τ.2.2.1) (c_25 : (fX7_in (τ.1 τ.2.2.1.toNatClampNeg) p0 p1) = (0 : Int32)) : (fX7_isNext p0 p1 τ) = (0 : Int32) := by
  simp only [fX7_isNext, if_neg c_8, if_pos c_25]
theorem fX7_isNext_p2 (p0 : Int32) (p1 : Int32) (τ : MTT) (c_8 : ¬ τ.2.1 ≤ τ.2.2.1) (c_25 : ¬ (fX7_in (τ.1 τ.2.2.1.toNatClampNeg) p0 p1) = (0 : Int32)) : (fX7_isNext p0 p1 τ) = (1 : Int32) := by
  simp only [fX7_isNext, if_neg c_8, if_neg c_25]
set_option maxHeartbeats 4000000 in
set_option maxRecDepth 100000 in
theorem kX7_isNext (l : Launch) (D : va_G) (cI cS : ClassId) (h0 h1 : Nat) (w0 : Nat) (w1 : Nat) (w2 : Int32) (w3 : Nat) (w4 : Int32) (w5 : Nat) (w12 : Int32) (p0 : Int32) (p1 : Int32) (τ : MTT) (ht : WT τ) : KR l yX7_isNext wsX7_isNext { frames := 1, cells := 0, slots := 0, locals := 22 } D (tysA cI cS) [.ref h0, .int p0, .int p1] [(h0, .inr (7, [.ref w0, .ref w1, .int w2, .ref w3, .int w4, .ref w5, .ref h1, .int τ.2.1, .int τ.2.2.1, .int τ.2.2.2.1, .int τ.2.2.2.2.1, .int τ.2.2.2.2.2, .int w12])), (h1, .inl (cI, 80, .inl τ.1))] (fX7_isNext p0 p1 τ) := by
  refine KR.of (cc := cX7_isNext) (maxL := 3) (ty := .boolean) (by decide) rfl (Nat.le_of_ble_eq_true rfl) rfl (fun p e s m args below meth c ls Q hx hb hml hown hts hE hP hl hend => ?_)
  have hown : s.vm.findClass RX7 = some m.cls := hown
  have hl : lv_has ls 3 [(0, .ref h0), (1, .int p0), (2, .int p1)] := hl
  refine lv_aload_n hx hb dX7_isNext_0 rfl (lv_at hl 0 rfl) ?_
  refine va_get (D := D) (ci := 7) (v := .int τ.2.2.1) (C := RX7) (T := TX7) (N := 13) hx hb hts (fun _ h9 => List.mem_cons_of_mem _ (List.mem_append_right _ h9)) hown hE.1 hP 0 rfl rfl 8 (by decide) (hts (.fieldLink RX7 135 "ShadowTableModel" "place" "I") (List.mem_of_getElem? (i := 1) rfl)) (fun _ h9 => h9) rfl dX7_isNext_1 ?_
  refine lv_aload_n hx hb dX7_isNext_4 rfl (lv_at hl 0 rfl) ?_
  refine va_get (D := D) (ci := 7) (v := .int τ.2.1) (C := RX7) (T := TX7) (N := 13) hx hb hts (fun _ h9 => List.mem_cons_of_mem _ (List.mem_append_right _ h9)) hown hE.1 hP 0 rfl rfl 7 (by decide) (hts (.fieldLink RX7 132 "ShadowTableModel" "length" "I") (List.mem_of_getElem? (i := 2) rfl)) (fun _ h9 => h9) rfl dX7_isNext_5 ?_
  refine lv_icmp_ge (tgt := 32) hx hb dX7_isNext_8 (by decide) (fun c_8 => ?_) (fun c_8 => ?_)
  · refine lv_iconst (v := (0 : Int32)) hx hb dX7_isNext_32 (by decide +kernel) ?_
    exact hend _ _ _ dX7_isNext_33 rfl (fX7_isNext_p0 p0 p1 τ c_8)
  · refine lv_aload_n hx hb dX7_isNext_11 rfl (lv_at hl 0 rfl) ?_
    refine va_get (D := D) (ci := 7) (v := .ref h1) (C := RX7) (T := TX7) (N := 13) hx hb hts (fun _ h9 => List.mem_cons_of_mem _ (List.mem_append_right _ h9)) hown hE.1 hP 0 rfl rfl 6 (by decide) (hts (.fieldLink RX7 22 "ShadowTableModel" "text" "[I") (List.mem_of_getElem? (i := 3) rfl)) (fun _ h9 => h9) rfl dX7_isNext_12 ?_
    refine lv_aload_n hx hb dX7_isNext_15 rfl (lv_at hl 0 rfl) ?_
    refine va_get (D := D) (ci := 7) (v := .int τ.2.2.1) (C := RX7) (T := TX7) (N := 13) hx hb hts (fun _ h9 => List.mem_cons_of_mem _ (List.mem_append_right _ h9)) hown hE.1 hP 0 rfl rfl 8 (by decide) (hts (.fieldLink RX7 135 "ShadowTableModel" "place" "I") (List.mem_of_getElem? (i := 1) rfl)) (fun _ h9 => h9) rfl dX7_isNext_16 ?_
    refine xld (v := (τ.1 τ.2.2.1.toNatClampNeg)) (j := τ.2.2.1.toNatClampNeg) hx hb hE hP 1 rfl rfl rfl (zz_pl ht c_8) rfl dX7_isNext_19 ?_
    refine lv_iload_n hx hb dX7_isNext_20 rfl (lv_at hl 1 rfl) ?_
    refine lv_iload_n hx hb dX7_isNext_21 rfl (lv_at hl 2 rfl) ?_
    refine cRS ⟨hx, hb, hml, hown, hts⟩ (kX7_in l D cI cS (τ.1 τ.2.2.1.toNatClampNeg) p0 p1) (va_cwS 3 hts gX7_isNext_X7_in rfl rfl rfl (by decide +kernel) ⟨Nat.le_of_ble_eq_true rfl, Nat.le_of_ble_eq_true rfl⟩) hE hP [] rfl rfl hl.1 rfl (Nat.le_of_ble_eq_true rfl) ⟨Nat.zero_le _, Nat.zero_le _⟩ dX7_isNext_22 ?_
    refine lv_if_eq (tgt := 32) hx hb dX7_isNext_25 (by decide) (fun c_25 => ?_) (fun c_25 => ?_)
    · refine lv_iconst (v := (0 : Int32)) hx hb dX7_isNext_32 (by decide +kernel) ?_
      exact hend _ _ _ dX7_isNext_33 rfl (fX7_isNext_p1 p0 p1 τ c_8 c_25)
    · refine lv_iconst (v := (1 : Int32)) hx hb dX7_isNext_28 (by decide +kernel) ?_
      refine lv_goto (tgt := 33) hx hb dX7_isNext_29 (by decide) ?_
      exact hend _ _ _ dX7_isNext_33 rfl (fX7_isNext_p2 p0 p1 τ c_8 c_25)

theorem nxt_bit (a b : Int32) (τ : MTT) : fX7_isNext a b τ = 0 ∨ fX7_isNext a b τ = 1 := by
  unfold fX7_isNext
  split
  · exact Or.inl rfl
  · split
    · exact Or.inl rfl
    · exact Or.inr rfl
theorem zz_nx_b (a b : Int32) (τ : MTT) : narrow .boolean (.int (fX7_isNext a b τ)) = .int (fX7_isNext a b τ) := zz_bn (nxt_bit a b τ)
theorem nxt_lt {a b : Int32} {τ : MTT} (c : ¬ fX7_isNext a b τ = (0 : Int32)) : ¬ τ.2.1 ≤ τ.2.2.1 := by
  intro h
  unfold fX7_isNext at c
  rw [if_pos h] at c
  exact c rfl
theorem nxt_in {a b : Int32} {τ : MTT} (c : ¬ fX7_isNext a b τ = (0 : Int32)) : ¬ fX7_in (τ.1 τ.2.2.1.toNatClampNeg) a b = (0 : Int32) := by
  intro h
  unfold fX7_isNext at c
  rw [if_neg (nxt_lt (a := a) (b := b) c), if_pos h] at c
  exact c rfl
theorem zz_nxp {a b : Int32} {τ : MTT} (ht : WT τ) (c : ¬ fX7_isNext a b τ = (0 : Int32)) : vp_in τ.2.2.1 80 := zz_pl ht (nxt_lt c)
theorem pl_inc {a b : Int32} {τ : MTT} (ht : WT τ) (c : ¬ fX7_isNext a b τ = (0 : Int32)) : Bd (τ.2.2.1 + (1 : Int32)) 80 ∧ (τ.2.2.1 + (1 : Int32)).toNatClampNeg = τ.2.2.1.toNatClampNeg + 1 ∧ τ.2.2.1.toNatClampNeg < τ.2.1.toNatClampNeg := by
  have h := bd_lt ht.1 ht.2 (by omega) (by omega) (nxt_lt c)
  have h2 := ht.1.2
  have h3 := bd_inc (M := 80) ht.2 (by omega) (by omega) (by omega)
  exact ⟨h3.1, h3.2, h⟩
theorem zz_WTp {a b x y z : Int32} {t : FnI} {τ : MTT} (ht : WT τ) (c : ¬ fX7_isNext a b τ = (0 : Int32)) : WT (t, τ.2.1, (τ.2.2.1 + (1 : Int32)), x, y, z) := And.intro ht.1 ((pl_inc ht c).1.mono (by omega))
theorem zz_WTn {a b : Int32} {τ : MTT} {n : Nat} (ht : WT τ) (c : ¬ fX7_isNext a b τ = (0 : Int32)) (hn : 82 - τ.2.2.1.toNatClampNeg < n + 1) : 82 - (τ.2.2.1 + (1 : Int32)).toNatClampNeg < n := by
  have h := pl_inc ht c
  have h2 := ht.1.2
  omega
/-- how a reading step leaves the text and the place -/
def RN (τ u : MTT) : Prop := u.1 = τ.1 ∧ u.2.1 = τ.2.1 ∧ Bd u.2.2.1 81 ∧ τ.2.2.1.toNatClampNeg ≤ u.2.2.1.toNatClampNeg ∧ (τ.2.2.1.toNatClampNeg ≤ τ.2.1.toNatClampNeg → u.2.2.1.toNatClampNeg ≤ τ.2.1.toNatClampNeg)
theorem RN.refl {τ : MTT} (ht : WT τ) : RN τ τ := ⟨rfl, rfl, ht.2, Nat.le_refl _, fun h => h⟩
theorem RN.trans {τ u v : MTT} (h1 : RN τ u) (h2 : RN u v) : RN τ v := ⟨h2.1.trans h1.1, h2.2.1.trans h1.2.1, h2.2.2.1, Nat.le_trans h1.2.2.2.1 h2.2.2.2.1, fun q => by
  have a := h1.2.2.2.2 q
  rw [← h1.2.1] at a ⊢
  exact h2.2.2.2.2 a⟩
theorem RN.step {a b x y z : Int32} {τ : MTT} (ht : WT τ) (c : ¬ fX7_isNext a b τ = (0 : Int32)) : RN τ (τ.1, τ.2.1, (τ.2.2.1 + (1 : Int32)), x, y, z) := by
  have h := pl_inc ht c
  refine ⟨rfl, rfl, h.1.mono (by omega), ?_, fun _ => ?_⟩
  · show τ.2.2.1.toNatClampNeg ≤ (τ.2.2.1 + (1 : Int32)).toNatClampNeg
    omega
  · show (τ.2.2.1 + (1 : Int32)).toNatClampNeg ≤ τ.2.1.toNatClampNeg
    omega
theorem RN.WT {τ u : MTT} (h : RN τ u) (ht : WT τ) : WT u := And.intro (by rw [h.2.1]; exact ht.1) h.2.2.1
theorem RN.WP {τ u : MTT} (h : RN τ u) (ht : WP τ.2.1 τ.2.2.1) : WP u.2.1 u.2.2.1 := by
  have a := h.2.2.2.2 ht.2.2
  rw [← h.2.1] at a
  have h1 : Bd u.2.1 80 := by rw [h.2.1]; exact ht.1
  exact And.intro h1 (And.intro ⟨h.2.2.1.1, by have := h1.2; omega⟩ a)

def fX7_takes (p0 : Int32) (τ : MTT) : Int32 × MTT := (if (fX7_isNext p0 p0 τ) = (0 : Int32) then ((fX7_isNext p0 p0 τ), (τ.1, τ.2.1, (τ.2.2.1 + (0 : Int32)), τ.2.2.2.1, τ.2.2.2.2.1, τ.2.2.2.2.2)) else ((fX7_isNext p0 p0 τ), (τ.1, τ.2.1, (τ.2.2.1 + (1 : Int32)), τ.2.2.2.1, τ.2.2.2.2.1, τ.2.2.2.2.2)))
theorem fX7_takes_p0 (p0 : Int32) (τ : MTT) (c_13 : (fX7_isNext p0 p0 τ) = (0 : Int32)) : (fX7_takes p0 τ) = ((fX7_isNext p0 p0 τ), (τ.1, τ.2.1, (τ.2.2.1 + (0 : Int32)), τ.2.2.2.1, τ.2.2.2.2.1, τ.2.2.2.2.2)) := by
  simp only [fX7_takes, if_pos c_13]
theorem fX7_takes_p1 (p0 : Int32) (τ : MTT) (c_13 : ¬ (fX7_isNext p0 p0 τ) = (0 : Int32)) : (fX7_takes p0 τ) = ((fX7_isNext p0 p0 τ), (τ.1, τ.2.1, (τ.2.2.1 + (1 : Int32)), τ.2.2.2.1, τ.2.2.2.2.1, τ.2.2.2.2.2)) := by
  simp only [fX7_takes, if_neg c_13]
set_option maxHeartbeats 4000000 in
set_option maxRecDepth 100000 in
theorem kX7_takes (l : Launch) (D : va_G) (cI cS : ClassId) (h0 h1 : Nat) (w0 : Nat) (w1 : Nat) (w2 : Int32) (w3 : Nat) (w4 : Int32) (w5 : Nat) (w12 : Int32) (p0 : Int32) (τ : MTT) (ht : WT τ) : KI l yX7_takes wsX7_takes { frames := 2, cells := 0, slots := 0, locals := 44 } D (tysA cI cS) [.ref h0, .int p0] [(h0, .inr (7, [.ref w0, .ref w1, .int w2, .ref w3, .int w4, .ref w5, .ref h1, .int τ.2.1, .int τ.2.2.1, .int τ.2.2.2.1, .int τ.2.2.2.2.1, .int τ.2.2.2.2.2, .int w12])), (h1, .inl (cI, 80, .inl τ.1))] (fX7_takes p0 τ) (fun u => [(h0, .inr (7, [.ref w0, .ref w1, .int w2, .ref w3, .int w4, .ref w5, .ref h1, .int u.2.1, .int u.2.2.1, .int u.2.2.2.1, .int u.2.2.2.2.1, .int u.2.2.2.2.2, .int w12])), (h1, .inl (cI, 80, .inl u.1))]) := by
  refine KI.of (cc := cX7_takes) (maxL := 3) (ty := .boolean) (by decide) rfl (Nat.le_of_ble_eq_true rfl) rfl (fun p e s m args below meth c ls Q A hx hb hml hown hts hE hP hD hS hl hend => ?_)
  have hown : s.vm.findClass RX7 = some m.cls := hown
  have hl : lv_has ls 3 [(0, .ref h0), (1, .int p0)] := hl
  refine lv_aload_n hx hb dX7_takes_0 rfl (lv_at hl 0 rfl) ?_
  refine lv_iload_n hx hb dX7_takes_1 rfl (lv_at hl 1 rfl) ?_
  refine lv_iload_n hx hb dX7_takes_2 rfl (lv_at hl 1 rfl) ?_
  refine cRV ⟨hx, hb, hml, hown, hts⟩ (kX7_isNext l D cI cS h0 h1 w0 w1 w2 w3 w4 w5 w12 p0 p0 τ ht) (cwV 2 hts gX7_takes_X7_isNext rfl rfl rfl (by decide +kernel) ⟨Nat.le_of_ble_eq_true rfl, Nat.le_of_ble_eq_true rfl⟩) hE hP 0 rfl rfl [0, 1] rfl rfl hl.1 rfl (Nat.le_of_ble_eq_true rfl) ⟨Nat.zero_le _, Nat.zero_le _⟩ dX7_takes_3 ?_
  refine lv_istore_n (lv' := [(2, .int (fX7_isNext p0 p0 τ)), (0, .ref h0), (1, .int p0)]) hx hb dX7_takes_6 rfl hl (by decide) rfl (fun ls hl => ?_)
  refine lv_aload_n hx hb dX7_takes_7 rfl (lv_at hl 1 rfl) ?_
  refine lv_dup hx hb dX7_takes_8 rfl ?_
  refine va_get (D := D) (ci := 7) (v := .int τ.2.2.1) (C := RX7) (T := TX7) (N := 13) hx hb hts (fun _ h9 => List.mem_cons_of_mem _ (List.mem_append_right _ h9)) hown hE.1 hP 0 rfl rfl 8 (by decide) (hts (.fieldLink RX7 135 "ShadowTableModel" "place" "I") (List.mem_of_getElem? (i := 1) rfl)) (fun _ h9 => h9) rfl dX7_takes_9 ?_
  refine lv_iload_n hx hb dX7_takes_12 rfl (lv_at hl 0 rfl) ?_
  refine lv_if_eq (tgt := 20) hx hb dX7_takes_13 (by decide) (fun c_13 => ?_) (fun c_13 => ?_)
  · refine lv_iconst (v := (0 : Int32)) hx hb dX7_takes_20 (by decide +kernel) ?_
    refine lv_iadd hx hb dX7_takes_21 ?_
    refine xpf (ty := .int) (v := .int (τ.2.2.1 + (0 : Int32))) (C := RX7) (T := TX7) (N := 13) hx hb hts (fun _ h9 => List.mem_cons_of_mem _ (List.mem_append_right _ h9)) tyX7 tyX7_ok nmX7 hown hE hP hD hS 0 rfl rfl 8 (by decide) (hts (.fieldLink RX7 135 "ShadowTableModel" "place" "I") (List.mem_of_getElem? (i := 1) rfl)) rfl rfl (by decide +kernel) rfl rfl (Nat.le_of_ble_eq_true rfl) [(h0, .inr (7, [.ref w0, .ref w1, .int w2, .ref w3, .int w4, .ref w5, .ref h1, .int τ.2.1, .int (τ.2.2.1 + (0 : Int32)), .int τ.2.2.2.1, .int τ.2.2.2.2.1, .int τ.2.2.2.2.2, .int w12])), (h1, .inl (cI, 80, .inl τ.1))] rfl dX7_takes_22 (fun H locs hP hD hS => ?_)
    refine lv_iload_n hx hb dX7_takes_25 rfl (lv_at hl 0 rfl) ?_
    exact hend _ _ _ _ _ _ dX7_takes_26 (zz_nx_b _ _ _) (fX7_takes_p0 p0 τ c_13) hP hS
  · refine lv_iconst (v := (1 : Int32)) hx hb dX7_takes_16 (by decide +kernel) ?_
    refine lv_goto (tgt := 21) hx hb dX7_takes_17 (by decide) ?_
    refine lv_iadd hx hb dX7_takes_21 ?_
    refine xpf (ty := .int) (v := .int (τ.2.2.1 + (1 : Int32))) (C := RX7) (T := TX7) (N := 13) hx hb hts (fun _ h9 => List.mem_cons_of_mem _ (List.mem_append_right _ h9)) tyX7 tyX7_ok nmX7 hown hE hP hD hS 0 rfl rfl 8 (by decide) (hts (.fieldLink RX7 135 "ShadowTableModel" "place" "I") (List.mem_of_getElem? (i := 1) rfl)) rfl rfl (by decide +kernel) rfl rfl (Nat.le_of_ble_eq_true rfl) [(h0, .inr (7, [.ref w0, .ref w1, .int w2, .ref w3, .int w4, .ref w5, .ref h1, .int τ.2.1, .int (τ.2.2.1 + (1 : Int32)), .int τ.2.2.2.1, .int τ.2.2.2.2.1, .int τ.2.2.2.2.2, .int w12])), (h1, .inl (cI, 80, .inl τ.1))] rfl dX7_takes_22 (fun H locs hP hD hS => ?_)
    refine lv_iload_n hx hb dX7_takes_25 rfl (lv_at hl 0 rfl) ?_
    exact hend _ _ _ _ _ _ dX7_takes_26 (zz_nx_b _ _ _) (fX7_takes_p1 p0 τ c_13) hP hS

theorem i_add0 (x : Int32) : x + (0 : Int32) = x := Int32.add_zero x
theorem tk_RN {a r : Int32} {τ u : MTT} (e : fX7_takes a τ = (r, u)) (ht : WT τ) : RN τ u ∧ (r = 0 → u.2.2.1 = τ.2.2.1) ∧ (¬ r = 0 → u.2.2.1.toNatClampNeg = τ.2.2.1.toNatClampNeg + 1) := by
  unfold fX7_takes at e
  by_cases c : fX7_isNext a a τ = (0 : Int32)
  · rw [if_pos c] at e
    cases e
    refine ⟨⟨rfl, rfl, ?_, ?_, fun h => ?_⟩, fun _ => i_add0 _, fun h => absurd c h⟩
    · show Bd (τ.2.2.1 + (0 : Int32)) 81
      rw [i_add0]; exact ht.2
    · show τ.2.2.1.toNatClampNeg ≤ (τ.2.2.1 + (0 : Int32)).toNatClampNeg
      rw [i_add0]; exact Nat.le_refl _
    · show (τ.2.2.1 + (0 : Int32)).toNatClampNeg ≤ τ.2.1.toNatClampNeg
      rw [i_add0]; exact h
  · rw [if_neg c] at e
    cases e
    exact ⟨RN.step ht c, fun h => absurd h c, fun _ => (pl_inc ht c).2.1⟩
theorem zz_WT_tk {a r : Int32} {τ u : MTT} (e : fX7_takes a τ = (r, u)) (ht : WT τ) : WT u := (tk_RN e ht).1.WT ht
theorem zz_tk_P {a r : Int32} {τ u : MTT} (e : fX7_takes a τ = (r, u)) (h : WP τ.2.1 τ.2.2.1) : WP u.2.1 u.2.2.1 := (tk_RN e (zz_WPT h)).1.WP h

def fX7_readNumber_55 (p0 : Int32) (p1 : Int32) : Nat → Int32 → MTT → Int32 × MTT
  | 0, x, σ => (0, σ)
  | n + 1, x, σ => (if x ≤ (0 : Int32) then (x, σ) else (if (fX7_isNext (48 : Int32) (57 : Int32) σ) = (0 : Int32) then (x, σ) else (if p1 < ((((10 : Int32) * x) + (σ.1 σ.2.2.1.toNatClampNeg)) - (48 : Int32)) then (x, σ) else fX7_readNumber_55 p0 p1 n ((((10 : Int32) * x) + (σ.1 σ.2.2.1.toNatClampNeg)) - (48 : Int32)) (σ.1, σ.2.1, (σ.2.2.1 + (1 : Int32)), σ.2.2.2.1, σ.2.2.2.2.1, σ.2.2.2.2.2))))
def fX7_readNumber (p0 : Int32) (p1 : Int32) (τ : MTT) : Int32 × MTT := (if (fX7_isNext ((48 : Int32) + p0) (57 : Int32) τ) = (0 : Int32) then ((-5 : Int32), τ) else (if ((τ.1 τ.2.2.1.toNatClampNeg) - (48 : Int32)) ≤ p1 then fX7_readNumber_55 p0 p1 83 ((τ.1 τ.2.2.1.toNatClampNeg) - (48 : Int32)) (τ.1, τ.2.1, (τ.2.2.1 + (1 : Int32)), τ.2.2.2.1, τ.2.2.2.2.1, τ.2.2.2.2.2) else ((-5 : Int32), τ)))
theorem fX7_readNumber_55_p0 (p0 : Int32) (p1 : Int32) (n : Nat) (x : Int32) (σ : MTT) (c_56 : x ≤ (0 : Int32)) : fX7_readNumber_55 p0 p1 (n + 1) x σ = (x, σ) := by
  simp only [fX7_readNumber_55, if_pos c_56]
theorem fX7_readNumber_55_p1 (p0 : Int32) (p1 : Int32) (n : Nat) (x : Int32) (σ : MTT) (c_56 : ¬ x ≤ (0 : Int32)) (c_67 : (fX7_isNext (48 : Int32) (57 : Int32) σ) = (0 : Int32)) : fX7_readNumber_55 p0 p1 (n + 1) x σ = (x, σ) := by
  simp only [fX7_readNumber_55, if_neg c_56, if_pos c_67]
theorem fX7_readNumber_55_p2 (p0 : Int32) (p1 : Int32) (n : Nat) (x : Int32) (σ : MTT) (c_56 : ¬ x ≤ (0 : Int32)) (c_67 : ¬ (fX7_isNext (48 : Int32) (57 : Int32) σ) = (0 : Int32)) (c_88 : p1 < ((((10 : Int32) * x) + (σ.1 σ.2.2.1.toNatClampNeg)) - (48 : Int32))) : fX7_readNumber_55 p0 p1 (n + 1) x σ = (x, σ) := by
  simp only [fX7_readNumber_55, if_neg c_56, if_neg c_67, if_pos c_88]
theorem fX7_readNumber_55_p3 (p0 : Int32) (p1 : Int32) (n : Nat) (x : Int32) (σ : MTT) (c_56 : ¬ x ≤ (0 : Int32)) (c_67 : ¬ (fX7_isNext (48 : Int32) (57 : Int32) σ) = (0 : Int32)) (c_88 : ¬ p1 < ((((10 : Int32) * x) + (σ.1 σ.2.2.1.toNatClampNeg)) - (48 : Int32))) : fX7_readNumber_55 p0 p1 (n + 1) x σ = fX7_readNumber_55 p0 p1 n ((((10 : Int32) * x) + (σ.1 σ.2.2.1.toNatClampNeg)) - (48 : Int32)) (σ.1, σ.2.1, (σ.2.2.1 + (1 : Int32)), σ.2.2.2.1, σ.2.2.2.2.1, σ.2.2.2.2.2) := by
  simp only [fX7_readNumber_55, if_neg c_56, if_neg c_67, if_neg c_88]
theorem fX7_readNumber_p4 (p0 : Int32) (p1 : Int32) (τ : MTT) (c_10 : (fX7_isNext ((48 : Int32) + p0) (57 : Int32) τ) = (0 : Int32)) : (fX7_readNumber p0 p1 τ) = ((-5 : Int32), τ) := by
  simp only [fX7_readNumber, if_pos c_10]
theorem fX7_readNumber_p5 (p0 : Int32) (p1 : Int32) (τ : MTT) (c_10 : ¬ (fX7_isNext ((48 : Int32) + p0) (57 : Int32) τ) = (0 : Int32)) (c_26 : ((τ.1 τ.2.2.1.toNatClampNeg) - (48 : Int32)) ≤ p1) : (fX7_readNumber p0 p1 τ) = fX7_readNumber_55 p0 p1 83 ((τ.1 τ.2.2.1.toNatClampNeg) - (48 : Int32)) (τ.1, τ.2.1, (τ.2.2.1 + (1 : Int32)), τ.2.2.2.1, τ.2.2.2.2.1, τ.2.2.2.2.2) := by
  simp only [fX7_readNumber, if_neg c_10, if_pos c_26]
theorem fX7_readNumber_p6 (p0 : Int32) (p1 : Int32) (τ : MTT) (c_10 : ¬ (fX7_isNext ((48 : Int32) + p0) (57 : Int32) τ) = (0 : Int32)) (c_26 : ¬ ((τ.1 τ.2.2.1.toNatClampNeg) - (48 : Int32)) ≤ p1) : (fX7_readNumber p0 p1 τ) = ((-5 : Int32), τ) := by
  simp only [fX7_readNumber, if_neg c_10, if_neg c_26]
set_option maxHeartbeats 4000000 in
set_option maxRecDepth 100000 in
theorem kX7_readNumber (l : Launch) (D : va_G) (cI cS : ClassId) (h0 h1 : Nat) (w0 : Nat) (w1 : Nat) (w2 : Int32) (w3 : Nat) (w4 : Int32) (w5 : Nat) (w12 : Int32) (p0 : Int32) (p1 : Int32) (τ : MTT) (ht : WT τ) : KI l yX7_readNumber wsX7_readNumber { frames := 2, cells := 0, slots := 0, locals := 44 } D (tysA cI cS) [.ref h0, .int p0, .int p1] [(h0, .inr (7, [.ref w0, .ref w1, .int w2, .ref w3, .int w4, .ref w5, .ref h1, .int τ.2.1, .int τ.2.2.1, .int τ.2.2.2.1, .int τ.2.2.2.2.1, .int τ.2.2.2.2.2, .int w12])), (h1, .inl (cI, 80, .inl τ.1))] (fX7_readNumber p0 p1 τ) (fun u => [(h0, .inr (7, [.ref w0, .ref w1, .int w2, .ref w3, .int w4, .ref w5, .ref h1, .int u.2.1, .int u.2.2.1, .int u.2.2.2.1, .int u.2.2.2.2.1, .int u.2.2.2.2.2, .int w12])), (h1, .inl (cI, 80, .inl u.1))]) := by
  refine KI.of (cc := cX7_readNumber) (maxL := 4) (ty := .int) (by decide) rfl (Nat.le_of_ble_eq_true rfl) rfl (fun p e s m args below meth c ls Q A hx hb hml hown hts hE hP hD hS hl hend => ?_)
  have hown : s.vm.findClass RX7 = some m.cls := hown
  have hl : lv_has ls 4 [(0, .ref h0), (1, .int p0), (2, .int p1)] := hl
  have loop_55 : ∀ (n : Nat) (x : Int32) (σ : MTT), WT σ → 82 - σ.2.2.1.toNatClampNeg < n → (fX7_readNumber p0 p1 τ) = fX7_readNumber_55 p0 p1 n x σ → ∀ (H : Heap) (locs : List Loc), va_P D vwCl [(h0, .inr (7, [.ref w0, .ref w1, .int w2, .ref w3, .int w4, .ref w5, .ref h1, .int σ.2.1, .int σ.2.2.1, .int σ.2.2.2.1, .int σ.2.2.2.2.1, .int σ.2.2.2.2.2, .int w12])), (h1, .inl (cI, 80, .inl σ.1))] H → va_D A [(h0, .inr (7, [.ref w0, .ref w1, .int w2, .ref w3, .int w4, .ref w5, .ref h1, .int σ.2.1, .int σ.2.2.1, .int σ.2.2.2.1, .int σ.2.2.2.2.1, .int σ.2.2.2.2.2, .int w12])), (h1, .inl (cI, 80, .inl σ.1))] → va_S A s.heap H locs → ∀ (ls : Array Slot), lv_has ls 4 [(0, .ref h0), (1, .int p0), (2, .int p1), (3, .int x)] → W p l e { frames := 2, cells := 0, slots := 0, locals := 44 } s m args below meth c H locs 0 0 Q (F0 m 55 ls []) := by
    intro n
    induction n with
    | zero =>
      intro x σ ht hn
      exact absurd hn (by omega)
    | succ n ih =>
      intro x σ ht hn hF H locs hP hD hS ls hl
      refine lv_iload_n hx hb dX7_readNumber_55 rfl (lv_at hl 3 rfl) ?_
      refine lv_if_le (tgt := 122) hx hb dX7_readNumber_56 (by decide) (fun c_56 => ?_) (fun c_56 => ?_)
      · refine lv_iload_n hx hb dX7_readNumber_122 rfl (lv_at hl 3 rfl) ?_
        exact hend _ _ _ _ _ _ dX7_readNumber_123 rfl (hF.trans (fX7_readNumber_55_p0 p0 p1 n x σ c_56)) hP hS
      · refine lv_aload_n hx hb dX7_readNumber_59 rfl (lv_at hl 0 rfl) ?_
        refine lv_bipush (v := (48 : Int32)) hx hb dX7_readNumber_60 (by decide +kernel) ?_
        refine lv_bipush (v := (57 : Int32)) hx hb dX7_readNumber_62 (by decide +kernel) ?_
        refine cRV ⟨hx, hb, hml, hown, hts⟩ (kX7_isNext l D cI cS h0 h1 w0 w1 w2 w3 w4 w5 w12 (48 : Int32) (57 : Int32) σ ht) (cwV 2 hts gX7_readNumber_X7_isNext rfl rfl rfl (by decide +kernel) ⟨Nat.le_of_ble_eq_true rfl, Nat.le_of_ble_eq_true rfl⟩) hE hP 0 rfl rfl [0, 1] rfl rfl hl.1 rfl (Nat.le_of_ble_eq_true rfl) ⟨Nat.zero_le _, Nat.zero_le _⟩ dX7_readNumber_64 ?_
        refine lv_if_eq (tgt := 122) hx hb dX7_readNumber_67 (by decide) (fun c_67 => ?_) (fun c_67 => ?_)
        · refine lv_iload_n hx hb dX7_readNumber_122 rfl (lv_at hl 3 rfl) ?_
          exact hend _ _ _ _ _ _ dX7_readNumber_123 rfl (hF.trans (fX7_readNumber_55_p1 p0 p1 n x σ c_56 c_67)) hP hS
        · refine lv_bipush (v := (10 : Int32)) hx hb dX7_readNumber_70 (by decide +kernel) ?_
          refine lv_iload_n hx hb dX7_readNumber_72 rfl (lv_at hl 3 rfl) ?_
          refine lv_imul hx hb dX7_readNumber_73 ?_
          refine lv_aload_n hx hb dX7_readNumber_74 rfl (lv_at hl 0 rfl) ?_
          refine va_get (D := D) (ci := 7) (v := .ref h1) (C := RX7) (T := TX7) (N := 13) hx hb hts (fun _ h9 => List.mem_cons_of_mem _ (List.mem_append_right _ h9)) hown hE.1 hP 0 rfl rfl 6 (by decide) (hts (.fieldLink RX7 22 "ShadowTableModel" "text" "[I") (List.mem_of_getElem? (i := 1) rfl)) (fun _ h9 => h9) rfl dX7_readNumber_75 ?_
          refine lv_aload_n hx hb dX7_readNumber_78 rfl (lv_at hl 0 rfl) ?_
          refine va_get (D := D) (ci := 7) (v := .int σ.2.2.1) (C := RX7) (T := TX7) (N := 13) hx hb hts (fun _ h9 => List.mem_cons_of_mem _ (List.mem_append_right _ h9)) hown hE.1 hP 0 rfl rfl 8 (by decide) (hts (.fieldLink RX7 135 "ShadowTableModel" "place" "I") (List.mem_of_getElem? (i := 2) rfl)) (fun _ h9 => h9) rfl dX7_readNumber_79 ?_
          refine xld (v := (σ.1 σ.2.2.1.toNatClampNeg)) (j := σ.2.2.1.toNatClampNeg) hx hb hE hP 1 rfl rfl rfl (zz_nxp ht c_67) rfl dX7_readNumber_82 ?_
          refine lv_iadd hx hb dX7_readNumber_83 ?_
          refine lv_bipush (v := (48 : Int32)) hx hb dX7_readNumber_84 (by decide +kernel) ?_
          refine lv_isub hx hb dX7_readNumber_86 ?_
          refine lv_iload_n hx hb dX7_readNumber_87 rfl (lv_at hl 2 rfl) ?_
          refine lv_icmp_gt (tgt := 122) hx hb dX7_readNumber_88 (by decide) (fun c_88 => ?_) (fun c_88 => ?_)
          · refine lv_iload_n hx hb dX7_readNumber_122 rfl (lv_at hl 3 rfl) ?_
            exact hend _ _ _ _ _ _ dX7_readNumber_123 rfl (hF.trans (fX7_readNumber_55_p2 p0 p1 n x σ c_56 c_67 c_88)) hP hS
          · refine lv_bipush (v := (10 : Int32)) hx hb dX7_readNumber_91 (by decide +kernel) ?_
            refine lv_iload_n hx hb dX7_readNumber_93 rfl (lv_at hl 3 rfl) ?_
            refine lv_imul hx hb dX7_readNumber_94 ?_
            refine lv_aload_n hx hb dX7_readNumber_95 rfl (lv_at hl 0 rfl) ?_
            refine va_get (D := D) (ci := 7) (v := .ref h1) (C := RX7) (T := TX7) (N := 13) hx hb hts (fun _ h9 => List.mem_cons_of_mem _ (List.mem_append_right _ h9)) hown hE.1 hP 0 rfl rfl 6 (by decide) (hts (.fieldLink RX7 22 "ShadowTableModel" "text" "[I") (List.mem_of_getElem? (i := 1) rfl)) (fun _ h9 => h9) rfl dX7_readNumber_96 ?_
            refine lv_aload_n hx hb dX7_readNumber_99 rfl (lv_at hl 0 rfl) ?_
            refine va_get (D := D) (ci := 7) (v := .int σ.2.2.1) (C := RX7) (T := TX7) (N := 13) hx hb hts (fun _ h9 => List.mem_cons_of_mem _ (List.mem_append_right _ h9)) hown hE.1 hP 0 rfl rfl 8 (by decide) (hts (.fieldLink RX7 135 "ShadowTableModel" "place" "I") (List.mem_of_getElem? (i := 2) rfl)) (fun _ h9 => h9) rfl dX7_readNumber_100 ?_
            refine xld (v := (σ.1 σ.2.2.1.toNatClampNeg)) (j := σ.2.2.1.toNatClampNeg) hx hb hE hP 1 rfl rfl rfl (zz_nxp ht c_67) rfl dX7_readNumber_103 ?_
            refine lv_iadd hx hb dX7_readNumber_104 ?_
            refine lv_bipush (v := (48 : Int32)) hx hb dX7_readNumber_105 (by decide +kernel) ?_
            refine lv_isub hx hb dX7_readNumber_107 ?_
            refine lv_istore_n (lv' := [(3, .int ((((10 : Int32) * x) + (σ.1 σ.2.2.1.toNatClampNeg)) - (48 : Int32))), (0, .ref h0), (1, .int p0), (2, .int p1)]) hx hb dX7_readNumber_108 rfl hl (by decide) rfl (fun ls hl => ?_)
            refine lv_aload_n hx hb dX7_readNumber_109 rfl (lv_at hl 1 rfl) ?_
            refine lv_dup hx hb dX7_readNumber_110 rfl ?_
            refine va_get (D := D) (ci := 7) (v := .int σ.2.2.1) (C := RX7) (T := TX7) (N := 13) hx hb hts (fun _ h9 => List.mem_cons_of_mem _ (List.mem_append_right _ h9)) hown hE.1 hP 0 rfl rfl 8 (by decide) (hts (.fieldLink RX7 135 "ShadowTableModel" "place" "I") (List.mem_of_getElem? (i := 2) rfl)) (fun _ h9 => h9) rfl dX7_readNumber_111 ?_
            refine lv_iconst (v := (1 : Int32)) hx hb dX7_readNumber_114 (by decide +kernel) ?_
            refine lv_iadd hx hb dX7_readNumber_115 ?_
            refine xpf (ty := .int) (v := .int (σ.2.2.1 + (1 : Int32))) (C := RX7) (T := TX7) (N := 13) hx hb hts (fun _ h9 => List.mem_cons_of_mem _ (List.mem_append_right _ h9)) tyX7 tyX7_ok nmX7 hown hE hP hD hS 0 rfl rfl 8 (by decide) (hts (.fieldLink RX7 135 "ShadowTableModel" "place" "I") (List.mem_of_getElem? (i := 2) rfl)) rfl rfl (by decide +kernel) rfl rfl (Nat.le_of_ble_eq_true rfl) [(h0, .inr (7, [.ref w0, .ref w1, .int w2, .ref w3, .int w4, .ref w5, .ref h1, .int σ.2.1, .int (σ.2.2.1 + (1 : Int32)), .int σ.2.2.2.1, .int σ.2.2.2.2.1, .int σ.2.2.2.2.2, .int w12])), (h1, .inl (cI, 80, .inl σ.1))] rfl dX7_readNumber_116 (fun H locs hP hD hS => ?_)
            refine lv_goto (tgt := 55) hx hb dX7_readNumber_119 (by decide) ?_
            exact ih ((((10 : Int32) * x) + (σ.1 σ.2.2.1.toNatClampNeg)) - (48 : Int32)) (σ.1, σ.2.1, (σ.2.2.1 + (1 : Int32)), σ.2.2.2.1, σ.2.2.2.2.1, σ.2.2.2.2.2) (zz_WTp ht c_67) (zz_WTn ht c_67 hn) (hF.trans (fX7_readNumber_55_p3 p0 p1 n x σ c_56 c_67 c_88)) _ _ hP hD hS _ (lv_sub hl [1, 2, 3, 0] rfl)
  refine lv_aload_n hx hb dX7_readNumber_0 rfl (lv_at hl 0 rfl) ?_
  refine lv_bipush (v := (48 : Int32)) hx hb dX7_readNumber_1 (by decide +kernel) ?_
  refine lv_iload_n hx hb dX7_readNumber_3 rfl (lv_at hl 1 rfl) ?_
  refine lv_iadd hx hb dX7_readNumber_4 ?_
  refine lv_bipush (v := (57 : Int32)) hx hb dX7_readNumber_5 (by decide +kernel) ?_
  refine cRV ⟨hx, hb, hml, hown, hts⟩ (kX7_isNext l D cI cS h0 h1 w0 w1 w2 w3 w4 w5 w12 ((48 : Int32) + p0) (57 : Int32) τ ht) (cwV 2 hts gX7_readNumber_X7_isNext rfl rfl rfl (by decide +kernel) ⟨Nat.le_of_ble_eq_true rfl, Nat.le_of_ble_eq_true rfl⟩) hE hP 0 rfl rfl [0, 1] rfl rfl hl.1 rfl (Nat.le_of_ble_eq_true rfl) ⟨Nat.zero_le _, Nat.zero_le _⟩ dX7_readNumber_7 ?_
  refine lv_if_eq (tgt := 29) hx hb dX7_readNumber_10 (by decide) (fun c_10 => ?_) (fun c_10 => ?_)
  · refine lv_bipush (v := (-5 : Int32)) hx hb dX7_readNumber_29 (by decide +kernel) ?_
    exact hend _ _ _ _ _ _ dX7_readNumber_31 rfl (fX7_readNumber_p4 p0 p1 τ c_10) hP hS
  · refine lv_aload_n hx hb dX7_readNumber_13 rfl (lv_at hl 0 rfl) ?_
    refine va_get (D := D) (ci := 7) (v := .ref h1) (C := RX7) (T := TX7) (N := 13) hx hb hts (fun _ h9 => List.mem_cons_of_mem _ (List.mem_append_right _ h9)) hown hE.1 hP 0 rfl rfl 6 (by decide) (hts (.fieldLink RX7 22 "ShadowTableModel" "text" "[I") (List.mem_of_getElem? (i := 1) rfl)) (fun _ h9 => h9) rfl dX7_readNumber_14 ?_
    refine lv_aload_n hx hb dX7_readNumber_17 rfl (lv_at hl 0 rfl) ?_
    refine va_get (D := D) (ci := 7) (v := .int τ.2.2.1) (C := RX7) (T := TX7) (N := 13) hx hb hts (fun _ h9 => List.mem_cons_of_mem _ (List.mem_append_right _ h9)) hown hE.1 hP 0 rfl rfl 8 (by decide) (hts (.fieldLink RX7 135 "ShadowTableModel" "place" "I") (List.mem_of_getElem? (i := 2) rfl)) (fun _ h9 => h9) rfl dX7_readNumber_18 ?_
    refine xld (v := (τ.1 τ.2.2.1.toNatClampNeg)) (j := τ.2.2.1.toNatClampNeg) hx hb hE hP 1 rfl rfl rfl (zz_nxp ht c_10) rfl dX7_readNumber_21 ?_
    refine lv_bipush (v := (48 : Int32)) hx hb dX7_readNumber_22 (by decide +kernel) ?_
    refine lv_isub hx hb dX7_readNumber_24 ?_
    refine lv_iload_n hx hb dX7_readNumber_25 rfl (lv_at hl 2 rfl) ?_
    refine lv_icmp_le (tgt := 32) hx hb dX7_readNumber_26 (by decide) (fun c_26 => ?_) (fun c_26 => ?_)
    · refine lv_aload_n hx hb dX7_readNumber_32 rfl (lv_at hl 0 rfl) ?_
      refine va_get (D := D) (ci := 7) (v := .ref h1) (C := RX7) (T := TX7) (N := 13) hx hb hts (fun _ h9 => List.mem_cons_of_mem _ (List.mem_append_right _ h9)) hown hE.1 hP 0 rfl rfl 6 (by decide) (hts (.fieldLink RX7 22 "ShadowTableModel" "text" "[I") (List.mem_of_getElem? (i := 1) rfl)) (fun _ h9 => h9) rfl dX7_readNumber_33 ?_
      refine lv_aload_n hx hb dX7_readNumber_36 rfl (lv_at hl 0 rfl) ?_
      refine va_get (D := D) (ci := 7) (v := .int τ.2.2.1) (C := RX7) (T := TX7) (N := 13) hx hb hts (fun _ h9 => List.mem_cons_of_mem _ (List.mem_append_right _ h9)) hown hE.1 hP 0 rfl rfl 8 (by decide) (hts (.fieldLink RX7 135 "ShadowTableModel" "place" "I") (List.mem_of_getElem? (i := 2) rfl)) (fun _ h9 => h9) rfl dX7_readNumber_37 ?_
      refine xld (v := (τ.1 τ.2.2.1.toNatClampNeg)) (j := τ.2.2.1.toNatClampNeg) hx hb hE hP 1 rfl rfl rfl (zz_nxp ht c_10) rfl dX7_readNumber_40 ?_
      refine lv_bipush (v := (48 : Int32)) hx hb dX7_readNumber_41 (by decide +kernel) ?_
      refine lv_isub hx hb dX7_readNumber_43 ?_
      refine lv_istore_n (lv' := [(3, .int ((τ.1 τ.2.2.1.toNatClampNeg) - (48 : Int32))), (0, .ref h0), (1, .int p0), (2, .int p1)]) hx hb dX7_readNumber_44 rfl hl (by decide) rfl (fun ls hl => ?_)
      refine lv_aload_n hx hb dX7_readNumber_45 rfl (lv_at hl 1 rfl) ?_
      refine lv_dup hx hb dX7_readNumber_46 rfl ?_
      refine va_get (D := D) (ci := 7) (v := .int τ.2.2.1) (C := RX7) (T := TX7) (N := 13) hx hb hts (fun _ h9 => List.mem_cons_of_mem _ (List.mem_append_right _ h9)) hown hE.1 hP 0 rfl rfl 8 (by decide) (hts (.fieldLink RX7 135 "ShadowTableModel" "place" "I") (List.mem_of_getElem? (i := 2) rfl)) (fun _ h9 => h9) rfl dX7_readNumber_47 ?_
      refine lv_iconst (v := (1 : Int32)) hx hb dX7_readNumber_50 (by decide +kernel) ?_
      refine lv_iadd hx hb dX7_readNumber_51 ?_
      refine xpf (ty := .int) (v := .int (τ.2.2.1 + (1 : Int32))) (C := RX7) (T := TX7) (N := 13) hx hb hts (fun _ h9 => List.mem_cons_of_mem _ (List.mem_append_right _ h9)) tyX7 tyX7_ok nmX7 hown hE hP hD hS 0 rfl rfl 8 (by decide) (hts (.fieldLink RX7 135 "ShadowTableModel" "place" "I") (List.mem_of_getElem? (i := 2) rfl)) rfl rfl (by decide +kernel) rfl rfl (Nat.le_of_ble_eq_true rfl) [(h0, .inr (7, [.ref w0, .ref w1, .int w2, .ref w3, .int w4, .ref w5, .ref h1, .int τ.2.1, .int (τ.2.2.1 + (1 : Int32)), .int τ.2.2.2.1, .int τ.2.2.2.2.1, .int τ.2.2.2.2.2, .int w12])), (h1, .inl (cI, 80, .inl τ.1))] rfl dX7_readNumber_52 (fun H locs hP hD hS => ?_)
      exact loop_55 83 ((τ.1 τ.2.2.1.toNatClampNeg) - (48 : Int32)) (τ.1, τ.2.1, (τ.2.2.1 + (1 : Int32)), τ.2.2.2.1, τ.2.2.2.2.1, τ.2.2.2.2.2) (zz_WTp ht c_10) (by omega) (fX7_readNumber_p5 p0 p1 τ c_10 c_26) _ _ hP hD hS _ (lv_sub hl [1, 2, 3, 0] rfl)
    · refine lv_bipush (v := (-5 : Int32)) hx hb dX7_readNumber_29 (by decide +kernel) ?_
      exact hend _ _ _ _ _ _ dX7_readNumber_31 rfl (fX7_readNumber_p6 p0 p1 τ c_10 c_26) hP hS

theorem rn_55 (b : Int32) (hb : Bd b 99) (a : Int32) : ∀ (n : Nat) (x : Int32) (σ : MTT), WT σ → 82 - σ.2.2.1.toNatClampNeg < n → Bd x 99 → (¬ b < x) → RN σ (fX7_readNumber_55 a b n x σ).2 ∧ Bd (fX7_readNumber_55 a b n x σ).1 99 ∧ ¬ b < (fX7_readNumber_55 a b n x σ).1
  | 0, _, _, _, h, _, _ => absurd h (by omega)
  | n + 1, x, σ, ht, hn, hx, hbx => by
    unfold fX7_readNumber_55
    by_cases c0 : x ≤ (0 : Int32)
    · rw [if_pos c0]; exact ⟨RN.refl ht, hx, hbx⟩
    · rw [if_neg c0]
      by_cases c1 : fX7_isNext (48 : Int32) (57 : Int32) σ = (0 : Int32)
      · rw [if_pos c1]; exact ⟨RN.refl ht, hx, hbx⟩
      · rw [if_neg c1]
        by_cases c2 : b < ((((10 : Int32) * x) + (σ.1 σ.2.2.1.toNatClampNeg)) - (48 : Int32))
        · rw [if_pos c2]; exact ⟨RN.refl ht, hx, hbx⟩
        · rw [if_neg c2]
          have hd := nxt_in c1
          have hx2 : Bd ((((10 : Int32) * x) + (σ.1 σ.2.2.1.toNatClampNeg)) - (48 : Int32)) 99 := by
            generalize σ.1 σ.2.2.1.toNatClampNeg = ch at hd c2 ⊢
            obtain ⟨h1, h2⟩ := in7_no hd
            have hch : Bd ch 57 := zz_inB (b := 48) (c := 57) (by decide) (by decide) (by omega) hd
            obtain ⟨i, hi, rfl⟩ := hx.num
            obtain ⟨j, hj, rfl⟩ := hch.num
            have hj2 : 48 ≤ j := Nat.le_of_not_lt (fun q => h1 (nI_lt (b := 48) q (by omega)))
            have e : ((((10 : Int32) * nI i) + nI j) - (48 : Int32)) = nI (10 * i + j - 48) := by
              rw [show (10 : Int32) = nI 10 from rfl, pk_mul, nI_add, show (48 : Int32) = nI 48 from rfl, pk_sub (by omega)]
            rw [e] at c2 ⊢
            obtain ⟨q, hq, rfl⟩ := hb.num
            have : 10 * i + j - 48 ≤ q := Nat.le_of_not_lt (fun z => c2 (nI_lt z (by omega)))
            exact Bd.of (by omega) (by omega)
          have h := rn_55 b hb a n _ (σ.1, σ.2.1, (σ.2.2.1 + (1 : Int32)), σ.2.2.2.1, σ.2.2.2.2.1, σ.2.2.2.2.2) (zz_WTp ht c1) (zz_WTn ht c1 hn) hx2 c2
          exact ⟨(RN.step ht c1).trans h.1, h.2⟩
theorem rn_all {a b : Int32} {τ : MTT} (ht : WT τ) (ha : a = 0 ∨ a = 1) (hb : Bd b 99) : RN τ (fX7_readNumber a b τ).2 ∧ (¬ (fX7_readNumber a b τ).1 = (-5 : Int32) → Bd (fX7_readNumber a b τ).1 99 ∧ ¬ b < (fX7_readNumber a b τ).1 ∧ ¬ fX7_isNext ((48 : Int32) + a) (57 : Int32) τ = (0 : Int32)) := by
  unfold fX7_readNumber
  by_cases c0 : fX7_isNext ((48 : Int32) + a) (57 : Int32) τ = (0 : Int32)
  · rw [if_pos c0]; exact ⟨RN.refl ht, fun h => absurd rfl h⟩
  · rw [if_neg c0]
    by_cases c1 : ((τ.1 τ.2.2.1.toNatClampNeg) - (48 : Int32)) ≤ b
    · rw [if_pos c1]
      have hd := nxt_in c0
      have hx : Bd ((τ.1 τ.2.2.1.toNatClampNeg) - (48 : Int32)) 9 := by
        generalize τ.1 τ.2.2.1.toNatClampNeg = ch at hd
        obtain ⟨h1, h2⟩ := in7_no hd
        have hch : Bd ch 57 := zz_inB (c := 57) (by rcases ha with rfl | rfl <;> decide) (by decide) (by omega) hd
        obtain ⟨j, hj, rfl⟩ := hch.num
        have hj2 : 48 ≤ j := by
          rcases ha with rfl | rfl
          · exact Nat.le_of_not_lt (fun q => h1 (nI_lt (b := 48) q (by omega)))
          · exact Nat.le_of_not_lt (fun q => h1 (nI_lt (b := 49) (by omega) (by omega)))
        rw [show (48 : Int32) = nI 48 from rfl, pk_sub hj2]
        exact Bd.of (by omega) (by omega)
      have c2 : ¬ b < ((τ.1 τ.2.2.1.toNatClampNeg) - (48 : Int32)) := Int32.not_lt.mpr c1
      have h := rn_55 b hb a 83 _ (τ.1, τ.2.1, (τ.2.2.1 + (1 : Int32)), τ.2.2.2.1, τ.2.2.2.2.1, τ.2.2.2.2.2) (zz_WTp ht c0) (by omega) (hx.mono (by omega)) c2
      exact ⟨(RN.step ht c0).trans h.1, fun _ => ⟨h.2.1, h.2.2, c0⟩⟩
    · rw [if_neg c1]; exact ⟨RN.refl ht, fun h => absurd rfl h⟩
theorem rn_RN {a b r : Int32} {τ u : MTT} (e : fX7_readNumber a b τ = (r, u)) (ht : WT τ) (ha : a = 0 ∨ a = 1) (hb : Bd b 99) : RN τ u ∧ (¬ r = (-5 : Int32) → Bd r 99 ∧ ¬ b < r ∧ ¬ fX7_isNext ((48 : Int32) + a) (57 : Int32) τ = (0 : Int32)) := by
  have h := rn_all ht ha hb
  rw [e] at h
  exact h
theorem b31 : Bd (31 : Int32) 99 := Bd.of (j := 31) (by omega) (by omega)
theorem b99 : Bd (99 : Int32) 99 := Bd.of (j := 99) (by omega) (by omega)
theorem b4 : Bd (4 : Int32) 99 := Bd.of (j := 4) (by omega) (by omega)
theorem b8 : Bd (8 : Int32) 99 := Bd.of (j := 8) (by omega) (by omega)
theorem zz_WT_rn {a b r : Int32} {τ u : MTT} (e : fX7_readNumber a b τ = (r, u)) (ht : WT τ) (ha : a = 0 ∨ a = 1 := by first | exact Or.inl rfl | exact Or.inr rfl) (hb : Bd b 99 := by first | exact b31 | exact b99 | exact b4 | exact b8) : WT u := (rn_RN e ht ha hb).1.WT ht
theorem bd_31 {r : Int32} (h : Bd r 99) (c : ¬ (31 : Int32) < r) : Bd r 31 := by
  obtain ⟨j, hj, rfl⟩ := h.num
  have : j ≤ 31 := Nat.le_of_not_lt (fun q => c (nI_lt (a := 31) q (by omega)))
  exact Bd.of this (by omega)

def fX7_readOrder (τ : MTT) : Int32 × MTT := (if τ.2.1 ≤ τ.2.2.1 then ((0 : Int32), (τ.1, τ.2.1, ((τ.2.2.1 + (1 : Int32)) - (1 : Int32)), (0 : Int32), τ.2.2.2.2.1, τ.2.2.2.2.2)) else (if (τ.1 τ.2.2.1.toNatClampNeg) = (98 : Int32) then (match (fX7_readNumber (0 : Int32) (4 : Int32) (τ.1, τ.2.1, (τ.2.2.1 + (1 : Int32)), (τ.1 τ.2.2.1.toNatClampNeg), τ.2.2.2.2.1, τ.2.2.2.2.2)) with | (r_223, u_223) => (if r_223 = (-5 : Int32) then ((0 : Int32), (u_223.1, u_223.2.1, u_223.2.2.1, u_223.2.2.2.1, r_223, u_223.2.2.2.2.2)) else (match (fX7_readNumber (1 : Int32) (8 : Int32) (u_223.1, u_223.2.1, u_223.2.2.1, u_223.2.2.2.1, r_223, u_223.2.2.2.2.2)) with | (r_245, u_245) => (if r_245 = (-5 : Int32) then ((0 : Int32), (u_245.1, u_245.2.1, u_245.2.2.1, u_245.2.2.2.1, u_245.2.2.2.2.1, r_245)) else ((1 : Int32), (u_245.1, u_245.2.1, u_245.2.2.1, u_245.2.2.2.1, u_245.2.2.2.2.1, r_245)))))) else (if (τ.1 τ.2.2.1.toNatClampNeg) = (101 : Int32) then (match (fX7_readNumber (0 : Int32) (31 : Int32) (τ.1, τ.2.1, (τ.2.2.1 + (1 : Int32)), (τ.1 τ.2.2.1.toNatClampNeg), τ.2.2.2.2.1, τ.2.2.2.2.2)) with | (r_198, u_198) => (if r_198 = (-5 : Int32) then ((0 : Int32), (u_198.1, u_198.2.1, u_198.2.2.1, u_198.2.2.2.1, r_198, u_198.2.2.2.2.2)) else ((1 : Int32), (u_198.1, u_198.2.1, u_198.2.2.1, u_198.2.2.2.1, r_198, u_198.2.2.2.2.2)))) else (if (τ.1 τ.2.2.1.toNatClampNeg) = (103 : Int32) then ((1 : Int32), (τ.1, τ.2.1, (τ.2.2.1 + (1 : Int32)), (τ.1 τ.2.2.1.toNatClampNeg), τ.2.2.2.2.1, τ.2.2.2.2.2)) else (if (τ.1 τ.2.2.1.toNatClampNeg) = (108 : Int32) then ((1 : Int32), (τ.1, τ.2.1, (τ.2.2.1 + (1 : Int32)), (τ.1 τ.2.2.1.toNatClampNeg), τ.2.2.2.2.1, τ.2.2.2.2.2)) else (if (τ.1 τ.2.2.1.toNatClampNeg) = (112 : Int32) then (match (fX7_readNumber (0 : Int32) (31 : Int32) (τ.1, τ.2.1, (τ.2.2.1 + (1 : Int32)), (τ.1 τ.2.2.1.toNatClampNeg), τ.2.2.2.2.1, τ.2.2.2.2.2)) with | (r_141, u_141) => (if r_141 = (-5 : Int32) then ((0 : Int32), (u_141.1, u_141.2.1, u_141.2.2.1, u_141.2.2.2.1, r_141, u_141.2.2.2.2.2)) else (match (fX7_takes (61 : Int32) (u_141.1, u_141.2.1, u_141.2.2.1, u_141.2.2.2.1, r_141, u_141.2.2.2.2.2)) with | (r_159, u_159) => (if r_159 = (0 : Int32) then ((0 : Int32), u_159) else (match (fX7_readNumber (0 : Int32) (99 : Int32) u_159) with | (r_172, u_172) => (if r_172 = (-5 : Int32) then ((0 : Int32), (u_172.1, u_172.2.1, u_172.2.2.1, u_172.2.2.2.1, u_172.2.2.2.2.1, r_172)) else ((1 : Int32), (u_172.1, u_172.2.1, u_172.2.2.1, u_172.2.2.2.1, u_172.2.2.2.2.1, r_172)))))))) else (if (τ.1 τ.2.2.1.toNatClampNeg) = (115 : Int32) then ((1 : Int32), (τ.1, τ.2.1, (τ.2.2.1 + (1 : Int32)), (τ.1 τ.2.2.1.toNatClampNeg), τ.2.2.2.2.1, τ.2.2.2.2.2)) else (if (τ.1 τ.2.2.1.toNatClampNeg) = (116 : Int32) then (if (fX7_isNext (48 : Int32) (57 : Int32) (τ.1, τ.2.1, (τ.2.2.1 + (1 : Int32)), (τ.1 τ.2.2.1.toNatClampNeg), τ.2.2.2.2.1, τ.2.2.2.2.2)) = (0 : Int32) then ((1 : Int32), (τ.1, τ.2.1, (τ.2.2.1 + (1 : Int32)), (τ.1 τ.2.2.1.toNatClampNeg), (1 : Int32), τ.2.2.2.2.2)) else (match (fX7_readNumber (1 : Int32) (99 : Int32) (τ.1, τ.2.1, (τ.2.2.1 + (1 : Int32)), (τ.1 τ.2.2.1.toNatClampNeg), τ.2.2.2.2.1, τ.2.2.2.2.2)) with | (r_282, u_282) => (if r_282 = (-5 : Int32) then ((0 : Int32), (u_282.1, u_282.2.1, u_282.2.2.1, u_282.2.2.2.1, r_282, u_282.2.2.2.2.2)) else ((1 : Int32), (u_282.1, u_282.2.1, u_282.2.2.1, u_282.2.2.2.1, r_282, u_282.2.2.2.2.2))))) else (if (τ.1 τ.2.2.1.toNatClampNeg) = (117 : Int32) then ((1 : Int32), (τ.1, τ.2.1, (τ.2.2.1 + (1 : Int32)), (τ.1 τ.2.2.1.toNatClampNeg), τ.2.2.2.2.1, τ.2.2.2.2.2)) else ((0 : Int32), (τ.1, τ.2.1, ((τ.2.2.1 + (1 : Int32)) - (1 : Int32)), (τ.1 τ.2.2.1.toNatClampNeg), τ.2.2.2.2.1, τ.2.2.2.2.2)))))))))))
theorem fX7_readOrder_p0 (τ : MTT) (c_9 : τ.2.1 ≤ τ.2.2.1) : (fX7_readOrder τ) = ((0 : Int32), (τ.1, τ.2.1, ((τ.2.2.1 + (1 : Int32)) - (1 : Int32)), (0 : Int32), τ.2.2.2.2.1, τ.2.2.2.2.2)) := by
  simp only [fX7_readOrder, if_pos c_9]
theorem fX7_readOrder_p1 (τ : MTT) (c_9 : ¬ τ.2.1 ≤ τ.2.2.1) (c_42_0 : (τ.1 τ.2.2.1.toNatClampNeg) = (98 : Int32)) (r_223 : Int32) (u_223 : MTT) (e_223 : (fX7_readNumber (0 : Int32) (4 : Int32) (τ.1, τ.2.1, (τ.2.2.1 + (1 : Int32)), (τ.1 τ.2.2.1.toNatClampNeg), τ.2.2.2.2.1, τ.2.2.2.2.2)) = (r_223, u_223)) (c_235 : ¬ r_223 = (-5 : Int32)) (r_245 : Int32) (u_245 : MTT) (e_245 : (fX7_readNumber (1 : Int32) (8 : Int32) (u_223.1, u_223.2.1, u_223.2.2.1, u_223.2.2.2.1, r_223, u_223.2.2.2.2.2)) = (r_245, u_245)) (c_257 : r_245 = (-5 : Int32)) : (fX7_readOrder τ) = ((0 : Int32), (u_245.1, u_245.2.1, u_245.2.2.1, u_245.2.2.2.1, u_245.2.2.2.2.1, r_245)) := by
  simp only [fX7_readOrder, if_neg c_9, if_pos c_42_0, e_223, if_neg c_235, e_245, if_pos c_257]
theorem fX7_readOrder_p2 (τ : MTT) (c_9 : ¬ τ.2.1 ≤ τ.2.2.1) (c_42_0 : (τ.1 τ.2.2.1.toNatClampNeg) = (98 : Int32)) (r_223 : Int32) (u_223 : MTT) (e_223 : (fX7_readNumber (0 : Int32) (4 : Int32) (τ.1, τ.2.1, (τ.2.2.1 + (1 : Int32)), (τ.1 τ.2.2.1.toNatClampNeg), τ.2.2.2.2.1, τ.2.2.2.2.2)) = (r_223, u_223)) (c_235 : ¬ r_223 = (-5 : Int32)) (r_245 : Int32) (u_245 : MTT) (e_245 : (fX7_readNumber (1 : Int32) (8 : Int32) (u_223.1, u_223.2.1, u_223.2.2.1, u_223.2.2.2.1, r_223, u_223.2.2.2.2.2)) = (r_245, u_245)) (c_257 : ¬ r_245 = (-5 : Int32)) : (fX7_readOrder τ) = ((1 : Int32), (u_245.1, u_245.2.1, u_245.2.2.1, u_245.2.2.2.1, u_245.2.2.2.2.1, r_245)) := by
  simp only [fX7_readOrder, if_neg c_9, if_pos c_42_0, e_223, if_neg c_235, e_245, if_neg c_257]
theorem fX7_readOrder_p3 (τ : MTT) (c_9 : ¬ τ.2.1 ≤ τ.2.2.1) (c_42_0 : (τ.1 τ.2.2.1.toNatClampNeg) = (98 : Int32)) (r_223 : Int32) (u_223 : MTT) (e_223 : (fX7_readNumber (0 : Int32) (4 : Int32) (τ.1, τ.2.1, (τ.2.2.1 + (1 : Int32)), (τ.1 τ.2.2.1.toNatClampNeg), τ.2.2.2.2.1, τ.2.2.2.2.2)) = (r_223, u_223)) (c_235 : r_223 = (-5 : Int32)) : (fX7_readOrder τ) = ((0 : Int32), (u_223.1, u_223.2.1, u_223.2.2.1, u_223.2.2.2.1, r_223, u_223.2.2.2.2.2)) := by
  simp only [fX7_readOrder, if_neg c_9, if_pos c_42_0, e_223, if_pos c_235]
theorem fX7_readOrder_p4 (τ : MTT) (c_9 : ¬ τ.2.1 ≤ τ.2.2.1) (c_42_0 : ¬ (τ.1 τ.2.2.1.toNatClampNeg) = (98 : Int32)) (c_42_1 : (τ.1 τ.2.2.1.toNatClampNeg) = (101 : Int32)) (r_198 : Int32) (u_198 : MTT) (e_198 : (fX7_readNumber (0 : Int32) (31 : Int32) (τ.1, τ.2.1, (τ.2.2.1 + (1 : Int32)), (τ.1 τ.2.2.1.toNatClampNeg), τ.2.2.2.2.1, τ.2.2.2.2.2)) = (r_198, u_198)) (c_210 : r_198 = (-5 : Int32)) : (fX7_readOrder τ) = ((0 : Int32), (u_198.1, u_198.2.1, u_198.2.2.1, u_198.2.2.2.1, r_198, u_198.2.2.2.2.2)) := by
  simp only [fX7_readOrder, if_neg c_9, if_neg c_42_0, if_pos c_42_1, e_198, if_pos c_210]
theorem fX7_readOrder_p5 (τ : MTT) (c_9 : ¬ τ.2.1 ≤ τ.2.2.1) (c_42_0 : ¬ (τ.1 τ.2.2.1.toNatClampNeg) = (98 : Int32)) (c_42_1 : (τ.1 τ.2.2.1.toNatClampNeg) = (101 : Int32)) (r_198 : Int32) (u_198 : MTT) (e_198 : (fX7_readNumber (0 : Int32) (31 : Int32) (τ.1, τ.2.1, (τ.2.2.1 + (1 : Int32)), (τ.1 τ.2.2.1.toNatClampNeg), τ.2.2.2.2.1, τ.2.2.2.2.2)) = (r_198, u_198)) (c_210 : ¬ r_198 = (-5 : Int32)) : (fX7_readOrder τ) = ((1 : Int32), (u_198.1, u_198.2.1, u_198.2.2.1, u_198.2.2.2.1, r_198, u_198.2.2.2.2.2)) := by
  simp only [fX7_readOrder, if_neg c_9, if_neg c_42_0, if_pos c_42_1, e_198, if_neg c_210]
theorem fX7_readOrder_p6 (τ : MTT) (c_9 : ¬ τ.2.1 ≤ τ.2.2.1) (c_42_0 : ¬ (τ.1 τ.2.2.1.toNatClampNeg) = (98 : Int32)) (c_42_1 : ¬ (τ.1 τ.2.2.1.toNatClampNeg) = (101 : Int32)) (c_42_2 : (τ.1 τ.2.2.1.toNatClampNeg) = (103 : Int32)) : (fX7_readOrder τ) = ((1 : Int32), (τ.1, τ.2.1, (τ.2.2.1 + (1 : Int32)), (τ.1 τ.2.2.1.toNatClampNeg), τ.2.2.2.2.1, τ.2.2.2.2.2)) := by
  simp only [fX7_readOrder, if_neg c_9, if_neg c_42_0, if_neg c_42_1, if_pos c_42_2]
theorem fX7_readOrder_p7 (τ : MTT) (c_9 : ¬ τ.2.1 ≤ τ.2.2.1) (c_42_0 : ¬ (τ.1 τ.2.2.1.toNatClampNeg) = (98 : Int32)) (c_42_1 : ¬ (τ.1 τ.2.2.1.toNatClampNeg) = (101 : Int32)) (c_42_2 : ¬ (τ.1 τ.2.2.1.toNatClampNeg) = (103 : Int32)) (c_42_3 : (τ.1 τ.2.2.1.toNatClampNeg) = (108 : Int32)) : (fX7_readOrder τ) = ((1 : Int32), (τ.1, τ.2.1, (τ.2.2.1 + (1 : Int32)), (τ.1 τ.2.2.1.toNatClampNeg), τ.2.2.2.2.1, τ.2.2.2.2.2)) := by
  simp only [fX7_readOrder, if_neg c_9, if_neg c_42_0, if_neg c_42_1, if_neg c_42_2, if_pos c_42_3]
theorem fX7_readOrder_p8 (τ : MTT) (c_9 : ¬ τ.2.1 ≤ τ.2.2.1) (c_42_0 : ¬ (τ.1 τ.2.2.1.toNatClampNeg) = (98 : Int32)) (c_42_1 : ¬ (τ.1 τ.2.2.1.toNatClampNeg) = (101 : Int32)) (c_42_2 : ¬ (τ.1 τ.2.2.1.toNatClampNeg) = (103 : Int32)) (c_42_3 : ¬ (τ.1 τ.2.2.1.toNatClampNeg) = (108 : Int32)) (c_42_4 : (τ.1 τ.2.2.1.toNatClampNeg) = (112 : Int32)) (r_141 : Int32) (u_141 : MTT) (e_141 : (fX7_readNumber (0 : Int32) (31 : Int32) (τ.1, τ.2.1, (τ.2.2.1 + (1 : Int32)), (τ.1 τ.2.2.1.toNatClampNeg), τ.2.2.2.2.1, τ.2.2.2.2.2)) = (r_141, u_141)) (c_153 : r_141 = (-5 : Int32)) : (fX7_readOrder τ) = ((0 : Int32), (u_141.1, u_141.2.1, u_141.2.2.1, u_141.2.2.2.1, r_141, u_141.2.2.2.2.2)) := by
  simp only [fX7_readOrder, if_neg c_9, if_neg c_42_0, if_neg c_42_1, if_neg c_42_2, if_neg c_42_3, if_pos c_42_4, e_141, if_pos c_153]
theorem fX7_readOrder_p9 (τ : MTT) (c_9 : ¬ τ.2.1 ≤ τ.2.2.1) (c_42_0 : ¬ (τ.1 τ.2.2.1.toNatClampNeg) = (98 : Int32)) (c_42_1 : ¬ (τ.1 τ.2.2.1.toNatClampNeg) = (101 : Int32)) (c_42_2 : ¬ (τ.1 τ.2.2.1.toNatClampNeg) = (103 : Int32)) (c_42_3 : ¬ (τ.1 τ.2.2.1.toNatClampNeg) = (108 : Int32)) (c_42_4 : (τ.1 τ.2.2.1.toNatClampNeg) = (112 : Int32)) (r_141 : Int32) (u_141 : MTT) (e_141 : (fX7_readNumber (0 : Int32) (31 : Int32) (τ.1, τ.2.1, (τ.2.2.1 + (1 : Int32)), (τ.1 τ.2.2.1.toNatClampNeg), τ.2.2.2.2.1, τ.2.2.2.2.2)) = (r_141, u_141)) (c_153 : ¬ r_141 = (-5 : Int32)) (r_159 : Int32) (u_159 : MTT) (e_159 : (fX7_takes (61 : Int32) (u_141.1, u_141.2.1, u_141.2.2.1, u_141.2.2.2.1, r_141, u_141.2.2.2.2.2)) = (r_159, u_159)) (c_162 : ¬ r_159 = (0 : Int32)) (r_172 : Int32) (u_172 : MTT) (e_172 : (fX7_readNumber (0 : Int32) (99 : Int32) u_159) = (r_172, u_172)) (c_184 : r_172 = (-5 : Int32)) : (fX7_readOrder τ) = ((0 : Int32), (u_172.1, u_172.2.1, u_172.2.2.1, u_172.2.2.2.1, u_172.2.2.2.2.1, r_172)) := by
  simp only [fX7_readOrder, if_neg c_9, if_neg c_42_0, if_neg c_42_1, if_neg c_42_2, if_neg c_42_3, if_pos c_42_4, e_141, if_neg c_153, e_159, if_neg c_162, e_172, if_pos c_184]
theorem fX7_readOrder_p10 (τ : MTT) (c_9 : ¬ τ.2.1 ≤ τ.2.2.1) (c_42_0 : ¬ (τ.1 τ.2.2.1.toNatClampNeg) = (98 : Int32)) (c_42_1 : ¬ (τ.1 τ.2.2.1.toNatClampNeg) = (101 : Int32)) (c_42_2 : ¬ (τ.1 τ.2.2.1.toNatClampNeg) = (103 : Int32)) (c_42_3 : ¬ (τ.1 τ.2.2.1.toNatClampNeg) = (108 : Int32)) (c_42_4 : (τ.1 τ.2.2.1.toNatClampNeg) = (112 : Int32)) (r_141 : Int32) (u_141 : MTT) (e_141 : (fX7_readNumber (0 : Int32) (31 : Int32) (τ.1, τ.2.1, (τ.2.2.1 + (1 : Int32)), (τ.1 τ.2.2.1.toNatClampNeg), τ.2.2.2.2.1, τ.2.2.2.2.2)) = (r_141, u_141)) (c_153 : ¬ r_141 = (-5 : Int32)) (r_159 : Int32) (u_159 : MTT) (e_159 : (fX7_takes (61 : Int32) (u_141.1, u_141.2.1, u_141.2.2.1, u_141.2.2.2.1, r_141, u_141.2.2.2.2.2)) = (r_159, u_159)) (c_162 : ¬ r_159 = (0 : Int32)) (r_172 : Int32) (u_172 : MTT) (e_172 : (fX7_readNumber (0 : Int32) (99 : Int32) u_159) = (r_172, u_172)) (c_184 : ¬ r_172 = (-5 : Int32)) : (fX7_readOrder τ) = ((1 : Int32), (u_172.1, u_172.2.1, u_172.2.2.1, u_172.2.2.2.1, u_172.2.2.2.2.1, r_172)) := by
  simp only [fX7_readOrder, if_neg c_9, if_neg c_42_0, if_neg c_42_1, if_neg c_42_2, if_neg c_42_3, if_pos c_42_4, e_141, if_neg c_153, e_159, if_neg c_162, e_172, if_neg c_184]
theorem fX7_readOrder_p11 (τ : MTT) (c_9 : ¬ τ.2.1 ≤ τ.2.2.1) (c_42_0 : ¬ (τ.1 τ.2.2.1.toNatClampNeg) = (98 : Int32)) (c_42_1 : ¬ (τ.1 τ.2.2.1.toNatClampNeg) = (101 : Int32)) (c_42_2 : ¬ (τ.1 τ.2.2.1.toNatClampNeg) = (103 : Int32)) (c_42_3 : ¬ (τ.1 τ.2.2.1.toNatClampNeg) = (108 : Int32)) (c_42_4 : (τ.1 τ.2.2.1.toNatClampNeg) = (112 : Int32)) (r_141 : Int32) (u_141 : MTT) (e_141 : (fX7_readNumber (0 : Int32) (31 : Int32) (τ.1, τ.2.1, (τ.2.2.1 + (1 : Int32)), (τ.1 τ.2.2.1.toNatClampNeg), τ.2.2.2.2.1, τ.2.2.2.2.2)) = (r_141, u_141)) (c_153 : ¬ r_141 = (-5 : Int32)) (r_159 : Int32) (u_159 : MTT) (e_159 : (fX7_takes (61 : Int32) (u_141.1, u_141.2.1, u_141.2.2.1, u_141.2.2.2.1, r_141, u_141.2.2.2.2.2)) = (r_159, u_159)) (c_162 : r_159 = (0 : Int32)) : (fX7_readOrder τ) = ((0 : Int32), u_159) := by
  simp only [fX7_readOrder, if_neg c_9, if_neg c_42_0, if_neg c_42_1, if_neg c_42_2, if_neg c_42_3, if_pos c_42_4, e_141, if_neg c_153, e_159, if_pos c_162]
theorem fX7_readOrder_p12 (τ : MTT) (c_9 : ¬ τ.2.1 ≤ τ.2.2.1) (c_42_0 : ¬ (τ.1 τ.2.2.1.toNatClampNeg) = (98 : Int32)) (c_42_1 : ¬ (τ.1 τ.2.2.1.toNatClampNeg) = (101 : Int32)) (c_42_2 : ¬ (τ.1 τ.2.2.1.toNatClampNeg) = (103 : Int32)) (c_42_3 : ¬ (τ.1 τ.2.2.1.toNatClampNeg) = (108 : Int32)) (c_42_4 : ¬ (τ.1 τ.2.2.1.toNatClampNeg) = (112 : Int32)) (c_42_5 : (τ.1 τ.2.2.1.toNatClampNeg) = (115 : Int32)) : (fX7_readOrder τ) = ((1 : Int32), (τ.1, τ.2.1, (τ.2.2.1 + (1 : Int32)), (τ.1 τ.2.2.1.toNatClampNeg), τ.2.2.2.2.1, τ.2.2.2.2.2)) := by
  simp only [fX7_readOrder, if_neg c_9, if_neg c_42_0, if_neg c_42_1, if_neg c_42_2, if_neg c_42_3, if_neg c_42_4, if_pos c_42_5]
theorem fX7_readOrder_p13 (τ : MTT) (c_9 : ¬ τ.2.1 ≤ τ.2.2.1) (c_42_0 : ¬ (τ.1 τ.2.2.1.toNatClampNeg) = (98 : Int32)) (c_42_1 : ¬ (τ.1 τ.2.2.1.toNatClampNeg) = (101 : Int32)) (c_42_2 : ¬ (τ.1 τ.2.2.1.toNatClampNeg) = (103 : Int32)) (c_42_3 : ¬ (τ.1 τ.2.2.1.toNatClampNeg) = (108 : Int32)) (c_42_4 : ¬ (τ.1 τ.2.2.1.toNatClampNeg) = (112 : Int32)) (c_42_5 : ¬ (τ.1 τ.2.2.1.toNatClampNeg) = (115 : Int32)) (c_42_6 : (τ.1 τ.2.2.1.toNatClampNeg) = (116 : Int32)) (c_275 : (fX7_isNext (48 : Int32) (57 : Int32) (τ.1, τ.2.1, (τ.2.2.1 + (1 : Int32)), (τ.1 τ.2.2.1.toNatClampNeg), τ.2.2.2.2.1, τ.2.2.2.2.2)) = (0 : Int32)) : (fX7_readOrder τ) = ((1 : Int32), (τ.1, τ.2.1, (τ.2.2.1 + (1 : Int32)), (τ.1 τ.2.2.1.toNatClampNeg), (1 : Int32), τ.2.2.2.2.2)) := by
  simp only [fX7_readOrder, if_neg c_9, if_neg c_42_0, if_neg c_42_1, if_neg c_42_2, if_neg c_42_3, if_neg c_42_4, if_neg c_42_5, if_pos c_42_6, if_pos c_275]
theorem fX7_readOrder_p14 (τ : MTT) (c_9 : ¬ τ.2.1 ≤ τ.2.2.1) (c_42_0 : ¬ (τ.1 τ.2.2.1.toNatClampNeg) = (98 : Int32)) (c_42_1 : ¬ (τ.1 τ.2.2.1.toNatClampNeg) = (101 : Int32)) (c_42_2 : ¬ (τ.1 τ.2.2.1.toNatClampNeg) = (103 : Int32)) (c_42_3 : ¬ (τ.1 τ.2.2.1.toNatClampNeg) = (108 : Int32)) (c_42_4 : ¬ (τ.1 τ.2.2.1.toNatClampNeg) = (112 : Int32)) (c_42_5 : ¬ (τ.1 τ.2.2.1.toNatClampNeg) = (115 : Int32)) (c_42_6 : (τ.1 τ.2.2.1.toNatClampNeg) = (116 : Int32)) (c_275 : ¬ (fX7_isNext (48 : Int32) (57 : Int32) (τ.1, τ.2.1, (τ.2.2.1 + (1 : Int32)), (τ.1 τ.2.2.1.toNatClampNeg), τ.2.2.2.2.1, τ.2.2.2.2.2)) = (0 : Int32)) (r_282 : Int32) (u_282 : MTT) (e_282 : (fX7_readNumber (1 : Int32) (99 : Int32) (τ.1, τ.2.1, (τ.2.2.1 + (1 : Int32)), (τ.1 τ.2.2.1.toNatClampNeg), τ.2.2.2.2.1, τ.2.2.2.2.2)) = (r_282, u_282)) (c_298 : r_282 = (-5 : Int32)) : (fX7_readOrder τ) = ((0 : Int32), (u_282.1, u_282.2.1, u_282.2.2.1, u_282.2.2.2.1, r_282, u_282.2.2.2.2.2)) := by
  simp only [fX7_readOrder, if_neg c_9, if_neg c_42_0, if_neg c_42_1, if_neg c_42_2, if_neg c_42_3, if_neg c_42_4, if_neg c_42_5, if_pos c_42_6, if_neg c_275, e_282, if_pos c_298]
theorem fX7_readOrder_p15 (τ : MTT) (c_9 : ¬ τ.2.1 ≤ τ.2.2.1) (c_42_0 : ¬ (τ.1 τ.2.2.1.toNatClampNeg) = (98 : Int32)) (c_42_1 : ¬ (τ.1 τ.2.2.1.toNatClampNeg) = (101 : Int32)) (c_42_2 : ¬ (τ.1 τ.2.2.1.toNatClampNeg) = (103 : Int32)) (c_42_3 : ¬ (τ.1 τ.2.2.1.toNatClampNeg) = (108 : Int32)) (c_42_4 : ¬ (τ.1 τ.2.2.1.toNatClampNeg) = (112 : Int32)) (c_42_5 : ¬ (τ.1 τ.2.2.1.toNatClampNeg) = (115 : Int32)) (c_42_6 : (τ.1 τ.2.2.1.toNatClampNeg) = (116 : Int32)) (c_275 : ¬ (fX7_isNext (48 : Int32) (57 : Int32) (τ.1, τ.2.1, (τ.2.2.1 + (1 : Int32)), (τ.1 τ.2.2.1.toNatClampNeg), τ.2.2.2.2.1, τ.2.2.2.2.2)) = (0 : Int32)) (r_282 : Int32) (u_282 : MTT) (e_282 : (fX7_readNumber (1 : Int32) (99 : Int32) (τ.1, τ.2.1, (τ.2.2.1 + (1 : Int32)), (τ.1 τ.2.2.1.toNatClampNeg), τ.2.2.2.2.1, τ.2.2.2.2.2)) = (r_282, u_282)) (c_298 : ¬ r_282 = (-5 : Int32)) : (fX7_readOrder τ) = ((1 : Int32), (u_282.1, u_282.2.1, u_282.2.2.1, u_282.2.2.2.1, r_282, u_282.2.2.2.2.2)) := by
  simp only [fX7_readOrder, if_neg c_9, if_neg c_42_0, if_neg c_42_1, if_neg c_42_2, if_neg c_42_3, if_neg c_42_4, if_neg c_42_5, if_pos c_42_6, if_neg c_275, e_282, if_neg c_298]
theorem fX7_readOrder_p16 (τ : MTT) (c_9 : ¬ τ.2.1 ≤ τ.2.2.1) (c_42_0 : ¬ (τ.1 τ.2.2.1.toNatClampNeg) = (98 : Int32)) (c_42_1 : ¬ (τ.1 τ.2.2.1.toNatClampNeg) = (101 : Int32)) (c_42_2 : ¬ (τ.1 τ.2.2.1.toNatClampNeg) = (103 : Int32)) (c_42_3 : ¬ (τ.1 τ.2.2.1.toNatClampNeg) = (108 : Int32)) (c_42_4 : ¬ (τ.1 τ.2.2.1.toNatClampNeg) = (112 : Int32)) (c_42_5 : ¬ (τ.1 τ.2.2.1.toNatClampNeg) = (115 : Int32)) (c_42_6 : ¬ (τ.1 τ.2.2.1.toNatClampNeg) = (116 : Int32)) (c_42_7 : (τ.1 τ.2.2.1.toNatClampNeg) = (117 : Int32)) : (fX7_readOrder τ) = ((1 : Int32), (τ.1, τ.2.1, (τ.2.2.1 + (1 : Int32)), (τ.1 τ.2.2.1.toNatClampNeg), τ.2.2.2.2.1, τ.2.2.2.2.2)) := by
  simp only [fX7_readOrder, if_neg c_9, if_neg c_42_0, if_neg c_42_1, if_neg c_42_2, if_neg c_42_3, if_neg c_42_4, if_neg c_42_5, if_neg c_42_6, if_pos c_42_7]
theorem fX7_readOrder_p17 (τ : MTT) (c_9 : ¬ τ.2.1 ≤ τ.2.2.1) (c_42_0 : ¬ (τ.1 τ.2.2.1.toNatClampNeg) = (98 : Int32)) (c_42_1 : ¬ (τ.1 τ.2.2.1.toNatClampNeg) = (101 : Int32)) (c_42_2 : ¬ (τ.1 τ.2.2.1.toNatClampNeg) = (103 : Int32)) (c_42_3 : ¬ (τ.1 τ.2.2.1.toNatClampNeg) = (108 : Int32)) (c_42_4 : ¬ (τ.1 τ.2.2.1.toNatClampNeg) = (112 : Int32)) (c_42_5 : ¬ (τ.1 τ.2.2.1.toNatClampNeg) = (115 : Int32)) (c_42_6 : ¬ (τ.1 τ.2.2.1.toNatClampNeg) = (116 : Int32)) (c_42_7 : ¬ (τ.1 τ.2.2.1.toNatClampNeg) = (117 : Int32)) : (fX7_readOrder τ) = ((0 : Int32), (τ.1, τ.2.1, ((τ.2.2.1 + (1 : Int32)) - (1 : Int32)), (τ.1 τ.2.2.1.toNatClampNeg), τ.2.2.2.2.1, τ.2.2.2.2.2)) := by
  simp only [fX7_readOrder, if_neg c_9, if_neg c_42_0, if_neg c_42_1, if_neg c_42_2, if_neg c_42_3, if_neg c_42_4, if_neg c_42_5, if_neg c_42_6, if_neg c_42_7]
set_option maxHeartbeats 4000000 in
set_option maxRecDepth 100000 in
theorem kX7_readOrder (l : Launch) (D : va_G) (cI cS : ClassId) (h0 h1 : Nat) (w0 : Nat) (w1 : Nat) (w2 : Int32) (w3 : Nat) (w4 : Int32) (w5 : Nat) (w12 : Int32) (τ : MTT) (ht : WT τ) (hpl : τ.2.2.1.toNatClampNeg ≤ τ.2.1.toNatClampNeg) : KI l yX7_readOrder wsX7_readOrder { frames := 3, cells := 0, slots := 0, locals := 67 } D (tysA cI cS) [.ref h0] [(h0, .inr (7, [.ref w0, .ref w1, .int w2, .ref w3, .int w4, .ref w5, .ref h1, .int τ.2.1, .int τ.2.2.1, .int τ.2.2.2.1, .int τ.2.2.2.2.1, .int τ.2.2.2.2.2, .int w12])), (h1, .inl (cI, 80, .inl τ.1))] (fX7_readOrder τ) (fun u => [(h0, .inr (7, [.ref w0, .ref w1, .int w2, .ref w3, .int w4, .ref w5, .ref h1, .int u.2.1, .int u.2.2.1, .int u.2.2.2.1, .int u.2.2.2.2.1, .int u.2.2.2.2.2, .int w12])), (h1, .inl (cI, 80, .inl u.1))]) := by
  refine KI.of (cc := cX7_readOrder) (maxL := 1) (ty := .boolean) (by decide) rfl (Nat.le_of_ble_eq_true rfl) rfl (fun p e s m args below meth c ls Q A hx hb hml hown hts hE hP hD hS hl hend => ?_)
  have hown : s.vm.findClass RX7 = some m.cls := hown
  have hl : lv_has ls 1 [(0, .ref h0)] := hl
  refine lv_aload_n hx hb dX7_readOrder_0 rfl (lv_at hl 0 rfl) ?_
  refine lv_aload_n hx hb dX7_readOrder_1 rfl (lv_at hl 0 rfl) ?_
  refine va_get (D := D) (ci := 7) (v := .int τ.2.2.1) (C := RX7) (T := TX7) (N := 13) hx hb hts (fun _ h9 => List.mem_cons_of_mem _ (List.mem_append_right _ h9)) hown hE.1 hP 0 rfl rfl 8 (by decide) (hts (.fieldLink RX7 135 "ShadowTableModel" "place" "I") (List.mem_of_getElem? (i := 1) rfl)) (fun _ h9 => h9) rfl dX7_readOrder_2 ?_
  refine lv_aload_n hx hb dX7_readOrder_5 rfl (lv_at hl 0 rfl) ?_
  refine va_get (D := D) (ci := 7) (v := .int τ.2.1) (C := RX7) (T := TX7) (N := 13) hx hb hts (fun _ h9 => List.mem_cons_of_mem _ (List.mem_append_right _ h9)) hown hE.1 hP 0 rfl rfl 7 (by decide) (hts (.fieldLink RX7 132 "ShadowTableModel" "length" "I") (List.mem_of_getElem? (i := 2) rfl)) (fun _ h9 => h9) rfl dX7_readOrder_6 ?_
  refine lv_icmp_ge (tgt := 24) hx hb dX7_readOrder_9 (by decide) (fun c_9 => ?_) (fun c_9 => ?_)
  · refine lv_iconst (v := (0 : Int32)) hx hb dX7_readOrder_24 (by decide +kernel) ?_
    refine xpf (ty := .int) (v := .int (0 : Int32)) (C := RX7) (T := TX7) (N := 13) hx hb hts (fun _ h9 => List.mem_cons_of_mem _ (List.mem_append_right _ h9)) tyX7 tyX7_ok nmX7 hown hE hP hD hS 0 rfl rfl 9 (by decide) (hts (.fieldLink RX7 141 "ShadowTableModel" "letter" "I") (List.mem_of_getElem? (i := 4) rfl)) rfl rfl (by decide +kernel) rfl rfl (Nat.le_of_ble_eq_true rfl) [(h0, .inr (7, [.ref w0, .ref w1, .int w2, .ref w3, .int w4, .ref w5, .ref h1, .int τ.2.1, .int τ.2.2.1, .int (0 : Int32), .int τ.2.2.2.2.1, .int τ.2.2.2.2.2, .int w12])), (h1, .inl (cI, 80, .inl τ.1))] rfl dX7_readOrder_25 (fun H locs hP hD hS => ?_)
    refine lv_aload_n hx hb dX7_readOrder_28 rfl (lv_at hl 0 rfl) ?_
    refine lv_dup hx hb dX7_readOrder_29 rfl ?_
    refine va_get (D := D) (ci := 7) (v := .int τ.2.2.1) (C := RX7) (T := TX7) (N := 13) hx hb hts (fun _ h9 => List.mem_cons_of_mem _ (List.mem_append_right _ h9)) hown hE.1 hP 0 rfl rfl 8 (by decide) (hts (.fieldLink RX7 135 "ShadowTableModel" "place" "I") (List.mem_of_getElem? (i := 1) rfl)) (fun _ h9 => h9) rfl dX7_readOrder_30 ?_
    refine lv_iconst (v := (1 : Int32)) hx hb dX7_readOrder_33 (by decide +kernel) ?_
    refine lv_iadd hx hb dX7_readOrder_34 ?_
    refine xpf (ty := .int) (v := .int (τ.2.2.1 + (1 : Int32))) (C := RX7) (T := TX7) (N := 13) hx hb hts (fun _ h9 => List.mem_cons_of_mem _ (List.mem_append_right _ h9)) tyX7 tyX7_ok nmX7 hown hE hP hD hS 0 rfl rfl 8 (by decide) (hts (.fieldLink RX7 135 "ShadowTableModel" "place" "I") (List.mem_of_getElem? (i := 1) rfl)) rfl rfl (by decide +kernel) rfl rfl (Nat.le_of_ble_eq_true rfl) [(h0, .inr (7, [.ref w0, .ref w1, .int w2, .ref w3, .int w4, .ref w5, .ref h1, .int τ.2.1, .int (τ.2.2.1 + (1 : Int32)), .int (0 : Int32), .int τ.2.2.2.2.1, .int τ.2.2.2.2.2, .int w12])), (h1, .inl (cI, 80, .inl τ.1))] rfl dX7_readOrder_35 (fun H locs hP hD hS => ?_)
    refine lv_aload_n hx hb dX7_readOrder_38 rfl (lv_at hl 0 rfl) ?_
    refine va_get (D := D) (ci := 7) (v := .int (0 : Int32)) (C := RX7) (T := TX7) (N := 13) hx hb hts (fun _ h9 => List.mem_cons_of_mem _ (List.mem_append_right _ h9)) hown hE.1 hP 0 rfl rfl 9 (by decide) (hts (.fieldLink RX7 141 "ShadowTableModel" "letter" "I") (List.mem_of_getElem? (i := 4) rfl)) (fun _ h9 => h9) rfl dX7_readOrder_39 ?_
    refine xtabD (tgt := 309) (cs := [98, 101, 103, 108, 112, 115, 116, 117]) hx hb dX7_readOrder_42 (by decide +kernel) (by decide +kernel) (by decide) ?_
    refine lv_aload_n hx hb dX7_readOrder_309 rfl (lv_at hl 0 rfl) ?_
    refine lv_dup hx hb dX7_readOrder_310 rfl ?_
    refine va_get (D := D) (ci := 7) (v := .int (τ.2.2.1 + (1 : Int32))) (C := RX7) (T := TX7) (N := 13) hx hb hts (fun _ h9 => List.mem_cons_of_mem _ (List.mem_append_right _ h9)) hown hE.1 hP 0 rfl rfl 8 (by decide) (hts (.fieldLink RX7 135 "ShadowTableModel" "place" "I") (List.mem_of_getElem? (i := 1) rfl)) (fun _ h9 => h9) rfl dX7_readOrder_311 ?_
    refine lv_iconst (v := (1 : Int32)) hx hb dX7_readOrder_314 (by decide +kernel) ?_
    refine lv_isub hx hb dX7_readOrder_315 ?_
    refine xpf (ty := .int) (v := .int ((τ.2.2.1 + (1 : Int32)) - (1 : Int32))) (C := RX7) (T := TX7) (N := 13) hx hb hts (fun _ h9 => List.mem_cons_of_mem _ (List.mem_append_right _ h9)) tyX7 tyX7_ok nmX7 hown hE hP hD hS 0 rfl rfl 8 (by decide) (hts (.fieldLink RX7 135 "ShadowTableModel" "place" "I") (List.mem_of_getElem? (i := 1) rfl)) rfl rfl (by decide +kernel) rfl rfl (Nat.le_of_ble_eq_true rfl) [(h0, .inr (7, [.ref w0, .ref w1, .int w2, .ref w3, .int w4, .ref w5, .ref h1, .int τ.2.1, .int ((τ.2.2.1 + (1 : Int32)) - (1 : Int32)), .int (0 : Int32), .int τ.2.2.2.2.1, .int τ.2.2.2.2.2, .int w12])), (h1, .inl (cI, 80, .inl τ.1))] rfl dX7_readOrder_316 (fun H locs hP hD hS => ?_)
    refine lv_iconst (v := (0 : Int32)) hx hb dX7_readOrder_319 (by decide +kernel) ?_
    exact hend _ _ _ _ _ _ dX7_readOrder_320 rfl (fX7_readOrder_p0 τ c_9) hP hS
  · refine lv_aload_n hx hb dX7_readOrder_12 rfl (lv_at hl 0 rfl) ?_
    refine va_get (D := D) (ci := 7) (v := .ref h1) (C := RX7) (T := TX7) (N := 13) hx hb hts (fun _ h9 => List.mem_cons_of_mem _ (List.mem_append_right _ h9)) hown hE.1 hP 0 rfl rfl 6 (by decide) (hts (.fieldLink RX7 22 "ShadowTableModel" "text" "[I") (List.mem_of_getElem? (i := 3) rfl)) (fun _ h9 => h9) rfl dX7_readOrder_13 ?_
    refine lv_aload_n hx hb dX7_readOrder_16 rfl (lv_at hl 0 rfl) ?_
    refine va_get (D := D) (ci := 7) (v := .int τ.2.2.1) (C := RX7) (T := TX7) (N := 13) hx hb hts (fun _ h9 => List.mem_cons_of_mem _ (List.mem_append_right _ h9)) hown hE.1 hP 0 rfl rfl 8 (by decide) (hts (.fieldLink RX7 135 "ShadowTableModel" "place" "I") (List.mem_of_getElem? (i := 1) rfl)) (fun _ h9 => h9) rfl dX7_readOrder_17 ?_
    refine xld (v := (τ.1 τ.2.2.1.toNatClampNeg)) (j := τ.2.2.1.toNatClampNeg) hx hb hE hP 1 rfl rfl rfl (zz_pl ht c_9) rfl dX7_readOrder_20 ?_
    refine lv_goto (tgt := 25) hx hb dX7_readOrder_21 (by decide) ?_
    refine xpf (ty := .int) (v := .int (τ.1 τ.2.2.1.toNatClampNeg)) (C := RX7) (T := TX7) (N := 13) hx hb hts (fun _ h9 => List.mem_cons_of_mem _ (List.mem_append_right _ h9)) tyX7 tyX7_ok nmX7 hown hE hP hD hS 0 rfl rfl 9 (by decide) (hts (.fieldLink RX7 141 "ShadowTableModel" "letter" "I") (List.mem_of_getElem? (i := 4) rfl)) rfl rfl (by decide +kernel) rfl rfl (Nat.le_of_ble_eq_true rfl) [(h0, .inr (7, [.ref w0, .ref w1, .int w2, .ref w3, .int w4, .ref w5, .ref h1, .int τ.2.1, .int τ.2.2.1, .int (τ.1 τ.2.2.1.toNatClampNeg), .int τ.2.2.2.2.1, .int τ.2.2.2.2.2, .int w12])), (h1, .inl (cI, 80, .inl τ.1))] rfl dX7_readOrder_25 (fun H locs hP hD hS => ?_)
    refine lv_aload_n hx hb dX7_readOrder_28 rfl (lv_at hl 0 rfl) ?_
    refine lv_dup hx hb dX7_readOrder_29 rfl ?_
    refine va_get (D := D) (ci := 7) (v := .int τ.2.2.1) (C := RX7) (T := TX7) (N := 13) hx hb hts (fun _ h9 => List.mem_cons_of_mem _ (List.mem_append_right _ h9)) hown hE.1 hP 0 rfl rfl 8 (by decide) (hts (.fieldLink RX7 135 "ShadowTableModel" "place" "I") (List.mem_of_getElem? (i := 1) rfl)) (fun _ h9 => h9) rfl dX7_readOrder_30 ?_
    refine lv_iconst (v := (1 : Int32)) hx hb dX7_readOrder_33 (by decide +kernel) ?_
    refine lv_iadd hx hb dX7_readOrder_34 ?_
    refine xpf (ty := .int) (v := .int (τ.2.2.1 + (1 : Int32))) (C := RX7) (T := TX7) (N := 13) hx hb hts (fun _ h9 => List.mem_cons_of_mem _ (List.mem_append_right _ h9)) tyX7 tyX7_ok nmX7 hown hE hP hD hS 0 rfl rfl 8 (by decide) (hts (.fieldLink RX7 135 "ShadowTableModel" "place" "I") (List.mem_of_getElem? (i := 1) rfl)) rfl rfl (by decide +kernel) rfl rfl (Nat.le_of_ble_eq_true rfl) [(h0, .inr (7, [.ref w0, .ref w1, .int w2, .ref w3, .int w4, .ref w5, .ref h1, .int τ.2.1, .int (τ.2.2.1 + (1 : Int32)), .int (τ.1 τ.2.2.1.toNatClampNeg), .int τ.2.2.2.2.1, .int τ.2.2.2.2.2, .int w12])), (h1, .inl (cI, 80, .inl τ.1))] rfl dX7_readOrder_35 (fun H locs hP hD hS => ?_)
    refine lv_aload_n hx hb dX7_readOrder_38 rfl (lv_at hl 0 rfl) ?_
    refine va_get (D := D) (ci := 7) (v := .int (τ.1 τ.2.2.1.toNatClampNeg)) (C := RX7) (T := TX7) (N := 13) hx hb hts (fun _ h9 => List.mem_cons_of_mem _ (List.mem_append_right _ h9)) hown hE.1 hP 0 rfl rfl 9 (by decide) (hts (.fieldLink RX7 141 "ShadowTableModel" "letter" "I") (List.mem_of_getElem? (i := 4) rfl)) (fun _ h9 => h9) rfl dX7_readOrder_39 ?_
    refine (Decidable.em ((τ.1 τ.2.2.1.toNatClampNeg) = (98 : Int32))).elim (fun c_42_0 => ?_) (fun c_42_0 => ?_)
    · refine lv_tableIn (off := 177) (tgt := 219) hx hb dX7_readOrder_42 (by rw [c_42_0]; decide +kernel) (by rw [c_42_0]; decide +kernel) (by rw [c_42_0]; decide +kernel) (by decide) ?_
      refine lv_aload_n hx hb dX7_readOrder_219 rfl (lv_at hl 0 rfl) ?_
      refine lv_aload_n hx hb dX7_readOrder_220 rfl (lv_at hl 0 rfl) ?_
      refine lv_iconst (v := (0 : Int32)) hx hb dX7_readOrder_221 (by decide +kernel) ?_
      refine lv_iconst (v := (4 : Int32)) hx hb dX7_readOrder_222 (by decide +kernel) ?_
      refine cIV ⟨hx, hb, hml, hown, hts⟩ (kX7_readNumber l D cI cS h0 h1 w0 w1 w2 w3 w4 w5 w12 (0 : Int32) (4 : Int32) (τ.1, τ.2.1, (τ.2.2.1 + (1 : Int32)), (τ.1 τ.2.2.1.toNatClampNeg), τ.2.2.2.2.1, τ.2.2.2.2.2) (zz_WTs ht hpl)) (cwV 2 hts gX7_readOrder_X7_readNumber rfl rfl rfl (by decide +kernel) ⟨Nat.le_of_ble_eq_true rfl, Nat.le_of_ble_eq_true rfl⟩) hE hP hD hS 0 rfl rfl [0, 1] rfl (by decide) (fun _ => rfl) rfl hl.1 rfl (Nat.le_of_ble_eq_true rfl) ⟨Nat.zero_le _, Nat.zero_le _⟩ dX7_readOrder_223 (fun r_223 u_223 H locs e_223 hP hD hS => ?_)
      have hP : va_P D vwCl [(h0, .inr (7, [.ref w0, .ref w1, .int w2, .ref w3, .int w4, .ref w5, .ref h1, .int u_223.2.1, .int u_223.2.2.1, .int u_223.2.2.2.1, .int u_223.2.2.2.2.1, .int u_223.2.2.2.2.2, .int w12])), (h1, .inl (cI, 80, .inl u_223.1))] H := hP
      have hD : va_D A [(h0, .inr (7, [.ref w0, .ref w1, .int w2, .ref w3, .int w4, .ref w5, .ref h1, .int u_223.2.1, .int u_223.2.2.1, .int u_223.2.2.2.1, .int u_223.2.2.2.2.1, .int u_223.2.2.2.2.2, .int w12])), (h1, .inl (cI, 80, .inl u_223.1))] := hD
      refine xpf (ty := .int) (v := .int r_223) (C := RX7) (T := TX7) (N := 13) hx hb hts (fun _ h9 => List.mem_cons_of_mem _ (List.mem_append_right _ h9)) tyX7 tyX7_ok nmX7 hown hE hP hD hS 0 rfl rfl 10 (by decide) (hts (.fieldLink RX7 147 "ShadowTableModel" "one" "I") (List.mem_of_getElem? (i := 5) rfl)) rfl rfl (by decide +kernel) rfl rfl (Nat.le_of_ble_eq_true rfl) [(h0, .inr (7, [.ref w0, .ref w1, .int w2, .ref w3, .int w4, .ref w5, .ref h1, .int u_223.2.1, .int u_223.2.2.1, .int u_223.2.2.2.1, .int r_223, .int u_223.2.2.2.2.2, .int w12])), (h1, .inl (cI, 80, .inl u_223.1))] rfl dX7_readOrder_226 (fun H locs hP hD hS => ?_)
      refine lv_aload_n hx hb dX7_readOrder_229 rfl (lv_at hl 0 rfl) ?_
      refine va_get (D := D) (ci := 7) (v := .int r_223) (C := RX7) (T := TX7) (N := 13) hx hb hts (fun _ h9 => List.mem_cons_of_mem _ (List.mem_append_right _ h9)) hown hE.1 hP 0 rfl rfl 10 (by decide) (hts (.fieldLink RX7 147 "ShadowTableModel" "one" "I") (List.mem_of_getElem? (i := 5) rfl)) (fun _ h9 => h9) rfl dX7_readOrder_230 ?_
      refine lv_bipush (v := (-5 : Int32)) hx hb dX7_readOrder_233 (by decide +kernel) ?_
      refine lv_icmp_ne (tgt := 240) hx hb dX7_readOrder_235 (by decide) (fun c_235 => ?_) (fun c_235 => ?_)
      · refine lv_aload_n hx hb dX7_readOrder_240 rfl (lv_at hl 0 rfl) ?_
        refine lv_aload_n hx hb dX7_readOrder_241 rfl (lv_at hl 0 rfl) ?_
        refine lv_iconst (v := (1 : Int32)) hx hb dX7_readOrder_242 (by decide +kernel) ?_
        refine lv_bipush (v := (8 : Int32)) hx hb dX7_readOrder_243 (by decide +kernel) ?_
        refine cIV ⟨hx, hb, hml, hown, hts⟩ (kX7_readNumber l D cI cS h0 h1 w0 w1 w2 w3 w4 w5 w12 (1 : Int32) (8 : Int32) (u_223.1, u_223.2.1, u_223.2.2.1, u_223.2.2.2.1, r_223, u_223.2.2.2.2.2) (show WT u_223 from zz_WT_rn e_223 (zz_WTs ht hpl))) (cwV 2 hts gX7_readOrder_X7_readNumber rfl rfl rfl (by decide +kernel) ⟨Nat.le_of_ble_eq_true rfl, Nat.le_of_ble_eq_true rfl⟩) hE hP hD hS 0 rfl rfl [0, 1] rfl (by decide) (fun _ => rfl) rfl hl.1 rfl (Nat.le_of_ble_eq_true rfl) ⟨Nat.zero_le _, Nat.zero_le _⟩ dX7_readOrder_245 (fun r_245 u_245 H locs e_245 hP hD hS => ?_)
        have hP : va_P D vwCl [(h0, .inr (7, [.ref w0, .ref w1, .int w2, .ref w3, .int w4, .ref w5, .ref h1, .int u_245.2.1, .int u_245.2.2.1, .int u_245.2.2.2.1, .int u_245.2.2.2.2.1, .int u_245.2.2.2.2.2, .int w12])), (h1, .inl (cI, 80, .inl u_245.1))] H := hP
        have hD : va_D A [(h0, .inr (7, [.ref w0, .ref w1, .int w2, .ref w3, .int w4, .ref w5, .ref h1, .int u_245.2.1, .int u_245.2.2.1, .int u_245.2.2.2.1, .int u_245.2.2.2.2.1, .int u_245.2.2.2.2.2, .int w12])), (h1, .inl (cI, 80, .inl u_245.1))] := hD
        refine xpf (ty := .int) (v := .int r_245) (C := RX7) (T := TX7) (N := 13) hx hb hts (fun _ h9 => List.mem_cons_of_mem _ (List.mem_append_right _ h9)) tyX7 tyX7_ok nmX7 hown hE hP hD hS 0 rfl rfl 11 (by decide) (hts (.fieldLink RX7 153 "ShadowTableModel" "other" "I") (List.mem_of_getElem? (i := 6) rfl)) rfl rfl (by decide +kernel) rfl rfl (Nat.le_of_ble_eq_true rfl) [(h0, .inr (7, [.ref w0, .ref w1, .int w2, .ref w3, .int w4, .ref w5, .ref h1, .int u_245.2.1, .int u_245.2.2.1, .int u_245.2.2.2.1, .int u_245.2.2.2.2.1, .int r_245, .int w12])), (h1, .inl (cI, 80, .inl u_245.1))] rfl dX7_readOrder_248 (fun H locs hP hD hS => ?_)
        refine lv_aload_n hx hb dX7_readOrder_251 rfl (lv_at hl 0 rfl) ?_
        refine va_get (D := D) (ci := 7) (v := .int r_245) (C := RX7) (T := TX7) (N := 13) hx hb hts (fun _ h9 => List.mem_cons_of_mem _ (List.mem_append_right _ h9)) hown hE.1 hP 0 rfl rfl 11 (by decide) (hts (.fieldLink RX7 153 "ShadowTableModel" "other" "I") (List.mem_of_getElem? (i := 6) rfl)) (fun _ h9 => h9) rfl dX7_readOrder_252 ?_
        refine lv_bipush (v := (-5 : Int32)) hx hb dX7_readOrder_255 (by decide +kernel) ?_
        refine lv_icmp_eq (tgt := 264) hx hb dX7_readOrder_257 (by decide) (fun c_257 => ?_) (fun c_257 => ?_)
        · refine lv_iconst (v := (0 : Int32)) hx hb dX7_readOrder_264 (by decide +kernel) ?_
          exact hend _ _ _ _ _ _ dX7_readOrder_265 rfl (fX7_readOrder_p1 τ c_9 c_42_0 r_223 u_223 e_223 c_235 r_245 u_245 e_245 c_257) hP hS
        · refine lv_iconst (v := (1 : Int32)) hx hb dX7_readOrder_260 (by decide +kernel) ?_
          refine lv_goto (tgt := 265) hx hb dX7_readOrder_261 (by decide) ?_
          exact hend _ _ _ _ _ _ dX7_readOrder_265 rfl (fX7_readOrder_p2 τ c_9 c_42_0 r_223 u_223 e_223 c_235 r_245 u_245 e_245 c_257) hP hS
      · refine lv_iconst (v := (0 : Int32)) hx hb dX7_readOrder_238 (by decide +kernel) ?_
        exact hend _ _ _ _ _ _ dX7_readOrder_239 rfl (fX7_readOrder_p3 τ c_9 c_42_0 r_223 u_223 e_223 c_235) hP hS
    · refine (Decidable.em ((τ.1 τ.2.2.1.toNatClampNeg) = (101 : Int32))).elim (fun c_42_1 => ?_) (fun c_42_1 => ?_)
      · refine lv_tableIn (off := 151) (tgt := 193) hx hb dX7_readOrder_42 (by rw [c_42_1]; decide +kernel) (by rw [c_42_1]; decide +kernel) (by rw [c_42_1]; decide +kernel) (by decide) ?_
        refine lv_aload_n hx hb dX7_readOrder_193 rfl (lv_at hl 0 rfl) ?_
        refine lv_aload_n hx hb dX7_readOrder_194 rfl (lv_at hl 0 rfl) ?_
        refine lv_iconst (v := (0 : Int32)) hx hb dX7_readOrder_195 (by decide +kernel) ?_
        refine lv_bipush (v := (31 : Int32)) hx hb dX7_readOrder_196 (by decide +kernel) ?_
        refine cIV ⟨hx, hb, hml, hown, hts⟩ (kX7_readNumber l D cI cS h0 h1 w0 w1 w2 w3 w4 w5 w12 (0 : Int32) (31 : Int32) (τ.1, τ.2.1, (τ.2.2.1 + (1 : Int32)), (τ.1 τ.2.2.1.toNatClampNeg), τ.2.2.2.2.1, τ.2.2.2.2.2) (zz_WTs ht hpl)) (cwV 2 hts gX7_readOrder_X7_readNumber rfl rfl rfl (by decide +kernel) ⟨Nat.le_of_ble_eq_true rfl, Nat.le_of_ble_eq_true rfl⟩) hE hP hD hS 0 rfl rfl [0, 1] rfl (by decide) (fun _ => rfl) rfl hl.1 rfl (Nat.le_of_ble_eq_true rfl) ⟨Nat.zero_le _, Nat.zero_le _⟩ dX7_readOrder_198 (fun r_198 u_198 H locs e_198 hP hD hS => ?_)
        have hP : va_P D vwCl [(h0, .inr (7, [.ref w0, .ref w1, .int w2, .ref w3, .int w4, .ref w5, .ref h1, .int u_198.2.1, .int u_198.2.2.1, .int u_198.2.2.2.1, .int u_198.2.2.2.2.1, .int u_198.2.2.2.2.2, .int w12])), (h1, .inl (cI, 80, .inl u_198.1))] H := hP
        have hD : va_D A [(h0, .inr (7, [.ref w0, .ref w1, .int w2, .ref w3, .int w4, .ref w5, .ref h1, .int u_198.2.1, .int u_198.2.2.1, .int u_198.2.2.2.1, .int u_198.2.2.2.2.1, .int u_198.2.2.2.2.2, .int w12])), (h1, .inl (cI, 80, .inl u_198.1))] := hD
        refine xpf (ty := .int) (v := .int r_198) (C := RX7) (T := TX7) (N := 13) hx hb hts (fun _ h9 => List.mem_cons_of_mem _ (List.mem_append_right _ h9)) tyX7 tyX7_ok nmX7 hown hE hP hD hS 0 rfl rfl 10 (by decide) (hts (.fieldLink RX7 147 "ShadowTableModel" "one" "I") (List.mem_of_getElem? (i := 5) rfl)) rfl rfl (by decide +kernel) rfl rfl (Nat.le_of_ble_eq_true rfl) [(h0, .inr (7, [.ref w0, .ref w1, .int w2, .ref w3, .int w4, .ref w5, .ref h1, .int u_198.2.1, .int u_198.2.2.1, .int u_198.2.2.2.1, .int r_198, .int u_198.2.2.2.2.2, .int w12])), (h1, .inl (cI, 80, .inl u_198.1))] rfl dX7_readOrder_201 (fun H locs hP hD hS => ?_)
        refine lv_aload_n hx hb dX7_readOrder_204 rfl (lv_at hl 0 rfl) ?_
        refine va_get (D := D) (ci := 7) (v := .int r_198) (C := RX7) (T := TX7) (N := 13) hx hb hts (fun _ h9 => List.mem_cons_of_mem _ (List.mem_append_right _ h9)) hown hE.1 hP 0 rfl rfl 10 (by decide) (hts (.fieldLink RX7 147 "ShadowTableModel" "one" "I") (List.mem_of_getElem? (i := 5) rfl)) (fun _ h9 => h9) rfl dX7_readOrder_205 ?_
        refine lv_bipush (v := (-5 : Int32)) hx hb dX7_readOrder_208 (by decide +kernel) ?_
        refine lv_icmp_eq (tgt := 217) hx hb dX7_readOrder_210 (by decide) (fun c_210 => ?_) (fun c_210 => ?_)
        · refine lv_iconst (v := (0 : Int32)) hx hb dX7_readOrder_217 (by decide +kernel) ?_
          exact hend _ _ _ _ _ _ dX7_readOrder_218 rfl (fX7_readOrder_p4 τ c_9 c_42_0 c_42_1 r_198 u_198 e_198 c_210) hP hS
        · refine lv_iconst (v := (1 : Int32)) hx hb dX7_readOrder_213 (by decide +kernel) ?_
          refine lv_goto (tgt := 218) hx hb dX7_readOrder_214 (by decide) ?_
          exact hend _ _ _ _ _ _ dX7_readOrder_218 rfl (fX7_readOrder_p5 τ c_9 c_42_0 c_42_1 r_198 u_198 e_198 c_210) hP hS
      · refine (Decidable.em ((τ.1 τ.2.2.1.toNatClampNeg) = (103 : Int32))).elim (fun c_42_2 => ?_) (fun c_42_2 => ?_)
        · refine lv_tableIn (off := 265) (tgt := 307) hx hb dX7_readOrder_42 (by rw [c_42_2]; decide +kernel) (by rw [c_42_2]; decide +kernel) (by rw [c_42_2]; decide +kernel) (by decide) ?_
          refine lv_iconst (v := (1 : Int32)) hx hb dX7_readOrder_307 (by decide +kernel) ?_
          exact hend _ _ _ _ _ _ dX7_readOrder_308 rfl (fX7_readOrder_p6 τ c_9 c_42_0 c_42_1 c_42_2) hP hS
        · refine (Decidable.em ((τ.1 τ.2.2.1.toNatClampNeg) = (108 : Int32))).elim (fun c_42_3 => ?_) (fun c_42_3 => ?_)
          · refine lv_tableIn (off := 265) (tgt := 307) hx hb dX7_readOrder_42 (by rw [c_42_3]; decide +kernel) (by rw [c_42_3]; decide +kernel) (by rw [c_42_3]; decide +kernel) (by decide) ?_
            refine lv_iconst (v := (1 : Int32)) hx hb dX7_readOrder_307 (by decide +kernel) ?_
            exact hend _ _ _ _ _ _ dX7_readOrder_308 rfl (fX7_readOrder_p7 τ c_9 c_42_0 c_42_1 c_42_2 c_42_3) hP hS
          · refine (Decidable.em ((τ.1 τ.2.2.1.toNatClampNeg) = (112 : Int32))).elim (fun c_42_4 => ?_) (fun c_42_4 => ?_)
            · refine lv_tableIn (off := 94) (tgt := 136) hx hb dX7_readOrder_42 (by rw [c_42_4]; decide +kernel) (by rw [c_42_4]; decide +kernel) (by rw [c_42_4]; decide +kernel) (by decide) ?_
              refine lv_aload_n hx hb dX7_readOrder_136 rfl (lv_at hl 0 rfl) ?_
              refine lv_aload_n hx hb dX7_readOrder_137 rfl (lv_at hl 0 rfl) ?_
              refine lv_iconst (v := (0 : Int32)) hx hb dX7_readOrder_138 (by decide +kernel) ?_
              refine lv_bipush (v := (31 : Int32)) hx hb dX7_readOrder_139 (by decide +kernel) ?_
              refine cIV ⟨hx, hb, hml, hown, hts⟩ (kX7_readNumber l D cI cS h0 h1 w0 w1 w2 w3 w4 w5 w12 (0 : Int32) (31 : Int32) (τ.1, τ.2.1, (τ.2.2.1 + (1 : Int32)), (τ.1 τ.2.2.1.toNatClampNeg), τ.2.2.2.2.1, τ.2.2.2.2.2) (zz_WTs ht hpl)) (cwV 2 hts gX7_readOrder_X7_readNumber rfl rfl rfl (by decide +kernel) ⟨Nat.le_of_ble_eq_true rfl, Nat.le_of_ble_eq_true rfl⟩) hE hP hD hS 0 rfl rfl [0, 1] rfl (by decide) (fun _ => rfl) rfl hl.1 rfl (Nat.le_of_ble_eq_true rfl) ⟨Nat.zero_le _, Nat.zero_le _⟩ dX7_readOrder_141 (fun r_141 u_141 H locs e_141 hP hD hS => ?_)
              have hP : va_P D vwCl [(h0, .inr (7, [.ref w0, .ref w1, .int w2, .ref w3, .int w4, .ref w5, .ref h1, .int u_141.2.1, .int u_141.2.2.1, .int u_141.2.2.2.1, .int u_141.2.2.2.2.1, .int u_141.2.2.2.2.2, .int w12])), (h1, .inl (cI, 80, .inl u_141.1))] H := hP
              have hD : va_D A [(h0, .inr (7, [.ref w0, .ref w1, .int w2, .ref w3, .int w4, .ref w5, .ref h1, .int u_141.2.1, .int u_141.2.2.1, .int u_141.2.2.2.1, .int u_141.2.2.2.2.1, .int u_141.2.2.2.2.2, .int w12])), (h1, .inl (cI, 80, .inl u_141.1))] := hD
              refine xpf (ty := .int) (v := .int r_141) (C := RX7) (T := TX7) (N := 13) hx hb hts (fun _ h9 => List.mem_cons_of_mem _ (List.mem_append_right _ h9)) tyX7 tyX7_ok nmX7 hown hE hP hD hS 0 rfl rfl 10 (by decide) (hts (.fieldLink RX7 147 "ShadowTableModel" "one" "I") (List.mem_of_getElem? (i := 5) rfl)) rfl rfl (by decide +kernel) rfl rfl (Nat.le_of_ble_eq_true rfl) [(h0, .inr (7, [.ref w0, .ref w1, .int w2, .ref w3, .int w4, .ref w5, .ref h1, .int u_141.2.1, .int u_141.2.2.1, .int u_141.2.2.2.1, .int r_141, .int u_141.2.2.2.2.2, .int w12])), (h1, .inl (cI, 80, .inl u_141.1))] rfl dX7_readOrder_144 (fun H locs hP hD hS => ?_)
              refine lv_aload_n hx hb dX7_readOrder_147 rfl (lv_at hl 0 rfl) ?_
              refine va_get (D := D) (ci := 7) (v := .int r_141) (C := RX7) (T := TX7) (N := 13) hx hb hts (fun _ h9 => List.mem_cons_of_mem _ (List.mem_append_right _ h9)) hown hE.1 hP 0 rfl rfl 10 (by decide) (hts (.fieldLink RX7 147 "ShadowTableModel" "one" "I") (List.mem_of_getElem? (i := 5) rfl)) (fun _ h9 => h9) rfl dX7_readOrder_148 ?_
              refine lv_bipush (v := (-5 : Int32)) hx hb dX7_readOrder_151 (by decide +kernel) ?_
              refine lv_icmp_eq (tgt := 165) hx hb dX7_readOrder_153 (by decide) (fun c_153 => ?_) (fun c_153 => ?_)
              · refine lv_iconst (v := (0 : Int32)) hx hb dX7_readOrder_165 (by decide +kernel) ?_
                exact hend _ _ _ _ _ _ dX7_readOrder_166 rfl (fX7_readOrder_p8 τ c_9 c_42_0 c_42_1 c_42_2 c_42_3 c_42_4 r_141 u_141 e_141 c_153) hP hS
              · refine lv_aload_n hx hb dX7_readOrder_156 rfl (lv_at hl 0 rfl) ?_
                refine lv_bipush (v := (61 : Int32)) hx hb dX7_readOrder_157 (by decide +kernel) ?_
                refine cIV ⟨hx, hb, hml, hown, hts⟩ (kX7_takes l D cI cS h0 h1 w0 w1 w2 w3 w4 w5 w12 (61 : Int32) (u_141.1, u_141.2.1, u_141.2.2.1, u_141.2.2.2.1, r_141, u_141.2.2.2.2.2) (show WT u_141 from zz_WT_rn e_141 (zz_WTs ht hpl))) (cwV 1 hts gX7_readOrder_X7_takes rfl rfl rfl (by decide +kernel) ⟨Nat.le_of_ble_eq_true rfl, Nat.le_of_ble_eq_true rfl⟩) hE hP hD hS 0 rfl rfl [0, 1] rfl (by decide) (fun _ => rfl) rfl hl.1 rfl (Nat.le_of_ble_eq_true rfl) ⟨Nat.zero_le _, Nat.zero_le _⟩ dX7_readOrder_159 (fun r_159 u_159 H locs e_159 hP hD hS => ?_)
                have hP : va_P D vwCl [(h0, .inr (7, [.ref w0, .ref w1, .int w2, .ref w3, .int w4, .ref w5, .ref h1, .int u_159.2.1, .int u_159.2.2.1, .int u_159.2.2.2.1, .int u_159.2.2.2.2.1, .int u_159.2.2.2.2.2, .int w12])), (h1, .inl (cI, 80, .inl u_159.1))] H := hP
                have hD : va_D A [(h0, .inr (7, [.ref w0, .ref w1, .int w2, .ref w3, .int w4, .ref w5, .ref h1, .int u_159.2.1, .int u_159.2.2.1, .int u_159.2.2.2.1, .int u_159.2.2.2.2.1, .int u_159.2.2.2.2.2, .int w12])), (h1, .inl (cI, 80, .inl u_159.1))] := hD
                refine lv_if_ne (tgt := 167) hx hb dX7_readOrder_162 (by decide) (fun c_162 => ?_) (fun c_162 => ?_)
                · refine lv_aload_n hx hb dX7_readOrder_167 rfl (lv_at hl 0 rfl) ?_
                  refine lv_aload_n hx hb dX7_readOrder_168 rfl (lv_at hl 0 rfl) ?_
                  refine lv_iconst (v := (0 : Int32)) hx hb dX7_readOrder_169 (by decide +kernel) ?_
                  refine lv_bipush (v := (99 : Int32)) hx hb dX7_readOrder_170 (by decide +kernel) ?_
                  refine cIV ⟨hx, hb, hml, hown, hts⟩ (kX7_readNumber l D cI cS h0 h1 w0 w1 w2 w3 w4 w5 w12 (0 : Int32) (99 : Int32) u_159 (zz_WT_tk e_159 (show WT u_141 from zz_WT_rn e_141 (zz_WTs ht hpl)))) (cwV 2 hts gX7_readOrder_X7_readNumber rfl rfl rfl (by decide +kernel) ⟨Nat.le_of_ble_eq_true rfl, Nat.le_of_ble_eq_true rfl⟩) hE hP hD hS 0 rfl rfl [0, 1] rfl (by decide) (fun _ => rfl) rfl hl.1 rfl (Nat.le_of_ble_eq_true rfl) ⟨Nat.zero_le _, Nat.zero_le _⟩ dX7_readOrder_172 (fun r_172 u_172 H locs e_172 hP hD hS => ?_)
                  have hP : va_P D vwCl [(h0, .inr (7, [.ref w0, .ref w1, .int w2, .ref w3, .int w4, .ref w5, .ref h1, .int u_172.2.1, .int u_172.2.2.1, .int u_172.2.2.2.1, .int u_172.2.2.2.2.1, .int u_172.2.2.2.2.2, .int w12])), (h1, .inl (cI, 80, .inl u_172.1))] H := hP
                  have hD : va_D A [(h0, .inr (7, [.ref w0, .ref w1, .int w2, .ref w3, .int w4, .ref w5, .ref h1, .int u_172.2.1, .int u_172.2.2.1, .int u_172.2.2.2.1, .int u_172.2.2.2.2.1, .int u_172.2.2.2.2.2, .int w12])), (h1, .inl (cI, 80, .inl u_172.1))] := hD
                  refine xpf (ty := .int) (v := .int r_172) (C := RX7) (T := TX7) (N := 13) hx hb hts (fun _ h9 => List.mem_cons_of_mem _ (List.mem_append_right _ h9)) tyX7 tyX7_ok nmX7 hown hE hP hD hS 0 rfl rfl 11 (by decide) (hts (.fieldLink RX7 153 "ShadowTableModel" "other" "I") (List.mem_of_getElem? (i := 6) rfl)) rfl rfl (by decide +kernel) rfl rfl (Nat.le_of_ble_eq_true rfl) [(h0, .inr (7, [.ref w0, .ref w1, .int w2, .ref w3, .int w4, .ref w5, .ref h1, .int u_172.2.1, .int u_172.2.2.1, .int u_172.2.2.2.1, .int u_172.2.2.2.2.1, .int r_172, .int w12])), (h1, .inl (cI, 80, .inl u_172.1))] rfl dX7_readOrder_175 (fun H locs hP hD hS => ?_)
                  refine lv_aload_n hx hb dX7_readOrder_178 rfl (lv_at hl 0 rfl) ?_
                  refine va_get (D := D) (ci := 7) (v := .int r_172) (C := RX7) (T := TX7) (N := 13) hx hb hts (fun _ h9 => List.mem_cons_of_mem _ (List.mem_append_right _ h9)) hown hE.1 hP 0 rfl rfl 11 (by decide) (hts (.fieldLink RX7 153 "ShadowTableModel" "other" "I") (List.mem_of_getElem? (i := 6) rfl)) (fun _ h9 => h9) rfl dX7_readOrder_179 ?_
                  refine lv_bipush (v := (-5 : Int32)) hx hb dX7_readOrder_182 (by decide +kernel) ?_
                  refine lv_icmp_eq (tgt := 191) hx hb dX7_readOrder_184 (by decide) (fun c_184 => ?_) (fun c_184 => ?_)
                  · refine lv_iconst (v := (0 : Int32)) hx hb dX7_readOrder_191 (by decide +kernel) ?_
                    exact hend _ _ _ _ _ _ dX7_readOrder_192 rfl (fX7_readOrder_p9 τ c_9 c_42_0 c_42_1 c_42_2 c_42_3 c_42_4 r_141 u_141 e_141 c_153 r_159 u_159 e_159 c_162 r_172 u_172 e_172 c_184) hP hS
                  · refine lv_iconst (v := (1 : Int32)) hx hb dX7_readOrder_187 (by decide +kernel) ?_
                    refine lv_goto (tgt := 192) hx hb dX7_readOrder_188 (by decide) ?_
                    exact hend _ _ _ _ _ _ dX7_readOrder_192 rfl (fX7_readOrder_p10 τ c_9 c_42_0 c_42_1 c_42_2 c_42_3 c_42_4 r_141 u_141 e_141 c_153 r_159 u_159 e_159 c_162 r_172 u_172 e_172 c_184) hP hS
                · refine lv_iconst (v := (0 : Int32)) hx hb dX7_readOrder_165 (by decide +kernel) ?_
                  exact hend _ _ _ _ _ _ dX7_readOrder_166 rfl (fX7_readOrder_p11 τ c_9 c_42_0 c_42_1 c_42_2 c_42_3 c_42_4 r_141 u_141 e_141 c_153 r_159 u_159 e_159 c_162) hP hS
            · refine (Decidable.em ((τ.1 τ.2.2.1.toNatClampNeg) = (115 : Int32))).elim (fun c_42_5 => ?_) (fun c_42_5 => ?_)
              · refine lv_tableIn (off := 265) (tgt := 307) hx hb dX7_readOrder_42 (by rw [c_42_5]; decide +kernel) (by rw [c_42_5]; decide +kernel) (by rw [c_42_5]; decide +kernel) (by decide) ?_
                refine lv_iconst (v := (1 : Int32)) hx hb dX7_readOrder_307 (by decide +kernel) ?_
                exact hend _ _ _ _ _ _ dX7_readOrder_308 rfl (fX7_readOrder_p12 τ c_9 c_42_0 c_42_1 c_42_2 c_42_3 c_42_4 c_42_5) hP hS
              · refine (Decidable.em ((τ.1 τ.2.2.1.toNatClampNeg) = (116 : Int32))).elim (fun c_42_6 => ?_) (fun c_42_6 => ?_)
                · refine lv_tableIn (off := 224) (tgt := 266) hx hb dX7_readOrder_42 (by rw [c_42_6]; decide +kernel) (by rw [c_42_6]; decide +kernel) (by rw [c_42_6]; decide +kernel) (by decide) ?_
                  refine lv_aload_n hx hb dX7_readOrder_266 rfl (lv_at hl 0 rfl) ?_
                  refine lv_aload_n hx hb dX7_readOrder_267 rfl (lv_at hl 0 rfl) ?_
                  refine lv_bipush (v := (48 : Int32)) hx hb dX7_readOrder_268 (by decide +kernel) ?_
                  refine lv_bipush (v := (57 : Int32)) hx hb dX7_readOrder_270 (by decide +kernel) ?_
                  refine cRV ⟨hx, hb, hml, hown, hts⟩ (kX7_isNext l D cI cS h0 h1 w0 w1 w2 w3 w4 w5 w12 (48 : Int32) (57 : Int32) (τ.1, τ.2.1, (τ.2.2.1 + (1 : Int32)), (τ.1 τ.2.2.1.toNatClampNeg), τ.2.2.2.2.1, τ.2.2.2.2.2) (zz_WTs ht hpl)) (cwV 2 hts gX7_readOrder_X7_isNext rfl rfl rfl (by decide +kernel) ⟨Nat.le_of_ble_eq_true rfl, Nat.le_of_ble_eq_true rfl⟩) hE hP 0 rfl rfl [0, 1] rfl rfl hl.1 rfl (Nat.le_of_ble_eq_true rfl) ⟨Nat.zero_le _, Nat.zero_le _⟩ dX7_readOrder_272 ?_
                  refine lv_if_eq (tgt := 288) hx hb dX7_readOrder_275 (by decide) (fun c_275 => ?_) (fun c_275 => ?_)
                  · refine lv_iconst (v := (1 : Int32)) hx hb dX7_readOrder_288 (by decide +kernel) ?_
                    refine xpf (ty := .int) (v := .int (1 : Int32)) (C := RX7) (T := TX7) (N := 13) hx hb hts (fun _ h9 => List.mem_cons_of_mem _ (List.mem_append_right _ h9)) tyX7 tyX7_ok nmX7 hown hE hP hD hS 0 rfl rfl 10 (by decide) (hts (.fieldLink RX7 147 "ShadowTableModel" "one" "I") (List.mem_of_getElem? (i := 5) rfl)) rfl rfl (by decide +kernel) rfl rfl (Nat.le_of_ble_eq_true rfl) [(h0, .inr (7, [.ref w0, .ref w1, .int w2, .ref w3, .int w4, .ref w5, .ref h1, .int τ.2.1, .int (τ.2.2.1 + (1 : Int32)), .int (τ.1 τ.2.2.1.toNatClampNeg), .int (1 : Int32), .int τ.2.2.2.2.2, .int w12])), (h1, .inl (cI, 80, .inl τ.1))] rfl dX7_readOrder_289 (fun H locs hP hD hS => ?_)
                    refine lv_aload_n hx hb dX7_readOrder_292 rfl (lv_at hl 0 rfl) ?_
                    refine va_get (D := D) (ci := 7) (v := .int (1 : Int32)) (C := RX7) (T := TX7) (N := 13) hx hb hts (fun _ h9 => List.mem_cons_of_mem _ (List.mem_append_right _ h9)) hown hE.1 hP 0 rfl rfl 10 (by decide) (hts (.fieldLink RX7 147 "ShadowTableModel" "one" "I") (List.mem_of_getElem? (i := 5) rfl)) (fun _ h9 => h9) rfl dX7_readOrder_293 ?_
                    refine lv_bipush (v := (-5 : Int32)) hx hb dX7_readOrder_296 (by decide +kernel) ?_
                    refine lv_icmp_eq (tgt := 305) hx hb dX7_readOrder_298 (by decide) (fun c => absurd c (by decide)) (fun _ => ?_)
                    refine lv_iconst (v := (1 : Int32)) hx hb dX7_readOrder_301 (by decide +kernel) ?_
                    refine lv_goto (tgt := 306) hx hb dX7_readOrder_302 (by decide) ?_
                    exact hend _ _ _ _ _ _ dX7_readOrder_306 rfl (fX7_readOrder_p13 τ c_9 c_42_0 c_42_1 c_42_2 c_42_3 c_42_4 c_42_5 c_42_6 c_275) hP hS
                  · refine lv_aload_n hx hb dX7_readOrder_278 rfl (lv_at hl 0 rfl) ?_
                    refine lv_iconst (v := (1 : Int32)) hx hb dX7_readOrder_279 (by decide +kernel) ?_
                    refine lv_bipush (v := (99 : Int32)) hx hb dX7_readOrder_280 (by decide +kernel) ?_
                    refine cIV ⟨hx, hb, hml, hown, hts⟩ (kX7_readNumber l D cI cS h0 h1 w0 w1 w2 w3 w4 w5 w12 (1 : Int32) (99 : Int32) (τ.1, τ.2.1, (τ.2.2.1 + (1 : Int32)), (τ.1 τ.2.2.1.toNatClampNeg), τ.2.2.2.2.1, τ.2.2.2.2.2) (zz_WTs ht hpl)) (cwV 2 hts gX7_readOrder_X7_readNumber rfl rfl rfl (by decide +kernel) ⟨Nat.le_of_ble_eq_true rfl, Nat.le_of_ble_eq_true rfl⟩) hE hP hD hS 0 rfl rfl [0, 1] rfl (by decide) (fun _ => rfl) rfl hl.1 rfl (Nat.le_of_ble_eq_true rfl) ⟨Nat.zero_le _, Nat.zero_le _⟩ dX7_readOrder_282 (fun r_282 u_282 H locs e_282 hP hD hS => ?_)
                    have hP : va_P D vwCl [(h0, .inr (7, [.ref w0, .ref w1, .int w2, .ref w3, .int w4, .ref w5, .ref h1, .int u_282.2.1, .int u_282.2.2.1, .int u_282.2.2.2.1, .int u_282.2.2.2.2.1, .int u_282.2.2.2.2.2, .int w12])), (h1, .inl (cI, 80, .inl u_282.1))] H := hP
                    have hD : va_D A [(h0, .inr (7, [.ref w0, .ref w1, .int w2, .ref w3, .int w4, .ref w5, .ref h1, .int u_282.2.1, .int u_282.2.2.1, .int u_282.2.2.2.1, .int u_282.2.2.2.2.1, .int u_282.2.2.2.2.2, .int w12])), (h1, .inl (cI, 80, .inl u_282.1))] := hD
                    refine lv_goto (tgt := 289) hx hb dX7_readOrder_285 (by decide) ?_
                    refine xpf (ty := .int) (v := .int r_282) (C := RX7) (T := TX7) (N := 13) hx hb hts (fun _ h9 => List.mem_cons_of_mem _ (List.mem_append_right _ h9)) tyX7 tyX7_ok nmX7 hown hE hP hD hS 0 rfl rfl 10 (by decide) (hts (.fieldLink RX7 147 "ShadowTableModel" "one" "I") (List.mem_of_getElem? (i := 5) rfl)) rfl rfl (by decide +kernel) rfl rfl (Nat.le_of_ble_eq_true rfl) [(h0, .inr (7, [.ref w0, .ref w1, .int w2, .ref w3, .int w4, .ref w5, .ref h1, .int u_282.2.1, .int u_282.2.2.1, .int u_282.2.2.2.1, .int r_282, .int u_282.2.2.2.2.2, .int w12])), (h1, .inl (cI, 80, .inl u_282.1))] rfl dX7_readOrder_289 (fun H locs hP hD hS => ?_)
                    refine lv_aload_n hx hb dX7_readOrder_292 rfl (lv_at hl 0 rfl) ?_
                    refine va_get (D := D) (ci := 7) (v := .int r_282) (C := RX7) (T := TX7) (N := 13) hx hb hts (fun _ h9 => List.mem_cons_of_mem _ (List.mem_append_right _ h9)) hown hE.1 hP 0 rfl rfl 10 (by decide) (hts (.fieldLink RX7 147 "ShadowTableModel" "one" "I") (List.mem_of_getElem? (i := 5) rfl)) (fun _ h9 => h9) rfl dX7_readOrder_293 ?_
                    refine lv_bipush (v := (-5 : Int32)) hx hb dX7_readOrder_296 (by decide +kernel) ?_
                    refine lv_icmp_eq (tgt := 305) hx hb dX7_readOrder_298 (by decide) (fun c_298 => ?_) (fun c_298 => ?_)
                    · refine lv_iconst (v := (0 : Int32)) hx hb dX7_readOrder_305 (by decide +kernel) ?_
                      exact hend _ _ _ _ _ _ dX7_readOrder_306 rfl (fX7_readOrder_p14 τ c_9 c_42_0 c_42_1 c_42_2 c_42_3 c_42_4 c_42_5 c_42_6 c_275 r_282 u_282 e_282 c_298) hP hS
                    · refine lv_iconst (v := (1 : Int32)) hx hb dX7_readOrder_301 (by decide +kernel) ?_
                      refine lv_goto (tgt := 306) hx hb dX7_readOrder_302 (by decide) ?_
                      exact hend _ _ _ _ _ _ dX7_readOrder_306 rfl (fX7_readOrder_p15 τ c_9 c_42_0 c_42_1 c_42_2 c_42_3 c_42_4 c_42_5 c_42_6 c_275 r_282 u_282 e_282 c_298) hP hS
                · refine (Decidable.em ((τ.1 τ.2.2.1.toNatClampNeg) = (117 : Int32))).elim (fun c_42_7 => ?_) (fun c_42_7 => ?_)
                  · refine lv_tableIn (off := 265) (tgt := 307) hx hb dX7_readOrder_42 (by rw [c_42_7]; decide +kernel) (by rw [c_42_7]; decide +kernel) (by rw [c_42_7]; decide +kernel) (by decide) ?_
                    refine lv_iconst (v := (1 : Int32)) hx hb dX7_readOrder_307 (by decide +kernel) ?_
                    exact hend _ _ _ _ _ _ dX7_readOrder_308 rfl (fX7_readOrder_p16 τ c_9 c_42_0 c_42_1 c_42_2 c_42_3 c_42_4 c_42_5 c_42_6 c_42_7) hP hS
                  · refine xtabD (tgt := 309) hx hb dX7_readOrder_42 (xno_cons (a := 98) c_42_0 (by decide) (xno_cons (a := 101) c_42_1 (by decide) (xno_cons (a := 103) c_42_2 (by decide) (xno_cons (a := 108) c_42_3 (by decide) (xno_cons (a := 112) c_42_4 (by decide) (xno_cons (a := 115) c_42_5 (by decide) (xno_cons (a := 116) c_42_6 (by decide) (xno_cons (a := 117) c_42_7 (by decide) xno_nil)))))))) (by decide +kernel) (by decide) ?_
                    refine lv_aload_n hx hb dX7_readOrder_309 rfl (lv_at hl 0 rfl) ?_
                    refine lv_dup hx hb dX7_readOrder_310 rfl ?_
                    refine va_get (D := D) (ci := 7) (v := .int (τ.2.2.1 + (1 : Int32))) (C := RX7) (T := TX7) (N := 13) hx hb hts (fun _ h9 => List.mem_cons_of_mem _ (List.mem_append_right _ h9)) hown hE.1 hP 0 rfl rfl 8 (by decide) (hts (.fieldLink RX7 135 "ShadowTableModel" "place" "I") (List.mem_of_getElem? (i := 1) rfl)) (fun _ h9 => h9) rfl dX7_readOrder_311 ?_
                    refine lv_iconst (v := (1 : Int32)) hx hb dX7_readOrder_314 (by decide +kernel) ?_
                    refine lv_isub hx hb dX7_readOrder_315 ?_
                    refine xpf (ty := .int) (v := .int ((τ.2.2.1 + (1 : Int32)) - (1 : Int32))) (C := RX7) (T := TX7) (N := 13) hx hb hts (fun _ h9 => List.mem_cons_of_mem _ (List.mem_append_right _ h9)) tyX7 tyX7_ok nmX7 hown hE hP hD hS 0 rfl rfl 8 (by decide) (hts (.fieldLink RX7 135 "ShadowTableModel" "place" "I") (List.mem_of_getElem? (i := 1) rfl)) rfl rfl (by decide +kernel) rfl rfl (Nat.le_of_ble_eq_true rfl) [(h0, .inr (7, [.ref w0, .ref w1, .int w2, .ref w3, .int w4, .ref w5, .ref h1, .int τ.2.1, .int ((τ.2.2.1 + (1 : Int32)) - (1 : Int32)), .int (τ.1 τ.2.2.1.toNatClampNeg), .int τ.2.2.2.2.1, .int τ.2.2.2.2.2, .int w12])), (h1, .inl (cI, 80, .inl τ.1))] rfl dX7_readOrder_316 (fun H locs hP hD hS => ?_)
                    refine lv_iconst (v := (0 : Int32)) hx hb dX7_readOrder_319 (by decide +kernel) ?_
                    exact hend _ _ _ _ _ _ dX7_readOrder_320 rfl (fX7_readOrder_p17 τ c_9 c_42_0 c_42_1 c_42_2 c_42_3 c_42_4 c_42_5 c_42_6 c_42_7) hP hS

theorem rn55_RL (a b : Int32) : ∀ (n : Nat) (x : Int32) (σ : MTT), (fX7_readNumber_55 a b n x σ).2.2.2.2 = σ.2.2.2
  | 0, _, _ => rfl
  | n + 1, x, σ => by
    unfold fX7_readNumber_55
    split
    · rfl
    · split
      · rfl
      · split
        · rfl
        · exact rn55_RL a b n _ _
theorem rn_RL {a b r : Int32} {τ u : MTT} (e : fX7_readNumber a b τ = (r, u)) : u.2.2.2 = τ.2.2.2 := by
  have h : (fX7_readNumber a b τ).2.2.2.2 = τ.2.2.2 := by
    unfold fX7_readNumber
    split
    · rfl
    · split
      · exact rn55_RL a b 83 _ _
      · rfl
  rw [e] at h
  exact h
theorem tk_RL {a r : Int32} {τ u : MTT} (e : fX7_takes a τ = (r, u)) : u.2.2.2 = τ.2.2.2 := by
  have h : (fX7_takes a τ).2.2.2.2 = τ.2.2.2 := by
    unfold fX7_takes
    split <;> rfl
  rw [e] at h
  exact h
theorem i_as (x : Int32) : (x + (1 : Int32)) - (1 : Int32) = x := Int32.add_sub_cancel x 1
theorem ro_T {τ : MTT} {x y z : Int32} (h : WP τ.2.1 τ.2.2.1) (c : ¬ τ.2.1 ≤ τ.2.2.1) : RN τ (τ.1, τ.2.1, (τ.2.2.1 + (1 : Int32)), x, y, z) := by
  have h1 := bd_lt h.1 h.2.1 (by omega) (by omega) c
  have h2 := h.1.2
  have h3 := bd_inc (M := 81) h.2.1 (by omega) (by omega) (by omega)
  refine ⟨rfl, rfl, h3.1, ?_, fun _ => ?_⟩
  · show τ.2.2.1.toNatClampNeg ≤ (τ.2.2.1 + (1 : Int32)).toNatClampNeg
    omega
  · show (τ.2.2.1 + (1 : Int32)).toNatClampNeg ≤ τ.2.1.toNatClampNeg
    omega
theorem vo_x {L one k : Int32} (hL : L = k) (h1 : ¬ k = 112) (h2 : ¬ k = 101) (h : k = 98 ∨ k = 103 ∨ k = 108 ∨ k = 115 ∨ k = 117) : VO L one := by
  subst hL
  refine And.intro (fun q => absurd q (fun q => q.elim h1 h2)) (fun a b c d e f g => ?_)
  rcases h with h | h | h | h | h
  · exact absurd h a
  · exact absurd h c
  · exact absurd h d
  · exact absurd h f
  · exact absurd h g
theorem vo_k {L one k : Int32} (hL : L = k) (h : k = 112 ∨ k = 101) (ho : Bd one 31) : VO L one := by
  subst hL
  refine And.intro (fun _ => ho) (fun a b c d e f g => ?_)
  rcases h with h | h
  · exact absurd h e
  · exact absurd h b
theorem vo_t {L one : Int32} (hL : L = 116) (ho : Bd one 99) : VO L one := by
  subst hL
  exact And.intro (fun q => q.elim (fun q => absurd q (by decide)) (fun q => absurd q (by decide))) (fun _ _ _ _ _ _ _ => ho)
theorem ro_all (τ : MTT) (h : WP τ.2.1 τ.2.2.1) : RN τ (fX7_readOrder τ).2 ∧ (¬ (fX7_readOrder τ).1 = (0 : Int32) → VO (fX7_readOrder τ).2.2.2.2.1 (fX7_readOrder τ).2.2.2.2.2.1) := by
  have hdef : ∀ x y z : Int32, RN τ (τ.1, τ.2.1, ((τ.2.2.1 + (1 : Int32)) - (1 : Int32)), x, y, z) := fun x y z => by
    rw [i_as]
    exact ⟨rfl, rfl, h.2.1.mono (by omega), Nat.le_refl _, fun q => q⟩
  unfold fX7_readOrder
  by_cases c : τ.2.1 ≤ τ.2.2.1
  · rw [if_pos c]
    exact ⟨hdef _ _ _, fun q => absurd rfl q⟩
  · rw [if_neg c]
    generalize hL : τ.1 τ.2.2.1.toNatClampNeg = L
    have hT := ro_T (x := L) (y := τ.2.2.2.2.1) (z := τ.2.2.2.2.2) h c
    have hTW := hT.WT (zz_WPT h)
    by_cases c0 : L = (98 : Int32)
    · rw [if_pos c0]
      generalize e1 : fX7_readNumber _ _ _ = q1
      obtain ⟨r1, u1⟩ := q1
      have h1 := rn_RN e1 hTW (Or.inl rfl) b4
      have l1 := rn_RL e1
      have g1 : RN τ u1 := hT.trans h1.1
      dsimp only
      by_cases d1 : r1 = (-5 : Int32)
      · rw [if_pos d1]; exact ⟨g1, fun q => absurd rfl q⟩
      · rw [if_neg d1]
        generalize e2 : fX7_readNumber _ _ _ = q2
        obtain ⟨r2, u2⟩ := q2
        have h2 := rn_RN e2 (show WT (u1.1, u1.2.1, u1.2.2.1, u1.2.2.2.1, r1, u1.2.2.2.2.2) from g1.WT (zz_WPT h)) (Or.inr rfl) b8
        have l2 := rn_RL e2
        have g2 : RN τ u2 := RN.trans (u := (u1.1, u1.2.1, u1.2.2.1, u1.2.2.2.1, r1, u1.2.2.2.2.2)) g1 h2.1
        dsimp only
        by_cases d2 : r2 = (-5 : Int32)
        · rw [if_pos d2]; exact ⟨g2, fun q => absurd rfl q⟩
        · rw [if_neg d2]
          refine ⟨g2, fun _ => vo_x (k := 98) ?_ (by decide) (by decide) (Or.inl rfl)⟩
          have a2 : u2.2.2.2.1 = u1.2.2.2.1 := by rw [l2]
          have a1 : u1.2.2.2.1 = L := by rw [l1]
          show u2.2.2.2.1 = (98 : Int32)
          rw [a2, a1, c0]
    · rw [if_neg c0]
      by_cases c1 : L = (101 : Int32)
      · rw [if_pos c1]
        generalize e1 : fX7_readNumber _ _ _ = q1
        obtain ⟨r1, u1⟩ := q1
        have h1 := rn_RN e1 hTW (Or.inl rfl) b31
        have l1 := rn_RL e1
        have g1 : RN τ u1 := hT.trans h1.1
        dsimp only
        by_cases d1 : r1 = (-5 : Int32)
        · rw [if_pos d1]; exact ⟨g1, fun q => absurd rfl q⟩
        · rw [if_neg d1]
          refine ⟨g1, fun _ => vo_k (k := 101) ?_ (Or.inr rfl) (bd_31 (h1.2 d1).1 (h1.2 d1).2.1)⟩
          have a1 : u1.2.2.2.1 = L := by rw [l1]
          show u1.2.2.2.1 = (101 : Int32)
          rw [a1, c1]
      · rw [if_neg c1]
        by_cases c2 : L = (103 : Int32)
        · rw [if_pos c2]; exact ⟨hT, fun _ => vo_x (k := 103) c2 (by decide) (by decide) (Or.inr (Or.inl rfl))⟩
        · rw [if_neg c2]
          by_cases c3 : L = (108 : Int32)
          · rw [if_pos c3]; exact ⟨hT, fun _ => vo_x (k := 108) c3 (by decide) (by decide) (Or.inr (Or.inr (Or.inl rfl)))⟩
          · rw [if_neg c3]
            by_cases c4 : L = (112 : Int32)
            · rw [if_pos c4]
              generalize e1 : fX7_readNumber _ _ _ = q1
              obtain ⟨r1, u1⟩ := q1
              have h1 := rn_RN e1 hTW (Or.inl rfl) b31
              have l1 := rn_RL e1
              have g1 : RN τ u1 := hT.trans h1.1
              dsimp only
              by_cases d1 : r1 = (-5 : Int32)
              · rw [if_pos d1]; exact ⟨g1, fun q => absurd rfl q⟩
              · rw [if_neg d1]
                generalize e2 : fX7_takes _ _ = q2
                obtain ⟨r2, u2⟩ := q2
                have h2 := tk_RN e2 (show WT (u1.1, u1.2.1, u1.2.2.1, u1.2.2.2.1, r1, u1.2.2.2.2.2) from g1.WT (zz_WPT h))
                have l2 := tk_RL e2
                have g2 : RN τ u2 := RN.trans (u := (u1.1, u1.2.1, u1.2.2.1, u1.2.2.2.1, r1, u1.2.2.2.2.2)) g1 h2.1
                dsimp only
                by_cases d2 : r2 = (0 : Int32)
                · rw [if_pos d2]; exact ⟨g2, fun q => absurd rfl q⟩
                · rw [if_neg d2]
                  generalize e3 : fX7_readNumber _ _ _ = q3
                  obtain ⟨r3, u3⟩ := q3
                  have h3 := rn_RN e3 (g2.WT (zz_WPT h)) (Or.inl rfl) b99
                  have l3 := rn_RL e3
                  have g3 : RN τ u3 := g2.trans h3.1
                  dsimp only
                  by_cases d3 : r3 = (-5 : Int32)
                  · rw [if_pos d3]; exact ⟨g3, fun q => absurd rfl q⟩
                  · rw [if_neg d3]
                    have a3 : u3.2.2.2.1 = L := by
                      have a : u3.2.2.2.1 = u2.2.2.2.1 := by rw [l3]
                      have b : u2.2.2.2.1 = u1.2.2.2.1 := by rw [l2]
                      have c : u1.2.2.2.1 = L := by rw [l1]
                      rw [a, b, c]
                    have o3 : u3.2.2.2.2.1 = r1 := by
                      have a : u3.2.2.2.2.1 = u2.2.2.2.2.1 := by rw [l3]
                      have b : u2.2.2.2.2.1 = r1 := by rw [l2]
                      rw [a, b]
                    refine ⟨g3, fun _ => vo_k (k := 112) ?_ (Or.inl rfl) ?_⟩
                    · show u3.2.2.2.1 = (112 : Int32)
                      rw [a3, c4]
                    · show Bd u3.2.2.2.2.1 31
                      rw [o3]
                      exact bd_31 (h1.2 d1).1 (h1.2 d1).2.1
            · rw [if_neg c4]
              by_cases c5 : L = (115 : Int32)
              · rw [if_pos c5]; exact ⟨hT, fun _ => vo_x (k := 115) c5 (by decide) (by decide) (Or.inr (Or.inr (Or.inr (Or.inl rfl))))⟩
              · rw [if_neg c5]
                by_cases c6 : L = (116 : Int32)
                · rw [if_pos c6]
                  generalize hT2 : fX7_isNext _ _ _ = nx
                  by_cases d0 : nx = (0 : Int32)
                  · rw [if_pos d0]
                    refine ⟨hT, fun _ => vo_t c6 (Bd.of (j := 1) (by omega) (by omega))⟩
                  · rw [if_neg d0]
                    generalize e1 : fX7_readNumber _ _ _ = q1
                    obtain ⟨r1, u1⟩ := q1
                    have h1 := rn_RN e1 hTW (Or.inr rfl) b99
                    have l1 := rn_RL e1
                    have g1 : RN τ u1 := hT.trans h1.1
                    dsimp only
                    by_cases d1 : r1 = (-5 : Int32)
                    · rw [if_pos d1]; exact ⟨g1, fun q => absurd rfl q⟩
                    · rw [if_neg d1]
                      refine ⟨g1, fun _ => vo_t ?_ (h1.2 d1).1⟩
                      have a1 : u1.2.2.2.1 = L := by rw [l1]
                      show u1.2.2.2.1 = (116 : Int32)
                      rw [a1, c6]
                · rw [if_neg c6]
                  by_cases c7 : L = (117 : Int32)
                  · rw [if_pos c7]; exact ⟨hT, fun _ => vo_x (k := 117) c7 (by decide) (by decide) (Or.inr (Or.inr (Or.inr (Or.inr rfl))))⟩
                  · rw [if_neg c7]; exact ⟨hdef _ _ _, fun q => absurd rfl q⟩
theorem ro_RN {r : Int32} {τ u : MTT} (e : fX7_readOrder τ = (r, u)) (h : WP τ.2.1 τ.2.2.1) : RN τ u := by
  have a := (ro_all τ h).1
  rw [e] at a
  exact a
theorem zz_ro_P {r : Int32} {τ u : MTT} (e : fX7_readOrder τ = (r, u)) (h : WP τ.2.1 τ.2.2.1) : WP u.2.1 u.2.2.1 := (ro_RN e h).WP h
theorem zz_ro_V {r : Int32} {τ u : MTT} (e : fX7_readOrder τ = (r, u)) (h : WP τ.2.1 τ.2.2.1) (c : ¬ r = (0 : Int32)) : VO u.2.2.2.1 u.2.2.2.2.1 := by
  have a := (ro_all τ h).2
  rw [e] at a
  exact a c
theorem zz_rt_n {l p : Int32} {n : Nat} (h : WP l p) (hn : 82 - p.toNatClampNeg < n + 1) : 0 < n := by
  have := h.2.1.2
  omega
theorem zz_rt_m {a r1 r2 : Int32} {τ u v : MTT} {n : Nat} (e1 : fX7_takes a τ = (r1, u)) (c : ¬ r1 = (0 : Int32)) (e2 : fX7_readOrder u = (r2, v)) (h : WP τ.2.1 τ.2.2.1) (hn : 82 - τ.2.2.1.toNatClampNeg < n + 1) : 82 - v.2.2.1.toNatClampNeg < n := by
  have h1 := tk_RN e1 (zz_WPT h)
  have h2 := h1.2.2 c
  have h3 := (ro_RN e2 (h1.1.WP h)).2.2.2.1
  have h4 := h.2.1.2
  omega
