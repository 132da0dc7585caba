abbrev MHT : Type := FnI × FnI × Int32
abbrev MTT : Type := FnI × Int32 × Int32 × Int32 × Int32 × Int32
abbrev MLT : Type := FnI × Int32
abbrev MOT : Type := FnI × Int32 × Int32 × Int32
abbrev MXT : Type := FnI × FnI × Int32 × Int32 × Int32 × Int32 × Int32 × Int32
abbrev MRT : Type := FnI × FnI × Int32 × FnI × Int32 × Int32 × Int32 × Int32 × Int32 × Int32
abbrev MBT : Type := FnI × FnI
abbrev MVT : Type := FnI × FnI × Int32
abbrev MWT : Type := FnI × FnI × Int32 × FnI × Int32
/-- the number of a table -/
def TB (t : Int32) : Prop := t = 0 ∨ t = 1 ∨ t = 2
theorem zz_T0 : TB (0 : Int32) := Or.inl rfl
theorem zz_T1 : TB (1 : Int32) := Or.inr (Or.inl rfl)
theorem zz_T2 : TB (2 : Int32) := Or.inr (Or.inr rfl)
theorem row_ix {t : Int32} {k : Nat} (ht : TB t) : (((19 : Int32) + ((32 : Int32) * t)) + nI k) = nI (19 + 32 * t.toNatClampNeg + k) := by
  rcases ht with rfl | rfl | rfl
  · rw [show (((19 : Int32) + ((32 : Int32) * 0)) : Int32) = nI 19 from by decide, nI_add]; rfl
  · rw [show (((19 : Int32) + ((32 : Int32) * 1)) : Int32) = nI 51 from by decide, nI_add]; rfl
  · rw [show (((19 : Int32) + ((32 : Int32) * 2)) : Int32) = nI 83 from by decide, nI_add]; rfl
theorem tb_le {t : Int32} (ht : TB t) : t.toNatClampNeg ≤ 2 := by rcases ht with rfl | rfl | rfl <;> decide
theorem zz_row {t : Int32} {k : Nat} (ht : TB t) (hk : k < 32) : vp_in (((19 : Int32) + ((32 : Int32) * t)) + nI k) 163 := by
  rw [row_ix ht]
  have := tb_le ht
  exact vp_in_nI (by omega) (by omega)
theorem zz_rowK {t x : Int32} (ht : TB t) (hk : Bd x 31) : vp_in (((19 : Int32) + ((32 : Int32) * t)) + x) 163 := by
  obtain ⟨j, hj, rfl⟩ := hk.num
  exact zz_row ht (by omega)
theorem zz_c0a : Bd (0 : Int32) 652 := Bd.of (j := 0) (by omega) (by omega)
theorem zz_c0b : (0 : Int32).toNatClampNeg + 163 ≤ 163 := by decide
theorem zz_ax {x : Int32} {k N : Nat} (h : Bd x N) (hN : N < 2 ^ 30) (hk : k < 2 ^ 30) : (x + nI k).toNatClampNeg = x.toNatClampNeg + k := by
  obtain ⟨j, hj, rfl⟩ := h.num
  rw [nI_add, nI_clamp (by omega), nI_clamp (by omega)]
theorem zz_ai {x : Int32} {k n : Nat} (h : Bd x 652) (hk : k < 2 ^ 30) (hl : x.toNatClampNeg + k < n) (hn : n < 2 ^ 31) : vp_in (x + nI k) n := by
  obtain ⟨j, hj, rfl⟩ := h.num
  rw [nI_clamp (by omega)] at hl
  rw [nI_add]
  exact vp_in_nI hl hn
theorem zz_163 {k : Nat} (hk : k < 652) : ((163 : Int32) + nI k).toNatClampNeg = 163 + k := by
  rw [show (163 : Int32) = nI 163 from rfl, nI_add, nI_clamp (by omega)]
theorem zz_163i {k : Nat} (hk : k < 652) : vp_in ((163 : Int32) + nI k) 815 := by
  rw [show (163 : Int32) = nI 163 from rfl, nI_add]
  exact vp_in_nI (by omega) (by omega)
theorem zz_k163 {j : Nat} (hj : j ≤ 4) : Bd ((163 : Int32) * nI j) 652 ∧ ((163 : Int32) * nI j).toNatClampNeg + 163 ≤ 815 := by
  rw [show (163 : Int32) = nI 163 from rfl, pk_mul, nI_clamp (by omega)]
  exact ⟨Bd.of (by omega) (by omega), by omega⟩
theorem zz_k5 {x : Int32} (h : x = (5 : Int32)) : Bd ((163 : Int32) * (x - (1 : Int32))) 652 ∧ ((163 : Int32) * (x - (1 : Int32))).toNatClampNeg + 163 ≤ 815 := by
  subst h
  rw [show ((5 : Int32) - (1 : Int32)) = nI 4 from by decide]
  exact zz_k163 (by omega)
theorem zz_kB {x : Int32} (h : Bd x 5) (c : ¬ x = (5 : Int32)) : Bd ((163 : Int32) * x) 652 ∧ ((163 : Int32) * x).toNatClampNeg + 163 ≤ 815 := by
  obtain ⟨j, hj, rfl⟩ := h.num
  have : j ≠ 5 := fun q => c (by rw [q]; rfl)
  exact zz_k163 (by omega)
theorem zz_k2 {k : Nat} (hk : k < 2 ^ 30) : (nI k + (2 : Int32)).toNatClampNeg = k + 2 := by
  rw [show (2 : Int32) = nI 2 from rfl, nI_add, nI_clamp (by omega)]
theorem zz_k2i {k : Nat} (hk : k < 2 ^ 30) (hn : k + 2 < 163) : vp_in (nI k + (2 : Int32)) 163 := by
  rw [show (2 : Int32) = nI 2 from rfl, nI_add]
  exact vp_in_nI (by omega) (by omega)
theorem lj_eq {x : Int32} {N : Nat} (h : Bd x N) (hN : N < 1000) : ((115 : Int32) + ((2 : Int32) * x)) = nI (115 + 2 * x.toNatClampNeg) := by
  obtain ⟨j, hj, rfl⟩ := h.num
  rw [show (115 : Int32) = nI 115 from rfl, show (2 : Int32) = nI 2 from rfl, pk_mul, nI_add, nI_clamp (by omega)]
theorem zz_sh {x : Int32} {k : Nat} (h : Bd x 23) (hk : k < 2 ^ 31) (c : ¬ ((115 : Int32) + ((2 : Int32) * x)) ≤ nI k) : k < 115 + 2 * x.toNatClampNeg := by
  rw [lj_eq h (by omega)] at c
  have := h.2
  exact Nat.lt_of_not_le (fun q => c (nI_le q (by omega)))
theorem zz_lj {x : Int32} (h : Bd x 23) : ((115 : Int32) + ((2 : Int32) * x)).toNatClampNeg = 115 + 2 * x.toNatClampNeg := by
  rw [lj_eq h (by omega), nI_clamp (by have := h.2; omega)]
theorem zz_li {x : Int32} (h : Bd x 23) : vp_in ((115 : Int32) + ((2 : Int32) * x)) 163 := by
  rw [lj_eq h (by omega)]
  exact vp_in_nI (by have := h.2; omega) (by omega)
theorem zz_lj1 {x : Int32} (h : Bd x 23) : (((115 : Int32) + ((2 : Int32) * x)) + (1 : Int32)).toNatClampNeg = 115 + 2 * x.toNatClampNeg + 1 := by
  rw [lj_eq h (by omega), nI_1, nI_clamp (by have := h.2; omega)]
theorem zz_li1 {x : Int32} (h : Bd x 23) : vp_in (((115 : Int32) + ((2 : Int32) * x)) + (1 : Int32)) 163 := by
  rw [lj_eq h (by omega), nI_1]
  exact vp_in_nI (by have := h.2; omega) (by omega)
/-- the reference's row of numbers: the log's size, the cursor, the keys of the log -/
def WM (s : FnI) : Prop := Bd (s 4) 24 ∧ Bd (s 3) 32 ∧ ∀ i : Nat, i < (s 4).toNatClampNeg → Bd (s (115 + 2 * i)) 31
theorem WM.congr {s u : FnI} (hm : WM s) (h3 : Bd (u 3) 32) (h4 : u 4 = s 4) (hL : ∀ j : Nat, 115 ≤ j → u j = s j) : WM u :=
  ⟨by rw [h4]; exact hm.1, h3, fun i hi => by rw [hL _ (by omega)]; exact hm.2.2 i (by rw [← h4]; exact hi)⟩
theorem zz_WMu {s : FnI} {j : Nat} {x : Int32} (h3 : j ≠ 3) (h4 : j ≠ 4) (hj : j < 115) (hm : WM s) : WM (upd s j x) :=
  hm.congr (by rw [pk_un (Ne.symm h3)]; exact hm.2.1) (pk_un (Ne.symm h4)) (fun q hq => pk_un (by omega))
theorem zz_sz {s : FnI} (hm : WM s) : (s 4).toNatClampNeg < 25 := Nat.lt_succ_of_le hm.1.2
theorem zz_m0 {τ : FnI} (hm : WM τ) (hz : ¬ (τ 4) ≤ (0 : Int32)) : Bd (τ 115) 31 := by
  obtain ⟨j, hj, e⟩ := hm.1.num
  have h := hm.2.2 0
  rw [e, nI_clamp (by omega)] at h
  rw [e] at hz
  exact h (Nat.pos_of_ne_zero (fun q => hz (by rw [q]; decide)))
theorem zz_cur {x : Int32} (hc : Bd x 32) (c : ¬ (32 : Int32) ≤ x) : Bd x 31 := by
  obtain ⟨j, hj, rfl⟩ := hc.num
  have h : j < 32 := Nat.lt_of_not_le (fun q => c (nI_le (a := 32) q (by omega)))
  exact Bd.of (by omega) (by omega)
theorem nx_num {x : Int32} (hc : Bd x 32) (c : ¬ (32 : Int32) ≤ x) : Bd (x + (1 : Int32)) 32 ∧ (x + (1 : Int32)).toNatClampNeg = x.toNatClampNeg + 1 := by
  obtain ⟨j, hj, rfl⟩ := (zz_cur hc c).num
  rw [nI_1, nI_clamp (by omega), nI_clamp (by omega)]
  exact ⟨Bd.of (by omega) (by omega), rfl⟩
theorem zz_nxA {σ g : FnI} (hc : Bd (σ 3) 32) (c : ¬ (32 : Int32) ≤ (σ 3)) : Bd ((upd g 3 ((σ 3) + (1 : Int32))) 3) 32 ∧ ∀ {n : Nat}, 32 - (σ 3).toNatClampNeg < n + 1 → 32 - ((upd g 3 ((σ 3) + (1 : Int32))) 3).toNatClampNeg < n := by
  rw [pk_us]
  have h := nx_num hc c
  have h2 := (zz_cur hc c).2
  exact ⟨h.1, fun q => by rw [h.2]; omega⟩
def fX7_in (p0 : Int32) (p1 : Int32) (p2 : Int32) : Int32 := (if p0 < p1 then (0 : Int32) else (if p2 < p0 then (0 : Int32) else (1 : Int32)))
theorem fX7_in_p0 (p0 : Int32) (p1 : Int32) (p2 : Int32) (c_2 : p0 < p1) : (fX7_in p0 p1 p2) = (0 : Int32) := by
  simp only [fX7_in, if_pos c_2]
theorem fX7_in_p1 (p0 : Int32) (p1 : Int32) (p2 : Int32) (c_2 : ¬ p0 < p1) (c_7 : p2 < p0) : (fX7_in p0 p1 p2) = (0 : Int32) := by
  simp only [fX7_in, if_neg c_2, if_pos c_7]
theorem fX7_in_p2 (p0 : Int32) (p1 : Int32) (p2 : Int32) (c_2 : ¬ p0 < p1) (c_7 : ¬ p2 < p0) : (fX7_in p0 p1 p2) = (1 : Int32) := by
  simp only [fX7_in, if_neg c_2, if_neg c_7]
set_option maxHeartbeats 4000000 in
set_option maxRecDepth 100000 in
theorem kX7_in (l : Launch) (D : va_G) (cI cS : ClassId) (p0 : Int32) (p1 : Int32) (p2 : Int32) : KR l yX7_in wsX7_in { frames := 0, cells := 0, slots := 0, locals := 0 } D (tysA cI cS) [.int p0, .int p1, .int p2] [] (fX7_in p0 p1 p2) := by
  refine KR.of (cc := cX7_in) (maxL := 3) (ty := .boolean) (by decide) rfl (Nat.le_of_ble_eq_true rfl) rfl (fun p e s m args below meth c ls Q hx hb hml hown hts hE hP hl hend => ?_)
  have hown : s.vm.findClass RX7 = some m.cls := hown
  have hl : lv_has ls 3 [(0, .int p0), (1, .int p1), (2, .int p2)] := hl
  refine lv_iload_n hx hb dX7_in_0 rfl (lv_at hl 0 rfl) ?_
  refine lv_iload_n hx hb dX7_in_1 rfl (lv_at hl 1 rfl) ?_
  refine lv_icmp_lt (tgt := 14) hx hb dX7_in_2 (by decide) (fun c_2 => ?_) (fun c_2 => ?_)
  · refine lv_iconst (v := (0 : Int32)) hx hb dX7_in_14 (by decide +kernel) ?_
    exact hend _ _ _ dX7_in_15 rfl (fX7_in_p0 p0 p1 p2 c_2)
  · refine lv_iload_n hx hb dX7_in_5 rfl (lv_at hl 0 rfl) ?_
    refine lv_iload_n hx hb dX7_in_6 rfl (lv_at hl 2 rfl) ?_
    refine lv_icmp_gt (tgt := 14) hx hb dX7_in_7 (by decide) (fun c_7 => ?_) (fun c_7 => ?_)
    · refine lv_iconst (v := (0 : Int32)) hx hb dX7_in_14 (by decide +kernel) ?_
      exact hend _ _ _ dX7_in_15 rfl (fX7_in_p1 p0 p1 p2 c_2 c_7)
    · refine lv_iconst (v := (1 : Int32)) hx hb dX7_in_10 (by decide +kernel) ?_
      refine lv_goto (tgt := 15) hx hb dX7_in_11 (by decide) ?_
      exact hend _ _ _ dX7_in_15 rfl (fX7_in_p2 p0 p1 p2 c_2 c_7)

theorem zz_in7 (a b c : Int32) : narrow .boolean (.int (fX7_in a b c)) = .int (fX7_in a b c) := by
  unfold fX7_in
  split
  · rfl
  · split <;> rfl
theorem in7_no {a b c : Int32} (h : ¬ fX7_in a b c = (0 : Int32)) : ¬ a < b ∧ ¬ c < a := by
  unfold fX7_in at h
  by_cases h1 : a < b
  · rw [if_pos h1] at h; exact absurd rfl h
  · rw [if_neg h1] at h
    by_cases h2 : c < a
    · rw [if_pos h2] at h; exact absurd rfl h
    · exact ⟨h1, h2⟩
theorem zz_inB {x b c : Int32} {N : Nat} (hb : 0 ≤ b.toInt) (hN : c.toInt = (N : Int)) (hM : N < 2 ^ 31) (h : ¬ fX7_in x b c = (0 : Int32)) : Bd x N := by
  obtain ⟨h1, h2⟩ := in7_no h
  rw [Int32.lt_iff_toInt_lt] at h1 h2
  exact Bd.ge (by omega) (by omega) hM
theorem zz_in2 {x : Int32} (h : ¬ fX7_in x (0 : Int32) (2 : Int32) = (0 : Int32)) : TB x := by
  obtain ⟨j, hj, rfl⟩ := (zz_inB (N := 2) (by decide) (by decide) (by omega) h).num
  match j, hj with
  | 0, _ => exact Or.inl rfl
  | 1, _ => exact Or.inr (Or.inl rfl)
  | 2, _ => exact Or.inr (Or.inr rfl)
theorem zz_in5 {x : Int32} (h : ¬ fX7_in x (0 : Int32) (5 : Int32) = (0 : Int32)) : vp_in x 163 := by
  obtain ⟨j, hj, rfl⟩ := (zz_inB (N := 5) (by decide) (by decide) (by omega) h).num
  exact vp_in_nI (by omega) (by omega)
theorem zz_in99 {x : Int32} (h : ¬ fX7_in x (1 : Int32) (99 : Int32) = (0 : Int32)) : Bd x 99 := zz_inB (by decide) (by decide) (by omega) h
theorem zz_of7 {x : Int32} (h : ¬ fX7_in x (0 : Int32) (3 : Int32) = (0 : Int32)) : ((7 : Int32) + x).toNatClampNeg = 7 + x.toNatClampNeg ∧ vp_in ((7 : Int32) + x) 163 := by
  obtain ⟨j, hj, rfl⟩ := (zz_inB (N := 3) (by decide) (by decide) (by omega) h).num
  rw [show (7 : Int32) = nI 7 from rfl, nI_add, nI_clamp (by omega), nI_clamp (by omega)]
  exact ⟨rfl, vp_in_nI (by omega) (by omega)⟩
theorem zz_of11 {x : Int32} (h : ¬ fX7_in x (0 : Int32) (7 : Int32) = (0 : Int32)) : ((11 : Int32) + x).toNatClampNeg = 11 + x.toNatClampNeg ∧ vp_in ((11 : Int32) + x) 163 := by
  obtain ⟨j, hj, rfl⟩ := (zz_inB (N := 7) (by decide) (by decide) (by omega) h).num
  rw [show (11 : Int32) = nI 11 from rfl, nI_add, nI_clamp (by omega), nI_clamp (by omega)]
  exact ⟨rfl, vp_in_nI (by omega) (by omega)⟩
theorem zz_app7 {x : Int32} (h : Bd x 80) (c : ¬ x = (80 : Int32)) : vp_in x 80 := by
  obtain ⟨j, hj, rfl⟩ := h.num
  have : j ≠ 80 := fun q => c (by rw [q]; rfl)
  exact vp_in_nI (by omega) (by omega)
theorem zz_en {τ : FnI} {a b : Int32} (hm : WM τ) (c1 : ¬ a < (0 : Int32)) (c2 : ¬ fX7_in b (0 : Int32) (1 : Int32) = (0 : Int32)) (c3 : a < (τ 4)) : ((((115 : Int32) + ((2 : Int32) * a)) + b).toNatClampNeg = 115 + 2 * a.toNatClampNeg + b.toNatClampNeg) ∧ vp_in (((115 : Int32) + ((2 : Int32) * a)) + b) 163 := by
  obtain ⟨j, hj, rfl⟩ := (zz_inB (N := 1) (by decide) (by decide) (by omega) c2).num
  have h4 := hm.1.toInt (by omega)
  have h42 := hm.1.2
  rw [Int32.lt_iff_toInt_lt] at c1 c3
  have h0 : (0 : Int32).toInt = 0 := by decide
  obtain ⟨i, hi, rfl⟩ := (Bd.ge (x := a) (N := 23) (by omega) (by omega) (by omega)).num
  rw [lj_eq (Bd.of hi (by omega)) (by omega), show (nI i).toNatClampNeg = i from nI_clamp (by omega), show (nI j).toNatClampNeg = j from nI_clamp (by omega), nI_add, nI_clamp (by omega)]
  exact ⟨rfl, vp_in_nI (by omega) (by omega)⟩

def fX7_isKey (p0 : Int32) : Int32 := (fX7_in p0 (0 : Int32) (31 : Int32))
theorem fX7_isKey_p0 (p0 : Int32) : (fX7_isKey p0) = (fX7_in p0 (0 : Int32) (31 : Int32)) := by
  simp only [fX7_isKey]
set_option maxHeartbeats 4000000 in
set_option maxRecDepth 100000 in
theorem kX7_isKey (l : Launch) (D : va_G) (cI cS : ClassId) (p0 : Int32) : KR l yX7_isKey wsX7_isKey { frames := 1, cells := 0, slots := 0, locals := 22 } D (tysA cI cS) [.int p0] [] (fX7_isKey p0) := by
  refine KR.of (cc := cX7_isKey) (maxL := 1) (ty := .boolean) (by decide) rfl (Nat.le_of_ble_eq_true rfl) rfl (fun p e s m args below meth c ls Q hx hb hml hown hts hE hP hl hend => ?_)
  have hown : s.vm.findClass RX7 = some m.cls := hown
  have hl : lv_has ls 1 [(0, .int p0)] := hl
  refine lv_iload_n hx hb dX7_isKey_0 rfl (lv_at hl 0 rfl) ?_
  refine lv_iconst (v := (0 : Int32)) hx hb dX7_isKey_1 (by decide +kernel) ?_
  refine lv_bipush (v := (31 : Int32)) hx hb dX7_isKey_2 (by decide +kernel) ?_
  refine cRS ⟨hx, hb, hml, hown, hts⟩ (kX7_in l D cI cS p0 (0 : Int32) (31 : Int32)) (va_cwS 3 hts gX7_isKey_X7_in rfl rfl rfl (by decide +kernel) ⟨Nat.le_of_ble_eq_true rfl, Nat.le_of_ble_eq_true rfl⟩) hE hP [] rfl rfl hl.1 rfl (Nat.le_of_ble_eq_true rfl) ⟨Nat.zero_le _, Nat.zero_le _⟩ dX7_isKey_4 ?_
  exact hend _ _ _ dX7_isKey_7 (zz_in7 _ _ _) (fX7_isKey_p0 p0)

theorem zz_isKey7 {x : Int32} (h : ¬ fX7_isKey x = (0 : Int32)) : Bd x 31 := zz_inB (by decide) (by decide) (by omega) h

def fX7_outside (p0 : Int32) : Int32 := (if p0 = (-1 : Int32) then (-5 : Int32) else p0)
theorem fX7_outside_p0 (p0 : Int32) (c_2 : ¬ p0 = (-1 : Int32)) : (fX7_outside p0) = p0 := by
  simp only [fX7_outside, if_neg c_2]
theorem fX7_outside_p1 (p0 : Int32) (c_2 : p0 = (-1 : Int32)) : (fX7_outside p0) = (-5 : Int32) := by
  simp only [fX7_outside, if_pos c_2]
set_option maxHeartbeats 4000000 in
set_option maxRecDepth 100000 in
theorem kX7_outside (l : Launch) (D : va_G) (cI cS : ClassId) (p0 : Int32) : KR l yX7_outside wsX7_outside { frames := 0, cells := 0, slots := 0, locals := 0 } D (tysA cI cS) [.int p0] [] (fX7_outside p0) := by
  refine KR.of (cc := cX7_outside) (maxL := 1) (ty := .int) (by decide) rfl (Nat.le_of_ble_eq_true rfl) rfl (fun p e s m args below meth c ls Q hx hb hml hown hts hE hP hl hend => ?_)
  have hown : s.vm.findClass RX7 = some m.cls := hown
  have hl : lv_has ls 1 [(0, .int p0)] := hl
  refine lv_iload_n hx hb dX7_outside_0 rfl (lv_at hl 0 rfl) ?_
  refine lv_iconst (v := (-1 : Int32)) hx hb dX7_outside_1 (by decide +kernel) ?_
  refine lv_icmp_ne (tgt := 10) hx hb dX7_outside_2 (by decide) (fun c_2 => ?_) (fun c_2 => ?_)
  · refine lv_iload_n hx hb dX7_outside_10 rfl (lv_at hl 0 rfl) ?_
    exact hend _ _ _ dX7_outside_11 rfl (fX7_outside_p0 p0 c_2)
  · refine lv_bipush (v := (-5 : Int32)) hx hb dX7_outside_5 (by decide +kernel) ?_
    refine lv_goto (tgt := 11) hx hb dX7_outside_7 (by decide) ?_
    exact hend _ _ _ dX7_outside_11 rfl (fX7_outside_p1 p0 c_2)

def fX7_becomes (p0 : Int32) (p1 : Int32) (p2 : Int32) : Int32 := (if p2 = (-1 : Int32) then (-1 : Int32) else (if p0 = (1 : Int32) then (((2 : Int32) * p2) - ((2 : Int32) * p2) / (100 : Int32) * (100 : Int32)) else (if p0 = (2 : Int32) then (((p2 - p2 / (10 : Int32) * (10 : Int32)) * (10 : Int32)) + (p2 / (10 : Int32))) else (if p0 = (3 : Int32) then (if (p2 - p2 / (2 : Int32) * (2 : Int32)) = (1 : Int32) then (-1 : Int32) else p2) else (if p0 = (4 : Int32) then ((p2 + p1) - (p2 + p1) / (100 : Int32) * (100 : Int32)) else p2)))))
theorem fX7_becomes_p0 (p0 : Int32) (p1 : Int32) (p2 : Int32) (c_2 : ¬ p2 = (-1 : Int32)) (c_8_0 : p0 = (1 : Int32)) : (fX7_becomes p0 p1 p2) = (((2 : Int32) * p2) - ((2 : Int32) * p2) / (100 : Int32) * (100 : Int32)) := by
  simp only [fX7_becomes, if_neg c_2, if_pos c_8_0]
theorem fX7_becomes_p1 (p0 : Int32) (p1 : Int32) (p2 : Int32) (c_2 : ¬ p2 = (-1 : Int32)) (c_8_0 : ¬ p0 = (1 : Int32)) (c_8_1 : p0 = (2 : Int32)) : (fX7_becomes p0 p1 p2) = (((p2 - p2 / (10 : Int32) * (10 : Int32)) * (10 : Int32)) + (p2 / (10 : Int32))) := by
  simp only [fX7_becomes, if_neg c_2, if_neg c_8_0, if_pos c_8_1]
theorem fX7_becomes_p2 (p0 : Int32) (p1 : Int32) (p2 : Int32) (c_2 : ¬ p2 = (-1 : Int32)) (c_8_0 : ¬ p0 = (1 : Int32)) (c_8_1 : ¬ p0 = (2 : Int32)) (c_8_2 : p0 = (3 : Int32)) (c_64 : ¬ (p2 - p2 / (2 : Int32) * (2 : Int32)) = (1 : Int32)) : (fX7_becomes p0 p1 p2) = p2 := by
  simp only [fX7_becomes, if_neg c_2, if_neg c_8_0, if_neg c_8_1, if_pos c_8_2, if_neg c_64]
theorem fX7_becomes_p3 (p0 : Int32) (p1 : Int32) (p2 : Int32) (c_2 : ¬ p2 = (-1 : Int32)) (c_8_0 : ¬ p0 = (1 : Int32)) (c_8_1 : ¬ p0 = (2 : Int32)) (c_8_2 : p0 = (3 : Int32)) (c_64 : (p2 - p2 / (2 : Int32) * (2 : Int32)) = (1 : Int32)) : (fX7_becomes p0 p1 p2) = (-1 : Int32) := by
  simp only [fX7_becomes, if_neg c_2, if_neg c_8_0, if_neg c_8_1, if_pos c_8_2, if_pos c_64]
theorem fX7_becomes_p4 (p0 : Int32) (p1 : Int32) (p2 : Int32) (c_2 : ¬ p2 = (-1 : Int32)) (c_8_0 : ¬ p0 = (1 : Int32)) (c_8_1 : ¬ p0 = (2 : Int32)) (c_8_2 : ¬ p0 = (3 : Int32)) (c_8_3 : p0 = (4 : Int32)) : (fX7_becomes p0 p1 p2) = ((p2 + p1) - (p2 + p1) / (100 : Int32) * (100 : Int32)) := by
  simp only [fX7_becomes, if_neg c_2, if_neg c_8_0, if_neg c_8_1, if_neg c_8_2, if_pos c_8_3]
theorem fX7_becomes_p5 (p0 : Int32) (p1 : Int32) (p2 : Int32) (c_2 : ¬ p2 = (-1 : Int32)) (c_8_0 : ¬ p0 = (1 : Int32)) (c_8_1 : ¬ p0 = (2 : Int32)) (c_8_2 : ¬ p0 = (3 : Int32)) (c_8_3 : ¬ p0 = (4 : Int32)) : (fX7_becomes p0 p1 p2) = p2 := by
  simp only [fX7_becomes, if_neg c_2, if_neg c_8_0, if_neg c_8_1, if_neg c_8_2, if_neg c_8_3]
theorem fX7_becomes_p6 (p0 : Int32) (p1 : Int32) (p2 : Int32) (c_2 : p2 = (-1 : Int32)) : (fX7_becomes p0 p1 p2) = (-1 : Int32) := by
  simp only [fX7_becomes, if_pos c_2]
set_option maxHeartbeats 4000000 in
set_option maxRecDepth 100000 in
theorem kX7_becomes (l : Launch) (D : va_G) (cI cS : ClassId) (p0 : Int32) (p1 : Int32) (p2 : Int32) : KR l yX7_becomes wsX7_becomes { frames := 0, cells := 0, slots := 0, locals := 0 } D (tysA cI cS) [.int p0, .int p1, .int p2] [] (fX7_becomes p0 p1 p2) := by
  refine KR.of (cc := cX7_becomes) (maxL := 3) (ty := .int) (by decide) rfl (Nat.le_of_ble_eq_true rfl) rfl (fun p e s m args below meth c ls Q hx hb hml hown hts hE hP hl hend => ?_)
  have hown : s.vm.findClass RX7 = some m.cls := hown
  have hl : lv_has ls 3 [(0, .int p0), (1, .int p1), (2, .int p2)] := hl
  refine lv_iload_n hx hb dX7_becomes_0 rfl (lv_at hl 2 rfl) ?_
  refine lv_iconst (v := (-1 : Int32)) hx hb dX7_becomes_1 (by decide +kernel) ?_
  refine lv_icmp_ne (tgt := 7) hx hb dX7_becomes_2 (by decide) (fun c_2 => ?_) (fun c_2 => ?_)
  · refine lv_iload_n hx hb dX7_becomes_7 rfl (lv_at hl 0 rfl) ?_
    refine (Decidable.em (p0 = (1 : Int32))).elim (fun c_8_0 => ?_) (fun c_8_0 => ?_)
    · refine lv_tableIn (off := 32) (tgt := 40) hx hb dX7_becomes_8 (by rw [c_8_0]; decide +kernel) (by rw [c_8_0]; decide +kernel) (by rw [c_8_0]; decide +kernel) (by decide) ?_
      refine lv_iconst (v := (2 : Int32)) hx hb dX7_becomes_40 (by decide +kernel) ?_
      refine lv_iload_n hx hb dX7_becomes_41 rfl (lv_at hl 2 rfl) ?_
      refine lv_imul hx hb dX7_becomes_42 ?_
      refine lv_bipush (v := (100 : Int32)) hx hb dX7_becomes_43 (by decide +kernel) ?_
      refine lv_irem hx hb dX7_becomes_45 (by decide) ?_
      exact hend _ _ _ dX7_becomes_46 rfl (fX7_becomes_p0 p0 p1 p2 c_2 c_8_0)
    · refine (Decidable.em (p0 = (2 : Int32))).elim (fun c_8_1 => ?_) (fun c_8_1 => ?_)
      · refine lv_tableIn (off := 39) (tgt := 47) hx hb dX7_becomes_8 (by rw [c_8_1]; decide +kernel) (by rw [c_8_1]; decide +kernel) (by rw [c_8_1]; decide +kernel) (by decide) ?_
        refine lv_iload_n hx hb dX7_becomes_47 rfl (lv_at hl 2 rfl) ?_
        refine lv_bipush (v := (10 : Int32)) hx hb dX7_becomes_48 (by decide +kernel) ?_
        refine lv_irem hx hb dX7_becomes_50 (by decide) ?_
        refine lv_bipush (v := (10 : Int32)) hx hb dX7_becomes_51 (by decide +kernel) ?_
        refine lv_imul hx hb dX7_becomes_53 ?_
        refine lv_iload_n hx hb dX7_becomes_54 rfl (lv_at hl 2 rfl) ?_
        refine lv_bipush (v := (10 : Int32)) hx hb dX7_becomes_55 (by decide +kernel) ?_
        refine lv_idiv hx hb dX7_becomes_57 (by decide) ?_
        refine lv_iadd hx hb dX7_becomes_58 ?_
        exact hend _ _ _ dX7_becomes_59 rfl (fX7_becomes_p1 p0 p1 p2 c_2 c_8_0 c_8_1)
      · refine (Decidable.em (p0 = (3 : Int32))).elim (fun c_8_2 => ?_) (fun c_8_2 => ?_)
        · refine lv_tableIn (off := 52) (tgt := 60) hx hb dX7_becomes_8 (by rw [c_8_2]; decide +kernel) (by rw [c_8_2]; decide +kernel) (by rw [c_8_2]; decide +kernel) (by decide) ?_
          refine lv_iload_n hx hb dX7_becomes_60 rfl (lv_at hl 2 rfl) ?_
          refine lv_iconst (v := (2 : Int32)) hx hb dX7_becomes_61 (by decide +kernel) ?_
          refine lv_irem hx hb dX7_becomes_62 (by decide) ?_
          refine lv_iconst (v := (1 : Int32)) hx hb dX7_becomes_63 (by decide +kernel) ?_
          refine lv_icmp_ne (tgt := 71) hx hb dX7_becomes_64 (by decide) (fun c_64 => ?_) (fun c_64 => ?_)
          · refine lv_iload_n hx hb dX7_becomes_71 rfl (lv_at hl 2 rfl) ?_
            exact hend _ _ _ dX7_becomes_72 rfl (fX7_becomes_p2 p0 p1 p2 c_2 c_8_0 c_8_1 c_8_2 c_64)
          · refine lv_iconst (v := (-1 : Int32)) hx hb dX7_becomes_67 (by decide +kernel) ?_
            refine lv_goto (tgt := 72) hx hb dX7_becomes_68 (by decide) ?_
            exact hend _ _ _ dX7_becomes_72 rfl (fX7_becomes_p3 p0 p1 p2 c_2 c_8_0 c_8_1 c_8_2 c_64)
        · refine (Decidable.em (p0 = (4 : Int32))).elim (fun c_8_3 => ?_) (fun c_8_3 => ?_)
          · refine lv_tableIn (off := 65) (tgt := 73) hx hb dX7_becomes_8 (by rw [c_8_3]; decide +kernel) (by rw [c_8_3]; decide +kernel) (by rw [c_8_3]; decide +kernel) (by decide) ?_
            refine lv_iload_n hx hb dX7_becomes_73 rfl (lv_at hl 2 rfl) ?_
            refine lv_iload_n hx hb dX7_becomes_74 rfl (lv_at hl 1 rfl) ?_
            refine lv_iadd hx hb dX7_becomes_75 ?_
            refine lv_bipush (v := (100 : Int32)) hx hb dX7_becomes_76 (by decide +kernel) ?_
            refine lv_irem hx hb dX7_becomes_78 (by decide) ?_
            exact hend _ _ _ dX7_becomes_79 rfl (fX7_becomes_p4 p0 p1 p2 c_2 c_8_0 c_8_1 c_8_2 c_8_3)
          · refine xtabD (tgt := 80) hx hb dX7_becomes_8 (xno_cons (a := 1) c_8_0 (by decide) (xno_cons (a := 2) c_8_1 (by decide) (xno_cons (a := 3) c_8_2 (by decide) (xno_cons (a := 4) c_8_3 (by decide) xno_nil)))) (by decide +kernel) (by decide) ?_
            refine lv_iload_n hx hb dX7_becomes_80 rfl (lv_at hl 2 rfl) ?_
            exact hend _ _ _ dX7_becomes_81 rfl (fX7_becomes_p5 p0 p1 p2 c_2 c_8_0 c_8_1 c_8_2 c_8_3)
  · refine lv_iconst (v := (-1 : Int32)) hx hb dX7_becomes_5 (by decide +kernel) ?_
    exact hend _ _ _ dX7_becomes_6 rfl (fX7_becomes_p6 p0 p1 p2 c_2)

def fX7_fits (p0 : Int32) (p1 : Int32) : Int32 := (if p0 = (0 : Int32) then (fX7_in p1 (1 : Int32) (8 : Int32)) else (if p0 = (1 : Int32) then (fX7_in p1 (0 : Int32) (24 : Int32)) else (if p0 = (2 : Int32) then (fX7_in p1 (1 : Int32) (20 : Int32)) else (fX7_in p1 (0 : Int32) (1 : Int32)))))
theorem fX7_fits_p0 (p0 : Int32) (p1 : Int32) (c_1 : ¬ p0 = (0 : Int32)) (c_16 : ¬ p0 = (1 : Int32)) (c_31 : ¬ p0 = (2 : Int32)) : (fX7_fits p0 p1) = (fX7_in p1 (0 : Int32) (1 : Int32)) := by
  simp only [fX7_fits, if_neg c_1, if_neg c_16, if_neg c_31]
theorem fX7_fits_p1 (p0 : Int32) (p1 : Int32) (c_1 : ¬ p0 = (0 : Int32)) (c_16 : ¬ p0 = (1 : Int32)) (c_31 : p0 = (2 : Int32)) : (fX7_fits p0 p1) = (fX7_in p1 (1 : Int32) (20 : Int32)) := by
  simp only [fX7_fits, if_neg c_1, if_neg c_16, if_pos c_31]
theorem fX7_fits_p2 (p0 : Int32) (p1 : Int32) (c_1 : ¬ p0 = (0 : Int32)) (c_16 : p0 = (1 : Int32)) : (fX7_fits p0 p1) = (fX7_in p1 (0 : Int32) (24 : Int32)) := by
  simp only [fX7_fits, if_neg c_1, if_pos c_16]
theorem fX7_fits_p3 (p0 : Int32) (p1 : Int32) (c_1 : p0 = (0 : Int32)) : (fX7_fits p0 p1) = (fX7_in p1 (1 : Int32) (8 : Int32)) := by
  simp only [fX7_fits, if_pos c_1]
set_option maxHeartbeats 4000000 in
set_option maxRecDepth 100000 in
theorem kX7_fits (l : Launch) (D : va_G) (cI cS : ClassId) (p0 : Int32) (p1 : Int32) : KR l yX7_fits wsX7_fits { frames := 1, cells := 0, slots := 0, locals := 22 } D (tysA cI cS) [.int p0, .int p1] [] (fX7_fits p0 p1) := by
  refine KR.of (cc := cX7_fits) (maxL := 2) (ty := .boolean) (by decide) rfl (Nat.le_of_ble_eq_true rfl) rfl (fun p e s m args below meth c ls Q hx hb hml hown hts hE hP hl hend => ?_)
  have hown : s.vm.findClass RX7 = some m.cls := hown
  have hl : lv_has ls 2 [(0, .int p0), (1, .int p1)] := hl
  refine lv_iload_n hx hb dX7_fits_0 rfl (lv_at hl 0 rfl) ?_
  refine lv_if_ne (tgt := 14) hx hb dX7_fits_1 (by decide) (fun c_1 => ?_) (fun c_1 => ?_)
  · refine lv_iload_n hx hb dX7_fits_14 rfl (lv_at hl 0 rfl) ?_
    refine lv_iconst (v := (1 : Int32)) hx hb dX7_fits_15 (by decide +kernel) ?_
    refine lv_icmp_ne (tgt := 29) hx hb dX7_fits_16 (by decide) (fun c_16 => ?_) (fun c_16 => ?_)
    · refine lv_iload_n hx hb dX7_fits_29 rfl (lv_at hl 0 rfl) ?_
      refine lv_iconst (v := (2 : Int32)) hx hb dX7_fits_30 (by decide +kernel) ?_
      refine lv_icmp_ne (tgt := 44) hx hb dX7_fits_31 (by decide) (fun c_31 => ?_) (fun c_31 => ?_)
      · refine lv_iload_n hx hb dX7_fits_44 rfl (lv_at hl 1 rfl) ?_
        refine lv_iconst (v := (0 : Int32)) hx hb dX7_fits_45 (by decide +kernel) ?_
        refine lv_iconst (v := (1 : Int32)) hx hb dX7_fits_46 (by decide +kernel) ?_
        refine cRS ⟨hx, hb, hml, hown, hts⟩ (kX7_in l D cI cS p1 (0 : Int32) (1 : Int32)) (va_cwS 3 hts gX7_fits_X7_in rfl rfl rfl (by decide +kernel) ⟨Nat.le_of_ble_eq_true rfl, Nat.le_of_ble_eq_true rfl⟩) hE hP [] rfl rfl hl.1 rfl (Nat.le_of_ble_eq_true rfl) ⟨Nat.zero_le _, Nat.zero_le _⟩ dX7_fits_47 ?_
        exact hend _ _ _ dX7_fits_50 (zz_in7 _ _ _) (fX7_fits_p0 p0 p1 c_1 c_16 c_31)
      · refine lv_iload_n hx hb dX7_fits_34 rfl (lv_at hl 1 rfl) ?_
        refine lv_iconst (v := (1 : Int32)) hx hb dX7_fits_35 (by decide +kernel) ?_
        refine lv_bipush (v := (20 : Int32)) hx hb dX7_fits_36 (by decide +kernel) ?_
        refine cRS ⟨hx, hb, hml, hown, hts⟩ (kX7_in l D cI cS p1 (1 : Int32) (20 : Int32)) (va_cwS 3 hts gX7_fits_X7_in rfl rfl rfl (by decide +kernel) ⟨Nat.le_of_ble_eq_true rfl, Nat.le_of_ble_eq_true rfl⟩) hE hP [] rfl rfl hl.1 rfl (Nat.le_of_ble_eq_true rfl) ⟨Nat.zero_le _, Nat.zero_le _⟩ dX7_fits_38 ?_
        refine lv_goto (tgt := 50) hx hb dX7_fits_41 (by decide) ?_
        exact hend _ _ _ dX7_fits_50 (zz_in7 _ _ _) (fX7_fits_p1 p0 p1 c_1 c_16 c_31)
    · refine lv_iload_n hx hb dX7_fits_19 rfl (lv_at hl 1 rfl) ?_
      refine lv_iconst (v := (0 : Int32)) hx hb dX7_fits_20 (by decide +kernel) ?_
      refine lv_bipush (v := (24 : Int32)) hx hb dX7_fits_21 (by decide +kernel) ?_
      refine cRS ⟨hx, hb, hml, hown, hts⟩ (kX7_in l D cI cS p1 (0 : Int32) (24 : Int32)) (va_cwS 3 hts gX7_fits_X7_in rfl rfl rfl (by decide +kernel) ⟨Nat.le_of_ble_eq_true rfl, Nat.le_of_ble_eq_true rfl⟩) hE hP [] rfl rfl hl.1 rfl (Nat.le_of_ble_eq_true rfl) ⟨Nat.zero_le _, Nat.zero_le _⟩ dX7_fits_23 ?_
      refine lv_goto (tgt := 50) hx hb dX7_fits_26 (by decide) ?_
      exact hend _ _ _ dX7_fits_50 (zz_in7 _ _ _) (fX7_fits_p2 p0 p1 c_1 c_16)
  · refine lv_iload_n hx hb dX7_fits_4 rfl (lv_at hl 1 rfl) ?_
    refine lv_iconst (v := (1 : Int32)) hx hb dX7_fits_5 (by decide +kernel) ?_
    refine lv_bipush (v := (8 : Int32)) hx hb dX7_fits_6 (by decide +kernel) ?_
    refine cRS ⟨hx, hb, hml, hown, hts⟩ (kX7_in l D cI cS p1 (1 : Int32) (8 : Int32)) (va_cwS 3 hts gX7_fits_X7_in rfl rfl rfl (by decide +kernel) ⟨Nat.le_of_ble_eq_true rfl, Nat.le_of_ble_eq_true rfl⟩) hE hP [] rfl rfl hl.1 rfl (Nat.le_of_ble_eq_true rfl) ⟨Nat.zero_le _, Nat.zero_le _⟩ dX7_fits_8 ?_
    refine lv_goto (tgt := 50) hx hb dX7_fits_11 (by decide) ?_
    exact hend _ _ _ dX7_fits_50 (zz_in7 _ _ _) (fX7_fits_p3 p0 p1 c_1)

def fX7_isCopy (τ : FnI) : Int32 := (if (τ 0) = (0 : Int32) then (0 : Int32) else (1 : Int32))
theorem fX7_isCopy_p0 (τ : FnI) (c_6 : (τ 0) = (0 : Int32)) : (fX7_isCopy τ) = (0 : Int32) := by
  simp only [fX7_isCopy, if_pos c_6]
theorem fX7_isCopy_p1 (τ : FnI) (c_6 : ¬ (τ 0) = (0 : Int32)) : (fX7_isCopy τ) = (1 : Int32) := by
  simp only [fX7_isCopy, if_neg c_6]
set_option maxHeartbeats 4000000 in
set_option maxRecDepth 100000 in
theorem kX7_isCopy (l : Launch) (D : va_G) (cI cS : ClassId) (h0 h1 : Nat) (w1 : Nat) (w2 : Int32) (w3 : Nat) (w4 : Int32) (w5 : Nat) (w6 : Nat) (w7 : Int32) (w8 : Int32) (w9 : Int32) (w10 : Int32) (w11 : Int32) (w12 : Int32) (τ : FnI) : KR l yX7_isCopy wsX7_isCopy { frames := 0, cells := 0, slots := 0, locals := 0 } D (tysA cI cS) [.ref h0] [(h0, .inr (7, [.ref h1, .ref w1, .int w2, .ref w3, .int w4, .ref w5, .ref w6, .int w7, .int w8, .int w9, .int w10, .int w11, .int w12])), (h1, .inl (cI, 163, .inl τ))] (fX7_isCopy τ) := by
  refine KR.of (cc := cX7_isCopy) (maxL := 1) (ty := .boolean) (by decide) rfl (Nat.le_of_ble_eq_true rfl) rfl (fun p e s m args below meth c ls Q hx hb hml hown hts hE hP hl hend => ?_)
  have hown : s.vm.findClass RX7 = some m.cls := hown
  have hl : lv_has ls 1 [(0, .ref h0)] := hl
  refine lv_aload_n hx hb dX7_isCopy_0 rfl (lv_at hl 0 rfl) ?_
  refine va_get (D := D) (ci := 7) (v := .ref h1) (C := RX7) (T := TX7) (N := 13) hx hb hts (fun _ h9 => List.mem_cons_of_mem _ (List.mem_append_right _ h9)) hown hE.1 hP 0 rfl rfl 0 (by decide) (hts (.fieldLink RX7 7 "ShadowTableModel" "s" "[I") (List.mem_of_getElem? (i := 1) rfl)) (fun _ h9 => h9) rfl dX7_isCopy_1 ?_
  refine lv_iconst (v := (0 : Int32)) hx hb dX7_isCopy_4 (by decide +kernel) ?_
  refine xld (v := (τ 0)) (j := 0) hx hb hE hP 1 rfl rfl cl_0 (in_0 (by decide)) rfl dX7_isCopy_5 ?_
  refine lv_if_eq (tgt := 13) hx hb dX7_isCopy_6 (by decide) (fun c_6 => ?_) (fun c_6 => ?_)
  · refine lv_iconst (v := (0 : Int32)) hx hb dX7_isCopy_13 (by decide +kernel) ?_
    exact hend _ _ _ dX7_isCopy_14 rfl (fX7_isCopy_p0 τ c_6)
  · refine lv_iconst (v := (1 : Int32)) hx hb dX7_isCopy_9 (by decide +kernel) ?_
    refine lv_goto (tgt := 14) hx hb dX7_isCopy_10 (by decide) ?_
    exact hend _ _ _ dX7_isCopy_14 rfl (fX7_isCopy_p1 τ c_6)

def fX7_row (p0 : Int32) (p1 : Int32) (τ : FnI) : Int32 := (τ ((((19 : Int32) + ((32 : Int32) * p0)) + p1).toNatClampNeg))
theorem fX7_row_p0 (p0 : Int32) (p1 : Int32) (τ : FnI) : (fX7_row p0 p1 τ) = (τ ((((19 : Int32) + ((32 : Int32) * p0)) + p1).toNatClampNeg)) := by
  simp only [fX7_row]
set_option maxHeartbeats 4000000 in
set_option maxRecDepth 100000 in
theorem kX7_row (l : Launch) (D : va_G) (cI cS : ClassId) (h0 h1 : Nat) (w1 : Nat) (w2 : Int32) (w3 : Nat) (w4 : Int32) (w5 : Nat) (w6 : Nat) (w7 : Int32) (w8 : Int32) (w9 : Int32) (w10 : Int32) (w11 : Int32) (w12 : Int32) (p0 : Int32) (p1 : Int32) (τ : FnI) (hi : vp_in (((19 : Int32) + ((32 : Int32) * p0)) + p1) 163) : KR l yX7_row wsX7_row { frames := 0, cells := 0, slots := 0, locals := 0 } D (tysA cI cS) [.ref h0, .int p0, .int p1] [(h0, .inr (7, [.ref h1, .ref w1, .int w2, .ref w3, .int w4, .ref w5, .ref w6, .int w7, .int w8, .int w9, .int w10, .int w11, .int w12])), (h1, .inl (cI, 163, .inl τ))] (fX7_row p0 p1 τ) := by
  refine KR.of (cc := cX7_row) (maxL := 3) (ty := .int) (by decide) rfl (Nat.le_of_ble_eq_true rfl) rfl (fun p e s m args below meth c ls Q hx hb hml hown hts hE hP hl hend => ?_)
  have hown : s.vm.findClass RX7 = some m.cls := hown
  have hl : lv_has ls 3 [(0, .ref h0), (1, .int p0), (2, .int p1)] := hl
  refine lv_aload_n hx hb dX7_row_0 rfl (lv_at hl 0 rfl) ?_
  refine va_get (D := D) (ci := 7) (v := .ref h1) (C := RX7) (T := TX7) (N := 13) hx hb hts (fun _ h9 => List.mem_cons_of_mem _ (List.mem_append_right _ h9)) hown hE.1 hP 0 rfl rfl 0 (by decide) (hts (.fieldLink RX7 7 "ShadowTableModel" "s" "[I") (List.mem_of_getElem? (i := 1) rfl)) (fun _ h9 => h9) rfl dX7_row_1 ?_
  refine lv_bipush (v := (19 : Int32)) hx hb dX7_row_4 (by decide +kernel) ?_
  refine lv_bipush (v := (32 : Int32)) hx hb dX7_row_6 (by decide +kernel) ?_
  refine lv_iload_n hx hb dX7_row_8 rfl (lv_at hl 1 rfl) ?_
  refine lv_imul hx hb dX7_row_9 ?_
  refine lv_iadd hx hb dX7_row_10 ?_
  refine lv_iload_n hx hb dX7_row_11 rfl (lv_at hl 2 rfl) ?_
  refine lv_iadd hx hb dX7_row_12 ?_
  refine xld (v := (τ ((((19 : Int32) + ((32 : Int32) * p0)) + p1).toNatClampNeg))) (j := (((19 : Int32) + ((32 : Int32) * p0)) + p1).toNatClampNeg) hx hb hE hP 1 rfl rfl rfl hi rfl dX7_row_13 ?_
  exact hend _ _ _ dX7_row_14 rfl (fX7_row_p0 p0 p1 τ)

def fX7_lay (p0 : Int32) (p1 : Int32) (p2 : Int32) (τ : FnI) : FnI := (upd τ ((((19 : Int32) + ((32 : Int32) * p0)) + p1).toNatClampNeg) p2)
theorem fX7_lay_p0 (p0 : Int32) (p1 : Int32) (p2 : Int32) (τ : FnI) : (fX7_lay p0 p1 p2 τ) = (upd τ ((((19 : Int32) + ((32 : Int32) * p0)) + p1).toNatClampNeg) p2) := by
  simp only [fX7_lay]
set_option maxHeartbeats 4000000 in
set_option maxRecDepth 100000 in
theorem kX7_lay (l : Launch) (D : va_G) (cI cS : ClassId) (h0 h1 : Nat) (w1 : Nat) (w2 : Int32) (w3 : Nat) (w4 : Int32) (w5 : Nat) (w6 : Nat) (w7 : Int32) (w8 : Int32) (w9 : Int32) (w10 : Int32) (w11 : Int32) (w12 : Int32) (p0 : Int32) (p1 : Int32) (p2 : Int32) (τ : FnI) (hi : vp_in (((19 : Int32) + ((32 : Int32) * p0)) + p1) 163) : KV l yX7_lay wsX7_lay { frames := 0, cells := 0, slots := 0, locals := 0 } D (tysA cI cS) [.ref h0, .int p0, .int p1, .int p2] [(h0, .inr (7, [.ref h1, .ref w1, .int w2, .ref w3, .int w4, .ref w5, .ref w6, .int w7, .int w8, .int w9, .int w10, .int w11, .int w12])), (h1, .inl (cI, 163, .inl τ))] (fX7_lay p0 p1 p2 τ) (fun u => [(h0, .inr (7, [.ref h1, .ref w1, .int w2, .ref w3, .int w4, .ref w5, .ref w6, .int w7, .int w8, .int w9, .int w10, .int w11, .int w12])), (h1, .inl (cI, 163, .inl u))]) := by
  refine KV.of (cc := cX7_lay) (maxL := 4) (by decide) rfl (Nat.le_of_ble_eq_true rfl) rfl (fun p e s m args below meth c ls Q A hx hb hml hown hts hE hP hD hS hl hend => ?_)
  have hown : s.vm.findClass RX7 = some m.cls := hown
  have hl : lv_has ls 4 [(0, .ref h0), (1, .int p0), (2, .int p1), (3, .int p2)] := hl
  refine lv_aload_n hx hb dX7_lay_0 rfl (lv_at hl 0 rfl) ?_
  refine va_get (D := D) (ci := 7) (v := .ref h1) (C := RX7) (T := TX7) (N := 13) hx hb hts (fun _ h9 => List.mem_cons_of_mem _ (List.mem_append_right _ h9)) hown hE.1 hP 0 rfl rfl 0 (by decide) (hts (.fieldLink RX7 7 "ShadowTableModel" "s" "[I") (List.mem_of_getElem? (i := 1) rfl)) (fun _ h9 => h9) rfl dX7_lay_1 ?_
  refine lv_bipush (v := (19 : Int32)) hx hb dX7_lay_4 (by decide +kernel) ?_
  refine lv_bipush (v := (32 : Int32)) hx hb dX7_lay_6 (by decide +kernel) ?_
  refine lv_iload_n hx hb dX7_lay_8 rfl (lv_at hl 1 rfl) ?_
  refine lv_imul hx hb dX7_lay_9 ?_
  refine lv_iadd hx hb dX7_lay_10 ?_
  refine lv_iload_n hx hb dX7_lay_11 rfl (lv_at hl 2 rfl) ?_
  refine lv_iadd hx hb dX7_lay_12 ?_
  refine lv_iload_n hx hb dX7_lay_13 rfl (lv_at hl 3 rfl) ?_
  refine xst (j := (((19 : Int32) + ((32 : Int32) * p0)) + p1).toNatClampNeg) hx hb hE hP hD hS 1 rfl rfl rfl hi [(h0, .inr (7, [.ref h1, .ref w1, .int w2, .ref w3, .int w4, .ref w5, .ref w6, .int w7, .int w8, .int w9, .int w10, .int w11, .int w12])), (h1, .inl (cI, 163, .inl (upd τ ((((19 : Int32) + ((32 : Int32) * p0)) + p1).toNatClampNeg) p2)))] rfl dX7_lay_14 (fun H locs hP hD hS => ?_)
  exact hend _ _ _ _ _ dX7_lay_15 (fX7_lay_p0 p0 p1 p2 τ) hP hS

theorem lay_eq {t k v : Int32} {τ : FnI} (ht : TB t) (hk : Bd k 31) : fX7_lay t k v τ = upd τ (19 + 32 * t.toNatClampNeg + k.toNatClampNeg) v := by
  obtain ⟨j, hj, rfl⟩ := hk.num
  have := tb_le ht
  unfold fX7_lay
  rw [row_ix ht, nI_clamp (by omega), nI_clamp (by omega)]
theorem lay_other {t k v : Int32} {τ : FnI} {j : Nat} (ht : TB t) (hk : Bd k 31) (hj : j < 19 ∨ 115 ≤ j) : fX7_lay t k v τ j = τ j := by
  rw [lay_eq ht hk]
  have := tb_le ht
  have := hk.2
  exact pk_un (by omega)
theorem row_eq {t k : Int32} {τ : FnI} (ht : TB t) (hk : Bd k 31) : fX7_row t k τ = τ (19 + 32 * t.toNatClampNeg + k.toNatClampNeg) := by
  obtain ⟨j, hj, rfl⟩ := hk.num
  have := tb_le ht
  unfold fX7_row
  rw [row_ix ht, nI_clamp (by omega), nI_clamp (by omega)]
theorem zz_ap4 {τ u : FnI} {v : Int32} (e : fX7_lay (1 : Int32) (τ 115) v τ = u) (hm : WM τ) (hz : ¬ (τ 4) ≤ (0 : Int32)) : Bd ((upd u 4 ((u 4) - (1 : Int32))) 4) 23 := by
  subst e
  rw [pk_us, lay_other zz_T1 (zz_m0 hm hz) (Or.inl (by omega))]
  obtain ⟨j, hj, e⟩ := hm.1.num
  rw [e] at hz ⊢
  cases j with
  | zero => exact absurd (by decide) hz
  | succ j => rw [nI_pred]; exact Bd.of (by omega) (by omega)
theorem zz_nxB {σ u g : FnI} {v : Int32} (e : fX7_lay (1 : Int32) (σ 3) v σ = u) (hc : Bd (σ 3) 32) (c : ¬ (32 : Int32) ≤ (σ 3)) : Bd ((upd g 3 ((u 3) + (1 : Int32))) 3) 32 ∧ ∀ {n : Nat}, 32 - (σ 3).toNatClampNeg < n + 1 → 32 - ((upd g 3 ((u 3) + (1 : Int32))) 3).toNatClampNeg < n := by
  have h : u 3 = σ 3 := by rw [← e]; exact lay_other zz_T1 (zz_cur hc c) (Or.inl (by omega))
  rw [h]
  exact zz_nxA hc c

def fX7_rows_4 (p0 : Int32) (τ : FnI) : Nat → Int32 → Nat → Int32
  | 0, cnt, k => 0
  | n + 1, cnt, k => (if (32 : Int32) ≤ (nI k) then cnt else (if (fX7_row p0 (nI k) τ) = (-1 : Int32) then fX7_rows_4 p0 τ n (cnt + (0 : Int32)) (k + 1) else fX7_rows_4 p0 τ n (cnt + (1 : Int32)) (k + 1)))
def fX7_rows (p0 : Int32) (τ : FnI) : Int32 := fX7_rows_4 p0 τ 33 (0 : Int32) 0
theorem fX7_rows_4_p0 (p0 : Int32) (τ : FnI) (n : Nat) (cnt : Int32) (k : Nat) (c_7 : (32 : Int32) ≤ (nI k)) : fX7_rows_4 p0 τ (n + 1) cnt k = cnt := by
  simp only [fX7_rows_4, if_pos c_7]
theorem fX7_rows_4_p1 (p0 : Int32) (τ : FnI) (n : Nat) (cnt : Int32) (k : Nat) (c_7 : ¬ (32 : Int32) ≤ (nI k)) (c_18 : ¬ (fX7_row p0 (nI k) τ) = (-1 : Int32)) : fX7_rows_4 p0 τ (n + 1) cnt k = fX7_rows_4 p0 τ n (cnt + (1 : Int32)) (k + 1) := by
  simp only [fX7_rows_4, if_neg c_7, if_neg c_18]
theorem fX7_rows_4_p2 (p0 : Int32) (τ : FnI) (n : Nat) (cnt : Int32) (k : Nat) (c_7 : ¬ (32 : Int32) ≤ (nI k)) (c_18 : (fX7_row p0 (nI k) τ) = (-1 : Int32)) : fX7_rows_4 p0 τ (n + 1) cnt k = fX7_rows_4 p0 τ n (cnt + (0 : Int32)) (k + 1) := by
  simp only [fX7_rows_4, if_neg c_7, if_pos c_18]
theorem fX7_rows_p3 (p0 : Int32) (τ : FnI) : (fX7_rows p0 τ) = fX7_rows_4 p0 τ 33 (0 : Int32) 0 := by
  simp only [fX7_rows]
set_option maxHeartbeats 4000000 in
set_option maxRecDepth 100000 in
theorem kX7_rows (l : Launch) (D : va_G) (cI cS : ClassId) (h0 h1 : Nat) (w1 : Nat) (w2 : Int32) (w3 : Nat) (w4 : Int32) (w5 : Nat) (w6 : Nat) (w7 : Int32) (w8 : Int32) (w9 : Int32) (w10 : Int32) (w11 : Int32) (w12 : Int32) (p0 : Int32) (τ : FnI) (ht : TB p0) : KR l yX7_rows wsX7_rows { frames := 1, cells := 0, slots := 0, locals := 22 } D (tysA cI cS) [.ref h0, .int p0] [(h0, .inr (7, [.ref h1, .ref w1, .int w2, .ref w3, .int w4, .ref w5, .ref w6, .int w7, .int w8, .int w9, .int w10, .int w11, .int w12])), (h1, .inl (cI, 163, .inl τ))] (fX7_rows p0 τ) := by
  refine KR.of (cc := cX7_rows) (maxL := 4) (ty := .int) (by decide) rfl (Nat.le_of_ble_eq_true rfl) rfl (fun p e s m args below meth c ls Q hx hb hml hown hts hE hP hl hend => ?_)
  have hown : s.vm.findClass RX7 = some m.cls := hown
  have hl : lv_has ls 4 [(0, .ref h0), (1, .int p0)] := hl
  have loop_4 : ∀ (n : Nat) (cnt : Int32) (k : Nat), k ≤ 32 → 32 - k < n → (fX7_rows p0 τ) = fX7_rows_4 p0 τ n cnt k → ∀ (ls : Array Slot), lv_has ls 4 [(0, .ref h0), (1, .int p0), (2, .int cnt), (3, .int (nI k))] → W p l e { frames := 1, cells := 0, slots := 0, locals := 22 } s m args below meth c s.heap [] 0 0 Q (F0 m 4 ls []) := by
    intro n
    induction n with
    | zero =>
      intro cnt k hk hn
      exact absurd hn (by omega)
    | succ n ih =>
      intro cnt k hk hn hF ls hl
      refine lv_iload_n hx hb dX7_rows_4 rfl (lv_at hl 3 rfl) ?_
      refine lv_bipush (v := (32 : Int32)) hx hb dX7_rows_5 (by decide +kernel) ?_
      refine lv_icmp_ge (tgt := 34) hx hb dX7_rows_7 (by decide) (fun c_7 => ?_) (fun c_7 => ?_)
      · have d_7 : 32 ≤ k := (nI_leI (a := 32) (b := k) (by omega) (by omega)).mp c_7
        refine lv_iload_n hx hb dX7_rows_34 rfl (lv_at hl 2 rfl) ?_
        exact hend _ _ _ dX7_rows_35 rfl (hF.trans (fX7_rows_4_p0 p0 τ n cnt k c_7))
      · have d_7 : k < 32 := Nat.lt_of_not_le (fun q => c_7 ((nI_leI (a := 32) (b := k) (by omega) (by omega)).mpr q))
        refine lv_iload_n hx hb dX7_rows_10 rfl (lv_at hl 2 rfl) ?_
        refine lv_aload_n hx hb dX7_rows_11 rfl (lv_at hl 0 rfl) ?_
        refine lv_iload_n hx hb dX7_rows_12 rfl (lv_at hl 1 rfl) ?_
        refine lv_iload_n hx hb dX7_rows_13 rfl (lv_at hl 3 rfl) ?_
        refine cRV ⟨hx, hb, hml, hown, hts⟩ (kX7_row l D cI cS h0 h1 w1 w2 w3 w4 w5 w6 w7 w8 w9 w10 w11 w12 p0 (nI k) τ (zz_row ht (by omega))) (cwV 2 hts gX7_rows_X7_row rfl rfl rfl (by decide +kernel) ⟨Nat.le_of_ble_eq_true rfl, Nat.le_of_ble_eq_true rfl⟩) hE hP 0 rfl rfl [0, 1] rfl rfl hl.1 rfl (Nat.le_of_ble_eq_true rfl) ⟨Nat.zero_le _, Nat.zero_le _⟩ dX7_rows_14 ?_
        refine lv_iconst (v := (-1 : Int32)) hx hb dX7_rows_17 (by decide +kernel) ?_
        refine lv_icmp_ne (tgt := 25) hx hb dX7_rows_18 (by decide) (fun c_18 => ?_) (fun c_18 => ?_)
        · refine lv_iconst (v := (1 : Int32)) hx hb dX7_rows_25 (by decide +kernel) ?_
          refine lv_iadd hx hb dX7_rows_26 ?_
          refine lv_istore_n (lv' := [(2, .int (cnt + (1 : Int32))), (0, .ref h0), (1, .int p0), (3, .int (nI k))]) hx hb dX7_rows_27 rfl hl (by decide) rfl (fun ls hl => ?_)
          refine lv_iinc (v := (nI (k + 1))) (lv' := [(3, .int (nI (k + 1))), (2, .int (cnt + (1 : Int32))), (0, .ref h0), (1, .int p0)]) hx hb dX7_rows_28 hl (k := 3) rfl (nI_1 _) (by decide) rfl (fun ls hl => ?_)
          refine lv_goto (tgt := 4) hx hb dX7_rows_31 (by decide) ?_
          exact ih (cnt + (1 : Int32)) (k + 1) (by omega) (by omega) (hF.trans (fX7_rows_4_p1 p0 τ n cnt k c_7 c_18)) _ (lv_sub hl [2, 3, 1, 0] rfl)
        · refine lv_iconst (v := (0 : Int32)) hx hb dX7_rows_21 (by decide +kernel) ?_
          refine lv_goto (tgt := 26) hx hb dX7_rows_22 (by decide) ?_
          refine lv_iadd hx hb dX7_rows_26 ?_
          refine lv_istore_n (lv' := [(2, .int (cnt + (0 : Int32))), (0, .ref h0), (1, .int p0), (3, .int (nI k))]) hx hb dX7_rows_27 rfl hl (by decide) rfl (fun ls hl => ?_)
          refine lv_iinc (v := (nI (k + 1))) (lv' := [(3, .int (nI (k + 1))), (2, .int (cnt + (0 : Int32))), (0, .ref h0), (1, .int p0)]) hx hb dX7_rows_28 hl (k := 3) rfl (nI_1 _) (by decide) rfl (fun ls hl => ?_)
          refine lv_goto (tgt := 4) hx hb dX7_rows_31 (by decide) ?_
          exact ih (cnt + (0 : Int32)) (k + 1) (by omega) (by omega) (hF.trans (fX7_rows_4_p2 p0 τ n cnt k c_7 c_18)) _ (lv_sub hl [2, 3, 1, 0] rfl)
  refine lv_iconst (v := (0 : Int32)) hx hb dX7_rows_0 (by decide +kernel) ?_
  refine lv_istore_n (lv' := [(2, .int (0 : Int32)), (0, .ref h0), (1, .int p0)]) hx hb dX7_rows_1 rfl hl (by decide) rfl (fun ls hl => ?_)
  refine lv_iconst (v := (0 : Int32)) hx hb dX7_rows_2 (by decide +kernel) ?_
  refine lv_istore_n (lv' := [(3, .int (0 : Int32)), (2, .int (0 : Int32)), (0, .ref h0), (1, .int p0)]) hx hb dX7_rows_3 rfl hl (by decide) rfl (fun ls hl => ?_)
  exact loop_4 33 (0 : Int32) 0 (by omega) (by omega) (fX7_rows_p3 p0 τ) _ (lv_sub hl [2, 3, 1, 0] rfl)

def fX7_sum_4 (p0 : Int32) (τ : FnI) : Nat → Int32 → Nat → Int32
  | 0, cnt, k => 0
  | n + 1, cnt, k => (if (32 : Int32) ≤ (nI k) then cnt else (if (fX7_row p0 (nI k) τ) = (-1 : Int32) then fX7_sum_4 p0 τ n (cnt + (0 : Int32)) (k + 1) else fX7_sum_4 p0 τ n (cnt + (fX7_row p0 (nI k) τ)) (k + 1)))
def fX7_sum (p0 : Int32) (τ : FnI) : Int32 := fX7_sum_4 p0 τ 33 (0 : Int32) 0
theorem fX7_sum_4_p0 (p0 : Int32) (τ : FnI) (n : Nat) (cnt : Int32) (k : Nat) (c_7 : (32 : Int32) ≤ (nI k)) : fX7_sum_4 p0 τ (n + 1) cnt k = cnt := by
  simp only [fX7_sum_4, if_pos c_7]
theorem fX7_sum_4_p1 (p0 : Int32) (τ : FnI) (n : Nat) (cnt : Int32) (k : Nat) (c_7 : ¬ (32 : Int32) ≤ (nI k)) (c_18 : ¬ (fX7_row p0 (nI k) τ) = (-1 : Int32)) : fX7_sum_4 p0 τ (n + 1) cnt k = fX7_sum_4 p0 τ n (cnt + (fX7_row p0 (nI k) τ)) (k + 1) := by
  simp only [fX7_sum_4, if_neg c_7, if_neg c_18]
theorem fX7_sum_4_p2 (p0 : Int32) (τ : FnI) (n : Nat) (cnt : Int32) (k : Nat) (c_7 : ¬ (32 : Int32) ≤ (nI k)) (c_18 : (fX7_row p0 (nI k) τ) = (-1 : Int32)) : fX7_sum_4 p0 τ (n + 1) cnt k = fX7_sum_4 p0 τ n (cnt + (0 : Int32)) (k + 1) := by
  simp only [fX7_sum_4, if_neg c_7, if_pos c_18]
theorem fX7_sum_p3 (p0 : Int32) (τ : FnI) : (fX7_sum p0 τ) = fX7_sum_4 p0 τ 33 (0 : Int32) 0 := by
  simp only [fX7_sum]
set_option maxHeartbeats 4000000 in
set_option maxRecDepth 100000 in
theorem kX7_sum (l : Launch) (D : va_G) (cI cS : ClassId) (h0 h1 : Nat) (w1 : Nat) (w2 : Int32) (w3 : Nat) (w4 : Int32) (w5 : Nat) (w6 : Nat) (w7 : Int32) (w8 : Int32) (w9 : Int32) (w10 : Int32) (w11 : Int32) (w12 : Int32) (p0 : Int32) (τ : FnI) (ht : TB p0) : KR l yX7_sum wsX7_sum { frames := 1, cells := 0, slots := 0, locals := 22 } D (tysA cI cS) [.ref h0, .int p0] [(h0, .inr (7, [.ref h1, .ref w1, .int w2, .ref w3, .int w4, .ref w5, .ref w6, .int w7, .int w8, .int w9, .int w10, .int w11, .int w12])), (h1, .inl (cI, 163, .inl τ))] (fX7_sum p0 τ) := by
  refine KR.of (cc := cX7_sum) (maxL := 4) (ty := .int) (by decide) rfl (Nat.le_of_ble_eq_true rfl) rfl (fun p e s m args below meth c ls Q hx hb hml hown hts hE hP hl hend => ?_)
  have hown : s.vm.findClass RX7 = some m.cls := hown
  have hl : lv_has ls 4 [(0, .ref h0), (1, .int p0)] := hl
  have loop_4 : ∀ (n : Nat) (cnt : Int32) (k : Nat), k ≤ 32 → 32 - k < n → (fX7_sum p0 τ) = fX7_sum_4 p0 τ n cnt k → ∀ (ls : Array Slot), lv_has ls 4 [(0, .ref h0), (1, .int p0), (2, .int cnt), (3, .int (nI k))] → W p l e { frames := 1, cells := 0, slots := 0, locals := 22 } s m args below meth c s.heap [] 0 0 Q (F0 m 4 ls []) := by
    intro n
    induction n with
    | zero =>
      intro cnt k hk hn
      exact absurd hn (by omega)
    | succ n ih =>
      intro cnt k hk hn hF ls hl
      refine lv_iload_n hx hb dX7_sum_4 rfl (lv_at hl 3 rfl) ?_
      refine lv_bipush (v := (32 : Int32)) hx hb dX7_sum_5 (by decide +kernel) ?_
      refine lv_icmp_ge (tgt := 39) hx hb dX7_sum_7 (by decide) (fun c_7 => ?_) (fun c_7 => ?_)
      · have d_7 : 32 ≤ k := (nI_leI (a := 32) (b := k) (by omega) (by omega)).mp c_7
        refine lv_iload_n hx hb dX7_sum_39 rfl (lv_at hl 2 rfl) ?_
        exact hend _ _ _ dX7_sum_40 rfl (hF.trans (fX7_sum_4_p0 p0 τ n cnt k c_7))
      · have d_7 : k < 32 := Nat.lt_of_not_le (fun q => c_7 ((nI_leI (a := 32) (b := k) (by omega) (by omega)).mpr q))
        refine lv_iload_n hx hb dX7_sum_10 rfl (lv_at hl 2 rfl) ?_
        refine lv_aload_n hx hb dX7_sum_11 rfl (lv_at hl 0 rfl) ?_
        refine lv_iload_n hx hb dX7_sum_12 rfl (lv_at hl 1 rfl) ?_
        refine lv_iload_n hx hb dX7_sum_13 rfl (lv_at hl 3 rfl) ?_
        refine cRV ⟨hx, hb, hml, hown, hts⟩ (kX7_row l D cI cS h0 h1 w1 w2 w3 w4 w5 w6 w7 w8 w9 w10 w11 w12 p0 (nI k) τ (zz_row ht (by omega))) (cwV 2 hts gX7_sum_X7_row rfl rfl rfl (by decide +kernel) ⟨Nat.le_of_ble_eq_true rfl, Nat.le_of_ble_eq_true rfl⟩) hE hP 0 rfl rfl [0, 1] rfl rfl hl.1 rfl (Nat.le_of_ble_eq_true rfl) ⟨Nat.zero_le _, Nat.zero_le _⟩ dX7_sum_14 ?_
        refine lv_iconst (v := (-1 : Int32)) hx hb dX7_sum_17 (by decide +kernel) ?_
        refine lv_icmp_ne (tgt := 25) hx hb dX7_sum_18 (by decide) (fun c_18 => ?_) (fun c_18 => ?_)
        · refine lv_aload_n hx hb dX7_sum_25 rfl (lv_at hl 0 rfl) ?_
          refine lv_iload_n hx hb dX7_sum_26 rfl (lv_at hl 1 rfl) ?_
          refine lv_iload_n hx hb dX7_sum_27 rfl (lv_at hl 3 rfl) ?_
          refine cRV ⟨hx, hb, hml, hown, hts⟩ (kX7_row l D cI cS h0 h1 w1 w2 w3 w4 w5 w6 w7 w8 w9 w10 w11 w12 p0 (nI k) τ (zz_row ht (by omega))) (cwV 2 hts gX7_sum_X7_row rfl rfl rfl (by decide +kernel) ⟨Nat.le_of_ble_eq_true rfl, Nat.le_of_ble_eq_true rfl⟩) hE hP 0 rfl rfl [0, 1] rfl rfl hl.1 rfl (Nat.le_of_ble_eq_true rfl) ⟨Nat.zero_le _, Nat.zero_le _⟩ dX7_sum_28 ?_
          refine lv_iadd hx hb dX7_sum_31 ?_
          refine lv_istore_n (lv' := [(2, .int (cnt + (fX7_row p0 (nI k) τ))), (0, .ref h0), (1, .int p0), (3, .int (nI k))]) hx hb dX7_sum_32 rfl hl (by decide) rfl (fun ls hl => ?_)
          refine lv_iinc (v := (nI (k + 1))) (lv' := [(3, .int (nI (k + 1))), (2, .int (cnt + (fX7_row p0 (nI k) τ))), (0, .ref h0), (1, .int p0)]) hx hb dX7_sum_33 hl (k := 3) rfl (nI_1 _) (by decide) rfl (fun ls hl => ?_)
          refine lv_goto (tgt := 4) hx hb dX7_sum_36 (by decide) ?_
          exact ih (cnt + (fX7_row p0 (nI k) τ)) (k + 1) (by omega) (by omega) (hF.trans (fX7_sum_4_p1 p0 τ n cnt k c_7 c_18)) _ (lv_sub hl [2, 3, 1, 0] rfl)
        · refine lv_iconst (v := (0 : Int32)) hx hb dX7_sum_21 (by decide +kernel) ?_
          refine lv_goto (tgt := 31) hx hb dX7_sum_22 (by decide) ?_
          refine lv_iadd hx hb dX7_sum_31 ?_
          refine lv_istore_n (lv' := [(2, .int (cnt + (0 : Int32))), (0, .ref h0), (1, .int p0), (3, .int (nI k))]) hx hb dX7_sum_32 rfl hl (by decide) rfl (fun ls hl => ?_)
          refine lv_iinc (v := (nI (k + 1))) (lv' := [(3, .int (nI (k + 1))), (2, .int (cnt + (0 : Int32))), (0, .ref h0), (1, .int p0)]) hx hb dX7_sum_33 hl (k := 3) rfl (nI_1 _) (by decide) rfl (fun ls hl => ?_)
          refine lv_goto (tgt := 4) hx hb dX7_sum_36 (by decide) ?_
          exact ih (cnt + (0 : Int32)) (k + 1) (by omega) (by omega) (hF.trans (fX7_sum_4_p2 p0 τ n cnt k c_7 c_18)) _ (lv_sub hl [2, 3, 1, 0] rfl)
  refine lv_iconst (v := (0 : Int32)) hx hb dX7_sum_0 (by decide +kernel) ?_
  refine lv_istore_n (lv' := [(2, .int (0 : Int32)), (0, .ref h0), (1, .int p0)]) hx hb dX7_sum_1 rfl hl (by decide) rfl (fun ls hl => ?_)
  refine lv_iconst (v := (0 : Int32)) hx hb dX7_sum_2 (by decide +kernel) ?_
  refine lv_istore_n (lv' := [(3, .int (0 : Int32)), (2, .int (0 : Int32)), (0, .ref h0), (1, .int p0)]) hx hb dX7_sum_3 rfl hl (by decide) rfl (fun ls hl => ?_)
  exact loop_4 33 (0 : Int32) 0 (by omega) (by omega) (fX7_sum_p3 p0 τ) _ (lv_sub hl [2, 3, 1, 0] rfl)

def fX7_endKey_6 (p0 : Int32) (p1 : Int32) (τ : FnI) : Nat → Int32 → Nat → Int32
  | 0, x, k => 0
  | n + 1, x, k => (if (32 : Int32) ≤ (nI k) then x else (if (fX7_row p0 (nI k) τ) = (-1 : Int32) then fX7_endKey_6 p0 p1 τ n x (k + 1) else (if p1 = (0 : Int32) then (if x = (-5 : Int32) then fX7_endKey_6 p0 p1 τ n (nI k) (k + 1) else fX7_endKey_6 p0 p1 τ n x (k + 1)) else fX7_endKey_6 p0 p1 τ n (nI k) (k + 1))))
def fX7_endKey (p0 : Int32) (p1 : Int32) (τ : FnI) : Int32 := fX7_endKey_6 p0 p1 τ 33 (-5 : Int32) 0
theorem fX7_endKey_6_p0 (p0 : Int32) (p1 : Int32) (τ : FnI) (n : Nat) (x : Int32) (k : Nat) (c_10 : (32 : Int32) ≤ (nI k)) : fX7_endKey_6 p0 p1 τ (n + 1) x k = x := by
  simp only [fX7_endKey_6, if_pos c_10]
theorem fX7_endKey_6_p1 (p0 : Int32) (p1 : Int32) (τ : FnI) (n : Nat) (x : Int32) (k : Nat) (c_10 : ¬ (32 : Int32) ≤ (nI k)) (c_21 : (fX7_row p0 (nI k) τ) = (-1 : Int32)) : fX7_endKey_6 p0 p1 τ (n + 1) x k = fX7_endKey_6 p0 p1 τ n x (k + 1) := by
  simp only [fX7_endKey_6, if_neg c_10, if_pos c_21]
theorem fX7_endKey_6_p2 (p0 : Int32) (p1 : Int32) (τ : FnI) (n : Nat) (x : Int32) (k : Nat) (c_10 : ¬ (32 : Int32) ≤ (nI k)) (c_21 : ¬ (fX7_row p0 (nI k) τ) = (-1 : Int32)) (c_25 : ¬ p1 = (0 : Int32)) : fX7_endKey_6 p0 p1 τ (n + 1) x k = fX7_endKey_6 p0 p1 τ n (nI k) (k + 1) := by
  simp only [fX7_endKey_6, if_neg c_10, if_neg c_21, if_neg c_25]
theorem fX7_endKey_6_p3 (p0 : Int32) (p1 : Int32) (τ : FnI) (n : Nat) (x : Int32) (k : Nat) (c_10 : ¬ (32 : Int32) ≤ (nI k)) (c_21 : ¬ (fX7_row p0 (nI k) τ) = (-1 : Int32)) (c_25 : p1 = (0 : Int32)) (c_31 : ¬ x = (-5 : Int32)) : fX7_endKey_6 p0 p1 τ (n + 1) x k = fX7_endKey_6 p0 p1 τ n x (k + 1) := by
  simp only [fX7_endKey_6, if_neg c_10, if_neg c_21, if_pos c_25, if_neg c_31]
theorem fX7_endKey_6_p4 (p0 : Int32) (p1 : Int32) (τ : FnI) (n : Nat) (x : Int32) (k : Nat) (c_10 : ¬ (32 : Int32) ≤ (nI k)) (c_21 : ¬ (fX7_row p0 (nI k) τ) = (-1 : Int32)) (c_25 : p1 = (0 : Int32)) (c_31 : x = (-5 : Int32)) : fX7_endKey_6 p0 p1 τ (n + 1) x k = fX7_endKey_6 p0 p1 τ n (nI k) (k + 1) := by
  simp only [fX7_endKey_6, if_neg c_10, if_neg c_21, if_pos c_25, if_pos c_31]
theorem fX7_endKey_p5 (p0 : Int32) (p1 : Int32) (τ : FnI) : (fX7_endKey p0 p1 τ) = fX7_endKey_6 p0 p1 τ 33 (-5 : Int32) 0 := by
  simp only [fX7_endKey]
set_option maxHeartbeats 4000000 in
set_option maxRecDepth 100000 in
theorem kX7_endKey (l : Launch) (D : va_G) (cI cS : ClassId) (h0 h1 : Nat) (w1 : Nat) (w2 : Int32) (w3 : Nat) (w4 : Int32) (w5 : Nat) (w6 : Nat) (w7 : Int32) (w8 : Int32) (w9 : Int32) (w10 : Int32) (w11 : Int32) (w12 : Int32) (p0 : Int32) (p1 : Int32) (τ : FnI) (ht : TB p0) : KR l yX7_endKey wsX7_endKey { frames := 1, cells := 0, slots := 0, locals := 22 } D (tysA cI cS) [.ref h0, .int p0, .int p1] [(h0, .inr (7, [.ref h1, .ref w1, .int w2, .ref w3, .int w4, .ref w5, .ref w6, .int w7, .int w8, .int w9, .int w10, .int w11, .int w12])), (h1, .inl (cI, 163, .inl τ))] (fX7_endKey p0 p1 τ) := by
  refine KR.of (cc := cX7_endKey) (maxL := 5) (ty := .int) (by decide) rfl (Nat.le_of_ble_eq_true rfl) rfl (fun p e s m args below meth c ls Q hx hb hml hown hts hE hP hl hend => ?_)
  have hown : s.vm.findClass RX7 = some m.cls := hown
  have hl : lv_has ls 5 [(0, .ref h0), (1, .int p0), (2, .int p1)] := hl
  have loop_6 : ∀ (n : Nat) (x : Int32) (k : Nat), k ≤ 32 → 32 - k < n → (fX7_endKey p0 p1 τ) = fX7_endKey_6 p0 p1 τ n x k → ∀ (ls : Array Slot), lv_has ls 5 [(0, .ref h0), (1, .int p0), (2, .int p1), (3, .int x), (4, .int (nI k))] → W p l e { frames := 1, cells := 0, slots := 0, locals := 22 } s m args below meth c s.heap [] 0 0 Q (F0 m 6 ls []) := by
    intro n
    induction n with
    | zero =>
      intro x k hk hn
      exact absurd hn (by omega)
    | succ n ih =>
      intro x k hk hn hF ls hl
      refine lv_iload hx hb dX7_endKey_6 (lv_at hl 4 rfl) ?_
      refine lv_bipush (v := (32 : Int32)) hx hb dX7_endKey_8 (by decide +kernel) ?_
      refine lv_icmp_ge (tgt := 47) hx hb dX7_endKey_10 (by decide) (fun c_10 => ?_) (fun c_10 => ?_)
      · have d_10 : 32 ≤ k := (nI_leI (a := 32) (b := k) (by omega) (by omega)).mp c_10
        refine lv_iload_n hx hb dX7_endKey_47 rfl (lv_at hl 3 rfl) ?_
        exact hend _ _ _ dX7_endKey_48 rfl (hF.trans (fX7_endKey_6_p0 p0 p1 τ n x k c_10))
      · have d_10 : k < 32 := Nat.lt_of_not_le (fun q => c_10 ((nI_leI (a := 32) (b := k) (by omega) (by omega)).mpr q))
        refine lv_aload_n hx hb dX7_endKey_13 rfl (lv_at hl 0 rfl) ?_
        refine lv_iload_n hx hb dX7_endKey_14 rfl (lv_at hl 1 rfl) ?_
        refine lv_iload hx hb dX7_endKey_15 (lv_at hl 4 rfl) ?_
        refine cRV ⟨hx, hb, hml, hown, hts⟩ (kX7_row l D cI cS h0 h1 w1 w2 w3 w4 w5 w6 w7 w8 w9 w10 w11 w12 p0 (nI k) τ (zz_row ht (by omega))) (cwV 2 hts gX7_endKey_X7_row rfl rfl rfl (by decide +kernel) ⟨Nat.le_of_ble_eq_true rfl, Nat.le_of_ble_eq_true rfl⟩) hE hP 0 rfl rfl [0, 1] rfl rfl hl.1 rfl (Nat.le_of_ble_eq_true rfl) ⟨Nat.zero_le _, Nat.zero_le _⟩ dX7_endKey_17 ?_
        refine lv_iconst (v := (-1 : Int32)) hx hb dX7_endKey_20 (by decide +kernel) ?_
        refine lv_icmp_eq (tgt := 39) hx hb dX7_endKey_21 (by decide) (fun c_21 => ?_) (fun c_21 => ?_)
        · refine lv_iload_n hx hb dX7_endKey_39 rfl (lv_at hl 3 rfl) ?_
          refine lv_istore_n (lv' := [(3, .int x), (0, .ref h0), (1, .int p0), (2, .int p1), (4, .int (nI k))]) hx hb dX7_endKey_40 rfl hl (by decide) rfl (fun ls hl => ?_)
          refine lv_iinc (v := (nI (k + 1))) (lv' := [(4, .int (nI (k + 1))), (3, .int x), (0, .ref h0), (1, .int p0), (2, .int p1)]) hx hb dX7_endKey_41 hl (k := 4) rfl (nI_1 _) (by decide) rfl (fun ls hl => ?_)
          refine lv_goto (tgt := 6) hx hb dX7_endKey_44 (by decide) ?_
          exact ih x (k + 1) (by omega) (by omega) (hF.trans (fX7_endKey_6_p1 p0 p1 τ n x k c_10 c_21)) _ (lv_sub hl [2, 3, 4, 1, 0] rfl)
        · refine lv_iload_n hx hb dX7_endKey_24 rfl (lv_at hl 2 rfl) ?_
          refine lv_if_ne (tgt := 34) hx hb dX7_endKey_25 (by decide) (fun c_25 => ?_) (fun c_25 => ?_)
          · refine lv_iload hx hb dX7_endKey_34 (lv_at hl 4 rfl) ?_
            refine lv_goto (tgt := 40) hx hb dX7_endKey_36 (by decide) ?_
            refine lv_istore_n (lv' := [(3, .int (nI k)), (0, .ref h0), (1, .int p0), (2, .int p1), (4, .int (nI k))]) hx hb dX7_endKey_40 rfl hl (by decide) rfl (fun ls hl => ?_)
            refine lv_iinc (v := (nI (k + 1))) (lv' := [(4, .int (nI (k + 1))), (3, .int (nI k)), (0, .ref h0), (1, .int p0), (2, .int p1)]) hx hb dX7_endKey_41 hl (k := 4) rfl (nI_1 _) (by decide) rfl (fun ls hl => ?_)
            refine lv_goto (tgt := 6) hx hb dX7_endKey_44 (by decide) ?_
            exact ih (nI k) (k + 1) (by omega) (by omega) (hF.trans (fX7_endKey_6_p2 p0 p1 τ n x k c_10 c_21 c_25)) _ (lv_sub hl [2, 3, 4, 1, 0] rfl)
          · refine lv_iload_n hx hb dX7_endKey_28 rfl (lv_at hl 3 rfl) ?_
            refine lv_bipush (v := (-5 : Int32)) hx hb dX7_endKey_29 (by decide +kernel) ?_
            refine lv_icmp_ne (tgt := 39) hx hb dX7_endKey_31 (by decide) (fun c_31 => ?_) (fun c_31 => ?_)
            · refine lv_iload_n hx hb dX7_endKey_39 rfl (lv_at hl 3 rfl) ?_
              refine lv_istore_n (lv' := [(3, .int x), (0, .ref h0), (1, .int p0), (2, .int p1), (4, .int (nI k))]) hx hb dX7_endKey_40 rfl hl (by decide) rfl (fun ls hl => ?_)
              refine lv_iinc (v := (nI (k + 1))) (lv' := [(4, .int (nI (k + 1))), (3, .int x), (0, .ref h0), (1, .int p0), (2, .int p1)]) hx hb dX7_endKey_41 hl (k := 4) rfl (nI_1 _) (by decide) rfl (fun ls hl => ?_)
              refine lv_goto (tgt := 6) hx hb dX7_endKey_44 (by decide) ?_
              exact ih x (k + 1) (by omega) (by omega) (hF.trans (fX7_endKey_6_p3 p0 p1 τ n x k c_10 c_21 c_25 c_31)) _ (lv_sub hl [2, 3, 4, 1, 0] rfl)
            · refine lv_iload hx hb dX7_endKey_34 (lv_at hl 4 rfl) ?_
              refine lv_goto (tgt := 40) hx hb dX7_endKey_36 (by decide) ?_
              refine lv_istore_n (lv' := [(3, .int (nI k)), (0, .ref h0), (1, .int p0), (2, .int p1), (4, .int (nI k))]) hx hb dX7_endKey_40 rfl hl (by decide) rfl (fun ls hl => ?_)
              refine lv_iinc (v := (nI (k + 1))) (lv' := [(4, .int (nI (k + 1))), (3, .int (nI k)), (0, .ref h0), (1, .int p0), (2, .int p1)]) hx hb dX7_endKey_41 hl (k := 4) rfl (nI_1 _) (by decide) rfl (fun ls hl => ?_)
              refine lv_goto (tgt := 6) hx hb dX7_endKey_44 (by decide) ?_
              exact ih (nI k) (k + 1) (by omega) (by omega) (hF.trans (fX7_endKey_6_p4 p0 p1 τ n x k c_10 c_21 c_25 c_31)) _ (lv_sub hl [2, 3, 4, 1, 0] rfl)
  refine lv_bipush (v := (-5 : Int32)) hx hb dX7_endKey_0 (by decide +kernel) ?_
  refine lv_istore_n (lv' := [(3, .int (-5 : Int32)), (0, .ref h0), (1, .int p0), (2, .int p1)]) hx hb dX7_endKey_2 rfl hl (by decide) rfl (fun ls hl => ?_)
  refine lv_iconst (v := (0 : Int32)) hx hb dX7_endKey_3 (by decide +kernel) ?_
  refine lv_istore (lv' := [(4, .int (0 : Int32)), (3, .int (-5 : Int32)), (0, .ref h0), (1, .int p0), (2, .int p1)]) hx hb dX7_endKey_4 hl (by decide) rfl (fun ls hl => ?_)
  exact loop_6 33 (-5 : Int32) 0 (by omega) (by omega) (fX7_endKey_p5 p0 p1 τ) _ (lv_sub hl [2, 3, 4, 1, 0] rfl)

def fX7_due (p0 : Int32) (τ : FnI) : Int32 := (fX7_becomes (τ 1) p0 (fX7_row (0 : Int32) p0 τ))
theorem fX7_due_p0 (p0 : Int32) (τ : FnI) : (fX7_due p0 τ) = (fX7_becomes (τ 1) p0 (fX7_row (0 : Int32) p0 τ)) := by
  simp only [fX7_due]
set_option maxHeartbeats 4000000 in
set_option maxRecDepth 100000 in
theorem kX7_due (l : Launch) (D : va_G) (cI cS : ClassId) (h0 h1 : Nat) (w1 : Nat) (w2 : Int32) (w3 : Nat) (w4 : Int32) (w5 : Nat) (w6 : Nat) (w7 : Int32) (w8 : Int32) (w9 : Int32) (w10 : Int32) (w11 : Int32) (w12 : Int32) (p0 : Int32) (τ : FnI) (hk : Bd p0 31) : KR l yX7_due wsX7_due { frames := 1, cells := 0, slots := 0, locals := 22 } D (tysA cI cS) [.ref h0, .int p0] [(h0, .inr (7, [.ref h1, .ref w1, .int w2, .ref w3, .int w4, .ref w5, .ref w6, .int w7, .int w8, .int w9, .int w10, .int w11, .int w12])), (h1, .inl (cI, 163, .inl τ))] (fX7_due p0 τ) := by
  refine KR.of (cc := cX7_due) (maxL := 2) (ty := .int) (by decide) rfl (Nat.le_of_ble_eq_true rfl) rfl (fun p e s m args below meth c ls Q hx hb hml hown hts hE hP hl hend => ?_)
  have hown : s.vm.findClass RX7 = some m.cls := hown
  have hl : lv_has ls 2 [(0, .ref h0), (1, .int p0)] := hl
  refine lv_aload_n hx hb dX7_due_0 rfl (lv_at hl 0 rfl) ?_
  refine va_get (D := D) (ci := 7) (v := .ref h1) (C := RX7) (T := TX7) (N := 13) hx hb hts (fun _ h9 => List.mem_cons_of_mem _ (List.mem_append_right _ h9)) hown hE.1 hP 0 rfl rfl 0 (by decide) (hts (.fieldLink RX7 7 "ShadowTableModel" "s" "[I") (List.mem_of_getElem? (i := 1) rfl)) (fun _ h9 => h9) rfl dX7_due_1 ?_
  refine lv_iconst (v := (1 : Int32)) hx hb dX7_due_4 (by decide +kernel) ?_
  refine xld (v := (τ 1)) (j := 1) hx hb hE hP 1 rfl rfl cl_1 (in_1 (by decide)) rfl dX7_due_5 ?_
  refine lv_iload_n hx hb dX7_due_6 rfl (lv_at hl 1 rfl) ?_
  refine lv_aload_n hx hb dX7_due_7 rfl (lv_at hl 0 rfl) ?_
  refine lv_iconst (v := (0 : Int32)) hx hb dX7_due_8 (by decide +kernel) ?_
  refine lv_iload_n hx hb dX7_due_9 rfl (lv_at hl 1 rfl) ?_
  refine cRV ⟨hx, hb, hml, hown, hts⟩ (kX7_row l D cI cS h0 h1 w1 w2 w3 w4 w5 w6 w7 w8 w9 w10 w11 w12 (0 : Int32) p0 τ (zz_rowK zz_T0 hk)) (cwV 2 hts gX7_due_X7_row rfl rfl rfl (by decide +kernel) ⟨Nat.le_of_ble_eq_true rfl, Nat.le_of_ble_eq_true rfl⟩) hE hP 0 rfl rfl [0, 1] rfl rfl hl.1 rfl (Nat.le_of_ble_eq_true rfl) ⟨Nat.zero_le _, Nat.zero_le _⟩ dX7_due_10 ?_
  refine cRS ⟨hx, hb, hml, hown, hts⟩ (kX7_becomes l D cI cS (τ 1) p0 (fX7_row (0 : Int32) p0 τ)) (va_cwS 3 hts gX7_due_X7_becomes rfl rfl rfl (by decide +kernel) ⟨Nat.le_of_ble_eq_true rfl, Nat.le_of_ble_eq_true rfl⟩) hE hP [] rfl rfl hl.1 rfl (Nat.le_of_ble_eq_true rfl) ⟨Nat.zero_le _, Nat.zero_le _⟩ dX7_due_13 ?_
  exact hend _ _ _ dX7_due_16 rfl (fX7_due_p0 p0 τ)

def fX7_differing_4 (p0 : Int32) (τ : FnI) : Nat → Int32 → Nat → Int32
  | 0, cnt, k => 0
  | n + 1, cnt, k => (if (32 : Int32) ≤ (nI k) then (if p0 = (0 : Int32) then cnt else (-5 : Int32)) else (if (fX7_row (1 : Int32) (nI k) τ) = (fX7_due (nI k) τ) then fX7_differing_4 p0 τ n cnt (k + 1) else (if p0 = (0 : Int32) then fX7_differing_4 p0 τ n (cnt + (1 : Int32)) (k + 1) else (nI k))))
def fX7_differing (p0 : Int32) (τ : FnI) : Int32 := fX7_differing_4 p0 τ 33 (0 : Int32) 0
theorem fX7_differing_4_p0 (p0 : Int32) (τ : FnI) (n : Nat) (cnt : Int32) (k : Nat) (c_7 : (32 : Int32) ≤ (nI k)) (c_40 : p0 = (0 : Int32)) : fX7_differing_4 p0 τ (n + 1) cnt k = cnt := by
  simp only [fX7_differing_4, if_pos c_7, if_pos c_40]
theorem fX7_differing_4_p1 (p0 : Int32) (τ : FnI) (n : Nat) (cnt : Int32) (k : Nat) (c_7 : (32 : Int32) ≤ (nI k)) (c_40 : ¬ p0 = (0 : Int32)) : fX7_differing_4 p0 τ (n + 1) cnt k = (-5 : Int32) := by
  simp only [fX7_differing_4, if_pos c_7, if_neg c_40]
theorem fX7_differing_4_p2 (p0 : Int32) (τ : FnI) (n : Nat) (cnt : Int32) (k : Nat) (c_7 : ¬ (32 : Int32) ≤ (nI k)) (c_21 : (fX7_row (1 : Int32) (nI k) τ) = (fX7_due (nI k) τ)) : fX7_differing_4 p0 τ (n + 1) cnt k = fX7_differing_4 p0 τ n cnt (k + 1) := by
  simp only [fX7_differing_4, if_neg c_7, if_pos c_21]
theorem fX7_differing_4_p3 (p0 : Int32) (τ : FnI) (n : Nat) (cnt : Int32) (k : Nat) (c_7 : ¬ (32 : Int32) ≤ (nI k)) (c_21 : ¬ (fX7_row (1 : Int32) (nI k) τ) = (fX7_due (nI k) τ)) (c_25 : p0 = (0 : Int32)) : fX7_differing_4 p0 τ (n + 1) cnt k = fX7_differing_4 p0 τ n (cnt + (1 : Int32)) (k + 1) := by
  simp only [fX7_differing_4, if_neg c_7, if_neg c_21, if_pos c_25]
theorem fX7_differing_4_p4 (p0 : Int32) (τ : FnI) (n : Nat) (cnt : Int32) (k : Nat) (c_7 : ¬ (32 : Int32) ≤ (nI k)) (c_21 : ¬ (fX7_row (1 : Int32) (nI k) τ) = (fX7_due (nI k) τ)) (c_25 : ¬ p0 = (0 : Int32)) : fX7_differing_4 p0 τ (n + 1) cnt k = (nI k) := by
  simp only [fX7_differing_4, if_neg c_7, if_neg c_21, if_neg c_25]
theorem fX7_differing_p5 (p0 : Int32) (τ : FnI) : (fX7_differing p0 τ) = fX7_differing_4 p0 τ 33 (0 : Int32) 0 := by
  simp only [fX7_differing]
set_option maxHeartbeats 4000000 in
set_option maxRecDepth 100000 in
theorem kX7_differing (l : Launch) (D : va_G) (cI cS : ClassId) (h0 h1 : Nat) (w1 : Nat) (w2 : Int32) (w3 : Nat) (w4 : Int32) (w5 : Nat) (w6 : Nat) (w7 : Int32) (w8 : Int32) (w9 : Int32) (w10 : Int32) (w11 : Int32) (w12 : Int32) (p0 : Int32) (τ : FnI) : KR l yX7_differing wsX7_differing { frames := 2, cells := 0, slots := 0, locals := 43 } D (tysA cI cS) [.ref h0, .int p0] [(h0, .inr (7, [.ref h1, .ref w1, .int w2, .ref w3, .int w4, .ref w5, .ref w6, .int w7, .int w8, .int w9, .int w10, .int w11, .int w12])), (h1, .inl (cI, 163, .inl τ))] (fX7_differing p0 τ) := by
  refine KR.of (cc := cX7_differing) (maxL := 4) (ty := .int) (by decide) rfl (Nat.le_of_ble_eq_true rfl) rfl (fun p e s m args below meth c ls Q hx hb hml hown hts hE hP hl hend => ?_)
  have hown : s.vm.findClass RX7 = some m.cls := hown
  have hl : lv_has ls 4 [(0, .ref h0), (1, .int p0)] := hl
  have loop_4 : ∀ (n : Nat) (cnt : Int32) (k : Nat), k ≤ 32 → 32 - k < n → (fX7_differing p0 τ) = fX7_differing_4 p0 τ n cnt k → ∀ (ls : Array Slot), lv_has ls 4 [(0, .ref h0), (1, .int p0), (2, .int cnt), (3, .int (nI k))] → W p l e { frames := 2, cells := 0, slots := 0, locals := 43 } s m args below meth c s.heap [] 0 0 Q (F0 m 4 ls []) := by
    intro n
    induction n with
    | zero =>
      intro cnt k hk hn
      exact absurd hn (by omega)
    | succ n ih =>
      intro cnt k hk hn hF ls hl
      refine lv_iload_n hx hb dX7_differing_4 rfl (lv_at hl 3 rfl) ?_
      refine lv_bipush (v := (32 : Int32)) hx hb dX7_differing_5 (by decide +kernel) ?_
      refine lv_icmp_ge (tgt := 39) hx hb dX7_differing_7 (by decide) (fun c_7 => ?_) (fun c_7 => ?_)
      · have d_7 : 32 ≤ k := (nI_leI (a := 32) (b := k) (by omega) (by omega)).mp c_7
        refine lv_iload_n hx hb dX7_differing_39 rfl (lv_at hl 1 rfl) ?_
        refine lv_if_eq (tgt := 48) hx hb dX7_differing_40 (by decide) (fun c_40 => ?_) (fun c_40 => ?_)
        · refine lv_iload_n hx hb dX7_differing_48 rfl (lv_at hl 2 rfl) ?_
          exact hend _ _ _ dX7_differing_49 rfl (hF.trans (fX7_differing_4_p0 p0 τ n cnt k c_7 c_40))
        · refine lv_bipush (v := (-5 : Int32)) hx hb dX7_differing_43 (by decide +kernel) ?_
          refine lv_goto (tgt := 49) hx hb dX7_differing_45 (by decide) ?_
          exact hend _ _ _ dX7_differing_49 rfl (hF.trans (fX7_differing_4_p1 p0 τ n cnt k c_7 c_40))
      · have d_7 : k < 32 := Nat.lt_of_not_le (fun q => c_7 ((nI_leI (a := 32) (b := k) (by omega) (by omega)).mpr q))
        refine lv_aload_n hx hb dX7_differing_10 rfl (lv_at hl 0 rfl) ?_
        refine lv_iconst (v := (1 : Int32)) hx hb dX7_differing_11 (by decide +kernel) ?_
        refine lv_iload_n hx hb dX7_differing_12 rfl (lv_at hl 3 rfl) ?_
        refine cRV ⟨hx, hb, hml, hown, hts⟩ (kX7_row l D cI cS h0 h1 w1 w2 w3 w4 w5 w6 w7 w8 w9 w10 w11 w12 (1 : Int32) (nI k) τ (zz_row zz_T1 (by omega))) (cwV 2 hts gX7_differing_X7_row rfl rfl rfl (by decide +kernel) ⟨Nat.le_of_ble_eq_true rfl, Nat.le_of_ble_eq_true rfl⟩) hE hP 0 rfl rfl [0, 1] rfl rfl hl.1 rfl (Nat.le_of_ble_eq_true rfl) ⟨Nat.zero_le _, Nat.zero_le _⟩ dX7_differing_13 ?_
        refine lv_aload_n hx hb dX7_differing_16 rfl (lv_at hl 0 rfl) ?_
        refine lv_iload_n hx hb dX7_differing_17 rfl (lv_at hl 3 rfl) ?_
        refine cRV ⟨hx, hb, hml, hown, hts⟩ (kX7_due l D cI cS h0 h1 w1 w2 w3 w4 w5 w6 w7 w8 w9 w10 w11 w12 (nI k) τ (Bd.of (by omega) (by omega))) (cwV 1 hts gX7_differing_X7_due rfl rfl rfl (by decide +kernel) ⟨Nat.le_of_ble_eq_true rfl, Nat.le_of_ble_eq_true rfl⟩) hE hP 0 rfl rfl [0, 1] rfl rfl hl.1 rfl (Nat.le_of_ble_eq_true rfl) ⟨Nat.zero_le _, Nat.zero_le _⟩ dX7_differing_18 ?_
        refine lv_icmp_eq (tgt := 33) hx hb dX7_differing_21 (by decide) (fun c_21 => ?_) (fun c_21 => ?_)
        · refine lv_iinc (v := (nI (k + 1))) (lv' := [(3, .int (nI (k + 1))), (0, .ref h0), (1, .int p0), (2, .int cnt)]) hx hb dX7_differing_33 hl (k := 3) rfl (nI_1 _) (by decide) rfl (fun ls hl => ?_)
          refine lv_goto (tgt := 4) hx hb dX7_differing_36 (by decide) ?_
          exact ih cnt (k + 1) (by omega) (by omega) (hF.trans (fX7_differing_4_p2 p0 τ n cnt k c_7 c_21)) _ (lv_sub hl [1, 2, 3, 0] rfl)
        · refine lv_iload_n hx hb dX7_differing_24 rfl (lv_at hl 1 rfl) ?_
          refine lv_if_eq (tgt := 30) hx hb dX7_differing_25 (by decide) (fun c_25 => ?_) (fun c_25 => ?_)
          · refine lv_iinc (v := (cnt + (1 : Int32))) (lv' := [(2, .int (cnt + (1 : Int32))), (0, .ref h0), (1, .int p0), (3, .int (nI k))]) hx hb dX7_differing_30 hl (k := 2) rfl rfl (by decide) rfl (fun ls hl => ?_)
            refine lv_iinc (v := (nI (k + 1))) (lv' := [(3, .int (nI (k + 1))), (2, .int (cnt + (1 : Int32))), (0, .ref h0), (1, .int p0)]) hx hb dX7_differing_33 hl (k := 3) rfl (nI_1 _) (by decide) rfl (fun ls hl => ?_)
            refine lv_goto (tgt := 4) hx hb dX7_differing_36 (by decide) ?_
            exact ih (cnt + (1 : Int32)) (k + 1) (by omega) (by omega) (hF.trans (fX7_differing_4_p3 p0 τ n cnt k c_7 c_21 c_25)) _ (lv_sub hl [2, 3, 1, 0] rfl)
          · refine lv_iload_n hx hb dX7_differing_28 rfl (lv_at hl 3 rfl) ?_
            exact hend _ _ _ dX7_differing_29 rfl (hF.trans (fX7_differing_4_p4 p0 τ n cnt k c_7 c_21 c_25))
  refine lv_iconst (v := (0 : Int32)) hx hb dX7_differing_0 (by decide +kernel) ?_
  refine lv_istore_n (lv' := [(2, .int (0 : Int32)), (0, .ref h0), (1, .int p0)]) hx hb dX7_differing_1 rfl hl (by decide) rfl (fun ls hl => ?_)
  refine lv_iconst (v := (0 : Int32)) hx hb dX7_differing_2 (by decide +kernel) ?_
  refine lv_istore_n (lv' := [(3, .int (0 : Int32)), (2, .int (0 : Int32)), (0, .ref h0), (1, .int p0)]) hx hb dX7_differing_3 rfl hl (by decide) rfl (fun ls hl => ?_)
  exact loop_4 33 (0 : Int32) 0 (by omega) (by omega) (fX7_differing_p5 p0 τ) _ (lv_sub hl [2, 3, 1, 0] rfl)

def fX7_isTable (p0 : Int32) (τ : FnI) : Int32 := (if p0 = (0 : Int32) then (1 : Int32) else (if p0 = (1 : Int32) then (if (fX7_isCopy τ) = (0 : Int32) then (if p0 = (2 : Int32) then (if (τ 6) = (1 : Int32) then (1 : Int32) else (0 : Int32)) else (0 : Int32)) else (1 : Int32)) else (if p0 = (2 : Int32) then (if (τ 6) = (1 : Int32) then (1 : Int32) else (0 : Int32)) else (0 : Int32))))
theorem fX7_isTable_p0 (p0 : Int32) (τ : FnI) (c_1 : p0 = (0 : Int32)) : (fX7_isTable p0 τ) = (1 : Int32) := by
  simp only [fX7_isTable, if_pos c_1]
theorem fX7_isTable_p1 (p0 : Int32) (τ : FnI) (c_1 : ¬ p0 = (0 : Int32)) (c_6 : ¬ p0 = (1 : Int32)) (c_18 : ¬ p0 = (2 : Int32)) : (fX7_isTable p0 τ) = (0 : Int32) := by
  simp only [fX7_isTable, if_neg c_1, if_neg c_6, if_neg c_18]
theorem fX7_isTable_p2 (p0 : Int32) (τ : FnI) (c_1 : ¬ p0 = (0 : Int32)) (c_6 : ¬ p0 = (1 : Int32)) (c_18 : p0 = (2 : Int32)) (c_29 : ¬ (τ 6) = (1 : Int32)) : (fX7_isTable p0 τ) = (0 : Int32) := by
  simp only [fX7_isTable, if_neg c_1, if_neg c_6, if_pos c_18, if_neg c_29]
theorem fX7_isTable_p3 (p0 : Int32) (τ : FnI) (c_1 : ¬ p0 = (0 : Int32)) (c_6 : ¬ p0 = (1 : Int32)) (c_18 : p0 = (2 : Int32)) (c_29 : (τ 6) = (1 : Int32)) : (fX7_isTable p0 τ) = (1 : Int32) := by
  simp only [fX7_isTable, if_neg c_1, if_neg c_6, if_pos c_18, if_pos c_29]
theorem fX7_isTable_p4 (p0 : Int32) (τ : FnI) (c_1 : ¬ p0 = (0 : Int32)) (c_6 : p0 = (1 : Int32)) (c_13 : ¬ (fX7_isCopy τ) = (0 : Int32)) : (fX7_isTable p0 τ) = (1 : Int32) := by
  simp only [fX7_isTable, if_neg c_1, if_pos c_6, if_neg c_13]
theorem fX7_isTable_p5 (p0 : Int32) (τ : FnI) (c_1 : ¬ p0 = (0 : Int32)) (c_6 : p0 = (1 : Int32)) (c_13 : (fX7_isCopy τ) = (0 : Int32)) (c_18 : ¬ p0 = (2 : Int32)) : (fX7_isTable p0 τ) = (0 : Int32) := by
  simp only [fX7_isTable, if_neg c_1, if_pos c_6, if_pos c_13, if_neg c_18]
theorem fX7_isTable_p6 (p0 : Int32) (τ : FnI) (c_1 : ¬ p0 = (0 : Int32)) (c_6 : p0 = (1 : Int32)) (c_13 : (fX7_isCopy τ) = (0 : Int32)) (c_18 : p0 = (2 : Int32)) (c_29 : ¬ (τ 6) = (1 : Int32)) : (fX7_isTable p0 τ) = (0 : Int32) := by
  simp only [fX7_isTable, if_neg c_1, if_pos c_6, if_pos c_13, if_pos c_18, if_neg c_29]
theorem fX7_isTable_p7 (p0 : Int32) (τ : FnI) (c_1 : ¬ p0 = (0 : Int32)) (c_6 : p0 = (1 : Int32)) (c_13 : (fX7_isCopy τ) = (0 : Int32)) (c_18 : p0 = (2 : Int32)) (c_29 : (τ 6) = (1 : Int32)) : (fX7_isTable p0 τ) = (1 : Int32) := by
  simp only [fX7_isTable, if_neg c_1, if_pos c_6, if_pos c_13, if_pos c_18, if_pos c_29]
set_option maxHeartbeats 4000000 in
set_option maxRecDepth 100000 in
theorem kX7_isTable (l : Launch) (D : va_G) (cI cS : ClassId) (h0 h1 : Nat) (w1 : Nat) (w2 : Int32) (w3 : Nat) (w4 : Int32) (w5 : Nat) (w6 : Nat) (w7 : Int32) (w8 : Int32) (w9 : Int32) (w10 : Int32) (w11 : Int32) (w12 : Int32) (p0 : Int32) (τ : FnI) : KR l yX7_isTable wsX7_isTable { frames := 1, cells := 0, slots := 0, locals := 20 } D (tysA cI cS) [.ref h0, .int p0] [(h0, .inr (7, [.ref h1, .ref w1, .int w2, .ref w3, .int w4, .ref w5, .ref w6, .int w7, .int w8, .int w9, .int w10, .int w11, .int w12])), (h1, .inl (cI, 163, .inl τ))] (fX7_isTable p0 τ) := by
  refine KR.of (cc := cX7_isTable) (maxL := 2) (ty := .boolean) (by decide) rfl (Nat.le_of_ble_eq_true rfl) rfl (fun p e s m args below meth c ls Q hx hb hml hown hts hE hP hl hend => ?_)
  have hown : s.vm.findClass RX7 = some m.cls := hown
  have hl : lv_has ls 2 [(0, .ref h0), (1, .int p0)] := hl
  refine lv_iload_n hx hb dX7_isTable_0 rfl (lv_at hl 1 rfl) ?_
  refine lv_if_eq (tgt := 32) hx hb dX7_isTable_1 (by decide) (fun c_1 => ?_) (fun c_1 => ?_)
  · refine lv_iconst (v := (1 : Int32)) hx hb dX7_isTable_32 (by decide +kernel) ?_
    refine lv_goto (tgt := 37) hx hb dX7_isTable_33 (by decide) ?_
    exact hend _ _ _ dX7_isTable_37 rfl (fX7_isTable_p0 p0 τ c_1)
  · refine lv_iload_n hx hb dX7_isTable_4 rfl (lv_at hl 1 rfl) ?_
    refine lv_iconst (v := (1 : Int32)) hx hb dX7_isTable_5 (by decide +kernel) ?_
    refine lv_icmp_ne (tgt := 16) hx hb dX7_isTable_6 (by decide) (fun c_6 => ?_) (fun c_6 => ?_)
    · refine lv_iload_n hx hb dX7_isTable_16 rfl (lv_at hl 1 rfl) ?_
      refine lv_iconst (v := (2 : Int32)) hx hb dX7_isTable_17 (by decide +kernel) ?_
      refine lv_icmp_ne (tgt := 36) hx hb dX7_isTable_18 (by decide) (fun c_18 => ?_) (fun c_18 => ?_)
      · refine lv_iconst (v := (0 : Int32)) hx hb dX7_isTable_36 (by decide +kernel) ?_
        exact hend _ _ _ dX7_isTable_37 rfl (fX7_isTable_p1 p0 τ c_1 c_6 c_18)
      · refine lv_aload_n hx hb dX7_isTable_21 rfl (lv_at hl 0 rfl) ?_
        refine va_get (D := D) (ci := 7) (v := .ref h1) (C := RX7) (T := TX7) (N := 13) hx hb hts (fun _ h9 => List.mem_cons_of_mem _ (List.mem_append_right _ h9)) hown hE.1 hP 0 rfl rfl 0 (by decide) (hts (.fieldLink RX7 7 "ShadowTableModel" "s" "[I") (List.mem_of_getElem? (i := 1) rfl)) (fun _ h9 => h9) rfl dX7_isTable_22 ?_
        refine lv_bipush (v := (6 : Int32)) hx hb dX7_isTable_25 (by decide +kernel) ?_
        refine xld (v := (τ 6)) (j := 6) hx hb hE hP 1 rfl rfl cl_6 (in_6 (by decide)) rfl dX7_isTable_27 ?_
        refine lv_iconst (v := (1 : Int32)) hx hb dX7_isTable_28 (by decide +kernel) ?_
        refine lv_icmp_ne (tgt := 36) hx hb dX7_isTable_29 (by decide) (fun c_29 => ?_) (fun c_29 => ?_)
        · refine lv_iconst (v := (0 : Int32)) hx hb dX7_isTable_36 (by decide +kernel) ?_
          exact hend _ _ _ dX7_isTable_37 rfl (fX7_isTable_p2 p0 τ c_1 c_6 c_18 c_29)
        · refine lv_iconst (v := (1 : Int32)) hx hb dX7_isTable_32 (by decide +kernel) ?_
          refine lv_goto (tgt := 37) hx hb dX7_isTable_33 (by decide) ?_
          exact hend _ _ _ dX7_isTable_37 rfl (fX7_isTable_p3 p0 τ c_1 c_6 c_18 c_29)
    · refine lv_aload_n hx hb dX7_isTable_9 rfl (lv_at hl 0 rfl) ?_
      refine cRV ⟨hx, hb, hml, hown, hts⟩ (kX7_isCopy l D cI cS h0 h1 w1 w2 w3 w4 w5 w6 w7 w8 w9 w10 w11 w12 τ) (cwV 0 hts gX7_isTable_X7_isCopy rfl rfl rfl (by decide +kernel) ⟨Nat.le_of_ble_eq_true rfl, Nat.le_of_ble_eq_true rfl⟩) hE hP 0 rfl rfl [0, 1] rfl rfl hl.1 rfl (Nat.le_of_ble_eq_true rfl) ⟨Nat.zero_le _, Nat.zero_le _⟩ dX7_isTable_10 ?_
      refine lv_if_ne (tgt := 32) hx hb dX7_isTable_13 (by decide) (fun c_13 => ?_) (fun c_13 => ?_)
      · refine lv_iconst (v := (1 : Int32)) hx hb dX7_isTable_32 (by decide +kernel) ?_
        refine lv_goto (tgt := 37) hx hb dX7_isTable_33 (by decide) ?_
        exact hend _ _ _ dX7_isTable_37 rfl (fX7_isTable_p4 p0 τ c_1 c_6 c_13)
      · refine lv_iload_n hx hb dX7_isTable_16 rfl (lv_at hl 1 rfl) ?_
        refine lv_iconst (v := (2 : Int32)) hx hb dX7_isTable_17 (by decide +kernel) ?_
        refine lv_icmp_ne (tgt := 36) hx hb dX7_isTable_18 (by decide) (fun c_18 => ?_) (fun c_18 => ?_)
        · refine lv_iconst (v := (0 : Int32)) hx hb dX7_isTable_36 (by decide +kernel) ?_
          exact hend _ _ _ dX7_isTable_37 rfl (fX7_isTable_p5 p0 τ c_1 c_6 c_13 c_18)
        · refine lv_aload_n hx hb dX7_isTable_21 rfl (lv_at hl 0 rfl) ?_
          refine va_get (D := D) (ci := 7) (v := .ref h1) (C := RX7) (T := TX7) (N := 13) hx hb hts (fun _ h9 => List.mem_cons_of_mem _ (List.mem_append_right _ h9)) hown hE.1 hP 0 rfl rfl 0 (by decide) (hts (.fieldLink RX7 7 "ShadowTableModel" "s" "[I") (List.mem_of_getElem? (i := 1) rfl)) (fun _ h9 => h9) rfl dX7_isTable_22 ?_
          refine lv_bipush (v := (6 : Int32)) hx hb dX7_isTable_25 (by decide +kernel) ?_
          refine xld (v := (τ 6)) (j := 6) hx hb hE hP 1 rfl rfl cl_6 (in_6 (by decide)) rfl dX7_isTable_27 ?_
          refine lv_iconst (v := (1 : Int32)) hx hb dX7_isTable_28 (by decide +kernel) ?_
          refine lv_icmp_ne (tgt := 36) hx hb dX7_isTable_29 (by decide) (fun c_29 => ?_) (fun c_29 => ?_)
          · refine lv_iconst (v := (0 : Int32)) hx hb dX7_isTable_36 (by decide +kernel) ?_
            exact hend _ _ _ dX7_isTable_37 rfl (fX7_isTable_p6 p0 τ c_1 c_6 c_13 c_18 c_29)
          · refine lv_iconst (v := (1 : Int32)) hx hb dX7_isTable_32 (by decide +kernel) ?_
            refine lv_goto (tgt := 37) hx hb dX7_isTable_33 (by decide) ?_
            exact hend _ _ _ dX7_isTable_37 rfl (fX7_isTable_p7 p0 τ c_1 c_6 c_13 c_18 c_29)

def fX7_copyAll_3 (p1 : Int32) (p3 : Int32) (τ : FnI) : Nat → Nat → FnI → FnI
  | 0, k, σ => σ
  | n + 1, k, σ => (if (163 : Int32) ≤ (nI k) then σ else fX7_copyAll_3 p1 p3 τ n (k + 1) (upd σ (p3.toNatClampNeg + k) (τ (p1.toNatClampNeg + k))))
def fX7_copyAll (p1 : Int32) (p3 : Int32) (τ : FnI) (υ : FnI) : FnI := fX7_copyAll_3 p1 p3 τ 164 0 υ
theorem fX7_copyAll_3_p0 (p1 : Int32) (p3 : Int32) (τ : FnI) (n : Nat) (k : Nat) (σ : FnI) (c_8 : (163 : Int32) ≤ (nI k)) : fX7_copyAll_3 p1 p3 τ (n + 1) k σ = σ := by
  simp only [fX7_copyAll_3, if_pos c_8]
theorem fX7_copyAll_3_p1 (p1 : Int32) (p3 : Int32) (τ : FnI) (n : Nat) (k : Nat) (σ : FnI) (c_8 : ¬ (163 : Int32) ≤ (nI k)) : fX7_copyAll_3 p1 p3 τ (n + 1) k σ = fX7_copyAll_3 p1 p3 τ n (k + 1) (upd σ (p3.toNatClampNeg + k) (τ (p1.toNatClampNeg + k))) := by
  simp only [fX7_copyAll_3, if_neg c_8]
theorem fX7_copyAll_p2 (p1 : Int32) (p3 : Int32) (τ : FnI) (υ : FnI) : (fX7_copyAll p1 p3 τ υ) = fX7_copyAll_3 p1 p3 τ 164 0 υ := by
  simp only [fX7_copyAll]
set_option maxHeartbeats 4000000 in
set_option maxRecDepth 100000 in
theorem kX7_copyAll (l : Launch) (D : va_G) (cI cS : ClassId) (h0 h1 : Nat) (p1 : Int32) (p3 : Int32) (τ : FnI) (υ : FnI) (n1 : Nat) (n2 : Nat) (g1 : Bd p1 652) (g1n : p1.toNatClampNeg + 163 ≤ n1) (g1m : n1 < 2 ^ 31) (g3 : Bd p3 652) (g3n : p3.toNatClampNeg + 163 ≤ n2) (g3m : n2 < 2 ^ 31) : KV l yX7_copyAll wsX7_copyAll { frames := 0, cells := 0, slots := 0, locals := 0 } D (tysA cI cS) [.ref h0, .int p1, .ref h1, .int p3] [(h0, .inl (cI, n1, .inl τ)), (h1, .inl (cI, n2, .inl υ))] (fX7_copyAll p1 p3 τ υ) (fun u => [(h0, .inl (cI, n1, .inl τ)), (h1, .inl (cI, n2, .inl u))]) := by
  refine KV.of (cc := cX7_copyAll) (maxL := 5) (by decide) rfl (Nat.le_of_ble_eq_true rfl) rfl (fun p e s m args below meth c ls Q A hx hb hml hown hts hE hP hD hS hl hend => ?_)
  have hown : s.vm.findClass RX7 = some m.cls := hown
  have hl : lv_has ls 5 [(0, .ref h0), (1, .int p1), (2, .ref h1), (3, .int p3)] := hl
  have loop_3 : ∀ (n : Nat) (k : Nat) (σ : FnI), k ≤ 163 → 163 - k < n → (fX7_copyAll p1 p3 τ υ) = fX7_copyAll_3 p1 p3 τ n k σ → ∀ (H : Heap) (locs : List Loc), va_P D vwCl [(h0, .inl (cI, n1, .inl τ)), (h1, .inl (cI, n2, .inl σ))] H → va_D A [(h0, .inl (cI, n1, .inl τ)), (h1, .inl (cI, n2, .inl σ))] → va_S A s.heap H locs → ∀ (ls : Array Slot), lv_has ls 5 [(0, .ref h0), (1, .int p1), (2, .ref h1), (3, .int p3), (4, .int (nI k))] → W p l e { frames := 0, cells := 0, slots := 0, locals := 0 } s m args below meth c H locs 0 0 Q (F0 m 3 ls []) := by
    intro n
    induction n with
    | zero =>
      intro k σ hk hn
      exact absurd hn (by omega)
    | succ n ih =>
      intro k σ hk hn hF H locs hP hD hS ls hl
      refine lv_iload hx hb dX7_copyAll_3 (lv_at hl 4 rfl) ?_
      refine lv_sipush (v := (163 : Int32)) hx hb dX7_copyAll_5 (by decide +kernel) ?_
      refine lv_icmp_ge (tgt := 29) hx hb dX7_copyAll_8 (by decide) (fun c_8 => ?_) (fun c_8 => ?_)
      · have d_8 : 163 ≤ k := (nI_leI (a := 163) (b := k) (by omega) (by omega)).mp c_8
        exact hend _ _ _ _ _ dX7_copyAll_29 (hF.trans (fX7_copyAll_3_p0 p1 p3 τ n k σ c_8)) hP hS
      · have d_8 : k < 163 := Nat.lt_of_not_le (fun q => c_8 ((nI_leI (a := 163) (b := k) (by omega) (by omega)).mpr q))
        refine lv_aload_n hx hb dX7_copyAll_11 rfl (lv_at hl 2 rfl) ?_
        refine lv_iload_n hx hb dX7_copyAll_12 rfl (lv_at hl 3 rfl) ?_
        refine lv_iload hx hb dX7_copyAll_13 (lv_at hl 4 rfl) ?_
        refine lv_iadd hx hb dX7_copyAll_15 ?_
        refine lv_aload_n hx hb dX7_copyAll_16 rfl (lv_at hl 0 rfl) ?_
        refine lv_iload_n hx hb dX7_copyAll_17 rfl (lv_at hl 1 rfl) ?_
        refine lv_iload hx hb dX7_copyAll_18 (lv_at hl 4 rfl) ?_
        refine lv_iadd hx hb dX7_copyAll_20 ?_
        refine xld (v := (τ (p1.toNatClampNeg + k))) (j := (p1.toNatClampNeg + k)) hx hb hE hP 0 rfl rfl (zz_ax g1 (by omega) (by omega)) (zz_ai g1 (by omega) (by omega) (by omega)) rfl dX7_copyAll_21 ?_
        refine xst (j := (p3.toNatClampNeg + k)) hx hb hE hP hD hS 1 rfl rfl (zz_ax g3 (by omega) (by omega)) (zz_ai g3 (by omega) (by omega) (by omega)) [(h0, .inl (cI, n1, .inl τ)), (h1, .inl (cI, n2, .inl (upd σ (p3.toNatClampNeg + k) (τ (p1.toNatClampNeg + k)))))] rfl dX7_copyAll_22 (fun H locs hP hD hS => ?_)
        refine lv_iinc (v := (nI (k + 1))) (lv' := [(4, .int (nI (k + 1))), (0, .ref h0), (1, .int p1), (2, .ref h1), (3, .int p3)]) hx hb dX7_copyAll_23 hl (k := 4) rfl (nI_1 _) (by decide) rfl (fun ls hl => ?_)
        refine lv_goto (tgt := 3) hx hb dX7_copyAll_26 (by decide) ?_
        exact ih (k + 1) (upd σ (p3.toNatClampNeg + k) (τ (p1.toNatClampNeg + k))) (by omega) (by omega) (hF.trans (fX7_copyAll_3_p1 p1 p3 τ n k σ c_8)) _ _ hP hD hS _ (lv_sub hl [1, 2, 3, 4, 0] rfl)
  refine lv_iconst (v := (0 : Int32)) hx hb dX7_copyAll_0 (by decide +kernel) ?_
  refine lv_istore (lv' := [(4, .int (0 : Int32)), (0, .ref h0), (1, .int p1), (2, .ref h1), (3, .int p3)]) hx hb dX7_copyAll_1 hl (by decide) rfl (fun ls hl => ?_)
  exact loop_3 164 0 υ (by omega) (by omega) (fX7_copyAll_p2 p1 p3 τ υ) _ _ hP hD hS _ (lv_sub hl [1, 2, 3, 4, 0] rfl)

def fX7_record_10 : Nat → Nat → MHT → MHT
  | 0, k, σ => σ
  | n + 1, k, σ => (if (652 : Int32) ≤ (nI k) then (let u_66 := (fX7_copyAll (0 : Int32) ((163 : Int32) * (σ.2.2 - (1 : Int32))) σ.1 σ.2.1); (σ.1, u_66, ((σ.2.2 - (1 : Int32)) + (1 : Int32)))) else fX7_record_10 n (k + 1) (σ.1, (upd σ.2.1 k (σ.2.1 (163 + k))), σ.2.2))
def fX7_record (τ : MHT) : MHT := (if τ.2.2 = (5 : Int32) then fX7_record_10 653 0 τ else (let u_66 := (fX7_copyAll (0 : Int32) ((163 : Int32) * τ.2.2) τ.1 τ.2.1); (τ.1, u_66, (τ.2.2 + (1 : Int32)))))
theorem fX7_record_10_p0 (n : Nat) (k : Nat) (σ : MHT) (c_14 : (652 : Int32) ≤ (nI k)) (u_66 : FnI) (e_66 : (fX7_copyAll (0 : Int32) ((163 : Int32) * (σ.2.2 - (1 : Int32))) σ.1 σ.2.1) = u_66) : fX7_record_10 (n + 1) k σ = (σ.1, u_66, ((σ.2.2 - (1 : Int32)) + (1 : Int32))) := by
  simp only [fX7_record_10, if_pos c_14, e_66]
theorem fX7_record_10_p1 (n : Nat) (k : Nat) (σ : MHT) (c_14 : ¬ (652 : Int32) ≤ (nI k)) : fX7_record_10 (n + 1) k σ = fX7_record_10 n (k + 1) (σ.1, (upd σ.2.1 k (σ.2.1 (163 + k))), σ.2.2) := by
  simp only [fX7_record_10, if_neg c_14]
theorem fX7_record_p2 (τ : MHT) (c_5 : ¬ τ.2.2 = (5 : Int32)) (u_66 : FnI) (e_66 : (fX7_copyAll (0 : Int32) ((163 : Int32) * τ.2.2) τ.1 τ.2.1) = u_66) : (fX7_record τ) = (τ.1, u_66, (τ.2.2 + (1 : Int32))) := by
  simp only [fX7_record, if_neg c_5, e_66]
theorem fX7_record_p3 (τ : MHT) (c_5 : τ.2.2 = (5 : Int32)) : (fX7_record τ) = fX7_record_10 653 0 τ := by
  simp only [fX7_record, if_pos c_5]
set_option maxHeartbeats 4000000 in
set_option maxRecDepth 100000 in
theorem kX7_record (l : Launch) (D : va_G) (cI cS : ClassId) (h0 h1 h2 : Nat) (w3 : Nat) (w4 : Int32) (w5 : Nat) (w6 : Nat) (w7 : Int32) (w8 : Int32) (w9 : Int32) (w10 : Int32) (w11 : Int32) (w12 : Int32) (τ : MHT) (hkp : Bd τ.2.2 5) : KV l yX7_record wsX7_record { frames := 1, cells := 0, slots := 0, locals := 24 } D (tysA cI cS) [.ref h0] [(h0, .inr (7, [.ref h1, .ref h2, .int τ.2.2, .ref w3, .int w4, .ref w5, .ref w6, .int w7, .int w8, .int w9, .int w10, .int w11, .int w12])), (h1, .inl (cI, 163, .inl τ.1)), (h2, .inl (cI, 815, .inl τ.2.1))] (fX7_record τ) (fun u => [(h0, .inr (7, [.ref h1, .ref h2, .int u.2.2, .ref w3, .int w4, .ref w5, .ref w6, .int w7, .int w8, .int w9, .int w10, .int w11, .int w12])), (h1, .inl (cI, 163, .inl u.1)), (h2, .inl (cI, 815, .inl u.2.1))]) := by
  refine KV.of (cc := cX7_record) (maxL := 2) (by decide) rfl (Nat.le_of_ble_eq_true rfl) rfl (fun p e s m args below meth c ls Q A hx hb hml hown hts hE hP hD hS hl hend => ?_)
  have hown : s.vm.findClass RX7 = some m.cls := hown
  have hl : lv_has ls 2 [(0, .ref h0)] := hl
  have loop_10 : ∀ (n : Nat) (k : Nat) (σ : MHT), σ.2.2 = (5 : Int32) → k ≤ 652 → 652 - k < n → (fX7_record τ) = fX7_record_10 n k σ → ∀ (H : Heap) (locs : List Loc), va_P D vwCl [(h0, .inr (7, [.ref h1, .ref h2, .int σ.2.2, .ref w3, .int w4, .ref w5, .ref w6, .int w7, .int w8, .int w9, .int w10, .int w11, .int w12])), (h1, .inl (cI, 163, .inl σ.1)), (h2, .inl (cI, 815, .inl σ.2.1))] H → va_D A [(h0, .inr (7, [.ref h1, .ref h2, .int σ.2.2, .ref w3, .int w4, .ref w5, .ref w6, .int w7, .int w8, .int w9, .int w10, .int w11, .int w12])), (h1, .inl (cI, 163, .inl σ.1)), (h2, .inl (cI, 815, .inl σ.2.1))] → va_S A s.heap H locs → ∀ (ls : Array Slot), lv_has ls 2 [(0, .ref h0), (1, .int (nI k))] → W p l e { frames := 1, cells := 0, slots := 0, locals := 24 } s m args below meth c H locs 0 0 Q (F0 m 10 ls []) := by
    intro n
    induction n with
    | zero =>
      intro k σ h5 hk hn
      exact absurd hn (by omega)
    | succ n ih =>
      intro k σ h5 hk hn hF H locs hP hD hS ls hl
      refine lv_iload_n hx hb dX7_record_10 rfl (lv_at hl 1 rfl) ?_
      refine lv_sipush (v := (652 : Int32)) hx hb dX7_record_11 (by decide +kernel) ?_
      refine lv_icmp_ge (tgt := 39) hx hb dX7_record_14 (by decide) (fun c_14 => ?_) (fun c_14 => ?_)
      · have d_14 : 652 ≤ k := (nI_leI (a := 652) (b := k) (by omega) (by omega)).mp c_14
        refine lv_aload_n hx hb dX7_record_39 rfl (lv_at hl 0 rfl) ?_
        refine lv_dup hx hb dX7_record_40 rfl ?_
        refine va_get (D := D) (ci := 7) (v := .int σ.2.2) (C := RX7) (T := TX7) (N := 13) hx hb hts (fun _ h9 => List.mem_cons_of_mem _ (List.mem_append_right _ h9)) hown hE.1 hP 0 rfl rfl 2 (by decide) (hts (.fieldLink RX7 37 "ShadowTableModel" "kept" "I") (List.mem_of_getElem? (i := 1) rfl)) (fun _ h9 => h9) rfl dX7_record_41 ?_
        refine lv_iconst (v := (1 : Int32)) hx hb dX7_record_44 (by decide +kernel) ?_
        refine lv_isub hx hb dX7_record_45 ?_
        refine xpf (ty := .int) (v := .int (σ.2.2 - (1 : Int32))) (C := RX7) (T := TX7) (N := 13) hx hb hts (fun _ h9 => List.mem_cons_of_mem _ (List.mem_append_right _ h9)) tyX7 tyX7_ok nmX7 hown hE hP hD hS 0 rfl rfl 2 (by decide) (hts (.fieldLink RX7 37 "ShadowTableModel" "kept" "I") (List.mem_of_getElem? (i := 1) rfl)) rfl rfl (by decide +kernel) rfl rfl (Nat.le_of_ble_eq_true rfl) [(h0, .inr (7, [.ref h1, .ref h2, .int (σ.2.2 - (1 : Int32)), .ref w3, .int w4, .ref w5, .ref w6, .int w7, .int w8, .int w9, .int w10, .int w11, .int w12])), (h1, .inl (cI, 163, .inl σ.1)), (h2, .inl (cI, 815, .inl σ.2.1))] rfl dX7_record_46 (fun H locs hP hD hS => ?_)
        refine lv_aload_n hx hb dX7_record_49 rfl (lv_at hl 0 rfl) ?_
        refine va_get (D := D) (ci := 7) (v := .ref h1) (C := RX7) (T := TX7) (N := 13) hx hb hts (fun _ h9 => List.mem_cons_of_mem _ (List.mem_append_right _ h9)) hown hE.1 hP 0 rfl rfl 0 (by decide) (hts (.fieldLink RX7 7 "ShadowTableModel" "s" "[I") (List.mem_of_getElem? (i := 3) rfl)) (fun _ h9 => h9) rfl dX7_record_50 ?_
        refine lv_iconst (v := (0 : Int32)) hx hb dX7_record_53 (by decide +kernel) ?_
        refine lv_aload_n hx hb dX7_record_54 rfl (lv_at hl 0 rfl) ?_
        refine va_get (D := D) (ci := 7) (v := .ref h2) (C := RX7) (T := TX7) (N := 13) hx hb hts (fun _ h9 => List.mem_cons_of_mem _ (List.mem_append_right _ h9)) hown hE.1 hP 0 rfl rfl 1 (by decide) (hts (.fieldLink RX7 13 "ShadowTableModel" "history" "[I") (List.mem_of_getElem? (i := 2) rfl)) (fun _ h9 => h9) rfl dX7_record_55 ?_
        refine lv_sipush (v := (163 : Int32)) hx hb dX7_record_58 (by decide +kernel) ?_
        refine lv_aload_n hx hb dX7_record_61 rfl (lv_at hl 0 rfl) ?_
        refine va_get (D := D) (ci := 7) (v := .int (σ.2.2 - (1 : Int32))) (C := RX7) (T := TX7) (N := 13) hx hb hts (fun _ h9 => List.mem_cons_of_mem _ (List.mem_append_right _ h9)) hown hE.1 hP 0 rfl rfl 2 (by decide) (hts (.fieldLink RX7 37 "ShadowTableModel" "kept" "I") (List.mem_of_getElem? (i := 1) rfl)) (fun _ h9 => h9) rfl dX7_record_62 ?_
        refine lv_imul hx hb dX7_record_65 ?_
        refine cVS ⟨hx, hb, hml, hown, hts⟩ (kX7_copyAll l D cI cS h1 h2 (0 : Int32) ((163 : Int32) * (σ.2.2 - (1 : Int32))) σ.1 σ.2.1 163 815 zz_c0a zz_c0b (by omega) (zz_k5 h5).1 (zz_k5 h5).2 (by omega)) (va_cwS 4 hts gX7_record_X7_copyAll rfl rfl rfl (by decide +kernel) ⟨Nat.le_of_ble_eq_true rfl, Nat.le_of_ble_eq_true rfl⟩) hE hP hD hS [1, 2] rfl (by decide) (fun _ => rfl) rfl hl.1 rfl (Nat.le_of_ble_eq_true rfl) ⟨Nat.zero_le _, Nat.zero_le _⟩ dX7_record_66 (fun u_66 H locs e_66 hP hD hS => ?_)
        have hP : va_P D vwCl [(h0, .inr (7, [.ref h1, .ref h2, .int (σ.2.2 - (1 : Int32)), .ref w3, .int w4, .ref w5, .ref w6, .int w7, .int w8, .int w9, .int w10, .int w11, .int w12])), (h1, .inl (cI, 163, .inl σ.1)), (h2, .inl (cI, 815, .inl u_66))] H := hP
        have hD : va_D A [(h0, .inr (7, [.ref h1, .ref h2, .int (σ.2.2 - (1 : Int32)), .ref w3, .int w4, .ref w5, .ref w6, .int w7, .int w8, .int w9, .int w10, .int w11, .int w12])), (h1, .inl (cI, 163, .inl σ.1)), (h2, .inl (cI, 815, .inl u_66))] := hD
        refine lv_aload_n hx hb dX7_record_69 rfl (lv_at hl 0 rfl) ?_
        refine lv_dup hx hb dX7_record_70 rfl ?_
        refine va_get (D := D) (ci := 7) (v := .int (σ.2.2 - (1 : Int32))) (C := RX7) (T := TX7) (N := 13) hx hb hts (fun _ h9 => List.mem_cons_of_mem _ (List.mem_append_right _ h9)) hown hE.1 hP 0 rfl rfl 2 (by decide) (hts (.fieldLink RX7 37 "ShadowTableModel" "kept" "I") (List.mem_of_getElem? (i := 1) rfl)) (fun _ h9 => h9) rfl dX7_record_71 ?_
        refine lv_iconst (v := (1 : Int32)) hx hb dX7_record_74 (by decide +kernel) ?_
        refine lv_iadd hx hb dX7_record_75 ?_
        refine xpf (ty := .int) (v := .int ((σ.2.2 - (1 : Int32)) + (1 : Int32))) (C := RX7) (T := TX7) (N := 13) hx hb hts (fun _ h9 => List.mem_cons_of_mem _ (List.mem_append_right _ h9)) tyX7 tyX7_ok nmX7 hown hE hP hD hS 0 rfl rfl 2 (by decide) (hts (.fieldLink RX7 37 "ShadowTableModel" "kept" "I") (List.mem_of_getElem? (i := 1) rfl)) rfl rfl (by decide +kernel) rfl rfl (Nat.le_of_ble_eq_true rfl) [(h0, .inr (7, [.ref h1, .ref h2, .int ((σ.2.2 - (1 : Int32)) + (1 : Int32)), .ref w3, .int w4, .ref w5, .ref w6, .int w7, .int w8, .int w9, .int w10, .int w11, .int w12])), (h1, .inl (cI, 163, .inl σ.1)), (h2, .inl (cI, 815, .inl u_66))] rfl dX7_record_76 (fun H locs hP hD hS => ?_)
        exact hend _ _ _ _ _ dX7_record_79 (hF.trans (fX7_record_10_p0 n k σ c_14 u_66 e_66)) hP hS
      · have d_14 : k < 652 := Nat.lt_of_not_le (fun q => c_14 ((nI_leI (a := 652) (b := k) (by omega) (by omega)).mpr q))
        refine lv_aload_n hx hb dX7_record_17 rfl (lv_at hl 0 rfl) ?_
        refine va_get (D := D) (ci := 7) (v := .ref h2) (C := RX7) (T := TX7) (N := 13) hx hb hts (fun _ h9 => List.mem_cons_of_mem _ (List.mem_append_right _ h9)) hown hE.1 hP 0 rfl rfl 1 (by decide) (hts (.fieldLink RX7 13 "ShadowTableModel" "history" "[I") (List.mem_of_getElem? (i := 2) rfl)) (fun _ h9 => h9) rfl dX7_record_18 ?_
        refine lv_iload_n hx hb dX7_record_21 rfl (lv_at hl 1 rfl) ?_
        refine lv_aload_n hx hb dX7_record_22 rfl (lv_at hl 0 rfl) ?_
        refine va_get (D := D) (ci := 7) (v := .ref h2) (C := RX7) (T := TX7) (N := 13) hx hb hts (fun _ h9 => List.mem_cons_of_mem _ (List.mem_append_right _ h9)) hown hE.1 hP 0 rfl rfl 1 (by decide) (hts (.fieldLink RX7 13 "ShadowTableModel" "history" "[I") (List.mem_of_getElem? (i := 2) rfl)) (fun _ h9 => h9) rfl dX7_record_23 ?_
        refine lv_sipush (v := (163 : Int32)) hx hb dX7_record_26 (by decide +kernel) ?_
        refine lv_iload_n hx hb dX7_record_29 rfl (lv_at hl 1 rfl) ?_
        refine lv_iadd hx hb dX7_record_30 ?_
        refine xld (v := (σ.2.1 (163 + k))) (j := (163 + k)) hx hb hE hP 2 rfl rfl (zz_163 (by omega)) (zz_163i (by omega)) rfl dX7_record_31 ?_
        refine xst (j := k) hx hb hE hP hD hS 2 rfl rfl (nI_clamp (by omega)) (vp_in_nI (by omega) (by omega)) [(h0, .inr (7, [.ref h1, .ref h2, .int σ.2.2, .ref w3, .int w4, .ref w5, .ref w6, .int w7, .int w8, .int w9, .int w10, .int w11, .int w12])), (h1, .inl (cI, 163, .inl σ.1)), (h2, .inl (cI, 815, .inl (upd σ.2.1 k (σ.2.1 (163 + k)))))] rfl dX7_record_32 (fun H locs hP hD hS => ?_)
        refine lv_iinc (v := (nI (k + 1))) (lv' := [(1, .int (nI (k + 1))), (0, .ref h0)]) hx hb dX7_record_33 hl (k := 1) rfl (nI_1 _) (by decide) rfl (fun ls hl => ?_)
        refine lv_goto (tgt := 10) hx hb dX7_record_36 (by decide) ?_
        exact ih (k + 1) (σ.1, (upd σ.2.1 k (σ.2.1 (163 + k))), σ.2.2) h5 (by omega) (by omega) (hF.trans (fX7_record_10_p1 n k σ c_14)) _ _ hP hD hS _ (lv_sub hl [1, 0] rfl)
  refine lv_aload_n hx hb dX7_record_0 rfl (lv_at hl 0 rfl) ?_
  refine va_get (D := D) (ci := 7) (v := .int τ.2.2) (C := RX7) (T := TX7) (N := 13) hx hb hts (fun _ h9 => List.mem_cons_of_mem _ (List.mem_append_right _ h9)) hown hE.1 hP 0 rfl rfl 2 (by decide) (hts (.fieldLink RX7 37 "ShadowTableModel" "kept" "I") (List.mem_of_getElem? (i := 1) rfl)) (fun _ h9 => h9) rfl dX7_record_1 ?_
  refine lv_iconst (v := (5 : Int32)) hx hb dX7_record_4 (by decide +kernel) ?_
  refine lv_icmp_ne (tgt := 49) hx hb dX7_record_5 (by decide) (fun c_5 => ?_) (fun c_5 => ?_)
  · refine lv_aload_n hx hb dX7_record_49 rfl (lv_at hl 0 rfl) ?_
    refine va_get (D := D) (ci := 7) (v := .ref h1) (C := RX7) (T := TX7) (N := 13) hx hb hts (fun _ h9 => List.mem_cons_of_mem _ (List.mem_append_right _ h9)) hown hE.1 hP 0 rfl rfl 0 (by decide) (hts (.fieldLink RX7 7 "ShadowTableModel" "s" "[I") (List.mem_of_getElem? (i := 3) rfl)) (fun _ h9 => h9) rfl dX7_record_50 ?_
    refine lv_iconst (v := (0 : Int32)) hx hb dX7_record_53 (by decide +kernel) ?_
    refine lv_aload_n hx hb dX7_record_54 rfl (lv_at hl 0 rfl) ?_
    refine va_get (D := D) (ci := 7) (v := .ref h2) (C := RX7) (T := TX7) (N := 13) hx hb hts (fun _ h9 => List.mem_cons_of_mem _ (List.mem_append_right _ h9)) hown hE.1 hP 0 rfl rfl 1 (by decide) (hts (.fieldLink RX7 13 "ShadowTableModel" "history" "[I") (List.mem_of_getElem? (i := 2) rfl)) (fun _ h9 => h9) rfl dX7_record_55 ?_
    refine lv_sipush (v := (163 : Int32)) hx hb dX7_record_58 (by decide +kernel) ?_
    refine lv_aload_n hx hb dX7_record_61 rfl (lv_at hl 0 rfl) ?_
    refine va_get (D := D) (ci := 7) (v := .int τ.2.2) (C := RX7) (T := TX7) (N := 13) hx hb hts (fun _ h9 => List.mem_cons_of_mem _ (List.mem_append_right _ h9)) hown hE.1 hP 0 rfl rfl 2 (by decide) (hts (.fieldLink RX7 37 "ShadowTableModel" "kept" "I") (List.mem_of_getElem? (i := 1) rfl)) (fun _ h9 => h9) rfl dX7_record_62 ?_
    refine lv_imul hx hb dX7_record_65 ?_
    refine cVS ⟨hx, hb, hml, hown, hts⟩ (kX7_copyAll l D cI cS h1 h2 (0 : Int32) ((163 : Int32) * τ.2.2) τ.1 τ.2.1 163 815 zz_c0a zz_c0b (by omega) (zz_kB hkp c_5).1 (zz_kB hkp c_5).2 (by omega)) (va_cwS 4 hts gX7_record_X7_copyAll rfl rfl rfl (by decide +kernel) ⟨Nat.le_of_ble_eq_true rfl, Nat.le_of_ble_eq_true rfl⟩) hE hP hD hS [1, 2] rfl (by decide) (fun _ => rfl) rfl hl.1 rfl (Nat.le_of_ble_eq_true rfl) ⟨Nat.zero_le _, Nat.zero_le _⟩ dX7_record_66 (fun u_66 H locs e_66 hP hD hS => ?_)
    have hP : va_P D vwCl [(h0, .inr (7, [.ref h1, .ref h2, .int τ.2.2, .ref w3, .int w4, .ref w5, .ref w6, .int w7, .int w8, .int w9, .int w10, .int w11, .int w12])), (h1, .inl (cI, 163, .inl τ.1)), (h2, .inl (cI, 815, .inl u_66))] H := hP
    have hD : va_D A [(h0, .inr (7, [.ref h1, .ref h2, .int τ.2.2, .ref w3, .int w4, .ref w5, .ref w6, .int w7, .int w8, .int w9, .int w10, .int w11, .int w12])), (h1, .inl (cI, 163, .inl τ.1)), (h2, .inl (cI, 815, .inl u_66))] := hD
    refine lv_aload_n hx hb dX7_record_69 rfl (lv_at hl 0 rfl) ?_
    refine lv_dup hx hb dX7_record_70 rfl ?_
    refine va_get (D := D) (ci := 7) (v := .int τ.2.2) (C := RX7) (T := TX7) (N := 13) hx hb hts (fun _ h9 => List.mem_cons_of_mem _ (List.mem_append_right _ h9)) hown hE.1 hP 0 rfl rfl 2 (by decide) (hts (.fieldLink RX7 37 "ShadowTableModel" "kept" "I") (List.mem_of_getElem? (i := 1) rfl)) (fun _ h9 => h9) rfl dX7_record_71 ?_
    refine lv_iconst (v := (1 : Int32)) hx hb dX7_record_74 (by decide +kernel) ?_
    refine lv_iadd hx hb dX7_record_75 ?_
    refine xpf (ty := .int) (v := .int (τ.2.2 + (1 : Int32))) (C := RX7) (T := TX7) (N := 13) hx hb hts (fun _ h9 => List.mem_cons_of_mem _ (List.mem_append_right _ h9)) tyX7 tyX7_ok nmX7 hown hE hP hD hS 0 rfl rfl 2 (by decide) (hts (.fieldLink RX7 37 "ShadowTableModel" "kept" "I") (List.mem_of_getElem? (i := 1) rfl)) rfl rfl (by decide +kernel) rfl rfl (Nat.le_of_ble_eq_true rfl) [(h0, .inr (7, [.ref h1, .ref h2, .int (τ.2.2 + (1 : Int32)), .ref w3, .int w4, .ref w5, .ref w6, .int w7, .int w8, .int w9, .int w10, .int w11, .int w12])), (h1, .inl (cI, 163, .inl τ.1)), (h2, .inl (cI, 815, .inl u_66))] rfl dX7_record_76 (fun H locs hP hD hS => ?_)
    exact hend _ _ _ _ _ dX7_record_79 (fX7_record_p2 τ c_5 u_66 e_66) hP hS
  · refine lv_iconst (v := (0 : Int32)) hx hb dX7_record_8 (by decide +kernel) ?_
    refine lv_istore_n (lv' := [(1, .int (0 : Int32)), (0, .ref h0)]) hx hb dX7_record_9 rfl hl (by decide) rfl (fun ls hl => ?_)
    exact loop_10 653 0 τ c_5 (by omega) (by omega) (fX7_record_p3 τ c_5) _ _ hP hD hS _ (lv_sub hl [1, 0] rfl)

theorem rec_s10 : ∀ (n k : Nat) (σ : MHT), (fX7_record_10 n k σ).1 = σ.1
  | 0, _, _ => rfl
  | n + 1, k, σ => by
    unfold fX7_record_10
    split
    · rfl
    · exact rec_s10 n (k + 1) _
theorem rec_s (τ : MHT) : (fX7_record τ).1 = τ.1 := by
  unfold fX7_record
  split
  · exact rec_s10 653 0 τ
  · rfl
theorem zz_WM_rec {τ u : MHT} (e : fX7_record τ = u) (hm : WM τ.1) : WM u.1 := by
  subst e
  rw [rec_s]
  exact hm

def fX7_endCopy (τ : FnI) : FnI := (upd (upd τ 0 (0 : Int32)) 4 (0 : Int32))
theorem fX7_endCopy_p0 (τ : FnI) : (fX7_endCopy τ) = (upd (upd τ 0 (0 : Int32)) 4 (0 : Int32)) := by
  simp only [fX7_endCopy]
set_option maxHeartbeats 4000000 in
set_option maxRecDepth 100000 in
theorem kX7_endCopy (l : Launch) (D : va_G) (cI cS : ClassId) (h0 h1 : Nat) (w1 : Nat) (w2 : Int32) (w3 : Nat) (w4 : Int32) (w5 : Nat) (w6 : Nat) (w7 : Int32) (w8 : Int32) (w9 : Int32) (w10 : Int32) (w11 : Int32) (w12 : Int32) (τ : FnI) : KV l yX7_endCopy wsX7_endCopy { frames := 0, cells := 0, slots := 0, locals := 0 } D (tysA cI cS) [.ref h0] [(h0, .inr (7, [.ref h1, .ref w1, .int w2, .ref w3, .int w4, .ref w5, .ref w6, .int w7, .int w8, .int w9, .int w10, .int w11, .int w12])), (h1, .inl (cI, 163, .inl τ))] (fX7_endCopy τ) (fun u => [(h0, .inr (7, [.ref h1, .ref w1, .int w2, .ref w3, .int w4, .ref w5, .ref w6, .int w7, .int w8, .int w9, .int w10, .int w11, .int w12])), (h1, .inl (cI, 163, .inl u))]) := by
  refine KV.of (cc := cX7_endCopy) (maxL := 1) (by decide) rfl (Nat.le_of_ble_eq_true rfl) rfl (fun p e s m args below meth c ls Q A hx hb hml hown hts hE hP hD hS hl hend => ?_)
  have hown : s.vm.findClass RX7 = some m.cls := hown
  have hl : lv_has ls 1 [(0, .ref h0)] := hl
  refine lv_aload_n hx hb dX7_endCopy_0 rfl (lv_at hl 0 rfl) ?_
  refine va_get (D := D) (ci := 7) (v := .ref h1) (C := RX7) (T := TX7) (N := 13) hx hb hts (fun _ h9 => List.mem_cons_of_mem _ (List.mem_append_right _ h9)) hown hE.1 hP 0 rfl rfl 0 (by decide) (hts (.fieldLink RX7 7 "ShadowTableModel" "s" "[I") (List.mem_of_getElem? (i := 1) rfl)) (fun _ h9 => h9) rfl dX7_endCopy_1 ?_
  refine lv_iconst (v := (0 : Int32)) hx hb dX7_endCopy_4 (by decide +kernel) ?_
  refine lv_iconst (v := (0 : Int32)) hx hb dX7_endCopy_5 (by decide +kernel) ?_
  refine xst (j := 0) hx hb hE hP hD hS 1 rfl rfl cl_0 (in_0 (by decide)) [(h0, .inr (7, [.ref h1, .ref w1, .int w2, .ref w3, .int w4, .ref w5, .ref w6, .int w7, .int w8, .int w9, .int w10, .int w11, .int w12])), (h1, .inl (cI, 163, .inl (upd τ 0 (0 : Int32))))] rfl dX7_endCopy_6 (fun H locs hP hD hS => ?_)
  refine lv_aload_n hx hb dX7_endCopy_7 rfl (lv_at hl 0 rfl) ?_
  refine va_get (D := D) (ci := 7) (v := .ref h1) (C := RX7) (T := TX7) (N := 13) hx hb hts (fun _ h9 => List.mem_cons_of_mem _ (List.mem_append_right _ h9)) hown hE.1 hP 0 rfl rfl 0 (by decide) (hts (.fieldLink RX7 7 "ShadowTableModel" "s" "[I") (List.mem_of_getElem? (i := 1) rfl)) (fun _ h9 => h9) rfl dX7_endCopy_8 ?_
  refine lv_iconst (v := (4 : Int32)) hx hb dX7_endCopy_11 (by decide +kernel) ?_
  refine lv_iconst (v := (0 : Int32)) hx hb dX7_endCopy_12 (by decide +kernel) ?_
  refine xst (j := 4) hx hb hE hP hD hS 1 rfl rfl cl_4 (in_4 (by decide)) [(h0, .inr (7, [.ref h1, .ref w1, .int w2, .ref w3, .int w4, .ref w5, .ref w6, .int w7, .int w8, .int w9, .int w10, .int w11, .int w12])), (h1, .inl (cI, 163, .inl (upd (upd τ 0 (0 : Int32)) 4 (0 : Int32))))] rfl dX7_endCopy_13 (fun H locs hP hD hS => ?_)
  exact hend _ _ _ _ _ dX7_endCopy_14 (fX7_endCopy_p0 τ) hP hS

theorem zz_ec {τ u : FnI} (e : fX7_endCopy τ = u) : Bd (u 4) 23 := by
  subst e
  exact Bd.of (j := 0) (by omega) (by omega)

def fX7_isLogFull (τ : FnI) : Int32 := (if (fX7_isCopy τ) = (0 : Int32) then (0 : Int32) else (if (τ 4) = (24 : Int32) then (1 : Int32) else (0 : Int32)))
theorem fX7_isLogFull_p0 (τ : FnI) (c_4 : (fX7_isCopy τ) = (0 : Int32)) : (fX7_isLogFull τ) = (0 : Int32) := by
  simp only [fX7_isLogFull, if_pos c_4]
theorem fX7_isLogFull_p1 (τ : FnI) (c_4 : ¬ (fX7_isCopy τ) = (0 : Int32)) (c_15 : ¬ (τ 4) = (24 : Int32)) : (fX7_isLogFull τ) = (0 : Int32) := by
  simp only [fX7_isLogFull, if_neg c_4, if_neg c_15]
theorem fX7_isLogFull_p2 (τ : FnI) (c_4 : ¬ (fX7_isCopy τ) = (0 : Int32)) (c_15 : (τ 4) = (24 : Int32)) : (fX7_isLogFull τ) = (1 : Int32) := by
  simp only [fX7_isLogFull, if_neg c_4, if_pos c_15]
set_option maxHeartbeats 4000000 in
set_option maxRecDepth 100000 in
theorem kX7_isLogFull (l : Launch) (D : va_G) (cI cS : ClassId) (h0 h1 : Nat) (w1 : Nat) (w2 : Int32) (w3 : Nat) (w4 : Int32) (w5 : Nat) (w6 : Nat) (w7 : Int32) (w8 : Int32) (w9 : Int32) (w10 : Int32) (w11 : Int32) (w12 : Int32) (τ : FnI) : KR l yX7_isLogFull wsX7_isLogFull { frames := 1, cells := 0, slots := 0, locals := 20 } D (tysA cI cS) [.ref h0] [(h0, .inr (7, [.ref h1, .ref w1, .int w2, .ref w3, .int w4, .ref w5, .ref w6, .int w7, .int w8, .int w9, .int w10, .int w11, .int w12])), (h1, .inl (cI, 163, .inl τ))] (fX7_isLogFull τ) := by
  refine KR.of (cc := cX7_isLogFull) (maxL := 1) (ty := .boolean) (by decide) rfl (Nat.le_of_ble_eq_true rfl) rfl (fun p e s m args below meth c ls Q hx hb hml hown hts hE hP hl hend => ?_)
  have hown : s.vm.findClass RX7 = some m.cls := hown
  have hl : lv_has ls 1 [(0, .ref h0)] := hl
  refine lv_aload_n hx hb dX7_isLogFull_0 rfl (lv_at hl 0 rfl) ?_
  refine cRV ⟨hx, hb, hml, hown, hts⟩ (kX7_isCopy l D cI cS h0 h1 w1 w2 w3 w4 w5 w6 w7 w8 w9 w10 w11 w12 τ) (cwV 0 hts gX7_isLogFull_X7_isCopy rfl rfl rfl (by decide +kernel) ⟨Nat.le_of_ble_eq_true rfl, Nat.le_of_ble_eq_true rfl⟩) hE hP 0 rfl rfl [0, 1] rfl rfl hl.1 rfl (Nat.le_of_ble_eq_true rfl) ⟨Nat.zero_le _, Nat.zero_le _⟩ dX7_isLogFull_1 ?_
  refine lv_if_eq (tgt := 22) hx hb dX7_isLogFull_4 (by decide) (fun c_4 => ?_) (fun c_4 => ?_)
  · refine lv_iconst (v := (0 : Int32)) hx hb dX7_isLogFull_22 (by decide +kernel) ?_
    exact hend _ _ _ dX7_isLogFull_23 rfl (fX7_isLogFull_p0 τ c_4)
  · refine lv_aload_n hx hb dX7_isLogFull_7 rfl (lv_at hl 0 rfl) ?_
    refine va_get (D := D) (ci := 7) (v := .ref h1) (C := RX7) (T := TX7) (N := 13) hx hb hts (fun _ h9 => List.mem_cons_of_mem _ (List.mem_append_right _ h9)) hown hE.1 hP 0 rfl rfl 0 (by decide) (hts (.fieldLink RX7 7 "ShadowTableModel" "s" "[I") (List.mem_of_getElem? (i := 1) rfl)) (fun _ h9 => h9) rfl dX7_isLogFull_8 ?_
    refine lv_iconst (v := (4 : Int32)) hx hb dX7_isLogFull_11 (by decide +kernel) ?_
    refine xld (v := (τ 4)) (j := 4) hx hb hE hP 1 rfl rfl cl_4 (in_4 (by decide)) rfl dX7_isLogFull_12 ?_
    refine lv_bipush (v := (24 : Int32)) hx hb dX7_isLogFull_13 (by decide +kernel) ?_
    refine lv_icmp_ne (tgt := 22) hx hb dX7_isLogFull_15 (by decide) (fun c_15 => ?_) (fun c_15 => ?_)
    · refine lv_iconst (v := (0 : Int32)) hx hb dX7_isLogFull_22 (by decide +kernel) ?_
      exact hend _ _ _ dX7_isLogFull_23 rfl (fX7_isLogFull_p1 τ c_4 c_15)
    · refine lv_iconst (v := (1 : Int32)) hx hb dX7_isLogFull_18 (by decide +kernel) ?_
      refine lv_goto (tgt := 23) hx hb dX7_isLogFull_19 (by decide) ?_
      exact hend _ _ _ dX7_isLogFull_23 rfl (fX7_isLogFull_p2 τ c_4 c_15)

theorem zz_nf {τ : FnI} (hm : WM τ) (c1 : fX7_isLogFull τ = (0 : Int32)) (c2 : ¬ fX7_isCopy τ = (0 : Int32)) : Bd (τ 4) 23 := by
  unfold fX7_isLogFull at c1
  rw [if_neg c2] at c1
  obtain ⟨j, hj, e⟩ := hm.1.num
  rw [e] at c1 ⊢
  by_cases q : j = 24
  · rw [q, if_pos (show nI 24 = (24 : Int32) from rfl)] at c1
    exact absurd c1 (by decide)
  · exact Bd.of (by omega) (by omega)

def fX7_changeError (τ : FnI) : Int32 := (if (τ 0) = (3 : Int32) then (-4 : Int32) else (if (fX7_isLogFull τ) = (0 : Int32) then (0 : Int32) else (if (τ 10) = (1 : Int32) then (-3 : Int32) else (0 : Int32))))
theorem fX7_changeError_p0 (τ : FnI) (c_7 : ¬ (τ 0) = (3 : Int32)) (c_19 : (fX7_isLogFull τ) = (0 : Int32)) : (fX7_changeError τ) = (0 : Int32) := by
  simp only [fX7_changeError, if_neg c_7, if_pos c_19]
theorem fX7_changeError_p1 (τ : FnI) (c_7 : ¬ (τ 0) = (3 : Int32)) (c_19 : ¬ (fX7_isLogFull τ) = (0 : Int32)) (c_30 : ¬ (τ 10) = (1 : Int32)) : (fX7_changeError τ) = (0 : Int32) := by
  simp only [fX7_changeError, if_neg c_7, if_neg c_19, if_neg c_30]
theorem fX7_changeError_p2 (τ : FnI) (c_7 : ¬ (τ 0) = (3 : Int32)) (c_19 : ¬ (fX7_isLogFull τ) = (0 : Int32)) (c_30 : (τ 10) = (1 : Int32)) : (fX7_changeError τ) = (-3 : Int32) := by
  simp only [fX7_changeError, if_neg c_7, if_neg c_19, if_pos c_30]
theorem fX7_changeError_p3 (τ : FnI) (c_7 : (τ 0) = (3 : Int32)) : (fX7_changeError τ) = (-4 : Int32) := by
  simp only [fX7_changeError, if_pos c_7]
set_option maxHeartbeats 4000000 in
set_option maxRecDepth 100000 in
theorem kX7_changeError (l : Launch) (D : va_G) (cI cS : ClassId) (h0 h1 : Nat) (w1 : Nat) (w2 : Int32) (w3 : Nat) (w4 : Int32) (w5 : Nat) (w6 : Nat) (w7 : Int32) (w8 : Int32) (w9 : Int32) (w10 : Int32) (w11 : Int32) (w12 : Int32) (τ : FnI) : KR l yX7_changeError wsX7_changeError { frames := 2, cells := 0, slots := 0, locals := 40 } D (tysA cI cS) [.ref h0] [(h0, .inr (7, [.ref h1, .ref w1, .int w2, .ref w3, .int w4, .ref w5, .ref w6, .int w7, .int w8, .int w9, .int w10, .int w11, .int w12])), (h1, .inl (cI, 163, .inl τ))] (fX7_changeError τ) := by
  refine KR.of (cc := cX7_changeError) (maxL := 1) (ty := .int) (by decide) rfl (Nat.le_of_ble_eq_true rfl) rfl (fun p e s m args below meth c ls Q hx hb hml hown hts hE hP hl hend => ?_)
  have hown : s.vm.findClass RX7 = some m.cls := hown
  have hl : lv_has ls 1 [(0, .ref h0)] := hl
  refine lv_aload_n hx hb dX7_changeError_0 rfl (lv_at hl 0 rfl) ?_
  refine va_get (D := D) (ci := 7) (v := .ref h1) (C := RX7) (T := TX7) (N := 13) hx hb hts (fun _ h9 => List.mem_cons_of_mem _ (List.mem_append_right _ h9)) hown hE.1 hP 0 rfl rfl 0 (by decide) (hts (.fieldLink RX7 7 "ShadowTableModel" "s" "[I") (List.mem_of_getElem? (i := 1) rfl)) (fun _ h9 => h9) rfl dX7_changeError_1 ?_
  refine lv_iconst (v := (0 : Int32)) hx hb dX7_changeError_4 (by decide +kernel) ?_
  refine xld (v := (τ 0)) (j := 0) hx hb hE hP 1 rfl rfl cl_0 (in_0 (by decide)) rfl dX7_changeError_5 ?_
  refine lv_iconst (v := (3 : Int32)) hx hb dX7_changeError_6 (by decide +kernel) ?_
  refine lv_icmp_ne (tgt := 15) hx hb dX7_changeError_7 (by decide) (fun c_7 => ?_) (fun c_7 => ?_)
  · refine lv_aload_n hx hb dX7_changeError_15 rfl (lv_at hl 0 rfl) ?_
    refine cRV ⟨hx, hb, hml, hown, hts⟩ (kX7_isLogFull l D cI cS h0 h1 w1 w2 w3 w4 w5 w6 w7 w8 w9 w10 w11 w12 τ) (cwV 0 hts gX7_changeError_X7_isLogFull rfl rfl rfl (by decide +kernel) ⟨Nat.le_of_ble_eq_true rfl, Nat.le_of_ble_eq_true rfl⟩) hE hP 0 rfl rfl [0, 1] rfl rfl hl.1 rfl (Nat.le_of_ble_eq_true rfl) ⟨Nat.zero_le _, Nat.zero_le _⟩ dX7_changeError_16 ?_
    refine lv_if_eq (tgt := 38) hx hb dX7_changeError_19 (by decide) (fun c_19 => ?_) (fun c_19 => ?_)
    · refine lv_iconst (v := (0 : Int32)) hx hb dX7_changeError_38 (by decide +kernel) ?_
      exact hend _ _ _ dX7_changeError_39 rfl (fX7_changeError_p0 τ c_7 c_19)
    · refine lv_aload_n hx hb dX7_changeError_22 rfl (lv_at hl 0 rfl) ?_
      refine va_get (D := D) (ci := 7) (v := .ref h1) (C := RX7) (T := TX7) (N := 13) hx hb hts (fun _ h9 => List.mem_cons_of_mem _ (List.mem_append_right _ h9)) hown hE.1 hP 0 rfl rfl 0 (by decide) (hts (.fieldLink RX7 7 "ShadowTableModel" "s" "[I") (List.mem_of_getElem? (i := 1) rfl)) (fun _ h9 => h9) rfl dX7_changeError_23 ?_
      refine lv_bipush (v := (10 : Int32)) hx hb dX7_changeError_26 (by decide +kernel) ?_
      refine xld (v := (τ 10)) (j := 10) hx hb hE hP 1 rfl rfl cl_10 (in_10 (by decide)) rfl dX7_changeError_28 ?_
      refine lv_iconst (v := (1 : Int32)) hx hb dX7_changeError_29 (by decide +kernel) ?_
      refine lv_icmp_ne (tgt := 38) hx hb dX7_changeError_30 (by decide) (fun c_30 => ?_) (fun c_30 => ?_)
      · refine lv_iconst (v := (0 : Int32)) hx hb dX7_changeError_38 (by decide +kernel) ?_
        exact hend _ _ _ dX7_changeError_39 rfl (fX7_changeError_p1 τ c_7 c_19 c_30)
      · refine lv_bipush (v := (-3 : Int32)) hx hb dX7_changeError_33 (by decide +kernel) ?_
        refine lv_goto (tgt := 39) hx hb dX7_changeError_35 (by decide) ?_
        exact hend _ _ _ dX7_changeError_39 rfl (fX7_changeError_p2 τ c_7 c_19 c_30)
  · refine lv_bipush (v := (-4 : Int32)) hx hb dX7_changeError_10 (by decide +kernel) ?_
    refine lv_goto (tgt := 39) hx hb dX7_changeError_12 (by decide) ?_
    exact hend _ _ _ dX7_changeError_39 rfl (fX7_changeError_p3 τ c_7)

def fX7_putError (p0 : Int32) (p1 : Int32) (τ : FnI) : Int32 := (if (fX7_isKey p0) = (0 : Int32) then (-1 : Int32) else (if (fX7_in p1 (0 : Int32) (99 : Int32)) = (0 : Int32) then (-2 : Int32) else (fX7_changeError τ)))
theorem fX7_putError_p0 (p0 : Int32) (p1 : Int32) (τ : FnI) (c_4 : ¬ (fX7_isKey p0) = (0 : Int32)) (c_18 : ¬ (fX7_in p1 (0 : Int32) (99 : Int32)) = (0 : Int32)) : (fX7_putError p0 p1 τ) = (fX7_changeError τ) := by
  simp only [fX7_putError, if_neg c_4, if_neg c_18]
theorem fX7_putError_p1 (p0 : Int32) (p1 : Int32) (τ : FnI) (c_4 : ¬ (fX7_isKey p0) = (0 : Int32)) (c_18 : (fX7_in p1 (0 : Int32) (99 : Int32)) = (0 : Int32)) : (fX7_putError p0 p1 τ) = (-2 : Int32) := by
  simp only [fX7_putError, if_neg c_4, if_pos c_18]
theorem fX7_putError_p2 (p0 : Int32) (p1 : Int32) (τ : FnI) (c_4 : (fX7_isKey p0) = (0 : Int32)) : (fX7_putError p0 p1 τ) = (-1 : Int32) := by
  simp only [fX7_putError, if_pos c_4]
set_option maxHeartbeats 4000000 in
set_option maxRecDepth 100000 in
theorem kX7_putError (l : Launch) (D : va_G) (cI cS : ClassId) (h0 h1 : Nat) (w1 : Nat) (w2 : Int32) (w3 : Nat) (w4 : Int32) (w5 : Nat) (w6 : Nat) (w7 : Int32) (w8 : Int32) (w9 : Int32) (w10 : Int32) (w11 : Int32) (w12 : Int32) (p0 : Int32) (p1 : Int32) (τ : FnI) : KR l yX7_putError wsX7_putError { frames := 3, cells := 0, slots := 0, locals := 60 } D (tysA cI cS) [.ref h0, .int p0, .int p1] [(h0, .inr (7, [.ref h1, .ref w1, .int w2, .ref w3, .int w4, .ref w5, .ref w6, .int w7, .int w8, .int w9, .int w10, .int w11, .int w12])), (h1, .inl (cI, 163, .inl τ))] (fX7_putError p0 p1 τ) := by
  refine KR.of (cc := cX7_putError) (maxL := 3) (ty := .int) (by decide) rfl (Nat.le_of_ble_eq_true rfl) rfl (fun p e s m args below meth c ls Q hx hb hml hown hts hE hP hl hend => ?_)
  have hown : s.vm.findClass RX7 = some m.cls := hown
  have hl : lv_has ls 3 [(0, .ref h0), (1, .int p0), (2, .int p1)] := hl
  refine lv_iload_n hx hb dX7_putError_0 rfl (lv_at hl 1 rfl) ?_
  refine cRS ⟨hx, hb, hml, hown, hts⟩ (kX7_isKey l D cI cS p0) (va_cwS 1 hts gX7_putError_X7_isKey rfl rfl rfl (by decide +kernel) ⟨Nat.le_of_ble_eq_true rfl, Nat.le_of_ble_eq_true rfl⟩) hE hP [] rfl rfl hl.1 rfl (Nat.le_of_ble_eq_true rfl) ⟨Nat.zero_le _, Nat.zero_le _⟩ dX7_putError_1 ?_
  refine lv_if_ne (tgt := 11) hx hb dX7_putError_4 (by decide) (fun c_4 => ?_) (fun c_4 => ?_)
  · refine lv_iload_n hx hb dX7_putError_11 rfl (lv_at hl 2 rfl) ?_
    refine lv_iconst (v := (0 : Int32)) hx hb dX7_putError_12 (by decide +kernel) ?_
    refine lv_bipush (v := (99 : Int32)) hx hb dX7_putError_13 (by decide +kernel) ?_
    refine cRS ⟨hx, hb, hml, hown, hts⟩ (kX7_in l D cI cS p1 (0 : Int32) (99 : Int32)) (va_cwS 3 hts gX7_putError_X7_in rfl rfl rfl (by decide +kernel) ⟨Nat.le_of_ble_eq_true rfl, Nat.le_of_ble_eq_true rfl⟩) hE hP [] rfl rfl hl.1 rfl (Nat.le_of_ble_eq_true rfl) ⟨Nat.zero_le _, Nat.zero_le _⟩ dX7_putError_15 ?_
    refine lv_if_ne (tgt := 26) hx hb dX7_putError_18 (by decide) (fun c_18 => ?_) (fun c_18 => ?_)
    · refine lv_aload_n hx hb dX7_putError_26 rfl (lv_at hl 0 rfl) ?_
      refine cRV ⟨hx, hb, hml, hown, hts⟩ (kX7_changeError l D cI cS h0 h1 w1 w2 w3 w4 w5 w6 w7 w8 w9 w10 w11 w12 τ) (cwV 0 hts gX7_putError_X7_changeError rfl rfl rfl (by decide +kernel) ⟨Nat.le_of_ble_eq_true rfl, Nat.le_of_ble_eq_true rfl⟩) hE hP 0 rfl rfl [0, 1] rfl rfl hl.1 rfl (Nat.le_of_ble_eq_true rfl) ⟨Nat.zero_le _, Nat.zero_le _⟩ dX7_putError_27 ?_
      exact hend _ _ _ dX7_putError_30 rfl (fX7_putError_p0 p0 p1 τ c_4 c_18)
    · refine lv_bipush (v := (-2 : Int32)) hx hb dX7_putError_21 (by decide +kernel) ?_
      refine lv_goto (tgt := 30) hx hb dX7_putError_23 (by decide) ?_
      exact hend _ _ _ dX7_putError_30 rfl (fX7_putError_p1 p0 p1 τ c_4 c_18)
  · refine lv_iconst (v := (-1 : Int32)) hx hb dX7_putError_7 (by decide +kernel) ?_
    refine lv_goto (tgt := 30) hx hb dX7_putError_8 (by decide) ?_
    exact hend _ _ _ dX7_putError_30 rfl (fX7_putError_p2 p0 p1 τ c_4)

theorem zz_pe {a b : Int32} {τ : FnI} (c : (0 : Int32) ≤ fX7_putError a b τ) : Bd a 31 := by
  unfold fX7_putError at c
  by_cases h : fX7_isKey a = (0 : Int32)
  · rw [if_pos h] at c; exact absurd c (by decide)
  · exact zz_isKey7 h

def fX7_eraseError (p0 : Int32) (τ : FnI) : Int32 := (if (fX7_isKey p0) = (0 : Int32) then (-1 : Int32) else (if (fX7_row (0 : Int32) p0 τ) = (-1 : Int32) then (if (τ 0) = (3 : Int32) then (fX7_changeError τ) else (0 : Int32)) else (fX7_changeError τ)))
theorem fX7_eraseError_p0 (p0 : Int32) (τ : FnI) (c_4 : ¬ (fX7_isKey p0) = (0 : Int32)) (c_16 : ¬ (fX7_row (0 : Int32) p0 τ) = (-1 : Int32)) : (fX7_eraseError p0 τ) = (fX7_changeError τ) := by
  simp only [fX7_eraseError, if_neg c_4, if_neg c_16]
theorem fX7_eraseError_p1 (p0 : Int32) (τ : FnI) (c_4 : ¬ (fX7_isKey p0) = (0 : Int32)) (c_16 : (fX7_row (0 : Int32) p0 τ) = (-1 : Int32)) (c_26 : (τ 0) = (3 : Int32)) : (fX7_eraseError p0 τ) = (fX7_changeError τ) := by
  simp only [fX7_eraseError, if_neg c_4, if_pos c_16, if_pos c_26]
theorem fX7_eraseError_p2 (p0 : Int32) (τ : FnI) (c_4 : ¬ (fX7_isKey p0) = (0 : Int32)) (c_16 : (fX7_row (0 : Int32) p0 τ) = (-1 : Int32)) (c_26 : ¬ (τ 0) = (3 : Int32)) : (fX7_eraseError p0 τ) = (0 : Int32) := by
  simp only [fX7_eraseError, if_neg c_4, if_pos c_16, if_neg c_26]
theorem fX7_eraseError_p3 (p0 : Int32) (τ : FnI) (c_4 : (fX7_isKey p0) = (0 : Int32)) : (fX7_eraseError p0 τ) = (-1 : Int32) := by
  simp only [fX7_eraseError, if_pos c_4]
set_option maxHeartbeats 4000000 in
set_option maxRecDepth 100000 in
theorem kX7_eraseError (l : Launch) (D : va_G) (cI cS : ClassId) (h0 h1 : Nat) (w1 : Nat) (w2 : Int32) (w3 : Nat) (w4 : Int32) (w5 : Nat) (w6 : Nat) (w7 : Int32) (w8 : Int32) (w9 : Int32) (w10 : Int32) (w11 : Int32) (w12 : Int32) (p0 : Int32) (τ : FnI) : KR l yX7_eraseError wsX7_eraseError { frames := 3, cells := 0, slots := 0, locals := 60 } D (tysA cI cS) [.ref h0, .int p0] [(h0, .inr (7, [.ref h1, .ref w1, .int w2, .ref w3, .int w4, .ref w5, .ref w6, .int w7, .int w8, .int w9, .int w10, .int w11, .int w12])), (h1, .inl (cI, 163, .inl τ))] (fX7_eraseError p0 τ) := by
  refine KR.of (cc := cX7_eraseError) (maxL := 2) (ty := .int) (by decide) rfl (Nat.le_of_ble_eq_true rfl) rfl (fun p e s m args below meth c ls Q hx hb hml hown hts hE hP hl hend => ?_)
  have hown : s.vm.findClass RX7 = some m.cls := hown
  have hl : lv_has ls 2 [(0, .ref h0), (1, .int p0)] := hl
  refine lv_iload_n hx hb dX7_eraseError_0 rfl (lv_at hl 1 rfl) ?_
  refine cRS ⟨hx, hb, hml, hown, hts⟩ (kX7_isKey l D cI cS p0) (va_cwS 1 hts gX7_eraseError_X7_isKey rfl rfl rfl (by decide +kernel) ⟨Nat.le_of_ble_eq_true rfl, Nat.le_of_ble_eq_true rfl⟩) hE hP [] rfl rfl hl.1 rfl (Nat.le_of_ble_eq_true rfl) ⟨Nat.zero_le _, Nat.zero_le _⟩ dX7_eraseError_1 ?_
  refine lv_if_ne (tgt := 9) hx hb dX7_eraseError_4 (by decide) (fun c_4 => ?_) (fun c_4 => ?_)
  · refine lv_aload_n hx hb dX7_eraseError_9 rfl (lv_at hl 0 rfl) ?_
    refine lv_iconst (v := (0 : Int32)) hx hb dX7_eraseError_10 (by decide +kernel) ?_
    refine lv_iload_n hx hb dX7_eraseError_11 rfl (lv_at hl 1 rfl) ?_
    refine cRV ⟨hx, hb, hml, hown, hts⟩ (kX7_row l D cI cS h0 h1 w1 w2 w3 w4 w5 w6 w7 w8 w9 w10 w11 w12 (0 : Int32) p0 τ (zz_rowK zz_T0 (zz_isKey7 c_4))) (cwV 2 hts gX7_eraseError_X7_row rfl rfl rfl (by decide +kernel) ⟨Nat.le_of_ble_eq_true rfl, Nat.le_of_ble_eq_true rfl⟩) hE hP 0 rfl rfl [0, 1] rfl rfl hl.1 rfl (Nat.le_of_ble_eq_true rfl) ⟨Nat.zero_le _, Nat.zero_le _⟩ dX7_eraseError_12 ?_
    refine lv_iconst (v := (-1 : Int32)) hx hb dX7_eraseError_15 (by decide +kernel) ?_
    refine lv_icmp_ne (tgt := 33) hx hb dX7_eraseError_16 (by decide) (fun c_16 => ?_) (fun c_16 => ?_)
    · refine lv_aload_n hx hb dX7_eraseError_33 rfl (lv_at hl 0 rfl) ?_
      refine cRV ⟨hx, hb, hml, hown, hts⟩ (kX7_changeError l D cI cS h0 h1 w1 w2 w3 w4 w5 w6 w7 w8 w9 w10 w11 w12 τ) (cwV 0 hts gX7_eraseError_X7_changeError rfl rfl rfl (by decide +kernel) ⟨Nat.le_of_ble_eq_true rfl, Nat.le_of_ble_eq_true rfl⟩) hE hP 0 rfl rfl [0, 1] rfl rfl hl.1 rfl (Nat.le_of_ble_eq_true rfl) ⟨Nat.zero_le _, Nat.zero_le _⟩ dX7_eraseError_34 ?_
      exact hend _ _ _ dX7_eraseError_37 rfl (fX7_eraseError_p0 p0 τ c_4 c_16)
    · refine lv_aload_n hx hb dX7_eraseError_19 rfl (lv_at hl 0 rfl) ?_
      refine va_get (D := D) (ci := 7) (v := .ref h1) (C := RX7) (T := TX7) (N := 13) hx hb hts (fun _ h9 => List.mem_cons_of_mem _ (List.mem_append_right _ h9)) hown hE.1 hP 0 rfl rfl 0 (by decide) (hts (.fieldLink RX7 7 "ShadowTableModel" "s" "[I") (List.mem_of_getElem? (i := 1) rfl)) (fun _ h9 => h9) rfl dX7_eraseError_20 ?_
      refine lv_iconst (v := (0 : Int32)) hx hb dX7_eraseError_23 (by decide +kernel) ?_
      refine xld (v := (τ 0)) (j := 0) hx hb hE hP 1 rfl rfl cl_0 (in_0 (by decide)) rfl dX7_eraseError_24 ?_
      refine lv_iconst (v := (3 : Int32)) hx hb dX7_eraseError_25 (by decide +kernel) ?_
      refine lv_icmp_eq (tgt := 33) hx hb dX7_eraseError_26 (by decide) (fun c_26 => ?_) (fun c_26 => ?_)
      · refine lv_aload_n hx hb dX7_eraseError_33 rfl (lv_at hl 0 rfl) ?_
        refine cRV ⟨hx, hb, hml, hown, hts⟩ (kX7_changeError l D cI cS h0 h1 w1 w2 w3 w4 w5 w6 w7 w8 w9 w10 w11 w12 τ) (cwV 0 hts gX7_eraseError_X7_changeError rfl rfl rfl (by decide +kernel) ⟨Nat.le_of_ble_eq_true rfl, Nat.le_of_ble_eq_true rfl⟩) hE hP 0 rfl rfl [0, 1] rfl rfl hl.1 rfl (Nat.le_of_ble_eq_true rfl) ⟨Nat.zero_le _, Nat.zero_le _⟩ dX7_eraseError_34 ?_
        exact hend _ _ _ dX7_eraseError_37 rfl (fX7_eraseError_p1 p0 τ c_4 c_16 c_26)
      · refine lv_iconst (v := (0 : Int32)) hx hb dX7_eraseError_29 (by decide +kernel) ?_
        refine lv_goto (tgt := 37) hx hb dX7_eraseError_30 (by decide) ?_
        exact hend _ _ _ dX7_eraseError_37 rfl (fX7_eraseError_p2 p0 τ c_4 c_16 c_26)
  · refine lv_iconst (v := (-1 : Int32)) hx hb dX7_eraseError_7 (by decide +kernel) ?_
    exact hend _ _ _ dX7_eraseError_8 rfl (fX7_eraseError_p3 p0 τ c_4)

theorem zz_ee {a : Int32} {τ : FnI} (c : (0 : Int32) ≤ fX7_eraseError a τ) : Bd a 31 := by
  unfold fX7_eraseError at c
  by_cases h : fX7_isKey a = (0 : Int32)
  · rw [if_pos h] at c; exact absurd c (by decide)
  · exact zz_isKey7 h

def fX7_beginError (p0 : Int32) (p1 : Int32) (τ : FnI) : Int32 := (if (fX7_in p0 (0 : Int32) (4 : Int32)) = (0 : Int32) then (-2 : Int32) else (if (fX7_in p1 (1 : Int32) (8 : Int32)) = (0 : Int32) then (-2 : Int32) else (if (fX7_isCopy τ) = (0 : Int32) then (0 : Int32) else (-4 : Int32))))
theorem fX7_beginError_p0 (p0 : Int32) (p1 : Int32) (τ : FnI) (c_6 : (fX7_in p0 (0 : Int32) (4 : Int32)) = (0 : Int32)) : (fX7_beginError p0 p1 τ) = (-2 : Int32) := by
  simp only [fX7_beginError, if_pos c_6]
theorem fX7_beginError_p1 (p0 : Int32) (p1 : Int32) (τ : FnI) (c_6 : ¬ (fX7_in p0 (0 : Int32) (4 : Int32)) = (0 : Int32)) (c_16 : ¬ (fX7_in p1 (1 : Int32) (8 : Int32)) = (0 : Int32)) (c_28 : (fX7_isCopy τ) = (0 : Int32)) : (fX7_beginError p0 p1 τ) = (0 : Int32) := by
  simp only [fX7_beginError, if_neg c_6, if_neg c_16, if_pos c_28]
theorem fX7_beginError_p2 (p0 : Int32) (p1 : Int32) (τ : FnI) (c_6 : ¬ (fX7_in p0 (0 : Int32) (4 : Int32)) = (0 : Int32)) (c_16 : ¬ (fX7_in p1 (1 : Int32) (8 : Int32)) = (0 : Int32)) (c_28 : ¬ (fX7_isCopy τ) = (0 : Int32)) : (fX7_beginError p0 p1 τ) = (-4 : Int32) := by
  simp only [fX7_beginError, if_neg c_6, if_neg c_16, if_neg c_28]
theorem fX7_beginError_p3 (p0 : Int32) (p1 : Int32) (τ : FnI) (c_6 : ¬ (fX7_in p0 (0 : Int32) (4 : Int32)) = (0 : Int32)) (c_16 : (fX7_in p1 (1 : Int32) (8 : Int32)) = (0 : Int32)) : (fX7_beginError p0 p1 τ) = (-2 : Int32) := by
  simp only [fX7_beginError, if_neg c_6, if_pos c_16]
set_option maxHeartbeats 4000000 in
set_option maxRecDepth 100000 in
theorem kX7_beginError (l : Launch) (D : va_G) (cI cS : ClassId) (h0 h1 : Nat) (w1 : Nat) (w2 : Int32) (w3 : Nat) (w4 : Int32) (w5 : Nat) (w6 : Nat) (w7 : Int32) (w8 : Int32) (w9 : Int32) (w10 : Int32) (w11 : Int32) (w12 : Int32) (p0 : Int32) (p1 : Int32) (τ : FnI) : KR l yX7_beginError wsX7_beginError { frames := 1, cells := 0, slots := 0, locals := 22 } D (tysA cI cS) [.ref h0, .int p0, .int p1] [(h0, .inr (7, [.ref h1, .ref w1, .int w2, .ref w3, .int w4, .ref w5, .ref w6, .int w7, .int w8, .int w9, .int w10, .int w11, .int w12])), (h1, .inl (cI, 163, .inl τ))] (fX7_beginError p0 p1 τ) := by
  refine KR.of (cc := cX7_beginError) (maxL := 3) (ty := .int) (by decide) rfl (Nat.le_of_ble_eq_true rfl) rfl (fun p e s m args below meth c ls Q hx hb hml hown hts hE hP hl hend => ?_)
  have hown : s.vm.findClass RX7 = some m.cls := hown
  have hl : lv_has ls 3 [(0, .ref h0), (1, .int p0), (2, .int p1)] := hl
  refine lv_iload_n hx hb dX7_beginError_0 rfl (lv_at hl 1 rfl) ?_
  refine lv_iconst (v := (0 : Int32)) hx hb dX7_beginError_1 (by decide +kernel) ?_
  refine lv_iconst (v := (4 : Int32)) hx hb dX7_beginError_2 (by decide +kernel) ?_
  refine cRS ⟨hx, hb, hml, hown, hts⟩ (kX7_in l D cI cS p0 (0 : Int32) (4 : Int32)) (va_cwS 3 hts gX7_beginError_X7_in rfl rfl rfl (by decide +kernel) ⟨Nat.le_of_ble_eq_true rfl, Nat.le_of_ble_eq_true rfl⟩) hE hP [] rfl rfl hl.1 rfl (Nat.le_of_ble_eq_true rfl) ⟨Nat.zero_le _, Nat.zero_le _⟩ dX7_beginError_3 ?_
  refine lv_if_eq (tgt := 19) hx hb dX7_beginError_6 (by decide) (fun c_6 => ?_) (fun c_6 => ?_)
  · refine lv_bipush (v := (-2 : Int32)) hx hb dX7_beginError_19 (by decide +kernel) ?_
    refine lv_goto (tgt := 37) hx hb dX7_beginError_21 (by decide) ?_
    exact hend _ _ _ dX7_beginError_37 rfl (fX7_beginError_p0 p0 p1 τ c_6)
  · refine lv_iload_n hx hb dX7_beginError_9 rfl (lv_at hl 2 rfl) ?_
    refine lv_iconst (v := (1 : Int32)) hx hb dX7_beginError_10 (by decide +kernel) ?_
    refine lv_bipush (v := (8 : Int32)) hx hb dX7_beginError_11 (by decide +kernel) ?_
    refine cRS ⟨hx, hb, hml, hown, hts⟩ (kX7_in l D cI cS p1 (1 : Int32) (8 : Int32)) (va_cwS 3 hts gX7_beginError_X7_in rfl rfl rfl (by decide +kernel) ⟨Nat.le_of_ble_eq_true rfl, Nat.le_of_ble_eq_true rfl⟩) hE hP [] rfl rfl hl.1 rfl (Nat.le_of_ble_eq_true rfl) ⟨Nat.zero_le _, Nat.zero_le _⟩ dX7_beginError_13 ?_
    refine lv_if_ne (tgt := 24) hx hb dX7_beginError_16 (by decide) (fun c_16 => ?_) (fun c_16 => ?_)
    · refine lv_aload_n hx hb dX7_beginError_24 rfl (lv_at hl 0 rfl) ?_
      refine cRV ⟨hx, hb, hml, hown, hts⟩ (kX7_isCopy l D cI cS h0 h1 w1 w2 w3 w4 w5 w6 w7 w8 w9 w10 w11 w12 τ) (cwV 0 hts gX7_beginError_X7_isCopy rfl rfl rfl (by decide +kernel) ⟨Nat.le_of_ble_eq_true rfl, Nat.le_of_ble_eq_true rfl⟩) hE hP 0 rfl rfl [0, 1] rfl rfl hl.1 rfl (Nat.le_of_ble_eq_true rfl) ⟨Nat.zero_le _, Nat.zero_le _⟩ dX7_beginError_25 ?_
      refine lv_if_eq (tgt := 36) hx hb dX7_beginError_28 (by decide) (fun c_28 => ?_) (fun c_28 => ?_)
      · refine lv_iconst (v := (0 : Int32)) hx hb dX7_beginError_36 (by decide +kernel) ?_
        exact hend _ _ _ dX7_beginError_37 rfl (fX7_beginError_p1 p0 p1 τ c_6 c_16 c_28)
      · refine lv_bipush (v := (-4 : Int32)) hx hb dX7_beginError_31 (by decide +kernel) ?_
        refine lv_goto (tgt := 37) hx hb dX7_beginError_33 (by decide) ?_
        exact hend _ _ _ dX7_beginError_37 rfl (fX7_beginError_p2 p0 p1 τ c_6 c_16 c_28)
    · refine lv_bipush (v := (-2 : Int32)) hx hb dX7_beginError_19 (by decide +kernel) ?_
      refine lv_goto (tgt := 37) hx hb dX7_beginError_21 (by decide) ?_
      exact hend _ _ _ dX7_beginError_37 rfl (fX7_beginError_p3 p0 p1 τ c_6 c_16)

def fX7_swapError (τ : FnI) : Int32 := (if (τ 0) = (3 : Int32) then (if (τ 4) = (0 : Int32) then (0 : Int32) else (-4 : Int32)) else (-4 : Int32))
theorem fX7_swapError_p0 (τ : FnI) (c_7 : ¬ (τ 0) = (3 : Int32)) : (fX7_swapError τ) = (-4 : Int32) := by
  simp only [fX7_swapError, if_neg c_7]
theorem fX7_swapError_p1 (τ : FnI) (c_7 : (τ 0) = (3 : Int32)) (c_16 : ¬ (τ 4) = (0 : Int32)) : (fX7_swapError τ) = (-4 : Int32) := by
  simp only [fX7_swapError, if_pos c_7, if_neg c_16]
theorem fX7_swapError_p2 (τ : FnI) (c_7 : (τ 0) = (3 : Int32)) (c_16 : (τ 4) = (0 : Int32)) : (fX7_swapError τ) = (0 : Int32) := by
  simp only [fX7_swapError, if_pos c_7, if_pos c_16]
set_option maxHeartbeats 4000000 in
set_option maxRecDepth 100000 in
theorem kX7_swapError (l : Launch) (D : va_G) (cI cS : ClassId) (h0 h1 : Nat) (w1 : Nat) (w2 : Int32) (w3 : Nat) (w4 : Int32) (w5 : Nat) (w6 : Nat) (w7 : Int32) (w8 : Int32) (w9 : Int32) (w10 : Int32) (w11 : Int32) (w12 : Int32) (τ : FnI) : KR l yX7_swapError wsX7_swapError { frames := 0, cells := 0, slots := 0, locals := 0 } D (tysA cI cS) [.ref h0] [(h0, .inr (7, [.ref h1, .ref w1, .int w2, .ref w3, .int w4, .ref w5, .ref w6, .int w7, .int w8, .int w9, .int w10, .int w11, .int w12])), (h1, .inl (cI, 163, .inl τ))] (fX7_swapError τ) := by
  refine KR.of (cc := cX7_swapError) (maxL := 1) (ty := .int) (by decide) rfl (Nat.le_of_ble_eq_true rfl) rfl (fun p e s m args below meth c ls Q hx hb hml hown hts hE hP hl hend => ?_)
  have hown : s.vm.findClass RX7 = some m.cls := hown
  have hl : lv_has ls 1 [(0, .ref h0)] := hl
  refine lv_aload_n hx hb dX7_swapError_0 rfl (lv_at hl 0 rfl) ?_
  refine va_get (D := D) (ci := 7) (v := .ref h1) (C := RX7) (T := TX7) (N := 13) hx hb hts (fun _ h9 => List.mem_cons_of_mem _ (List.mem_append_right _ h9)) hown hE.1 hP 0 rfl rfl 0 (by decide) (hts (.fieldLink RX7 7 "ShadowTableModel" "s" "[I") (List.mem_of_getElem? (i := 1) rfl)) (fun _ h9 => h9) rfl dX7_swapError_1 ?_
  refine lv_iconst (v := (0 : Int32)) hx hb dX7_swapError_4 (by decide +kernel) ?_
  refine xld (v := (τ 0)) (j := 0) hx hb hE hP 1 rfl rfl cl_0 (in_0 (by decide)) rfl dX7_swapError_5 ?_
  refine lv_iconst (v := (3 : Int32)) hx hb dX7_swapError_6 (by decide +kernel) ?_
  refine lv_icmp_ne (tgt := 23) hx hb dX7_swapError_7 (by decide) (fun c_7 => ?_) (fun c_7 => ?_)
  · refine lv_bipush (v := (-4 : Int32)) hx hb dX7_swapError_23 (by decide +kernel) ?_
    exact hend _ _ _ dX7_swapError_25 rfl (fX7_swapError_p0 τ c_7)
  · refine lv_aload_n hx hb dX7_swapError_10 rfl (lv_at hl 0 rfl) ?_
    refine va_get (D := D) (ci := 7) (v := .ref h1) (C := RX7) (T := TX7) (N := 13) hx hb hts (fun _ h9 => List.mem_cons_of_mem _ (List.mem_append_right _ h9)) hown hE.1 hP 0 rfl rfl 0 (by decide) (hts (.fieldLink RX7 7 "ShadowTableModel" "s" "[I") (List.mem_of_getElem? (i := 1) rfl)) (fun _ h9 => h9) rfl dX7_swapError_11 ?_
    refine lv_iconst (v := (4 : Int32)) hx hb dX7_swapError_14 (by decide +kernel) ?_
    refine xld (v := (τ 4)) (j := 4) hx hb hE hP 1 rfl rfl cl_4 (in_4 (by decide)) rfl dX7_swapError_15 ?_
    refine lv_if_ne (tgt := 23) hx hb dX7_swapError_16 (by decide) (fun c_16 => ?_) (fun c_16 => ?_)
    · refine lv_bipush (v := (-4 : Int32)) hx hb dX7_swapError_23 (by decide +kernel) ?_
      exact hend _ _ _ dX7_swapError_25 rfl (fX7_swapError_p1 τ c_7 c_16)
    · refine lv_iconst (v := (0 : Int32)) hx hb dX7_swapError_19 (by decide +kernel) ?_
      refine lv_goto (tgt := 25) hx hb dX7_swapError_20 (by decide) ?_
      exact hend _ _ _ dX7_swapError_25 rfl (fX7_swapError_p2 τ c_7 c_16)

def fX7_phaseError (p0 : Int32) (τ : FnI) : Int32 := (if (τ 0) = p0 then (0 : Int32) else (-4 : Int32))
theorem fX7_phaseError_p0 (p0 : Int32) (τ : FnI) (c_7 : ¬ (τ 0) = p0) : (fX7_phaseError p0 τ) = (-4 : Int32) := by
  simp only [fX7_phaseError, if_neg c_7]
theorem fX7_phaseError_p1 (p0 : Int32) (τ : FnI) (c_7 : (τ 0) = p0) : (fX7_phaseError p0 τ) = (0 : Int32) := by
  simp only [fX7_phaseError, if_pos c_7]
set_option maxHeartbeats 4000000 in
set_option maxRecDepth 100000 in
theorem kX7_phaseError (l : Launch) (D : va_G) (cI cS : ClassId) (h0 h1 : Nat) (w1 : Nat) (w2 : Int32) (w3 : Nat) (w4 : Int32) (w5 : Nat) (w6 : Nat) (w7 : Int32) (w8 : Int32) (w9 : Int32) (w10 : Int32) (w11 : Int32) (w12 : Int32) (p0 : Int32) (τ : FnI) : KR l yX7_phaseError wsX7_phaseError { frames := 0, cells := 0, slots := 0, locals := 0 } D (tysA cI cS) [.ref h0, .int p0] [(h0, .inr (7, [.ref h1, .ref w1, .int w2, .ref w3, .int w4, .ref w5, .ref w6, .int w7, .int w8, .int w9, .int w10, .int w11, .int w12])), (h1, .inl (cI, 163, .inl τ))] (fX7_phaseError p0 τ) := by
  refine KR.of (cc := cX7_phaseError) (maxL := 2) (ty := .int) (by decide) rfl (Nat.le_of_ble_eq_true rfl) rfl (fun p e s m args below meth c ls Q hx hb hml hown hts hE hP hl hend => ?_)
  have hown : s.vm.findClass RX7 = some m.cls := hown
  have hl : lv_has ls 2 [(0, .ref h0), (1, .int p0)] := hl
  refine lv_aload_n hx hb dX7_phaseError_0 rfl (lv_at hl 0 rfl) ?_
  refine va_get (D := D) (ci := 7) (v := .ref h1) (C := RX7) (T := TX7) (N := 13) hx hb hts (fun _ h9 => List.mem_cons_of_mem _ (List.mem_append_right _ h9)) hown hE.1 hP 0 rfl rfl 0 (by decide) (hts (.fieldLink RX7 7 "ShadowTableModel" "s" "[I") (List.mem_of_getElem? (i := 1) rfl)) (fun _ h9 => h9) rfl dX7_phaseError_1 ?_
  refine lv_iconst (v := (0 : Int32)) hx hb dX7_phaseError_4 (by decide +kernel) ?_
  refine xld (v := (τ 0)) (j := 0) hx hb hE hP 1 rfl rfl cl_0 (in_0 (by decide)) rfl dX7_phaseError_5 ?_
  refine lv_iload_n hx hb dX7_phaseError_6 rfl (lv_at hl 1 rfl) ?_
  refine lv_icmp_ne (tgt := 14) hx hb dX7_phaseError_7 (by decide) (fun c_7 => ?_) (fun c_7 => ?_)
  · refine lv_bipush (v := (-4 : Int32)) hx hb dX7_phaseError_14 (by decide +kernel) ?_
    exact hend _ _ _ dX7_phaseError_16 rfl (fX7_phaseError_p0 p0 τ c_7)
  · refine lv_iconst (v := (0 : Int32)) hx hb dX7_phaseError_10 (by decide +kernel) ?_
    refine lv_goto (tgt := 16) hx hb dX7_phaseError_11 (by decide) ?_
    exact hend _ _ _ dX7_phaseError_16 rfl (fX7_phaseError_p1 p0 τ c_7)

def fX7_apply_44 : Nat → Nat → FnI → FnI
  | 0, k, σ => σ
  | n + 1, k, σ => (if ((115 : Int32) + ((2 : Int32) * (σ 4))) ≤ (nI k) then (upd σ 16 ((σ 16) + (1 : Int32))) else fX7_apply_44 n (k + 1) (upd σ k (σ (k + 2))))
def fX7_apply (τ : FnI) : FnI := (let u_28 := (fX7_lay (1 : Int32) (τ 115) (fX7_becomes (τ 1) (τ 115) (τ 116)) τ); fX7_apply_44 49 115 (upd u_28 4 ((u_28 4) - (1 : Int32))))
theorem fX7_apply_44_p0 (n : Nat) (k : Nat) (σ : FnI) (c_56 : ((115 : Int32) + ((2 : Int32) * (σ 4))) ≤ (nI k)) : fX7_apply_44 (n + 1) k σ = (upd σ 16 ((σ 16) + (1 : Int32))) := by
  simp only [fX7_apply_44, if_pos c_56]
theorem fX7_apply_44_p1 (n : Nat) (k : Nat) (σ : FnI) (c_56 : ¬ ((115 : Int32) + ((2 : Int32) * (σ 4))) ≤ (nI k)) : fX7_apply_44 (n + 1) k σ = fX7_apply_44 n (k + 1) (upd σ k (σ (k + 2))) := by
  simp only [fX7_apply_44, if_neg c_56]
theorem fX7_apply_p2 (τ : FnI) (u_28 : FnI) (e_28 : (fX7_lay (1 : Int32) (τ 115) (fX7_becomes (τ 1) (τ 115) (τ 116)) τ) = u_28) : (fX7_apply τ) = fX7_apply_44 49 115 (upd u_28 4 ((u_28 4) - (1 : Int32))) := by
  simp only [fX7_apply, e_28]
set_option maxHeartbeats 4000000 in
set_option maxRecDepth 100000 in
theorem kX7_apply (l : Launch) (D : va_G) (cI cS : ClassId) (h0 h1 : Nat) (w1 : Nat) (w2 : Int32) (w3 : Nat) (w4 : Int32) (w5 : Nat) (w6 : Nat) (w7 : Int32) (w8 : Int32) (w9 : Int32) (w10 : Int32) (w11 : Int32) (w12 : Int32) (τ : FnI) (hm : WM τ) (hz : ¬ (τ 4) ≤ (0 : Int32)) : KV l yX7_apply wsX7_apply { frames := 1, cells := 0, slots := 0, locals := 23 } D (tysA cI cS) [.ref h0] [(h0, .inr (7, [.ref h1, .ref w1, .int w2, .ref w3, .int w4, .ref w5, .ref w6, .int w7, .int w8, .int w9, .int w10, .int w11, .int w12])), (h1, .inl (cI, 163, .inl τ))] (fX7_apply τ) (fun u => [(h0, .inr (7, [.ref h1, .ref w1, .int w2, .ref w3, .int w4, .ref w5, .ref w6, .int w7, .int w8, .int w9, .int w10, .int w11, .int w12])), (h1, .inl (cI, 163, .inl u))]) := by
  refine KV.of (cc := cX7_apply) (maxL := 3) (by decide) rfl (Nat.le_of_ble_eq_true rfl) rfl (fun p e s m args below meth c ls Q A hx hb hml hown hts hE hP hD hS hl hend => ?_)
  have hown : s.vm.findClass RX7 = some m.cls := hown
  have hl : lv_has ls 3 [(0, .ref h0)] := hl
  have loop_44 : ∀ (n : Nat) (k : Nat) (σ : FnI), Bd (σ 4) 23 → 115 ≤ k → k ≤ 161 → 163 - k < n → (fX7_apply τ) = fX7_apply_44 n k σ → ∀ (H : Heap) (locs : List Loc), va_P D vwCl [(h0, .inr (7, [.ref h1, .ref w1, .int w2, .ref w3, .int w4, .ref w5, .ref w6, .int w7, .int w8, .int w9, .int w10, .int w11, .int w12])), (h1, .inl (cI, 163, .inl σ))] H → va_D A [(h0, .inr (7, [.ref h1, .ref w1, .int w2, .ref w3, .int w4, .ref w5, .ref w6, .int w7, .int w8, .int w9, .int w10, .int w11, .int w12])), (h1, .inl (cI, 163, .inl σ))] → va_S A s.heap H locs → ∀ (ls : Array Slot), lv_has ls 3 [(0, .ref h0), (2, .int (nI k))] → W p l e { frames := 1, cells := 0, slots := 0, locals := 23 } s m args below meth c H locs 0 0 Q (F0 m 44 ls []) := by
    intro n
    induction n with
    | zero =>
      intro k σ hs4 hk0 hk hn
      exact absurd hn (by omega)
    | succ n ih =>
      intro k σ hs4 hk0 hk hn hF H locs hP hD hS ls hl
      refine lv_iload_n hx hb dX7_apply_44 rfl (lv_at hl 1 rfl) ?_
      refine lv_bipush (v := (115 : Int32)) hx hb dX7_apply_45 (by decide +kernel) ?_
      refine lv_iconst (v := (2 : Int32)) hx hb dX7_apply_47 (by decide +kernel) ?_
      refine lv_aload_n hx hb dX7_apply_48 rfl (lv_at hl 0 rfl) ?_
      refine va_get (D := D) (ci := 7) (v := .ref h1) (C := RX7) (T := TX7) (N := 13) hx hb hts (fun _ h9 => List.mem_cons_of_mem _ (List.mem_append_right _ h9)) hown hE.1 hP 0 rfl rfl 0 (by decide) (hts (.fieldLink RX7 7 "ShadowTableModel" "s" "[I") (List.mem_of_getElem? (i := 1) rfl)) (fun _ h9 => h9) rfl dX7_apply_49 ?_
      refine lv_iconst (v := (4 : Int32)) hx hb dX7_apply_52 (by decide +kernel) ?_
      refine xld (v := (σ 4)) (j := 4) hx hb hE hP 1 rfl rfl cl_4 (in_4 (by decide)) rfl dX7_apply_53 ?_
      refine lv_imul hx hb dX7_apply_54 ?_
      refine lv_iadd hx hb dX7_apply_55 ?_
      refine lv_icmp_ge (tgt := 79) hx hb dX7_apply_56 (by decide) (fun c_56 => ?_) (fun c_56 => ?_)
      · refine lv_aload_n hx hb dX7_apply_79 rfl (lv_at hl 0 rfl) ?_
        refine va_get (D := D) (ci := 7) (v := .ref h1) (C := RX7) (T := TX7) (N := 13) hx hb hts (fun _ h9 => List.mem_cons_of_mem _ (List.mem_append_right _ h9)) hown hE.1 hP 0 rfl rfl 0 (by decide) (hts (.fieldLink RX7 7 "ShadowTableModel" "s" "[I") (List.mem_of_getElem? (i := 1) rfl)) (fun _ h9 => h9) rfl dX7_apply_80 ?_
        refine lv_bipush (v := (16 : Int32)) hx hb dX7_apply_83 (by decide +kernel) ?_
        refine lv_dup2_11 hx hb dX7_apply_85 rfl rfl ?_
        refine xld (v := (σ 16)) (j := 16) hx hb hE hP 1 rfl rfl cl_16 (in_16 (by decide)) rfl dX7_apply_86 ?_
        refine lv_iconst (v := (1 : Int32)) hx hb dX7_apply_87 (by decide +kernel) ?_
        refine lv_iadd hx hb dX7_apply_88 ?_
        refine xst (j := 16) hx hb hE hP hD hS 1 rfl rfl cl_16 (in_16 (by decide)) [(h0, .inr (7, [.ref h1, .ref w1, .int w2, .ref w3, .int w4, .ref w5, .ref w6, .int w7, .int w8, .int w9, .int w10, .int w11, .int w12])), (h1, .inl (cI, 163, .inl (upd σ 16 ((σ 16) + (1 : Int32)))))] rfl dX7_apply_89 (fun H locs hP hD hS => ?_)
        exact hend _ _ _ _ _ dX7_apply_90 (hF.trans (fX7_apply_44_p0 n k σ c_56)) hP hS
      · have d_56 := zz_sh hs4 (by omega) c_56; have d_57 := hs4.2
        refine lv_aload_n hx hb dX7_apply_59 rfl (lv_at hl 0 rfl) ?_
        refine va_get (D := D) (ci := 7) (v := .ref h1) (C := RX7) (T := TX7) (N := 13) hx hb hts (fun _ h9 => List.mem_cons_of_mem _ (List.mem_append_right _ h9)) hown hE.1 hP 0 rfl rfl 0 (by decide) (hts (.fieldLink RX7 7 "ShadowTableModel" "s" "[I") (List.mem_of_getElem? (i := 1) rfl)) (fun _ h9 => h9) rfl dX7_apply_60 ?_
        refine lv_iload_n hx hb dX7_apply_63 rfl (lv_at hl 1 rfl) ?_
        refine lv_aload_n hx hb dX7_apply_64 rfl (lv_at hl 0 rfl) ?_
        refine va_get (D := D) (ci := 7) (v := .ref h1) (C := RX7) (T := TX7) (N := 13) hx hb hts (fun _ h9 => List.mem_cons_of_mem _ (List.mem_append_right _ h9)) hown hE.1 hP 0 rfl rfl 0 (by decide) (hts (.fieldLink RX7 7 "ShadowTableModel" "s" "[I") (List.mem_of_getElem? (i := 1) rfl)) (fun _ h9 => h9) rfl dX7_apply_65 ?_
        refine lv_iload_n hx hb dX7_apply_68 rfl (lv_at hl 1 rfl) ?_
        refine lv_iconst (v := (2 : Int32)) hx hb dX7_apply_69 (by decide +kernel) ?_
        refine lv_iadd hx hb dX7_apply_70 ?_
        refine xld (v := (σ (k + 2))) (j := (k + 2)) hx hb hE hP 1 rfl rfl (zz_k2 (by omega)) (zz_k2i (by omega) (by omega)) rfl dX7_apply_71 ?_
        refine xst (j := k) hx hb hE hP hD hS 1 rfl rfl (nI_clamp (by omega)) (vp_in_nI (by omega) (by omega)) [(h0, .inr (7, [.ref h1, .ref w1, .int w2, .ref w3, .int w4, .ref w5, .ref w6, .int w7, .int w8, .int w9, .int w10, .int w11, .int w12])), (h1, .inl (cI, 163, .inl (upd σ k (σ (k + 2)))))] rfl dX7_apply_72 (fun H locs hP hD hS => ?_)
        refine lv_iinc (v := (nI (k + 1))) (lv' := [(2, .int (nI (k + 1))), (0, .ref h0)]) hx hb dX7_apply_73 hl (k := 1) rfl (nI_1 _) (by decide) rfl (fun ls hl => ?_)
        refine lv_goto (tgt := 44) hx hb dX7_apply_76 (by decide) ?_
        exact ih (k + 1) (upd σ k (σ (k + 2))) (by rw [pk_un (by omega)]; exact hs4) (by omega) (by omega) (by omega) (hF.trans (fX7_apply_44_p1 n k σ c_56)) _ _ hP hD hS _ (lv_sub hl [1, 0] rfl)
  refine lv_aload_n hx hb dX7_apply_0 rfl (lv_at hl 0 rfl) ?_
  refine va_get (D := D) (ci := 7) (v := .ref h1) (C := RX7) (T := TX7) (N := 13) hx hb hts (fun _ h9 => List.mem_cons_of_mem _ (List.mem_append_right _ h9)) hown hE.1 hP 0 rfl rfl 0 (by decide) (hts (.fieldLink RX7 7 "ShadowTableModel" "s" "[I") (List.mem_of_getElem? (i := 1) rfl)) (fun _ h9 => h9) rfl dX7_apply_1 ?_
  refine lv_bipush (v := (115 : Int32)) hx hb dX7_apply_4 (by decide +kernel) ?_
  refine xld (v := (τ 115)) (j := 115) hx hb hE hP 1 rfl rfl cl_115 (in_115 (by decide)) rfl dX7_apply_6 ?_
  refine lv_istore_n (lv' := [(1, .int (τ 115)), (0, .ref h0)]) hx hb dX7_apply_7 rfl hl (by decide) rfl (fun ls hl => ?_)
  refine lv_aload_n hx hb dX7_apply_8 rfl (lv_at hl 1 rfl) ?_
  refine lv_iconst (v := (1 : Int32)) hx hb dX7_apply_9 (by decide +kernel) ?_
  refine lv_iload_n hx hb dX7_apply_10 rfl (lv_at hl 0 rfl) ?_
  refine lv_aload_n hx hb dX7_apply_11 rfl (lv_at hl 1 rfl) ?_
  refine va_get (D := D) (ci := 7) (v := .ref h1) (C := RX7) (T := TX7) (N := 13) hx hb hts (fun _ h9 => List.mem_cons_of_mem _ (List.mem_append_right _ h9)) hown hE.1 hP 0 rfl rfl 0 (by decide) (hts (.fieldLink RX7 7 "ShadowTableModel" "s" "[I") (List.mem_of_getElem? (i := 1) rfl)) (fun _ h9 => h9) rfl dX7_apply_12 ?_
  refine lv_iconst (v := (1 : Int32)) hx hb dX7_apply_15 (by decide +kernel) ?_
  refine xld (v := (τ 1)) (j := 1) hx hb hE hP 1 rfl rfl cl_1 (in_1 (by decide)) rfl dX7_apply_16 ?_
  refine lv_iload_n hx hb dX7_apply_17 rfl (lv_at hl 0 rfl) ?_
  refine lv_aload_n hx hb dX7_apply_18 rfl (lv_at hl 1 rfl) ?_
  refine va_get (D := D) (ci := 7) (v := .ref h1) (C := RX7) (T := TX7) (N := 13) hx hb hts (fun _ h9 => List.mem_cons_of_mem _ (List.mem_append_right _ h9)) hown hE.1 hP 0 rfl rfl 0 (by decide) (hts (.fieldLink RX7 7 "ShadowTableModel" "s" "[I") (List.mem_of_getElem? (i := 1) rfl)) (fun _ h9 => h9) rfl dX7_apply_19 ?_
  refine lv_bipush (v := (116 : Int32)) hx hb dX7_apply_22 (by decide +kernel) ?_
  refine xld (v := (τ 116)) (j := 116) hx hb hE hP 1 rfl rfl cl_116 (in_116 (by decide)) rfl dX7_apply_24 ?_
  refine cRS ⟨hx, hb, hml, hown, hts⟩ (kX7_becomes l D cI cS (τ 1) (τ 115) (τ 116)) (va_cwS 3 hts gX7_apply_X7_becomes rfl rfl rfl (by decide +kernel) ⟨Nat.le_of_ble_eq_true rfl, Nat.le_of_ble_eq_true rfl⟩) hE hP [] rfl rfl hl.1 rfl (Nat.le_of_ble_eq_true rfl) ⟨Nat.zero_le _, Nat.zero_le _⟩ dX7_apply_25 ?_
  refine cVV ⟨hx, hb, hml, hown, hts⟩ (kX7_lay l D cI cS h0 h1 w1 w2 w3 w4 w5 w6 w7 w8 w9 w10 w11 w12 (1 : Int32) (τ 115) (fX7_becomes (τ 1) (τ 115) (τ 116)) τ (zz_rowK zz_T1 (zz_m0 hm hz))) (cwV 3 hts gX7_apply_X7_lay rfl rfl rfl (by decide +kernel) ⟨Nat.le_of_ble_eq_true rfl, Nat.le_of_ble_eq_true rfl⟩) hE hP hD hS 0 rfl rfl [0, 1] rfl (by decide) (fun _ => rfl) rfl hl.1 rfl (Nat.le_of_ble_eq_true rfl) ⟨Nat.zero_le _, Nat.zero_le _⟩ dX7_apply_28 (fun u_28 H locs e_28 hP hD hS => ?_)
  have hP : va_P D vwCl [(h0, .inr (7, [.ref h1, .ref w1, .int w2, .ref w3, .int w4, .ref w5, .ref w6, .int w7, .int w8, .int w9, .int w10, .int w11, .int w12])), (h1, .inl (cI, 163, .inl u_28))] H := hP
  have hD : va_D A [(h0, .inr (7, [.ref h1, .ref w1, .int w2, .ref w3, .int w4, .ref w5, .ref w6, .int w7, .int w8, .int w9, .int w10, .int w11, .int w12])), (h1, .inl (cI, 163, .inl u_28))] := hD
  refine lv_aload_n hx hb dX7_apply_31 rfl (lv_at hl 1 rfl) ?_
  refine va_get (D := D) (ci := 7) (v := .ref h1) (C := RX7) (T := TX7) (N := 13) hx hb hts (fun _ h9 => List.mem_cons_of_mem _ (List.mem_append_right _ h9)) hown hE.1 hP 0 rfl rfl 0 (by decide) (hts (.fieldLink RX7 7 "ShadowTableModel" "s" "[I") (List.mem_of_getElem? (i := 1) rfl)) (fun _ h9 => h9) rfl dX7_apply_32 ?_
  refine lv_iconst (v := (4 : Int32)) hx hb dX7_apply_35 (by decide +kernel) ?_
  refine lv_dup2_11 hx hb dX7_apply_36 rfl rfl ?_
  refine xld (v := (u_28 4)) (j := 4) hx hb hE hP 1 rfl rfl cl_4 (in_4 (by decide)) rfl dX7_apply_37 ?_
  refine lv_iconst (v := (1 : Int32)) hx hb dX7_apply_38 (by decide +kernel) ?_
  refine lv_isub hx hb dX7_apply_39 ?_
  refine xst (j := 4) hx hb hE hP hD hS 1 rfl rfl cl_4 (in_4 (by decide)) [(h0, .inr (7, [.ref h1, .ref w1, .int w2, .ref w3, .int w4, .ref w5, .ref w6, .int w7, .int w8, .int w9, .int w10, .int w11, .int w12])), (h1, .inl (cI, 163, .inl (upd u_28 4 ((u_28 4) - (1 : Int32)))))] rfl dX7_apply_40 (fun H locs hP hD hS => ?_)
  refine lv_bipush (v := (115 : Int32)) hx hb dX7_apply_41 (by decide +kernel) ?_
  refine lv_istore_n (lv' := [(2, .int (115 : Int32)), (1, .int (τ 115)), (0, .ref h0)]) hx hb dX7_apply_43 rfl hl (by decide) rfl (fun ls hl => ?_)
  exact loop_44 49 115 (upd u_28 4 ((u_28 4) - (1 : Int32))) (zz_ap4 e_28 hm hz) (by omega) (by omega) (by omega) (fX7_apply_p2 τ u_28 e_28) _ _ hP hD hS _ (lv_sub hl [2, 0] rfl)

theorem apply_44 : ∀ (n k : Nat) (s : FnI), Bd (s 4) 23 → 115 ≤ k → k ≤ 161 → 163 - k < n → ∀ j : Nat, fX7_apply_44 n k s j = if j = 16 then s 16 + 1 else if k ≤ j ∧ j < 115 + 2 * (s 4).toNatClampNeg then s (j + 2) else s j
  | 0, _, _, _, _, _, h, _ => absurd h (by omega)
  | n + 1, k, s, h4, h0, h1, hn, j => by
    unfold fX7_apply_44
    by_cases c : ((115 : Int32) + ((2 : Int32) * (s 4))) ≤ (nI k)
    · rw [if_pos c]
      have hk : ¬ k < 115 + 2 * (s 4).toNatClampNeg := by
        rw [lj_eq h4 (by omega)] at c
        intro q
        exact nI_ge q (by have := h4.2; omega) c
      by_cases e : j = 16
      · rw [if_pos e, e]; exact pk_us
      · rw [if_neg e, if_neg (by omega)]; exact pk_un e
    · rw [if_neg c]
      have hk := zz_sh h4 (by omega) c
      have h42 := h4.2
      have e4 : (upd s k (s (k + 2))) 4 = s 4 := pk_un (by omega)
      rw [apply_44 n (k + 1) (upd s k (s (k + 2))) (by rw [e4]; exact h4) (by omega) (by omega) (by omega) j, e4]
      by_cases e : j = 16
      · rw [if_pos e, if_pos e, pk_un (by omega)]
      · rw [if_neg e, if_neg e]
        by_cases q : k + 1 ≤ j ∧ j < 115 + 2 * (s 4).toNatClampNeg
        · rw [if_pos q, if_pos ⟨by omega, q.2⟩, pk_un (by omega)]
        · rw [if_neg q]
          by_cases q2 : j = k
          · subst q2
            rw [if_pos ⟨Nat.le_refl _, hk⟩, pk_us]
          · rw [if_neg (by omega), pk_un q2]
/-- what is behind one entry's application: the size, the entries, and what stays -/
theorem apply_is {τ : FnI} (hm : WM τ) (hz : ¬ (τ 4) ≤ (0 : Int32)) : ∀ j : Nat, fX7_apply τ j = if j = 16 then τ 16 + 1 else if j = 4 then τ 4 - 1 else if 115 ≤ j ∧ j < 115 + 2 * (τ 4 - 1).toNatClampNeg then τ (j + 2) else fX7_lay (1 : Int32) (τ 115) (fX7_becomes (τ 1) (τ 115) (τ 116)) τ j := by
  intro j
  unfold fX7_apply
  try dsimp only
  have hk := zz_m0 hm hz
  have hl : ∀ i : Nat, (i < 19 ∨ 115 ≤ i) → fX7_lay (1 : Int32) (τ 115) (fX7_becomes (τ 1) (τ 115) (τ 116)) τ i = τ i := fun i hi => lay_other zz_T1 hk hi
  have h4 := zz_ap4 rfl hm hz (v := fX7_becomes (τ 1) (τ 115) (τ 116))
  rw [apply_44 49 115 _ h4 (by omega) (by omega) (by omega) j, pk_us, hl 4 (Or.inl (by omega))]
  by_cases e : j = 16
  · rw [if_pos e, if_pos e, pk_un (by omega), hl 16 (Or.inl (by omega))]
  · rw [if_neg e, if_neg e]
    by_cases e4 : j = 4
    · rw [if_neg (by omega), if_pos e4, e4, pk_us]
    · rw [if_neg e4]
      by_cases q : 115 ≤ j ∧ j < 115 + 2 * (τ 4 - 1).toNatClampNeg
      · rw [if_pos q, if_pos q, pk_un (by omega), hl _ (Or.inr (by omega))]
      · rw [if_neg q, if_neg q, pk_un e4]
theorem m_pred {τ : FnI} (hm : WM τ) (hz : ¬ (τ 4) ≤ (0 : Int32)) : Bd (τ 4 - 1) 23 ∧ (τ 4 - 1).toNatClampNeg + 1 = (τ 4).toNatClampNeg := by
  obtain ⟨j, hj, e⟩ := hm.1.num
  rw [e] at hz ⊢
  cases j with
  | zero => exact absurd (by decide) hz
  | succ j => rw [nI_pred, nI_clamp (by omega), nI_clamp (by omega)]; exact ⟨Bd.of (by omega) (by omega), rfl⟩
theorem zz_WM_apply {τ u : FnI} (e : fX7_apply τ = u) (hm : WM τ) (hz : ¬ (τ 4) ≤ (0 : Int32)) : WM u := by
  subst e
  have h := apply_is hm hz
  have hk := zz_m0 hm hz
  have hp := m_pred hm hz
  have h4 : fX7_apply τ 4 = τ 4 - 1 := by rw [h 4, if_neg (by omega), if_pos rfl]
  have h3 : fX7_apply τ 3 = τ 3 := by rw [h 3, if_neg (by omega), if_neg (by omega), if_neg (by omega), lay_other zz_T1 hk (Or.inl (by omega))]
  refine ⟨by rw [h4]; exact hp.1.mono (by omega), by rw [h3]; exact hm.2.1, fun i hi => ?_⟩
  rw [h4] at hi
  rw [h, if_neg (by omega), if_neg (by omega), if_pos ⟨by omega, by omega⟩]
  have := hm.2.2 (i + 1) (by omega)
  rw [show 115 + 2 * i + 2 = 115 + 2 * (i + 1) from by omega]
  exact this
theorem zz_apply_sz {τ u : FnI} {n : Nat} (e : fX7_apply τ = u) (hm : WM τ) (hz : ¬ (τ 4) ≤ (0 : Int32)) (hn : (τ 4).toNatClampNeg < n + 1) : (u 4).toNatClampNeg < n := by
  subst e
  have h4 : fX7_apply τ 4 = τ 4 - 1 := by rw [apply_is hm hz 4, if_neg (by omega), if_pos rfl]
  have hp := m_pred hm hz
  rw [h4]
  omega

def fX7_copyKeys_2 : Nat → Int32 → FnI → FnI
  | 0, cnt, σ => σ
  | n + 1, cnt, σ => (if (32 : Int32) ≤ (σ 3) then (if (σ 3) = (32 : Int32) then (upd σ 0 (2 : Int32)) else (upd σ 0 (1 : Int32))) else (if (σ 2) ≤ cnt then (if (σ 3) = (32 : Int32) then (upd σ 0 (2 : Int32)) else (upd σ 0 (1 : Int32))) else (if (fX7_row (0 : Int32) (σ 3) σ) = (-1 : Int32) then (if (fX7_row (1 : Int32) (σ 3) σ) = (-1 : Int32) then (if (fX7_due (σ 3) σ) = (-1 : Int32) then fX7_copyKeys_2 n (cnt + (0 : Int32)) (upd σ 3 ((σ 3) + (1 : Int32))) else (let u_75 := (fX7_lay (1 : Int32) (σ 3) (fX7_due (σ 3) σ) σ); fX7_copyKeys_2 n (cnt + (0 : Int32)) (upd (upd u_75 17 ((u_75 17) + (1 : Int32))) 3 ((u_75 3) + (1 : Int32))))) else fX7_copyKeys_2 n (cnt + (0 : Int32)) (upd σ 3 ((σ 3) + (1 : Int32)))) else (if (fX7_row (1 : Int32) (σ 3) σ) = (-1 : Int32) then (if (fX7_due (σ 3) σ) = (-1 : Int32) then fX7_copyKeys_2 n (cnt + (1 : Int32)) (upd σ 3 ((σ 3) + (1 : Int32))) else (let u_75 := (fX7_lay (1 : Int32) (σ 3) (fX7_due (σ 3) σ) σ); fX7_copyKeys_2 n (cnt + (1 : Int32)) (upd (upd u_75 17 ((u_75 17) + (1 : Int32))) 3 ((u_75 3) + (1 : Int32))))) else fX7_copyKeys_2 n (cnt + (1 : Int32)) (upd σ 3 ((σ 3) + (1 : Int32)))))))
def fX7_copyKeys (τ : FnI) : FnI := fX7_copyKeys_2 33 (0 : Int32) τ
theorem fX7_copyKeys_2_p0 (n : Nat) (cnt : Int32) (σ : FnI) (c_10 : (32 : Int32) ≤ (σ 3)) (c_115 : ¬ (σ 3) = (32 : Int32)) : fX7_copyKeys_2 (n + 1) cnt σ = (upd σ 0 (1 : Int32)) := by
  simp only [fX7_copyKeys_2, if_pos c_10, if_neg c_115]
theorem fX7_copyKeys_2_p1 (n : Nat) (cnt : Int32) (σ : FnI) (c_10 : (32 : Int32) ≤ (σ 3)) (c_115 : (σ 3) = (32 : Int32)) : fX7_copyKeys_2 (n + 1) cnt σ = (upd σ 0 (2 : Int32)) := by
  simp only [fX7_copyKeys_2, if_pos c_10, if_pos c_115]
theorem fX7_copyKeys_2_p2 (n : Nat) (cnt : Int32) (σ : FnI) (c_10 : ¬ (32 : Int32) ≤ (σ 3)) (c_20 : (σ 2) ≤ cnt) (c_115 : ¬ (σ 3) = (32 : Int32)) : fX7_copyKeys_2 (n + 1) cnt σ = (upd σ 0 (1 : Int32)) := by
  simp only [fX7_copyKeys_2, if_neg c_10, if_pos c_20, if_neg c_115]
theorem fX7_copyKeys_2_p3 (n : Nat) (cnt : Int32) (σ : FnI) (c_10 : ¬ (32 : Int32) ≤ (σ 3)) (c_20 : (σ 2) ≤ cnt) (c_115 : (σ 3) = (32 : Int32)) : fX7_copyKeys_2 (n + 1) cnt σ = (upd σ 0 (2 : Int32)) := by
  simp only [fX7_copyKeys_2, if_neg c_10, if_pos c_20, if_pos c_115]
theorem fX7_copyKeys_2_p4 (n : Nat) (cnt : Int32) (σ : FnI) (c_10 : ¬ (32 : Int32) ≤ (σ 3)) (c_20 : ¬ (σ 2) ≤ cnt) (c_38 : ¬ (fX7_row (0 : Int32) (σ 3) σ) = (-1 : Int32)) (c_55 : ¬ (fX7_row (1 : Int32) (σ 3) σ) = (-1 : Int32)) : fX7_copyKeys_2 (n + 1) cnt σ = fX7_copyKeys_2 n (cnt + (1 : Int32)) (upd σ 3 ((σ 3) + (1 : Int32))) := by
  simp only [fX7_copyKeys_2, if_neg c_10, if_neg c_20, if_neg c_38, if_neg c_55]
theorem fX7_copyKeys_2_p5 (n : Nat) (cnt : Int32) (σ : FnI) (c_10 : ¬ (32 : Int32) ≤ (σ 3)) (c_20 : ¬ (σ 2) ≤ cnt) (c_38 : ¬ (fX7_row (0 : Int32) (σ 3) σ) = (-1 : Int32)) (c_55 : (fX7_row (1 : Int32) (σ 3) σ) = (-1 : Int32)) (c_64 : (fX7_due (σ 3) σ) = (-1 : Int32)) : fX7_copyKeys_2 (n + 1) cnt σ = fX7_copyKeys_2 n (cnt + (1 : Int32)) (upd σ 3 ((σ 3) + (1 : Int32))) := by
  simp only [fX7_copyKeys_2, if_neg c_10, if_neg c_20, if_neg c_38, if_pos c_55, if_pos c_64]
theorem fX7_copyKeys_2_p6 (n : Nat) (cnt : Int32) (σ : FnI) (c_10 : ¬ (32 : Int32) ≤ (σ 3)) (c_20 : ¬ (σ 2) ≤ cnt) (c_38 : ¬ (fX7_row (0 : Int32) (σ 3) σ) = (-1 : Int32)) (c_55 : (fX7_row (1 : Int32) (σ 3) σ) = (-1 : Int32)) (c_64 : ¬ (fX7_due (σ 3) σ) = (-1 : Int32)) (u_75 : FnI) (e_75 : (fX7_lay (1 : Int32) (σ 3) (fX7_due (σ 3) σ) σ) = u_75) : fX7_copyKeys_2 (n + 1) cnt σ = fX7_copyKeys_2 n (cnt + (1 : Int32)) (upd (upd u_75 17 ((u_75 17) + (1 : Int32))) 3 ((u_75 3) + (1 : Int32))) := by
  simp only [fX7_copyKeys_2, if_neg c_10, if_neg c_20, if_neg c_38, if_pos c_55, if_neg c_64, e_75]
theorem fX7_copyKeys_2_p7 (n : Nat) (cnt : Int32) (σ : FnI) (c_10 : ¬ (32 : Int32) ≤ (σ 3)) (c_20 : ¬ (σ 2) ≤ cnt) (c_38 : (fX7_row (0 : Int32) (σ 3) σ) = (-1 : Int32)) (c_55 : ¬ (fX7_row (1 : Int32) (σ 3) σ) = (-1 : Int32)) : fX7_copyKeys_2 (n + 1) cnt σ = fX7_copyKeys_2 n (cnt + (0 : Int32)) (upd σ 3 ((σ 3) + (1 : Int32))) := by
  simp only [fX7_copyKeys_2, if_neg c_10, if_neg c_20, if_pos c_38, if_neg c_55]
theorem fX7_copyKeys_2_p8 (n : Nat) (cnt : Int32) (σ : FnI) (c_10 : ¬ (32 : Int32) ≤ (σ 3)) (c_20 : ¬ (σ 2) ≤ cnt) (c_38 : (fX7_row (0 : Int32) (σ 3) σ) = (-1 : Int32)) (c_55 : (fX7_row (1 : Int32) (σ 3) σ) = (-1 : Int32)) (c_64 : (fX7_due (σ 3) σ) = (-1 : Int32)) : fX7_copyKeys_2 (n + 1) cnt σ = fX7_copyKeys_2 n (cnt + (0 : Int32)) (upd σ 3 ((σ 3) + (1 : Int32))) := by
  simp only [fX7_copyKeys_2, if_neg c_10, if_neg c_20, if_pos c_38, if_pos c_55, if_pos c_64]
theorem fX7_copyKeys_2_p9 (n : Nat) (cnt : Int32) (σ : FnI) (c_10 : ¬ (32 : Int32) ≤ (σ 3)) (c_20 : ¬ (σ 2) ≤ cnt) (c_38 : (fX7_row (0 : Int32) (σ 3) σ) = (-1 : Int32)) (c_55 : (fX7_row (1 : Int32) (σ 3) σ) = (-1 : Int32)) (c_64 : ¬ (fX7_due (σ 3) σ) = (-1 : Int32)) (u_75 : FnI) (e_75 : (fX7_lay (1 : Int32) (σ 3) (fX7_due (σ 3) σ) σ) = u_75) : fX7_copyKeys_2 (n + 1) cnt σ = fX7_copyKeys_2 n (cnt + (0 : Int32)) (upd (upd u_75 17 ((u_75 17) + (1 : Int32))) 3 ((u_75 3) + (1 : Int32))) := by
  simp only [fX7_copyKeys_2, if_neg c_10, if_neg c_20, if_pos c_38, if_pos c_55, if_neg c_64, e_75]
theorem fX7_copyKeys_p10 (τ : FnI) : (fX7_copyKeys τ) = fX7_copyKeys_2 33 (0 : Int32) τ := by
  simp only [fX7_copyKeys]
set_option maxHeartbeats 4000000 in
set_option maxRecDepth 100000 in
theorem kX7_copyKeys (l : Launch) (D : va_G) (cI cS : ClassId) (h0 h1 : Nat) (w1 : Nat) (w2 : Int32) (w3 : Nat) (w4 : Int32) (w5 : Nat) (w6 : Nat) (w7 : Int32) (w8 : Int32) (w9 : Int32) (w10 : Int32) (w11 : Int32) (w12 : Int32) (τ : FnI) (hm : WM τ) : KV l yX7_copyKeys wsX7_copyKeys { frames := 2, cells := 0, slots := 0, locals := 43 } D (tysA cI cS) [.ref h0] [(h0, .inr (7, [.ref h1, .ref w1, .int w2, .ref w3, .int w4, .ref w5, .ref w6, .int w7, .int w8, .int w9, .int w10, .int w11, .int w12])), (h1, .inl (cI, 163, .inl τ))] (fX7_copyKeys τ) (fun u => [(h0, .inr (7, [.ref h1, .ref w1, .int w2, .ref w3, .int w4, .ref w5, .ref w6, .int w7, .int w8, .int w9, .int w10, .int w11, .int w12])), (h1, .inl (cI, 163, .inl u))]) := by
  refine KV.of (cc := cX7_copyKeys) (maxL := 3) (by decide) rfl (Nat.le_of_ble_eq_true rfl) rfl (fun p e s m args below meth c ls Q A hx hb hml hown hts hE hP hD hS hl hend => ?_)
  have hown : s.vm.findClass RX7 = some m.cls := hown
  have hl : lv_has ls 3 [(0, .ref h0)] := hl
  have loop_2 : ∀ (n : Nat) (cnt : Int32) (σ : FnI), Bd (σ 3) 32 → 32 - (σ 3).toNatClampNeg < n → (fX7_copyKeys τ) = fX7_copyKeys_2 n cnt σ → ∀ (H : Heap) (locs : List Loc), va_P D vwCl [(h0, .inr (7, [.ref h1, .ref w1, .int w2, .ref w3, .int w4, .ref w5, .ref w6, .int w7, .int w8, .int w9, .int w10, .int w11, .int w12])), (h1, .inl (cI, 163, .inl σ))] H → va_D A [(h0, .inr (7, [.ref h1, .ref w1, .int w2, .ref w3, .int w4, .ref w5, .ref w6, .int w7, .int w8, .int w9, .int w10, .int w11, .int w12])), (h1, .inl (cI, 163, .inl σ))] → va_S A s.heap H locs → ∀ (ls : Array Slot), lv_has ls 3 [(0, .ref h0), (1, .int cnt)] → W p l e { frames := 2, cells := 0, slots := 0, locals := 43 } s m args below meth c H locs 0 0 Q (F0 m 2 ls []) := by
    intro n
    induction n with
    | zero =>
      intro cnt σ hc hn
      exact absurd hn (by omega)
    | succ n ih =>
      intro cnt σ hc hn hF H locs hP hD hS ls hl
      refine lv_aload_n hx hb dX7_copyKeys_2 rfl (lv_at hl 0 rfl) ?_
      refine va_get (D := D) (ci := 7) (v := .ref h1) (C := RX7) (T := TX7) (N := 13) hx hb hts (fun _ h9 => List.mem_cons_of_mem _ (List.mem_append_right _ h9)) hown hE.1 hP 0 rfl rfl 0 (by decide) (hts (.fieldLink RX7 7 "ShadowTableModel" "s" "[I") (List.mem_of_getElem? (i := 1) rfl)) (fun _ h9 => h9) rfl dX7_copyKeys_3 ?_
      refine lv_iconst (v := (3 : Int32)) hx hb dX7_copyKeys_6 (by decide +kernel) ?_
      refine xld (v := (σ 3)) (j := 3) hx hb hE hP 1 rfl rfl cl_3 (in_3 (by decide)) rfl dX7_copyKeys_7 ?_
      refine lv_bipush (v := (32 : Int32)) hx hb dX7_copyKeys_8 (by decide +kernel) ?_
      refine lv_icmp_ge (tgt := 102) hx hb dX7_copyKeys_10 (by decide) (fun c_10 => ?_) (fun c_10 => ?_)
      · refine lv_aload_n hx hb dX7_copyKeys_102 rfl (lv_at hl 0 rfl) ?_
        refine va_get (D := D) (ci := 7) (v := .ref h1) (C := RX7) (T := TX7) (N := 13) hx hb hts (fun _ h9 => List.mem_cons_of_mem _ (List.mem_append_right _ h9)) hown hE.1 hP 0 rfl rfl 0 (by decide) (hts (.fieldLink RX7 7 "ShadowTableModel" "s" "[I") (List.mem_of_getElem? (i := 1) rfl)) (fun _ h9 => h9) rfl dX7_copyKeys_103 ?_
        refine lv_iconst (v := (0 : Int32)) hx hb dX7_copyKeys_106 (by decide +kernel) ?_
        refine lv_aload_n hx hb dX7_copyKeys_107 rfl (lv_at hl 0 rfl) ?_
        refine va_get (D := D) (ci := 7) (v := .ref h1) (C := RX7) (T := TX7) (N := 13) hx hb hts (fun _ h9 => List.mem_cons_of_mem _ (List.mem_append_right _ h9)) hown hE.1 hP 0 rfl rfl 0 (by decide) (hts (.fieldLink RX7 7 "ShadowTableModel" "s" "[I") (List.mem_of_getElem? (i := 1) rfl)) (fun _ h9 => h9) rfl dX7_copyKeys_108 ?_
        refine lv_iconst (v := (3 : Int32)) hx hb dX7_copyKeys_111 (by decide +kernel) ?_
        refine xld (v := (σ 3)) (j := 3) hx hb hE hP 1 rfl rfl cl_3 (in_3 (by decide)) rfl dX7_copyKeys_112 ?_
        refine lv_bipush (v := (32 : Int32)) hx hb dX7_copyKeys_113 (by decide +kernel) ?_
        refine lv_icmp_ne (tgt := 122) hx hb dX7_copyKeys_115 (by decide) (fun c_115 => ?_) (fun c_115 => ?_)
        · refine lv_iconst (v := (1 : Int32)) hx hb dX7_copyKeys_122 (by decide +kernel) ?_
          refine xst (j := 0) hx hb hE hP hD hS 1 rfl rfl cl_0 (in_0 (by decide)) [(h0, .inr (7, [.ref h1, .ref w1, .int w2, .ref w3, .int w4, .ref w5, .ref w6, .int w7, .int w8, .int w9, .int w10, .int w11, .int w12])), (h1, .inl (cI, 163, .inl (upd σ 0 (1 : Int32))))] rfl dX7_copyKeys_123 (fun H locs hP hD hS => ?_)
          exact hend _ _ _ _ _ dX7_copyKeys_124 (hF.trans (fX7_copyKeys_2_p0 n cnt σ c_10 c_115)) hP hS
        · refine lv_iconst (v := (2 : Int32)) hx hb dX7_copyKeys_118 (by decide +kernel) ?_
          refine lv_goto (tgt := 123) hx hb dX7_copyKeys_119 (by decide) ?_
          refine xst (j := 0) hx hb hE hP hD hS 1 rfl rfl cl_0 (in_0 (by decide)) [(h0, .inr (7, [.ref h1, .ref w1, .int w2, .ref w3, .int w4, .ref w5, .ref w6, .int w7, .int w8, .int w9, .int w10, .int w11, .int w12])), (h1, .inl (cI, 163, .inl (upd σ 0 (2 : Int32))))] rfl dX7_copyKeys_123 (fun H locs hP hD hS => ?_)
          exact hend _ _ _ _ _ dX7_copyKeys_124 (hF.trans (fX7_copyKeys_2_p1 n cnt σ c_10 c_115)) hP hS
      · refine lv_iload_n hx hb dX7_copyKeys_13 rfl (lv_at hl 1 rfl) ?_
        refine lv_aload_n hx hb dX7_copyKeys_14 rfl (lv_at hl 0 rfl) ?_
        refine va_get (D := D) (ci := 7) (v := .ref h1) (C := RX7) (T := TX7) (N := 13) hx hb hts (fun _ h9 => List.mem_cons_of_mem _ (List.mem_append_right _ h9)) hown hE.1 hP 0 rfl rfl 0 (by decide) (hts (.fieldLink RX7 7 "ShadowTableModel" "s" "[I") (List.mem_of_getElem? (i := 1) rfl)) (fun _ h9 => h9) rfl dX7_copyKeys_15 ?_
        refine lv_iconst (v := (2 : Int32)) hx hb dX7_copyKeys_18 (by decide +kernel) ?_
        refine xld (v := (σ 2)) (j := 2) hx hb hE hP 1 rfl rfl cl_2 (in_2 (by decide)) rfl dX7_copyKeys_19 ?_
        refine lv_icmp_ge (tgt := 102) hx hb dX7_copyKeys_20 (by decide) (fun c_20 => ?_) (fun c_20 => ?_)
        · refine lv_aload_n hx hb dX7_copyKeys_102 rfl (lv_at hl 0 rfl) ?_
          refine va_get (D := D) (ci := 7) (v := .ref h1) (C := RX7) (T := TX7) (N := 13) hx hb hts (fun _ h9 => List.mem_cons_of_mem _ (List.mem_append_right _ h9)) hown hE.1 hP 0 rfl rfl 0 (by decide) (hts (.fieldLink RX7 7 "ShadowTableModel" "s" "[I") (List.mem_of_getElem? (i := 1) rfl)) (fun _ h9 => h9) rfl dX7_copyKeys_103 ?_
          refine lv_iconst (v := (0 : Int32)) hx hb dX7_copyKeys_106 (by decide +kernel) ?_
          refine lv_aload_n hx hb dX7_copyKeys_107 rfl (lv_at hl 0 rfl) ?_
          refine va_get (D := D) (ci := 7) (v := .ref h1) (C := RX7) (T := TX7) (N := 13) hx hb hts (fun _ h9 => List.mem_cons_of_mem _ (List.mem_append_right _ h9)) hown hE.1 hP 0 rfl rfl 0 (by decide) (hts (.fieldLink RX7 7 "ShadowTableModel" "s" "[I") (List.mem_of_getElem? (i := 1) rfl)) (fun _ h9 => h9) rfl dX7_copyKeys_108 ?_
          refine lv_iconst (v := (3 : Int32)) hx hb dX7_copyKeys_111 (by decide +kernel) ?_
          refine xld (v := (σ 3)) (j := 3) hx hb hE hP 1 rfl rfl cl_3 (in_3 (by decide)) rfl dX7_copyKeys_112 ?_
          refine lv_bipush (v := (32 : Int32)) hx hb dX7_copyKeys_113 (by decide +kernel) ?_
          refine lv_icmp_ne (tgt := 122) hx hb dX7_copyKeys_115 (by decide) (fun c_115 => ?_) (fun c_115 => ?_)
          · refine lv_iconst (v := (1 : Int32)) hx hb dX7_copyKeys_122 (by decide +kernel) ?_
            refine xst (j := 0) hx hb hE hP hD hS 1 rfl rfl cl_0 (in_0 (by decide)) [(h0, .inr (7, [.ref h1, .ref w1, .int w2, .ref w3, .int w4, .ref w5, .ref w6, .int w7, .int w8, .int w9, .int w10, .int w11, .int w12])), (h1, .inl (cI, 163, .inl (upd σ 0 (1 : Int32))))] rfl dX7_copyKeys_123 (fun H locs hP hD hS => ?_)
            exact hend _ _ _ _ _ dX7_copyKeys_124 (hF.trans (fX7_copyKeys_2_p2 n cnt σ c_10 c_20 c_115)) hP hS
          · refine lv_iconst (v := (2 : Int32)) hx hb dX7_copyKeys_118 (by decide +kernel) ?_
            refine lv_goto (tgt := 123) hx hb dX7_copyKeys_119 (by decide) ?_
            refine xst (j := 0) hx hb hE hP hD hS 1 rfl rfl cl_0 (in_0 (by decide)) [(h0, .inr (7, [.ref h1, .ref w1, .int w2, .ref w3, .int w4, .ref w5, .ref w6, .int w7, .int w8, .int w9, .int w10, .int w11, .int w12])), (h1, .inl (cI, 163, .inl (upd σ 0 (2 : Int32))))] rfl dX7_copyKeys_123 (fun H locs hP hD hS => ?_)
            exact hend _ _ _ _ _ dX7_copyKeys_124 (hF.trans (fX7_copyKeys_2_p3 n cnt σ c_10 c_20 c_115)) hP hS
        · refine lv_aload_n hx hb dX7_copyKeys_23 rfl (lv_at hl 0 rfl) ?_
          refine va_get (D := D) (ci := 7) (v := .ref h1) (C := RX7) (T := TX7) (N := 13) hx hb hts (fun _ h9 => List.mem_cons_of_mem _ (List.mem_append_right _ h9)) hown hE.1 hP 0 rfl rfl 0 (by decide) (hts (.fieldLink RX7 7 "ShadowTableModel" "s" "[I") (List.mem_of_getElem? (i := 1) rfl)) (fun _ h9 => h9) rfl dX7_copyKeys_24 ?_
          refine lv_iconst (v := (3 : Int32)) hx hb dX7_copyKeys_27 (by decide +kernel) ?_
          refine xld (v := (σ 3)) (j := 3) hx hb hE hP 1 rfl rfl cl_3 (in_3 (by decide)) rfl dX7_copyKeys_28 ?_
          refine lv_istore_n (lv' := [(2, .int (σ 3)), (0, .ref h0), (1, .int cnt)]) hx hb dX7_copyKeys_29 rfl hl (by decide) rfl (fun ls hl => ?_)
          refine lv_iload_n hx hb dX7_copyKeys_30 rfl (lv_at hl 2 rfl) ?_
          refine lv_aload_n hx hb dX7_copyKeys_31 rfl (lv_at hl 1 rfl) ?_
          refine lv_iconst (v := (0 : Int32)) hx hb dX7_copyKeys_32 (by decide +kernel) ?_
          refine lv_iload_n hx hb dX7_copyKeys_33 rfl (lv_at hl 0 rfl) ?_
          refine cRV ⟨hx, hb, hml, hown, hts⟩ (kX7_row l D cI cS h0 h1 w1 w2 w3 w4 w5 w6 w7 w8 w9 w10 w11 w12 (0 : Int32) (σ 3) σ (zz_rowK zz_T0 (zz_cur hc c_10))) (cwV 2 hts gX7_copyKeys_X7_row rfl rfl rfl (by decide +kernel) ⟨Nat.le_of_ble_eq_true rfl, Nat.le_of_ble_eq_true rfl⟩) hE hP 0 rfl rfl [0, 1] rfl rfl hl.1 rfl (Nat.le_of_ble_eq_true rfl) ⟨Nat.zero_le _, Nat.zero_le _⟩ dX7_copyKeys_34 ?_
          refine lv_iconst (v := (-1 : Int32)) hx hb dX7_copyKeys_37 (by decide +kernel) ?_
          refine lv_icmp_ne (tgt := 45) hx hb dX7_copyKeys_38 (by decide) (fun c_38 => ?_) (fun c_38 => ?_)
          · refine lv_iconst (v := (1 : Int32)) hx hb dX7_copyKeys_45 (by decide +kernel) ?_
            refine lv_iadd hx hb dX7_copyKeys_46 ?_
            refine lv_istore_n (lv' := [(1, .int (cnt + (1 : Int32))), (2, .int (σ 3)), (0, .ref h0)]) hx hb dX7_copyKeys_47 rfl hl (by decide) rfl (fun ls hl => ?_)
            refine lv_aload_n hx hb dX7_copyKeys_48 rfl (lv_at hl 2 rfl) ?_
            refine lv_iconst (v := (1 : Int32)) hx hb dX7_copyKeys_49 (by decide +kernel) ?_
            refine lv_iload_n hx hb dX7_copyKeys_50 rfl (lv_at hl 1 rfl) ?_
            refine cRV ⟨hx, hb, hml, hown, hts⟩ (kX7_row l D cI cS h0 h1 w1 w2 w3 w4 w5 w6 w7 w8 w9 w10 w11 w12 (1 : Int32) (σ 3) σ (zz_rowK zz_T1 (zz_cur hc c_10))) (cwV 2 hts gX7_copyKeys_X7_row rfl rfl rfl (by decide +kernel) ⟨Nat.le_of_ble_eq_true rfl, Nat.le_of_ble_eq_true rfl⟩) hE hP 0 rfl rfl [0, 1] rfl rfl hl.1 rfl (Nat.le_of_ble_eq_true rfl) ⟨Nat.zero_le _, Nat.zero_le _⟩ dX7_copyKeys_51 ?_
            refine lv_iconst (v := (-1 : Int32)) hx hb dX7_copyKeys_54 (by decide +kernel) ?_
            refine lv_icmp_ne (tgt := 89) hx hb dX7_copyKeys_55 (by decide) (fun c_55 => ?_) (fun c_55 => ?_)
            · refine lv_aload_n hx hb dX7_copyKeys_89 rfl (lv_at hl 2 rfl) ?_
              refine va_get (D := D) (ci := 7) (v := .ref h1) (C := RX7) (T := TX7) (N := 13) hx hb hts (fun _ h9 => List.mem_cons_of_mem _ (List.mem_append_right _ h9)) hown hE.1 hP 0 rfl rfl 0 (by decide) (hts (.fieldLink RX7 7 "ShadowTableModel" "s" "[I") (List.mem_of_getElem? (i := 1) rfl)) (fun _ h9 => h9) rfl dX7_copyKeys_90 ?_
              refine lv_iconst (v := (3 : Int32)) hx hb dX7_copyKeys_93 (by decide +kernel) ?_
              refine lv_dup2_11 hx hb dX7_copyKeys_94 rfl rfl ?_
              refine xld (v := (σ 3)) (j := 3) hx hb hE hP 1 rfl rfl cl_3 (in_3 (by decide)) rfl dX7_copyKeys_95 ?_
              refine lv_iconst (v := (1 : Int32)) hx hb dX7_copyKeys_96 (by decide +kernel) ?_
              refine lv_iadd hx hb dX7_copyKeys_97 ?_
              refine xst (j := 3) hx hb hE hP hD hS 1 rfl rfl cl_3 (in_3 (by decide)) [(h0, .inr (7, [.ref h1, .ref w1, .int w2, .ref w3, .int w4, .ref w5, .ref w6, .int w7, .int w8, .int w9, .int w10, .int w11, .int w12])), (h1, .inl (cI, 163, .inl (upd σ 3 ((σ 3) + (1 : Int32)))))] rfl dX7_copyKeys_98 (fun H locs hP hD hS => ?_)
              refine lv_goto (tgt := 2) hx hb dX7_copyKeys_99 (by decide) ?_
              exact ih (cnt + (1 : Int32)) (upd σ 3 ((σ 3) + (1 : Int32))) (by first | exact (zz_nxA hc c_10).1 | exact (zz_nxB e_75 hc c_10).1) (by first | exact (zz_nxA hc c_10).2 hn | exact (zz_nxB e_75 hc c_10).2 hn) (hF.trans (fX7_copyKeys_2_p4 n cnt σ c_10 c_20 c_38 c_55)) _ _ hP hD hS _ (lv_sub hl [2, 0] rfl)
            · refine lv_aload_n hx hb dX7_copyKeys_58 rfl (lv_at hl 2 rfl) ?_
              refine lv_iload_n hx hb dX7_copyKeys_59 rfl (lv_at hl 1 rfl) ?_
              refine cRV ⟨hx, hb, hml, hown, hts⟩ (kX7_due l D cI cS h0 h1 w1 w2 w3 w4 w5 w6 w7 w8 w9 w10 w11 w12 (σ 3) σ (zz_cur hc c_10)) (cwV 1 hts gX7_copyKeys_X7_due rfl rfl rfl (by decide +kernel) ⟨Nat.le_of_ble_eq_true rfl, Nat.le_of_ble_eq_true rfl⟩) hE hP 0 rfl rfl [0, 1] rfl rfl hl.1 rfl (Nat.le_of_ble_eq_true rfl) ⟨Nat.zero_le _, Nat.zero_le _⟩ dX7_copyKeys_60 ?_
              refine lv_iconst (v := (-1 : Int32)) hx hb dX7_copyKeys_63 (by decide +kernel) ?_
              refine lv_icmp_eq (tgt := 89) hx hb dX7_copyKeys_64 (by decide) (fun c_64 => ?_) (fun c_64 => ?_)
              · refine lv_aload_n hx hb dX7_copyKeys_89 rfl (lv_at hl 2 rfl) ?_
                refine va_get (D := D) (ci := 7) (v := .ref h1) (C := RX7) (T := TX7) (N := 13) hx hb hts (fun _ h9 => List.mem_cons_of_mem _ (List.mem_append_right _ h9)) hown hE.1 hP 0 rfl rfl 0 (by decide) (hts (.fieldLink RX7 7 "ShadowTableModel" "s" "[I") (List.mem_of_getElem? (i := 1) rfl)) (fun _ h9 => h9) rfl dX7_copyKeys_90 ?_
                refine lv_iconst (v := (3 : Int32)) hx hb dX7_copyKeys_93 (by decide +kernel) ?_
                refine lv_dup2_11 hx hb dX7_copyKeys_94 rfl rfl ?_
                refine xld (v := (σ 3)) (j := 3) hx hb hE hP 1 rfl rfl cl_3 (in_3 (by decide)) rfl dX7_copyKeys_95 ?_
                refine lv_iconst (v := (1 : Int32)) hx hb dX7_copyKeys_96 (by decide +kernel) ?_
                refine lv_iadd hx hb dX7_copyKeys_97 ?_
                refine xst (j := 3) hx hb hE hP hD hS 1 rfl rfl cl_3 (in_3 (by decide)) [(h0, .inr (7, [.ref h1, .ref w1, .int w2, .ref w3, .int w4, .ref w5, .ref w6, .int w7, .int w8, .int w9, .int w10, .int w11, .int w12])), (h1, .inl (cI, 163, .inl (upd σ 3 ((σ 3) + (1 : Int32)))))] rfl dX7_copyKeys_98 (fun H locs hP hD hS => ?_)
                refine lv_goto (tgt := 2) hx hb dX7_copyKeys_99 (by decide) ?_
                exact ih (cnt + (1 : Int32)) (upd σ 3 ((σ 3) + (1 : Int32))) (by first | exact (zz_nxA hc c_10).1 | exact (zz_nxB e_75 hc c_10).1) (by first | exact (zz_nxA hc c_10).2 hn | exact (zz_nxB e_75 hc c_10).2 hn) (hF.trans (fX7_copyKeys_2_p5 n cnt σ c_10 c_20 c_38 c_55 c_64)) _ _ hP hD hS _ (lv_sub hl [2, 0] rfl)
              · refine lv_aload_n hx hb dX7_copyKeys_67 rfl (lv_at hl 2 rfl) ?_
                refine lv_iconst (v := (1 : Int32)) hx hb dX7_copyKeys_68 (by decide +kernel) ?_
                refine lv_iload_n hx hb dX7_copyKeys_69 rfl (lv_at hl 1 rfl) ?_
                refine lv_aload_n hx hb dX7_copyKeys_70 rfl (lv_at hl 2 rfl) ?_
                refine lv_iload_n hx hb dX7_copyKeys_71 rfl (lv_at hl 1 rfl) ?_
                refine cRV ⟨hx, hb, hml, hown, hts⟩ (kX7_due l D cI cS h0 h1 w1 w2 w3 w4 w5 w6 w7 w8 w9 w10 w11 w12 (σ 3) σ (zz_cur hc c_10)) (cwV 1 hts gX7_copyKeys_X7_due rfl rfl rfl (by decide +kernel) ⟨Nat.le_of_ble_eq_true rfl, Nat.le_of_ble_eq_true rfl⟩) hE hP 0 rfl rfl [0, 1] rfl rfl hl.1 rfl (Nat.le_of_ble_eq_true rfl) ⟨Nat.zero_le _, Nat.zero_le _⟩ dX7_copyKeys_72 ?_
                refine cVV ⟨hx, hb, hml, hown, hts⟩ (kX7_lay l D cI cS h0 h1 w1 w2 w3 w4 w5 w6 w7 w8 w9 w10 w11 w12 (1 : Int32) (σ 3) (fX7_due (σ 3) σ) σ (zz_rowK zz_T1 (zz_cur hc c_10))) (cwV 3 hts gX7_copyKeys_X7_lay rfl rfl rfl (by decide +kernel) ⟨Nat.le_of_ble_eq_true rfl, Nat.le_of_ble_eq_true rfl⟩) hE hP hD hS 0 rfl rfl [0, 1] rfl (by decide) (fun _ => rfl) rfl hl.1 rfl (Nat.le_of_ble_eq_true rfl) ⟨Nat.zero_le _, Nat.zero_le _⟩ dX7_copyKeys_75 (fun u_75 H locs e_75 hP hD hS => ?_)
                have hP : va_P D vwCl [(h0, .inr (7, [.ref h1, .ref w1, .int w2, .ref w3, .int w4, .ref w5, .ref w6, .int w7, .int w8, .int w9, .int w10, .int w11, .int w12])), (h1, .inl (cI, 163, .inl u_75))] H := hP
                have hD : va_D A [(h0, .inr (7, [.ref h1, .ref w1, .int w2, .ref w3, .int w4, .ref w5, .ref w6, .int w7, .int w8, .int w9, .int w10, .int w11, .int w12])), (h1, .inl (cI, 163, .inl u_75))] := hD
                refine lv_aload_n hx hb dX7_copyKeys_78 rfl (lv_at hl 2 rfl) ?_
                refine va_get (D := D) (ci := 7) (v := .ref h1) (C := RX7) (T := TX7) (N := 13) hx hb hts (fun _ h9 => List.mem_cons_of_mem _ (List.mem_append_right _ h9)) hown hE.1 hP 0 rfl rfl 0 (by decide) (hts (.fieldLink RX7 7 "ShadowTableModel" "s" "[I") (List.mem_of_getElem? (i := 1) rfl)) (fun _ h9 => h9) rfl dX7_copyKeys_79 ?_
                refine lv_bipush (v := (17 : Int32)) hx hb dX7_copyKeys_82 (by decide +kernel) ?_
                refine lv_dup2_11 hx hb dX7_copyKeys_84 rfl rfl ?_
                refine xld (v := (u_75 17)) (j := 17) hx hb hE hP 1 rfl rfl cl_17 (in_17 (by decide)) rfl dX7_copyKeys_85 ?_
                refine lv_iconst (v := (1 : Int32)) hx hb dX7_copyKeys_86 (by decide +kernel) ?_
                refine lv_iadd hx hb dX7_copyKeys_87 ?_
                refine xst (j := 17) hx hb hE hP hD hS 1 rfl rfl cl_17 (in_17 (by decide)) [(h0, .inr (7, [.ref h1, .ref w1, .int w2, .ref w3, .int w4, .ref w5, .ref w6, .int w7, .int w8, .int w9, .int w10, .int w11, .int w12])), (h1, .inl (cI, 163, .inl (upd u_75 17 ((u_75 17) + (1 : Int32)))))] rfl dX7_copyKeys_88 (fun H locs hP hD hS => ?_)
                refine lv_aload_n hx hb dX7_copyKeys_89 rfl (lv_at hl 2 rfl) ?_
                refine va_get (D := D) (ci := 7) (v := .ref h1) (C := RX7) (T := TX7) (N := 13) hx hb hts (fun _ h9 => List.mem_cons_of_mem _ (List.mem_append_right _ h9)) hown hE.1 hP 0 rfl rfl 0 (by decide) (hts (.fieldLink RX7 7 "ShadowTableModel" "s" "[I") (List.mem_of_getElem? (i := 1) rfl)) (fun _ h9 => h9) rfl dX7_copyKeys_90 ?_
                refine lv_iconst (v := (3 : Int32)) hx hb dX7_copyKeys_93 (by decide +kernel) ?_
                refine lv_dup2_11 hx hb dX7_copyKeys_94 rfl rfl ?_
                refine xld (v := (u_75 3)) (j := 3) hx hb hE hP 1 rfl rfl cl_3 (in_3 (by decide)) rfl dX7_copyKeys_95 ?_
                refine lv_iconst (v := (1 : Int32)) hx hb dX7_copyKeys_96 (by decide +kernel) ?_
                refine lv_iadd hx hb dX7_copyKeys_97 ?_
                refine xst (j := 3) hx hb hE hP hD hS 1 rfl rfl cl_3 (in_3 (by decide)) [(h0, .inr (7, [.ref h1, .ref w1, .int w2, .ref w3, .int w4, .ref w5, .ref w6, .int w7, .int w8, .int w9, .int w10, .int w11, .int w12])), (h1, .inl (cI, 163, .inl (upd (upd u_75 17 ((u_75 17) + (1 : Int32))) 3 ((u_75 3) + (1 : Int32)))))] rfl dX7_copyKeys_98 (fun H locs hP hD hS => ?_)
                refine lv_goto (tgt := 2) hx hb dX7_copyKeys_99 (by decide) ?_
                exact ih (cnt + (1 : Int32)) (upd (upd u_75 17 ((u_75 17) + (1 : Int32))) 3 ((u_75 3) + (1 : Int32))) (by first | exact (zz_nxA hc c_10).1 | exact (zz_nxB e_75 hc c_10).1) (by first | exact (zz_nxA hc c_10).2 hn | exact (zz_nxB e_75 hc c_10).2 hn) (hF.trans (fX7_copyKeys_2_p6 n cnt σ c_10 c_20 c_38 c_55 c_64 u_75 e_75)) _ _ hP hD hS _ (lv_sub hl [2, 0] rfl)
          · refine lv_iconst (v := (0 : Int32)) hx hb dX7_copyKeys_41 (by decide +kernel) ?_
            refine lv_goto (tgt := 46) hx hb dX7_copyKeys_42 (by decide) ?_
            refine lv_iadd hx hb dX7_copyKeys_46 ?_
            refine lv_istore_n (lv' := [(1, .int (cnt + (0 : Int32))), (2, .int (σ 3)), (0, .ref h0)]) hx hb dX7_copyKeys_47 rfl hl (by decide) rfl (fun ls hl => ?_)
            refine lv_aload_n hx hb dX7_copyKeys_48 rfl (lv_at hl 2 rfl) ?_
            refine lv_iconst (v := (1 : Int32)) hx hb dX7_copyKeys_49 (by decide +kernel) ?_
            refine lv_iload_n hx hb dX7_copyKeys_50 rfl (lv_at hl 1 rfl) ?_
            refine cRV ⟨hx, hb, hml, hown, hts⟩ (kX7_row l D cI cS h0 h1 w1 w2 w3 w4 w5 w6 w7 w8 w9 w10 w11 w12 (1 : Int32) (σ 3) σ (zz_rowK zz_T1 (zz_cur hc c_10))) (cwV 2 hts gX7_copyKeys_X7_row rfl rfl rfl (by decide +kernel) ⟨Nat.le_of_ble_eq_true rfl, Nat.le_of_ble_eq_true rfl⟩) hE hP 0 rfl rfl [0, 1] rfl rfl hl.1 rfl (Nat.le_of_ble_eq_true rfl) ⟨Nat.zero_le _, Nat.zero_le _⟩ dX7_copyKeys_51 ?_
            refine lv_iconst (v := (-1 : Int32)) hx hb dX7_copyKeys_54 (by decide +kernel) ?_
            refine lv_icmp_ne (tgt := 89) hx hb dX7_copyKeys_55 (by decide) (fun c_55 => ?_) (fun c_55 => ?_)
            · refine lv_aload_n hx hb dX7_copyKeys_89 rfl (lv_at hl 2 rfl) ?_
              refine va_get (D := D) (ci := 7) (v := .ref h1) (C := RX7) (T := TX7) (N := 13) hx hb hts (fun _ h9 => List.mem_cons_of_mem _ (List.mem_append_right _ h9)) hown hE.1 hP 0 rfl rfl 0 (by decide) (hts (.fieldLink RX7 7 "ShadowTableModel" "s" "[I") (List.mem_of_getElem? (i := 1) rfl)) (fun _ h9 => h9) rfl dX7_copyKeys_90 ?_
              refine lv_iconst (v := (3 : Int32)) hx hb dX7_copyKeys_93 (by decide +kernel) ?_
              refine lv_dup2_11 hx hb dX7_copyKeys_94 rfl rfl ?_
              refine xld (v := (σ 3)) (j := 3) hx hb hE hP 1 rfl rfl cl_3 (in_3 (by decide)) rfl dX7_copyKeys_95 ?_
              refine lv_iconst (v := (1 : Int32)) hx hb dX7_copyKeys_96 (by decide +kernel) ?_
              refine lv_iadd hx hb dX7_copyKeys_97 ?_
              refine xst (j := 3) hx hb hE hP hD hS 1 rfl rfl cl_3 (in_3 (by decide)) [(h0, .inr (7, [.ref h1, .ref w1, .int w2, .ref w3, .int w4, .ref w5, .ref w6, .int w7, .int w8, .int w9, .int w10, .int w11, .int w12])), (h1, .inl (cI, 163, .inl (upd σ 3 ((σ 3) + (1 : Int32)))))] rfl dX7_copyKeys_98 (fun H locs hP hD hS => ?_)
              refine lv_goto (tgt := 2) hx hb dX7_copyKeys_99 (by decide) ?_
              exact ih (cnt + (0 : Int32)) (upd σ 3 ((σ 3) + (1 : Int32))) (by first | exact (zz_nxA hc c_10).1 | exact (zz_nxB e_75 hc c_10).1) (by first | exact (zz_nxA hc c_10).2 hn | exact (zz_nxB e_75 hc c_10).2 hn) (hF.trans (fX7_copyKeys_2_p7 n cnt σ c_10 c_20 c_38 c_55)) _ _ hP hD hS _ (lv_sub hl [2, 0] rfl)
            · refine lv_aload_n hx hb dX7_copyKeys_58 rfl (lv_at hl 2 rfl) ?_
              refine lv_iload_n hx hb dX7_copyKeys_59 rfl (lv_at hl 1 rfl) ?_
              refine cRV ⟨hx, hb, hml, hown, hts⟩ (kX7_due l D cI cS h0 h1 w1 w2 w3 w4 w5 w6 w7 w8 w9 w10 w11 w12 (σ 3) σ (zz_cur hc c_10)) (cwV 1 hts gX7_copyKeys_X7_due rfl rfl rfl (by decide +kernel) ⟨Nat.le_of_ble_eq_true rfl, Nat.le_of_ble_eq_true rfl⟩) hE hP 0 rfl rfl [0, 1] rfl rfl hl.1 rfl (Nat.le_of_ble_eq_true rfl) ⟨Nat.zero_le _, Nat.zero_le _⟩ dX7_copyKeys_60 ?_
              refine lv_iconst (v := (-1 : Int32)) hx hb dX7_copyKeys_63 (by decide +kernel) ?_
              refine lv_icmp_eq (tgt := 89) hx hb dX7_copyKeys_64 (by decide) (fun c_64 => ?_) (fun c_64 => ?_)
              · refine lv_aload_n hx hb dX7_copyKeys_89 rfl (lv_at hl 2 rfl) ?_
                refine va_get (D := D) (ci := 7) (v := .ref h1) (C := RX7) (T := TX7) (N := 13) hx hb hts (fun _ h9 => List.mem_cons_of_mem _ (List.mem_append_right _ h9)) hown hE.1 hP 0 rfl rfl 0 (by decide) (hts (.fieldLink RX7 7 "ShadowTableModel" "s" "[I") (List.mem_of_getElem? (i := 1) rfl)) (fun _ h9 => h9) rfl dX7_copyKeys_90 ?_
                refine lv_iconst (v := (3 : Int32)) hx hb dX7_copyKeys_93 (by decide +kernel) ?_
                refine lv_dup2_11 hx hb dX7_copyKeys_94 rfl rfl ?_
                refine xld (v := (σ 3)) (j := 3) hx hb hE hP 1 rfl rfl cl_3 (in_3 (by decide)) rfl dX7_copyKeys_95 ?_
                refine lv_iconst (v := (1 : Int32)) hx hb dX7_copyKeys_96 (by decide +kernel) ?_
                refine lv_iadd hx hb dX7_copyKeys_97 ?_
                refine xst (j := 3) hx hb hE hP hD hS 1 rfl rfl cl_3 (in_3 (by decide)) [(h0, .inr (7, [.ref h1, .ref w1, .int w2, .ref w3, .int w4, .ref w5, .ref w6, .int w7, .int w8, .int w9, .int w10, .int w11, .int w12])), (h1, .inl (cI, 163, .inl (upd σ 3 ((σ 3) + (1 : Int32)))))] rfl dX7_copyKeys_98 (fun H locs hP hD hS => ?_)
                refine lv_goto (tgt := 2) hx hb dX7_copyKeys_99 (by decide) ?_
                exact ih (cnt + (0 : Int32)) (upd σ 3 ((σ 3) + (1 : Int32))) (by first | exact (zz_nxA hc c_10).1 | exact (zz_nxB e_75 hc c_10).1) (by first | exact (zz_nxA hc c_10).2 hn | exact (zz_nxB e_75 hc c_10).2 hn) (hF.trans (fX7_copyKeys_2_p8 n cnt σ c_10 c_20 c_38 c_55 c_64)) _ _ hP hD hS _ (lv_sub hl [2, 0] rfl)
              · refine lv_aload_n hx hb dX7_copyKeys_67 rfl (lv_at hl 2 rfl) ?_
                refine lv_iconst (v := (1 : Int32)) hx hb dX7_copyKeys_68 (by decide +kernel) ?_
                refine lv_iload_n hx hb dX7_copyKeys_69 rfl (lv_at hl 1 rfl) ?_
                refine lv_aload_n hx hb dX7_copyKeys_70 rfl (lv_at hl 2 rfl) ?_
                refine lv_iload_n hx hb dX7_copyKeys_71 rfl (lv_at hl 1 rfl) ?_
                refine cRV ⟨hx, hb, hml, hown, hts⟩ (kX7_due l D cI cS h0 h1 w1 w2 w3 w4 w5 w6 w7 w8 w9 w10 w11 w12 (σ 3) σ (zz_cur hc c_10)) (cwV 1 hts gX7_copyKeys_X7_due rfl rfl rfl (by decide +kernel) ⟨Nat.le_of_ble_eq_true rfl, Nat.le_of_ble_eq_true rfl⟩) hE hP 0 rfl rfl [0, 1] rfl rfl hl.1 rfl (Nat.le_of_ble_eq_true rfl) ⟨Nat.zero_le _, Nat.zero_le _⟩ dX7_copyKeys_72 ?_
                refine cVV ⟨hx, hb, hml, hown, hts⟩ (kX7_lay l D cI cS h0 h1 w1 w2 w3 w4 w5 w6 w7 w8 w9 w10 w11 w12 (1 : Int32) (σ 3) (fX7_due (σ 3) σ) σ (zz_rowK zz_T1 (zz_cur hc c_10))) (cwV 3 hts gX7_copyKeys_X7_lay rfl rfl rfl (by decide +kernel) ⟨Nat.le_of_ble_eq_true rfl, Nat.le_of_ble_eq_true rfl⟩) hE hP hD hS 0 rfl rfl [0, 1] rfl (by decide) (fun _ => rfl) rfl hl.1 rfl (Nat.le_of_ble_eq_true rfl) ⟨Nat.zero_le _, Nat.zero_le _⟩ dX7_copyKeys_75 (fun u_75 H locs e_75 hP hD hS => ?_)
                have hP : va_P D vwCl [(h0, .inr (7, [.ref h1, .ref w1, .int w2, .ref w3, .int w4, .ref w5, .ref w6, .int w7, .int w8, .int w9, .int w10, .int w11, .int w12])), (h1, .inl (cI, 163, .inl u_75))] H := hP
                have hD : va_D A [(h0, .inr (7, [.ref h1, .ref w1, .int w2, .ref w3, .int w4, .ref w5, .ref w6, .int w7, .int w8, .int w9, .int w10, .int w11, .int w12])), (h1, .inl (cI, 163, .inl u_75))] := hD
                refine lv_aload_n hx hb dX7_copyKeys_78 rfl (lv_at hl 2 rfl) ?_
                refine va_get (D := D) (ci := 7) (v := .ref h1) (C := RX7) (T := TX7) (N := 13) hx hb hts (fun _ h9 => List.mem_cons_of_mem _ (List.mem_append_right _ h9)) hown hE.1 hP 0 rfl rfl 0 (by decide) (hts (.fieldLink RX7 7 "ShadowTableModel" "s" "[I") (List.mem_of_getElem? (i := 1) rfl)) (fun _ h9 => h9) rfl dX7_copyKeys_79 ?_
                refine lv_bipush (v := (17 : Int32)) hx hb dX7_copyKeys_82 (by decide +kernel) ?_
                refine lv_dup2_11 hx hb dX7_copyKeys_84 rfl rfl ?_
                refine xld (v := (u_75 17)) (j := 17) hx hb hE hP 1 rfl rfl cl_17 (in_17 (by decide)) rfl dX7_copyKeys_85 ?_
                refine lv_iconst (v := (1 : Int32)) hx hb dX7_copyKeys_86 (by decide +kernel) ?_
                refine lv_iadd hx hb dX7_copyKeys_87 ?_
                refine xst (j := 17) hx hb hE hP hD hS 1 rfl rfl cl_17 (in_17 (by decide)) [(h0, .inr (7, [.ref h1, .ref w1, .int w2, .ref w3, .int w4, .ref w5, .ref w6, .int w7, .int w8, .int w9, .int w10, .int w11, .int w12])), (h1, .inl (cI, 163, .inl (upd u_75 17 ((u_75 17) + (1 : Int32)))))] rfl dX7_copyKeys_88 (fun H locs hP hD hS => ?_)
                refine lv_aload_n hx hb dX7_copyKeys_89 rfl (lv_at hl 2 rfl) ?_
                refine va_get (D := D) (ci := 7) (v := .ref h1) (C := RX7) (T := TX7) (N := 13) hx hb hts (fun _ h9 => List.mem_cons_of_mem _ (List.mem_append_right _ h9)) hown hE.1 hP 0 rfl rfl 0 (by decide) (hts (.fieldLink RX7 7 "ShadowTableModel" "s" "[I") (List.mem_of_getElem? (i := 1) rfl)) (fun _ h9 => h9) rfl dX7_copyKeys_90 ?_
                refine lv_iconst (v := (3 : Int32)) hx hb dX7_copyKeys_93 (by decide +kernel) ?_
                refine lv_dup2_11 hx hb dX7_copyKeys_94 rfl rfl ?_
                refine xld (v := (u_75 3)) (j := 3) hx hb hE hP 1 rfl rfl cl_3 (in_3 (by decide)) rfl dX7_copyKeys_95 ?_
                refine lv_iconst (v := (1 : Int32)) hx hb dX7_copyKeys_96 (by decide +kernel) ?_
                refine lv_iadd hx hb dX7_copyKeys_97 ?_
                refine xst (j := 3) hx hb hE hP hD hS 1 rfl rfl cl_3 (in_3 (by decide)) [(h0, .inr (7, [.ref h1, .ref w1, .int w2, .ref w3, .int w4, .ref w5, .ref w6, .int w7, .int w8, .int w9, .int w10, .int w11, .int w12])), (h1, .inl (cI, 163, .inl (upd (upd u_75 17 ((u_75 17) + (1 : Int32))) 3 ((u_75 3) + (1 : Int32)))))] rfl dX7_copyKeys_98 (fun H locs hP hD hS => ?_)
                refine lv_goto (tgt := 2) hx hb dX7_copyKeys_99 (by decide) ?_
                exact ih (cnt + (0 : Int32)) (upd (upd u_75 17 ((u_75 17) + (1 : Int32))) 3 ((u_75 3) + (1 : Int32))) (by first | exact (zz_nxA hc c_10).1 | exact (zz_nxB e_75 hc c_10).1) (by first | exact (zz_nxA hc c_10).2 hn | exact (zz_nxB e_75 hc c_10).2 hn) (hF.trans (fX7_copyKeys_2_p9 n cnt σ c_10 c_20 c_38 c_55 c_64 u_75 e_75)) _ _ hP hD hS _ (lv_sub hl [2, 0] rfl)
  refine lv_iconst (v := (0 : Int32)) hx hb dX7_copyKeys_0 (by decide +kernel) ?_
  refine lv_istore_n (lv' := [(1, .int (0 : Int32)), (0, .ref h0)]) hx hb dX7_copyKeys_1 rfl hl (by decide) rfl (fun ls hl => ?_)
  exact loop_2 33 (0 : Int32) τ hm.2.1 (by omega) (fX7_copyKeys_p10 τ) _ _ hP hD hS _ (lv_sub hl [1, 0] rfl)

theorem WM_nx {σ g : FnI} {a : Int32} (hm : WM σ) (ha : Bd a 32) (h4 : g 4 = σ 4) (hL : ∀ j : Nat, 115 ≤ j → g j = σ j) : WM (upd g 3 a) :=
  hm.congr (by rw [pk_us]; exact ha) (by rw [pk_un (by omega)]; exact h4) (fun j hj => by rw [pk_un (by omega)]; exact hL j hj)
theorem WM_lay {σ : FnI} {t k v : Int32} (hm : WM σ) (ht : TB t) (hk : Bd k 31) : WM (fX7_lay t k v σ) :=
  hm.congr (by rw [lay_other ht hk (Or.inl (by omega))]; exact hm.2.1) (lay_other ht hk (Or.inl (by omega))) (fun j hj => lay_other ht hk (Or.inr hj))
theorem WM_copyKeys_2 : ∀ (n : Nat) (cnt : Int32) (σ : FnI), WM σ → WM (fX7_copyKeys_2 n cnt σ)
  | 0, _, _, h => h
  | n + 1, cnt, σ, hm => by
    unfold fX7_copyKeys_2
    by_cases c : (32 : Int32) ≤ (σ 3)
    · rw [if_pos c]
      split <;> exact zz_WMu (by decide) (by decide) (by decide) hm
    · rw [if_neg c]
      have hc := zz_cur hm.2.1 c
      have h1 : WM (upd σ 3 ((σ 3) + (1 : Int32))) := WM_nx hm (nx_num hm.2.1 c).1 rfl (fun _ _ => rfl)
      have h2 : ∀ v x : Int32, WM (upd (upd (fX7_lay (1 : Int32) (σ 3) v σ) 17 x) 3 ((fX7_lay (1 : Int32) (σ 3) v σ 3) + (1 : Int32))) := fun v x =>
        WM_nx hm (by rw [lay_other zz_T1 hc (Or.inl (by omega))]; exact (nx_num hm.2.1 c).1) (by rw [pk_un (by omega)]; exact lay_other zz_T1 hc (Or.inl (by omega))) (fun j hj => by rw [pk_un (by omega)]; exact lay_other zz_T1 hc (Or.inr hj))
      split
      · split <;> exact zz_WMu (by decide) (by decide) (by decide) hm
      · split
        · split
          · split
            · exact WM_copyKeys_2 n _ _ h1
            · exact WM_copyKeys_2 n _ _ (h2 _ _)
          · exact WM_copyKeys_2 n _ _ h1
        · split
          · split
            · exact WM_copyKeys_2 n _ _ h1
            · exact WM_copyKeys_2 n _ _ (h2 _ _)
          · exact WM_copyKeys_2 n _ _ h1

def fX7_tickOnce_76 : Nat → Nat → FnI → FnI
  | 0, k, σ => σ
  | n + 1, k, σ => (if (σ 7) ≤ (nI k) then (if (σ 0) = (1 : Int32) then (if (σ 4) ≤ (σ 8) then (let u_147 := (fX7_copyKeys σ); u_147) else (upd σ 15 ((σ 15) + (1 : Int32)))) else σ) else (if (σ 4) ≤ (0 : Int32) then (if (σ 0) = (1 : Int32) then (if (σ 4) ≤ (σ 8) then (let u_147 := (fX7_copyKeys σ); u_147) else (upd σ 15 ((σ 15) + (1 : Int32)))) else σ) else (let u_97 := (fX7_apply σ); fX7_tickOnce_76 n (k + 1) u_97)))
def fX7_tickOnce (τ : FnI) : FnI := (if (fX7_isCopy (upd τ 18 ((τ 18) + (1 : Int32)))) = (0 : Int32) then (upd τ 18 ((τ 18) + (1 : Int32))) else (if (τ 0) = (3 : Int32) then (if ((τ 5) + (1 : Int32)) ≤ (τ 9) then fX7_tickOnce_76 25 0 (upd (upd τ 18 ((τ 18) + (1 : Int32))) 5 ((τ 5) + (1 : Int32))) else (upd (upd (upd (upd τ 18 ((τ 18) + (1 : Int32))) 5 ((τ 5) + (1 : Int32))) 0 (2 : Int32)) 14 ((τ 14) + (1 : Int32)))) else fX7_tickOnce_76 25 0 (upd τ 18 ((τ 18) + (1 : Int32)))))
theorem fX7_tickOnce_76_p0 (n : Nat) (k : Nat) (σ : FnI) (c_84 : (σ 7) ≤ (nI k)) (c_113 : ¬ (σ 0) = (1 : Int32)) : fX7_tickOnce_76 (n + 1) k σ = σ := by
  simp only [fX7_tickOnce_76, if_pos c_84, if_neg c_113]
theorem fX7_tickOnce_76_p1 (n : Nat) (k : Nat) (σ : FnI) (c_84 : (σ 7) ≤ (nI k)) (c_113 : (σ 0) = (1 : Int32)) (c_129 : (σ 4) ≤ (σ 8)) (u_147 : FnI) (e_147 : (fX7_copyKeys σ) = u_147) : fX7_tickOnce_76 (n + 1) k σ = u_147 := by
  simp only [fX7_tickOnce_76, if_pos c_84, if_pos c_113, if_pos c_129, e_147]
theorem fX7_tickOnce_76_p2 (n : Nat) (k : Nat) (σ : FnI) (c_84 : (σ 7) ≤ (nI k)) (c_113 : (σ 0) = (1 : Int32)) (c_129 : ¬ (σ 4) ≤ (σ 8)) : fX7_tickOnce_76 (n + 1) k σ = (upd σ 15 ((σ 15) + (1 : Int32))) := by
  simp only [fX7_tickOnce_76, if_pos c_84, if_pos c_113, if_neg c_129]
theorem fX7_tickOnce_76_p3 (n : Nat) (k : Nat) (σ : FnI) (c_84 : ¬ (σ 7) ≤ (nI k)) (c_93 : (σ 4) ≤ (0 : Int32)) (c_113 : ¬ (σ 0) = (1 : Int32)) : fX7_tickOnce_76 (n + 1) k σ = σ := by
  simp only [fX7_tickOnce_76, if_neg c_84, if_pos c_93, if_neg c_113]
theorem fX7_tickOnce_76_p4 (n : Nat) (k : Nat) (σ : FnI) (c_84 : ¬ (σ 7) ≤ (nI k)) (c_93 : (σ 4) ≤ (0 : Int32)) (c_113 : (σ 0) = (1 : Int32)) (c_129 : (σ 4) ≤ (σ 8)) (u_147 : FnI) (e_147 : (fX7_copyKeys σ) = u_147) : fX7_tickOnce_76 (n + 1) k σ = u_147 := by
  simp only [fX7_tickOnce_76, if_neg c_84, if_pos c_93, if_pos c_113, if_pos c_129, e_147]
theorem fX7_tickOnce_76_p5 (n : Nat) (k : Nat) (σ : FnI) (c_84 : ¬ (σ 7) ≤ (nI k)) (c_93 : (σ 4) ≤ (0 : Int32)) (c_113 : (σ 0) = (1 : Int32)) (c_129 : ¬ (σ 4) ≤ (σ 8)) : fX7_tickOnce_76 (n + 1) k σ = (upd σ 15 ((σ 15) + (1 : Int32))) := by
  simp only [fX7_tickOnce_76, if_neg c_84, if_pos c_93, if_pos c_113, if_neg c_129]
theorem fX7_tickOnce_76_p6 (n : Nat) (k : Nat) (σ : FnI) (c_84 : ¬ (σ 7) ≤ (nI k)) (c_93 : ¬ (σ 4) ≤ (0 : Int32)) (u_97 : FnI) (e_97 : (fX7_apply σ) = u_97) : fX7_tickOnce_76 (n + 1) k σ = fX7_tickOnce_76 n (k + 1) u_97 := by
  simp only [fX7_tickOnce_76, if_neg c_84, if_neg c_93, e_97]
theorem fX7_tickOnce_p7 (τ : FnI) (c_15 : ¬ (fX7_isCopy (upd τ 18 ((τ 18) + (1 : Int32)))) = (0 : Int32)) (c_26 : ¬ (τ 0) = (3 : Int32)) : (fX7_tickOnce τ) = fX7_tickOnce_76 25 0 (upd τ 18 ((τ 18) + (1 : Int32))) := by
  simp only [fX7_tickOnce, if_neg c_15, if_neg c_26]
theorem fX7_tickOnce_p8 (τ : FnI) (c_15 : ¬ (fX7_isCopy (upd τ 18 ((τ 18) + (1 : Int32)))) = (0 : Int32)) (c_26 : (τ 0) = (3 : Int32)) (c_52 : ((τ 5) + (1 : Int32)) ≤ (τ 9)) : (fX7_tickOnce τ) = fX7_tickOnce_76 25 0 (upd (upd τ 18 ((τ 18) + (1 : Int32))) 5 ((τ 5) + (1 : Int32))) := by
  simp only [fX7_tickOnce, if_neg c_15, if_pos c_26, if_pos c_52]
theorem fX7_tickOnce_p9 (τ : FnI) (c_15 : ¬ (fX7_isCopy (upd τ 18 ((τ 18) + (1 : Int32)))) = (0 : Int32)) (c_26 : (τ 0) = (3 : Int32)) (c_52 : ¬ ((τ 5) + (1 : Int32)) ≤ (τ 9)) : (fX7_tickOnce τ) = (upd (upd (upd (upd τ 18 ((τ 18) + (1 : Int32))) 5 ((τ 5) + (1 : Int32))) 0 (2 : Int32)) 14 ((τ 14) + (1 : Int32))) := by
  simp only [fX7_tickOnce, if_neg c_15, if_pos c_26, if_neg c_52]
theorem fX7_tickOnce_p10 (τ : FnI) (c_15 : (fX7_isCopy (upd τ 18 ((τ 18) + (1 : Int32)))) = (0 : Int32)) : (fX7_tickOnce τ) = (upd τ 18 ((τ 18) + (1 : Int32))) := by
  simp only [fX7_tickOnce, if_pos c_15]
set_option maxHeartbeats 4000000 in
set_option maxRecDepth 100000 in
theorem kX7_tickOnce (l : Launch) (D : va_G) (cI cS : ClassId) (h0 h1 : Nat) (w1 : Nat) (w2 : Int32) (w3 : Nat) (w4 : Int32) (w5 : Nat) (w6 : Nat) (w7 : Int32) (w8 : Int32) (w9 : Int32) (w10 : Int32) (w11 : Int32) (w12 : Int32) (τ : FnI) (hm : WM τ) : KV l yX7_tickOnce wsX7_tickOnce { frames := 3, cells := 0, slots := 0, locals := 65 } D (tysA cI cS) [.ref h0] [(h0, .inr (7, [.ref h1, .ref w1, .int w2, .ref w3, .int w4, .ref w5, .ref w6, .int w7, .int w8, .int w9, .int w10, .int w11, .int w12])), (h1, .inl (cI, 163, .inl τ))] (fX7_tickOnce τ) (fun u => [(h0, .inr (7, [.ref h1, .ref w1, .int w2, .ref w3, .int w4, .ref w5, .ref w6, .int w7, .int w8, .int w9, .int w10, .int w11, .int w12])), (h1, .inl (cI, 163, .inl u))]) := by
  refine KV.of (cc := cX7_tickOnce) (maxL := 2) (by decide) rfl (Nat.le_of_ble_eq_true rfl) rfl (fun p e s m args below meth c ls Q A hx hb hml hown hts hE hP hD hS hl hend => ?_)
  have hown : s.vm.findClass RX7 = some m.cls := hown
  have hl : lv_has ls 2 [(0, .ref h0)] := hl
  have loop_76 : ∀ (n : Nat) (k : Nat) (σ : FnI), WM σ → (σ 4).toNatClampNeg < n → (fX7_tickOnce τ) = fX7_tickOnce_76 n k σ → ∀ (H : Heap) (locs : List Loc), va_P D vwCl [(h0, .inr (7, [.ref h1, .ref w1, .int w2, .ref w3, .int w4, .ref w5, .ref w6, .int w7, .int w8, .int w9, .int w10, .int w11, .int w12])), (h1, .inl (cI, 163, .inl σ))] H → va_D A [(h0, .inr (7, [.ref h1, .ref w1, .int w2, .ref w3, .int w4, .ref w5, .ref w6, .int w7, .int w8, .int w9, .int w10, .int w11, .int w12])), (h1, .inl (cI, 163, .inl σ))] → va_S A s.heap H locs → ∀ (ls : Array Slot), lv_has ls 2 [(0, .ref h0), (1, .int (nI k))] → W p l e { frames := 3, cells := 0, slots := 0, locals := 65 } s m args below meth c H locs 0 0 Q (F0 m 76 ls []) := by
    intro n
    induction n with
    | zero =>
      intro k σ hm hn
      exact absurd hn (by omega)
    | succ n ih =>
      intro k σ hm hn hF H locs hP hD hS ls hl
      refine lv_iload_n hx hb dX7_tickOnce_76 rfl (lv_at hl 1 rfl) ?_
      refine lv_aload_n hx hb dX7_tickOnce_77 rfl (lv_at hl 0 rfl) ?_
      refine va_get (D := D) (ci := 7) (v := .ref h1) (C := RX7) (T := TX7) (N := 13) hx hb hts (fun _ h9 => List.mem_cons_of_mem _ (List.mem_append_right _ h9)) hown hE.1 hP 0 rfl rfl 0 (by decide) (hts (.fieldLink RX7 7 "ShadowTableModel" "s" "[I") (List.mem_of_getElem? (i := 1) rfl)) (fun _ h9 => h9) rfl dX7_tickOnce_78 ?_
      refine lv_bipush (v := (7 : Int32)) hx hb dX7_tickOnce_81 (by decide +kernel) ?_
      refine xld (v := (σ 7)) (j := 7) hx hb hE hP 1 rfl rfl cl_7 (in_7 (by decide)) rfl dX7_tickOnce_83 ?_
      refine lv_icmp_ge (tgt := 106) hx hb dX7_tickOnce_84 (by decide) (fun c_84 => ?_) (fun c_84 => ?_)
      · refine lv_aload_n hx hb dX7_tickOnce_106 rfl (lv_at hl 0 rfl) ?_
        refine va_get (D := D) (ci := 7) (v := .ref h1) (C := RX7) (T := TX7) (N := 13) hx hb hts (fun _ h9 => List.mem_cons_of_mem _ (List.mem_append_right _ h9)) hown hE.1 hP 0 rfl rfl 0 (by decide) (hts (.fieldLink RX7 7 "ShadowTableModel" "s" "[I") (List.mem_of_getElem? (i := 1) rfl)) (fun _ h9 => h9) rfl dX7_tickOnce_107 ?_
        refine lv_iconst (v := (0 : Int32)) hx hb dX7_tickOnce_110 (by decide +kernel) ?_
        refine xld (v := (σ 0)) (j := 0) hx hb hE hP 1 rfl rfl cl_0 (in_0 (by decide)) rfl dX7_tickOnce_111 ?_
        refine lv_iconst (v := (1 : Int32)) hx hb dX7_tickOnce_112 (by decide +kernel) ?_
        refine lv_icmp_ne (tgt := 150) hx hb dX7_tickOnce_113 (by decide) (fun c_113 => ?_) (fun c_113 => ?_)
        · exact hend _ _ _ _ _ dX7_tickOnce_150 (hF.trans (fX7_tickOnce_76_p0 n k σ c_84 c_113)) hP hS
        · refine lv_aload_n hx hb dX7_tickOnce_116 rfl (lv_at hl 0 rfl) ?_
          refine va_get (D := D) (ci := 7) (v := .ref h1) (C := RX7) (T := TX7) (N := 13) hx hb hts (fun _ h9 => List.mem_cons_of_mem _ (List.mem_append_right _ h9)) hown hE.1 hP 0 rfl rfl 0 (by decide) (hts (.fieldLink RX7 7 "ShadowTableModel" "s" "[I") (List.mem_of_getElem? (i := 1) rfl)) (fun _ h9 => h9) rfl dX7_tickOnce_117 ?_
          refine lv_iconst (v := (4 : Int32)) hx hb dX7_tickOnce_120 (by decide +kernel) ?_
          refine xld (v := (σ 4)) (j := 4) hx hb hE hP 1 rfl rfl cl_4 (in_4 (by decide)) rfl dX7_tickOnce_121 ?_
          refine lv_aload_n hx hb dX7_tickOnce_122 rfl (lv_at hl 0 rfl) ?_
          refine va_get (D := D) (ci := 7) (v := .ref h1) (C := RX7) (T := TX7) (N := 13) hx hb hts (fun _ h9 => List.mem_cons_of_mem _ (List.mem_append_right _ h9)) hown hE.1 hP 0 rfl rfl 0 (by decide) (hts (.fieldLink RX7 7 "ShadowTableModel" "s" "[I") (List.mem_of_getElem? (i := 1) rfl)) (fun _ h9 => h9) rfl dX7_tickOnce_123 ?_
          refine lv_bipush (v := (8 : Int32)) hx hb dX7_tickOnce_126 (by decide +kernel) ?_
          refine xld (v := (σ 8)) (j := 8) hx hb hE hP 1 rfl rfl cl_8 (in_8 (by decide)) rfl dX7_tickOnce_128 ?_
          refine lv_icmp_le (tgt := 146) hx hb dX7_tickOnce_129 (by decide) (fun c_129 => ?_) (fun c_129 => ?_)
          · refine lv_aload_n hx hb dX7_tickOnce_146 rfl (lv_at hl 0 rfl) ?_
            refine cVV ⟨hx, hb, hml, hown, hts⟩ (kX7_copyKeys l D cI cS h0 h1 w1 w2 w3 w4 w5 w6 w7 w8 w9 w10 w11 w12 σ hm) (cwV 0 hts gX7_tickOnce_X7_copyKeys rfl rfl rfl (by decide +kernel) ⟨Nat.le_of_ble_eq_true rfl, Nat.le_of_ble_eq_true rfl⟩) hE hP hD hS 0 rfl rfl [0, 1] rfl (by decide) (fun _ => rfl) rfl hl.1 rfl (Nat.le_of_ble_eq_true rfl) ⟨Nat.zero_le _, Nat.zero_le _⟩ dX7_tickOnce_147 (fun u_147 H locs e_147 hP hD hS => ?_)
            have hP : va_P D vwCl [(h0, .inr (7, [.ref h1, .ref w1, .int w2, .ref w3, .int w4, .ref w5, .ref w6, .int w7, .int w8, .int w9, .int w10, .int w11, .int w12])), (h1, .inl (cI, 163, .inl u_147))] H := hP
            have hD : va_D A [(h0, .inr (7, [.ref h1, .ref w1, .int w2, .ref w3, .int w4, .ref w5, .ref w6, .int w7, .int w8, .int w9, .int w10, .int w11, .int w12])), (h1, .inl (cI, 163, .inl u_147))] := hD
            exact hend _ _ _ _ _ dX7_tickOnce_150 (hF.trans (fX7_tickOnce_76_p1 n k σ c_84 c_113 c_129 u_147 e_147)) hP hS
          · refine lv_aload_n hx hb dX7_tickOnce_132 rfl (lv_at hl 0 rfl) ?_
            refine va_get (D := D) (ci := 7) (v := .ref h1) (C := RX7) (T := TX7) (N := 13) hx hb hts (fun _ h9 => List.mem_cons_of_mem _ (List.mem_append_right _ h9)) hown hE.1 hP 0 rfl rfl 0 (by decide) (hts (.fieldLink RX7 7 "ShadowTableModel" "s" "[I") (List.mem_of_getElem? (i := 1) rfl)) (fun _ h9 => h9) rfl dX7_tickOnce_133 ?_
            refine lv_bipush (v := (15 : Int32)) hx hb dX7_tickOnce_136 (by decide +kernel) ?_
            refine lv_dup2_11 hx hb dX7_tickOnce_138 rfl rfl ?_
            refine xld (v := (σ 15)) (j := 15) hx hb hE hP 1 rfl rfl cl_15 (in_15 (by decide)) rfl dX7_tickOnce_139 ?_
            refine lv_iconst (v := (1 : Int32)) hx hb dX7_tickOnce_140 (by decide +kernel) ?_
            refine lv_iadd hx hb dX7_tickOnce_141 ?_
            refine xst (j := 15) hx hb hE hP hD hS 1 rfl rfl cl_15 (in_15 (by decide)) [(h0, .inr (7, [.ref h1, .ref w1, .int w2, .ref w3, .int w4, .ref w5, .ref w6, .int w7, .int w8, .int w9, .int w10, .int w11, .int w12])), (h1, .inl (cI, 163, .inl (upd σ 15 ((σ 15) + (1 : Int32)))))] rfl dX7_tickOnce_142 (fun H locs hP hD hS => ?_)
            refine lv_goto (tgt := 150) hx hb dX7_tickOnce_143 (by decide) ?_
            exact hend _ _ _ _ _ dX7_tickOnce_150 (hF.trans (fX7_tickOnce_76_p2 n k σ c_84 c_113 c_129)) hP hS
      · refine lv_aload_n hx hb dX7_tickOnce_87 rfl (lv_at hl 0 rfl) ?_
        refine va_get (D := D) (ci := 7) (v := .ref h1) (C := RX7) (T := TX7) (N := 13) hx hb hts (fun _ h9 => List.mem_cons_of_mem _ (List.mem_append_right _ h9)) hown hE.1 hP 0 rfl rfl 0 (by decide) (hts (.fieldLink RX7 7 "ShadowTableModel" "s" "[I") (List.mem_of_getElem? (i := 1) rfl)) (fun _ h9 => h9) rfl dX7_tickOnce_88 ?_
        refine lv_iconst (v := (4 : Int32)) hx hb dX7_tickOnce_91 (by decide +kernel) ?_
        refine xld (v := (σ 4)) (j := 4) hx hb hE hP 1 rfl rfl cl_4 (in_4 (by decide)) rfl dX7_tickOnce_92 ?_
        refine lv_if_le (tgt := 106) hx hb dX7_tickOnce_93 (by decide) (fun c_93 => ?_) (fun c_93 => ?_)
        · refine lv_aload_n hx hb dX7_tickOnce_106 rfl (lv_at hl 0 rfl) ?_
          refine va_get (D := D) (ci := 7) (v := .ref h1) (C := RX7) (T := TX7) (N := 13) hx hb hts (fun _ h9 => List.mem_cons_of_mem _ (List.mem_append_right _ h9)) hown hE.1 hP 0 rfl rfl 0 (by decide) (hts (.fieldLink RX7 7 "ShadowTableModel" "s" "[I") (List.mem_of_getElem? (i := 1) rfl)) (fun _ h9 => h9) rfl dX7_tickOnce_107 ?_
          refine lv_iconst (v := (0 : Int32)) hx hb dX7_tickOnce_110 (by decide +kernel) ?_
          refine xld (v := (σ 0)) (j := 0) hx hb hE hP 1 rfl rfl cl_0 (in_0 (by decide)) rfl dX7_tickOnce_111 ?_
          refine lv_iconst (v := (1 : Int32)) hx hb dX7_tickOnce_112 (by decide +kernel) ?_
          refine lv_icmp_ne (tgt := 150) hx hb dX7_tickOnce_113 (by decide) (fun c_113 => ?_) (fun c_113 => ?_)
          · exact hend _ _ _ _ _ dX7_tickOnce_150 (hF.trans (fX7_tickOnce_76_p3 n k σ c_84 c_93 c_113)) hP hS
          · refine lv_aload_n hx hb dX7_tickOnce_116 rfl (lv_at hl 0 rfl) ?_
            refine va_get (D := D) (ci := 7) (v := .ref h1) (C := RX7) (T := TX7) (N := 13) hx hb hts (fun _ h9 => List.mem_cons_of_mem _ (List.mem_append_right _ h9)) hown hE.1 hP 0 rfl rfl 0 (by decide) (hts (.fieldLink RX7 7 "ShadowTableModel" "s" "[I") (List.mem_of_getElem? (i := 1) rfl)) (fun _ h9 => h9) rfl dX7_tickOnce_117 ?_
            refine lv_iconst (v := (4 : Int32)) hx hb dX7_tickOnce_120 (by decide +kernel) ?_
            refine xld (v := (σ 4)) (j := 4) hx hb hE hP 1 rfl rfl cl_4 (in_4 (by decide)) rfl dX7_tickOnce_121 ?_
            refine lv_aload_n hx hb dX7_tickOnce_122 rfl (lv_at hl 0 rfl) ?_
            refine va_get (D := D) (ci := 7) (v := .ref h1) (C := RX7) (T := TX7) (N := 13) hx hb hts (fun _ h9 => List.mem_cons_of_mem _ (List.mem_append_right _ h9)) hown hE.1 hP 0 rfl rfl 0 (by decide) (hts (.fieldLink RX7 7 "ShadowTableModel" "s" "[I") (List.mem_of_getElem? (i := 1) rfl)) (fun _ h9 => h9) rfl dX7_tickOnce_123 ?_
            refine lv_bipush (v := (8 : Int32)) hx hb dX7_tickOnce_126 (by decide +kernel) ?_
            refine xld (v := (σ 8)) (j := 8) hx hb hE hP 1 rfl rfl cl_8 (in_8 (by decide)) rfl dX7_tickOnce_128 ?_
            refine lv_icmp_le (tgt := 146) hx hb dX7_tickOnce_129 (by decide) (fun c_129 => ?_) (fun c_129 => ?_)
            · refine lv_aload_n hx hb dX7_tickOnce_146 rfl (lv_at hl 0 rfl) ?_
              refine cVV ⟨hx, hb, hml, hown, hts⟩ (kX7_copyKeys l D cI cS h0 h1 w1 w2 w3 w4 w5 w6 w7 w8 w9 w10 w11 w12 σ hm) (cwV 0 hts gX7_tickOnce_X7_copyKeys rfl rfl rfl (by decide +kernel) ⟨Nat.le_of_ble_eq_true rfl, Nat.le_of_ble_eq_true rfl⟩) hE hP hD hS 0 rfl rfl [0, 1] rfl (by decide) (fun _ => rfl) rfl hl.1 rfl (Nat.le_of_ble_eq_true rfl) ⟨Nat.zero_le _, Nat.zero_le _⟩ dX7_tickOnce_147 (fun u_147 H locs e_147 hP hD hS => ?_)
              have hP : va_P D vwCl [(h0, .inr (7, [.ref h1, .ref w1, .int w2, .ref w3, .int w4, .ref w5, .ref w6, .int w7, .int w8, .int w9, .int w10, .int w11, .int w12])), (h1, .inl (cI, 163, .inl u_147))] H := hP
              have hD : va_D A [(h0, .inr (7, [.ref h1, .ref w1, .int w2, .ref w3, .int w4, .ref w5, .ref w6, .int w7, .int w8, .int w9, .int w10, .int w11, .int w12])), (h1, .inl (cI, 163, .inl u_147))] := hD
              exact hend _ _ _ _ _ dX7_tickOnce_150 (hF.trans (fX7_tickOnce_76_p4 n k σ c_84 c_93 c_113 c_129 u_147 e_147)) hP hS
            · refine lv_aload_n hx hb dX7_tickOnce_132 rfl (lv_at hl 0 rfl) ?_
              refine va_get (D := D) (ci := 7) (v := .ref h1) (C := RX7) (T := TX7) (N := 13) hx hb hts (fun _ h9 => List.mem_cons_of_mem _ (List.mem_append_right _ h9)) hown hE.1 hP 0 rfl rfl 0 (by decide) (hts (.fieldLink RX7 7 "ShadowTableModel" "s" "[I") (List.mem_of_getElem? (i := 1) rfl)) (fun _ h9 => h9) rfl dX7_tickOnce_133 ?_
              refine lv_bipush (v := (15 : Int32)) hx hb dX7_tickOnce_136 (by decide +kernel) ?_
              refine lv_dup2_11 hx hb dX7_tickOnce_138 rfl rfl ?_
              refine xld (v := (σ 15)) (j := 15) hx hb hE hP 1 rfl rfl cl_15 (in_15 (by decide)) rfl dX7_tickOnce_139 ?_
              refine lv_iconst (v := (1 : Int32)) hx hb dX7_tickOnce_140 (by decide +kernel) ?_
              refine lv_iadd hx hb dX7_tickOnce_141 ?_
              refine xst (j := 15) hx hb hE hP hD hS 1 rfl rfl cl_15 (in_15 (by decide)) [(h0, .inr (7, [.ref h1, .ref w1, .int w2, .ref w3, .int w4, .ref w5, .ref w6, .int w7, .int w8, .int w9, .int w10, .int w11, .int w12])), (h1, .inl (cI, 163, .inl (upd σ 15 ((σ 15) + (1 : Int32)))))] rfl dX7_tickOnce_142 (fun H locs hP hD hS => ?_)
              refine lv_goto (tgt := 150) hx hb dX7_tickOnce_143 (by decide) ?_
              exact hend _ _ _ _ _ dX7_tickOnce_150 (hF.trans (fX7_tickOnce_76_p5 n k σ c_84 c_93 c_113 c_129)) hP hS
        · refine lv_aload_n hx hb dX7_tickOnce_96 rfl (lv_at hl 0 rfl) ?_
          refine cVV ⟨hx, hb, hml, hown, hts⟩ (kX7_apply l D cI cS h0 h1 w1 w2 w3 w4 w5 w6 w7 w8 w9 w10 w11 w12 σ hm c_93) (cwV 0 hts gX7_tickOnce_X7_apply rfl rfl rfl (by decide +kernel) ⟨Nat.le_of_ble_eq_true rfl, Nat.le_of_ble_eq_true rfl⟩) hE hP hD hS 0 rfl rfl [0, 1] rfl (by decide) (fun _ => rfl) rfl hl.1 rfl (Nat.le_of_ble_eq_true rfl) ⟨Nat.zero_le _, Nat.zero_le _⟩ dX7_tickOnce_97 (fun u_97 H locs e_97 hP hD hS => ?_)
          have hP : va_P D vwCl [(h0, .inr (7, [.ref h1, .ref w1, .int w2, .ref w3, .int w4, .ref w5, .ref w6, .int w7, .int w8, .int w9, .int w10, .int w11, .int w12])), (h1, .inl (cI, 163, .inl u_97))] H := hP
          have hD : va_D A [(h0, .inr (7, [.ref h1, .ref w1, .int w2, .ref w3, .int w4, .ref w5, .ref w6, .int w7, .int w8, .int w9, .int w10, .int w11, .int w12])), (h1, .inl (cI, 163, .inl u_97))] := hD
          refine lv_iinc (v := (nI (k + 1))) (lv' := [(1, .int (nI (k + 1))), (0, .ref h0)]) hx hb dX7_tickOnce_100 hl (k := 1) rfl (nI_1 _) (by decide) rfl (fun ls hl => ?_)
          refine lv_goto (tgt := 76) hx hb dX7_tickOnce_103 (by decide) ?_
          exact ih (k + 1) u_97 (zz_WM_apply e_97 hm c_93) (zz_apply_sz e_97 hm c_93 hn) (hF.trans (fX7_tickOnce_76_p6 n k σ c_84 c_93 u_97 e_97)) _ _ hP hD hS _ (lv_sub hl [1, 0] rfl)
  refine lv_aload_n hx hb dX7_tickOnce_0 rfl (lv_at hl 0 rfl) ?_
  refine va_get (D := D) (ci := 7) (v := .ref h1) (C := RX7) (T := TX7) (N := 13) hx hb hts (fun _ h9 => List.mem_cons_of_mem _ (List.mem_append_right _ h9)) hown hE.1 hP 0 rfl rfl 0 (by decide) (hts (.fieldLink RX7 7 "ShadowTableModel" "s" "[I") (List.mem_of_getElem? (i := 1) rfl)) (fun _ h9 => h9) rfl dX7_tickOnce_1 ?_
  refine lv_bipush (v := (18 : Int32)) hx hb dX7_tickOnce_4 (by decide +kernel) ?_
  refine lv_dup2_11 hx hb dX7_tickOnce_6 rfl rfl ?_
  refine xld (v := (τ 18)) (j := 18) hx hb hE hP 1 rfl rfl cl_18 (in_18 (by decide)) rfl dX7_tickOnce_7 ?_
  refine lv_iconst (v := (1 : Int32)) hx hb dX7_tickOnce_8 (by decide +kernel) ?_
  refine lv_iadd hx hb dX7_tickOnce_9 ?_
  refine xst (j := 18) hx hb hE hP hD hS 1 rfl rfl cl_18 (in_18 (by decide)) [(h0, .inr (7, [.ref h1, .ref w1, .int w2, .ref w3, .int w4, .ref w5, .ref w6, .int w7, .int w8, .int w9, .int w10, .int w11, .int w12])), (h1, .inl (cI, 163, .inl (upd τ 18 ((τ 18) + (1 : Int32)))))] rfl dX7_tickOnce_10 (fun H locs hP hD hS => ?_)
  refine lv_aload_n hx hb dX7_tickOnce_11 rfl (lv_at hl 0 rfl) ?_
  refine cRV ⟨hx, hb, hml, hown, hts⟩ (kX7_isCopy l D cI cS h0 h1 w1 w2 w3 w4 w5 w6 w7 w8 w9 w10 w11 w12 (upd τ 18 ((τ 18) + (1 : Int32)))) (cwV 0 hts gX7_tickOnce_X7_isCopy rfl rfl rfl (by decide +kernel) ⟨Nat.le_of_ble_eq_true rfl, Nat.le_of_ble_eq_true rfl⟩) hE hP 0 rfl rfl [0, 1] rfl rfl hl.1 rfl (Nat.le_of_ble_eq_true rfl) ⟨Nat.zero_le _, Nat.zero_le _⟩ dX7_tickOnce_12 ?_
  refine lv_if_ne (tgt := 19) hx hb dX7_tickOnce_15 (by decide) (fun c_15 => ?_) (fun c_15 => ?_)
  · refine lv_aload_n hx hb dX7_tickOnce_19 rfl (lv_at hl 0 rfl) ?_
    refine va_get (D := D) (ci := 7) (v := .ref h1) (C := RX7) (T := TX7) (N := 13) hx hb hts (fun _ h9 => List.mem_cons_of_mem _ (List.mem_append_right _ h9)) hown hE.1 hP 0 rfl rfl 0 (by decide) (hts (.fieldLink RX7 7 "ShadowTableModel" "s" "[I") (List.mem_of_getElem? (i := 1) rfl)) (fun _ h9 => h9) rfl dX7_tickOnce_20 ?_
    refine lv_iconst (v := (0 : Int32)) hx hb dX7_tickOnce_23 (by decide +kernel) ?_
    refine xld (v := (τ 0)) (j := 0) hx hb hE hP 1 rfl rfl cl_0 (in_0 (by decide)) rfl dX7_tickOnce_24 ?_
    refine lv_iconst (v := (3 : Int32)) hx hb dX7_tickOnce_25 (by decide +kernel) ?_
    refine lv_icmp_ne (tgt := 74) hx hb dX7_tickOnce_26 (by decide) (fun c_26 => ?_) (fun c_26 => ?_)
    · refine lv_iconst (v := (0 : Int32)) hx hb dX7_tickOnce_74 (by decide +kernel) ?_
      refine lv_istore_n (lv' := [(1, .int (0 : Int32)), (0, .ref h0)]) hx hb dX7_tickOnce_75 rfl hl (by decide) rfl (fun ls hl => ?_)
      exact loop_76 25 0 (upd τ 18 ((τ 18) + (1 : Int32))) (by first | exact zz_WMu (by decide) (by decide) (by decide) hm | exact zz_WMu (by decide) (by decide) (by decide) (zz_WMu (by decide) (by decide) (by decide) hm)) (zz_sz (by first | exact zz_WMu (by decide) (by decide) (by decide) hm | exact zz_WMu (by decide) (by decide) (by decide) (zz_WMu (by decide) (by decide) (by decide) hm))) (fX7_tickOnce_p7 τ c_15 c_26) _ _ hP hD hS _ (lv_sub hl [1, 0] rfl)
    · refine lv_aload_n hx hb dX7_tickOnce_29 rfl (lv_at hl 0 rfl) ?_
      refine va_get (D := D) (ci := 7) (v := .ref h1) (C := RX7) (T := TX7) (N := 13) hx hb hts (fun _ h9 => List.mem_cons_of_mem _ (List.mem_append_right _ h9)) hown hE.1 hP 0 rfl rfl 0 (by decide) (hts (.fieldLink RX7 7 "ShadowTableModel" "s" "[I") (List.mem_of_getElem? (i := 1) rfl)) (fun _ h9 => h9) rfl dX7_tickOnce_30 ?_
      refine lv_iconst (v := (5 : Int32)) hx hb dX7_tickOnce_33 (by decide +kernel) ?_
      refine lv_dup2_11 hx hb dX7_tickOnce_34 rfl rfl ?_
      refine xld (v := (τ 5)) (j := 5) hx hb hE hP 1 rfl rfl cl_5 (in_5 (by decide)) rfl dX7_tickOnce_35 ?_
      refine lv_iconst (v := (1 : Int32)) hx hb dX7_tickOnce_36 (by decide +kernel) ?_
      refine lv_iadd hx hb dX7_tickOnce_37 ?_
      refine xst (j := 5) hx hb hE hP hD hS 1 rfl rfl cl_5 (in_5 (by decide)) [(h0, .inr (7, [.ref h1, .ref w1, .int w2, .ref w3, .int w4, .ref w5, .ref w6, .int w7, .int w8, .int w9, .int w10, .int w11, .int w12])), (h1, .inl (cI, 163, .inl (upd (upd τ 18 ((τ 18) + (1 : Int32))) 5 ((τ 5) + (1 : Int32)))))] rfl dX7_tickOnce_38 (fun H locs hP hD hS => ?_)
      refine lv_aload_n hx hb dX7_tickOnce_39 rfl (lv_at hl 0 rfl) ?_
      refine va_get (D := D) (ci := 7) (v := .ref h1) (C := RX7) (T := TX7) (N := 13) hx hb hts (fun _ h9 => List.mem_cons_of_mem _ (List.mem_append_right _ h9)) hown hE.1 hP 0 rfl rfl 0 (by decide) (hts (.fieldLink RX7 7 "ShadowTableModel" "s" "[I") (List.mem_of_getElem? (i := 1) rfl)) (fun _ h9 => h9) rfl dX7_tickOnce_40 ?_
      refine lv_iconst (v := (5 : Int32)) hx hb dX7_tickOnce_43 (by decide +kernel) ?_
      refine xld (v := ((τ 5) + (1 : Int32))) (j := 5) hx hb hE hP 1 rfl rfl cl_5 (in_5 (by decide)) rfl dX7_tickOnce_44 ?_
      refine lv_aload_n hx hb dX7_tickOnce_45 rfl (lv_at hl 0 rfl) ?_
      refine va_get (D := D) (ci := 7) (v := .ref h1) (C := RX7) (T := TX7) (N := 13) hx hb hts (fun _ h9 => List.mem_cons_of_mem _ (List.mem_append_right _ h9)) hown hE.1 hP 0 rfl rfl 0 (by decide) (hts (.fieldLink RX7 7 "ShadowTableModel" "s" "[I") (List.mem_of_getElem? (i := 1) rfl)) (fun _ h9 => h9) rfl dX7_tickOnce_46 ?_
      refine lv_bipush (v := (9 : Int32)) hx hb dX7_tickOnce_49 (by decide +kernel) ?_
      refine xld (v := (τ 9)) (j := 9) hx hb hE hP 1 rfl rfl cl_9 (in_9 (by decide)) rfl dX7_tickOnce_51 ?_
      refine lv_icmp_le (tgt := 74) hx hb dX7_tickOnce_52 (by decide) (fun c_52 => ?_) (fun c_52 => ?_)
      · refine lv_iconst (v := (0 : Int32)) hx hb dX7_tickOnce_74 (by decide +kernel) ?_
        refine lv_istore_n (lv' := [(1, .int (0 : Int32)), (0, .ref h0)]) hx hb dX7_tickOnce_75 rfl hl (by decide) rfl (fun ls hl => ?_)
        exact loop_76 25 0 (upd (upd τ 18 ((τ 18) + (1 : Int32))) 5 ((τ 5) + (1 : Int32))) (by first | exact zz_WMu (by decide) (by decide) (by decide) hm | exact zz_WMu (by decide) (by decide) (by decide) (zz_WMu (by decide) (by decide) (by decide) hm)) (zz_sz (by first | exact zz_WMu (by decide) (by decide) (by decide) hm | exact zz_WMu (by decide) (by decide) (by decide) (zz_WMu (by decide) (by decide) (by decide) hm))) (fX7_tickOnce_p8 τ c_15 c_26 c_52) _ _ hP hD hS _ (lv_sub hl [1, 0] rfl)
      · refine lv_aload_n hx hb dX7_tickOnce_55 rfl (lv_at hl 0 rfl) ?_
        refine va_get (D := D) (ci := 7) (v := .ref h1) (C := RX7) (T := TX7) (N := 13) hx hb hts (fun _ h9 => List.mem_cons_of_mem _ (List.mem_append_right _ h9)) hown hE.1 hP 0 rfl rfl 0 (by decide) (hts (.fieldLink RX7 7 "ShadowTableModel" "s" "[I") (List.mem_of_getElem? (i := 1) rfl)) (fun _ h9 => h9) rfl dX7_tickOnce_56 ?_
        refine lv_iconst (v := (0 : Int32)) hx hb dX7_tickOnce_59 (by decide +kernel) ?_
        refine lv_iconst (v := (2 : Int32)) hx hb dX7_tickOnce_60 (by decide +kernel) ?_
        refine xst (j := 0) hx hb hE hP hD hS 1 rfl rfl cl_0 (in_0 (by decide)) [(h0, .inr (7, [.ref h1, .ref w1, .int w2, .ref w3, .int w4, .ref w5, .ref w6, .int w7, .int w8, .int w9, .int w10, .int w11, .int w12])), (h1, .inl (cI, 163, .inl (upd (upd (upd τ 18 ((τ 18) + (1 : Int32))) 5 ((τ 5) + (1 : Int32))) 0 (2 : Int32))))] rfl dX7_tickOnce_61 (fun H locs hP hD hS => ?_)
        refine lv_aload_n hx hb dX7_tickOnce_62 rfl (lv_at hl 0 rfl) ?_
        refine va_get (D := D) (ci := 7) (v := .ref h1) (C := RX7) (T := TX7) (N := 13) hx hb hts (fun _ h9 => List.mem_cons_of_mem _ (List.mem_append_right _ h9)) hown hE.1 hP 0 rfl rfl 0 (by decide) (hts (.fieldLink RX7 7 "ShadowTableModel" "s" "[I") (List.mem_of_getElem? (i := 1) rfl)) (fun _ h9 => h9) rfl dX7_tickOnce_63 ?_
        refine lv_bipush (v := (14 : Int32)) hx hb dX7_tickOnce_66 (by decide +kernel) ?_
        refine lv_dup2_11 hx hb dX7_tickOnce_68 rfl rfl ?_
        refine xld (v := (τ 14)) (j := 14) hx hb hE hP 1 rfl rfl cl_14 (in_14 (by decide)) rfl dX7_tickOnce_69 ?_
        refine lv_iconst (v := (1 : Int32)) hx hb dX7_tickOnce_70 (by decide +kernel) ?_
        refine lv_iadd hx hb dX7_tickOnce_71 ?_
        refine xst (j := 14) hx hb hE hP hD hS 1 rfl rfl cl_14 (in_14 (by decide)) [(h0, .inr (7, [.ref h1, .ref w1, .int w2, .ref w3, .int w4, .ref w5, .ref w6, .int w7, .int w8, .int w9, .int w10, .int w11, .int w12])), (h1, .inl (cI, 163, .inl (upd (upd (upd (upd τ 18 ((τ 18) + (1 : Int32))) 5 ((τ 5) + (1 : Int32))) 0 (2 : Int32)) 14 ((τ 14) + (1 : Int32)))))] rfl dX7_tickOnce_72 (fun H locs hP hD hS => ?_)
        exact hend _ _ _ _ _ dX7_tickOnce_73 (fX7_tickOnce_p9 τ c_15 c_26 c_52) hP hS
  · exact hend _ _ _ _ _ dX7_tickOnce_18 (fX7_tickOnce_p10 τ c_15) hP hS

theorem WM_tick_76 : ∀ (n k : Nat) (σ : FnI), WM σ → WM (fX7_tickOnce_76 n k σ)
  | 0, _, _, h => h
  | n + 1, k, σ, hm => by
    have h1 : WM (fX7_copyKeys σ) := WM_copyKeys_2 33 _ σ hm
    have h2 : WM (upd σ 15 ((σ 15) + (1 : Int32))) := zz_WMu (by decide) (by decide) (by decide) hm
    unfold fX7_tickOnce_76
    split
    · split
      · split
        · exact h1
        · exact h2
      · exact hm
    · split
      · split
        · split
          · exact h1
          · exact h2
        · exact hm
      · rename_i c
        exact WM_tick_76 n (k + 1) _ (zz_WM_apply rfl hm c)
theorem zz_WM_tick {τ u : FnI} (e : fX7_tickOnce τ = u) (hm : WM τ) : WM u := by
  subst e
  have h1 : ∀ {j : Nat} {x : Int32} {s : FnI}, WM s → j ≠ 3 → j ≠ 4 → j < 115 → WM (upd s j x) := fun h a b c => zz_WMu a b c h
  have h18 : WM (upd τ 18 ((τ 18) + (1 : Int32))) := h1 hm (by decide) (by decide) (by decide)
  have h5 : WM (upd (upd τ 18 ((τ 18) + (1 : Int32))) 5 ((τ 5) + (1 : Int32))) := h1 h18 (by decide) (by decide) (by decide)
  unfold fX7_tickOnce
  split
  · exact h18
  · split
    · split
      · exact WM_tick_76 25 0 _ h5
      · exact h1 (h1 h5 (by decide) (by decide) (by decide)) (by decide) (by decide) (by decide)
    · exact WM_tick_76 25 0 _ h18

def fX7_doChange (p0 : Int32) (p1 : Int32) (τ : FnI) : Int32 × FnI := (if (fX7_isLogFull τ) = (0 : Int32) then (if (fX7_isCopy τ) = (0 : Int32) then (let u_86 := (fX7_lay (0 : Int32) p0 p1 τ); ((fX7_outside (fX7_row (0 : Int32) p0 τ)), u_86)) else (let u_86 := (fX7_lay (0 : Int32) p0 p1 (upd (upd (upd τ (115 + 2 * (τ 4).toNatClampNeg) p0) (115 + 2 * (τ 4).toNatClampNeg + 1) p1) 4 ((τ 4) + (1 : Int32)))); ((fX7_outside (fX7_row (0 : Int32) p0 τ)), u_86))) else (let u_15 := (fX7_endCopy τ); (if (fX7_isCopy (upd u_15 13 ((u_15 13) + (1 : Int32)))) = (0 : Int32) then (let u_86 := (fX7_lay (0 : Int32) p0 p1 (upd u_15 13 ((u_15 13) + (1 : Int32)))); ((fX7_outside (fX7_row (0 : Int32) p0 τ)), u_86)) else (let u_86 := (fX7_lay (0 : Int32) p0 p1 (upd (upd (upd (upd u_15 13 ((u_15 13) + (1 : Int32))) (115 + 2 * (u_15 4).toNatClampNeg) p0) (115 + 2 * (u_15 4).toNatClampNeg + 1) p1) 4 ((u_15 4) + (1 : Int32)))); ((fX7_outside (fX7_row (0 : Int32) p0 τ)), u_86)))))
theorem fX7_doChange_p0 (p0 : Int32) (p1 : Int32) (τ : FnI) (c_11 : (fX7_isLogFull τ) = (0 : Int32)) (c_33 : (fX7_isCopy τ) = (0 : Int32)) (u_86 : FnI) (e_86 : (fX7_lay (0 : Int32) p0 p1 τ) = u_86) : (fX7_doChange p0 p1 τ) = ((fX7_outside (fX7_row (0 : Int32) p0 τ)), u_86) := by
  simp only [fX7_doChange, if_pos c_11, if_pos c_33, e_86]
theorem fX7_doChange_p1 (p0 : Int32) (p1 : Int32) (τ : FnI) (c_11 : (fX7_isLogFull τ) = (0 : Int32)) (c_33 : ¬ (fX7_isCopy τ) = (0 : Int32)) (u_86 : FnI) (e_86 : (fX7_lay (0 : Int32) p0 p1 (upd (upd (upd τ (115 + 2 * (τ 4).toNatClampNeg) p0) (115 + 2 * (τ 4).toNatClampNeg + 1) p1) 4 ((τ 4) + (1 : Int32)))) = u_86) : (fX7_doChange p0 p1 τ) = ((fX7_outside (fX7_row (0 : Int32) p0 τ)), u_86) := by
  simp only [fX7_doChange, if_pos c_11, if_neg c_33, e_86]
theorem fX7_doChange_p2 (p0 : Int32) (p1 : Int32) (τ : FnI) (c_11 : ¬ (fX7_isLogFull τ) = (0 : Int32)) (u_15 : FnI) (e_15 : (fX7_endCopy τ) = u_15) (c_33 : (fX7_isCopy (upd u_15 13 ((u_15 13) + (1 : Int32)))) = (0 : Int32)) (u_86 : FnI) (e_86 : (fX7_lay (0 : Int32) p0 p1 (upd u_15 13 ((u_15 13) + (1 : Int32)))) = u_86) : (fX7_doChange p0 p1 τ) = ((fX7_outside (fX7_row (0 : Int32) p0 τ)), u_86) := by
  simp only [fX7_doChange, if_neg c_11, e_15, if_pos c_33, e_86]
theorem fX7_doChange_p3 (p0 : Int32) (p1 : Int32) (τ : FnI) (c_11 : ¬ (fX7_isLogFull τ) = (0 : Int32)) (u_15 : FnI) (e_15 : (fX7_endCopy τ) = u_15) (c_33 : ¬ (fX7_isCopy (upd u_15 13 ((u_15 13) + (1 : Int32)))) = (0 : Int32)) (u_86 : FnI) (e_86 : (fX7_lay (0 : Int32) p0 p1 (upd (upd (upd (upd u_15 13 ((u_15 13) + (1 : Int32))) (115 + 2 * (u_15 4).toNatClampNeg) p0) (115 + 2 * (u_15 4).toNatClampNeg + 1) p1) 4 ((u_15 4) + (1 : Int32)))) = u_86) : (fX7_doChange p0 p1 τ) = ((fX7_outside (fX7_row (0 : Int32) p0 τ)), u_86) := by
  simp only [fX7_doChange, if_neg c_11, e_15, if_neg c_33, e_86]
set_option maxHeartbeats 4000000 in
set_option maxRecDepth 100000 in
theorem kX7_doChange (l : Launch) (D : va_G) (cI cS : ClassId) (h0 h1 : Nat) (w1 : Nat) (w2 : Int32) (w3 : Nat) (w4 : Int32) (w5 : Nat) (w6 : Nat) (w7 : Int32) (w8 : Int32) (w9 : Int32) (w10 : Int32) (w11 : Int32) (w12 : Int32) (p0 : Int32) (p1 : Int32) (τ : FnI) (hm : WM τ) (hk : Bd p0 31) : KI l yX7_doChange wsX7_doChange { frames := 2, cells := 0, slots := 0, locals := 40 } D (tysA cI cS) [.ref h0, .int p0, .int p1] [(h0, .inr (7, [.ref h1, .ref w1, .int w2, .ref w3, .int w4, .ref w5, .ref w6, .int w7, .int w8, .int w9, .int w10, .int w11, .int w12])), (h1, .inl (cI, 163, .inl τ))] (fX7_doChange p0 p1 τ) (fun u => [(h0, .inr (7, [.ref h1, .ref w1, .int w2, .ref w3, .int w4, .ref w5, .ref w6, .int w7, .int w8, .int w9, .int w10, .int w11, .int w12])), (h1, .inl (cI, 163, .inl u))]) := by
  refine KI.of (cc := cX7_doChange) (maxL := 4) (ty := .int) (by decide) rfl (Nat.le_of_ble_eq_true rfl) rfl (fun p e s m args below meth c ls Q A hx hb hml hown hts hE hP hD hS hl hend => ?_)
  have hown : s.vm.findClass RX7 = some m.cls := hown
  have hl : lv_has ls 4 [(0, .ref h0), (1, .int p0), (2, .int p1)] := hl
  refine lv_aload_n hx hb dX7_doChange_0 rfl (lv_at hl 0 rfl) ?_
  refine lv_iconst (v := (0 : Int32)) hx hb dX7_doChange_1 (by decide +kernel) ?_
  refine lv_iload_n hx hb dX7_doChange_2 rfl (lv_at hl 1 rfl) ?_
  refine cRV ⟨hx, hb, hml, hown, hts⟩ (kX7_row l D cI cS h0 h1 w1 w2 w3 w4 w5 w6 w7 w8 w9 w10 w11 w12 (0 : Int32) p0 τ (zz_rowK zz_T0 hk)) (cwV 2 hts gX7_doChange_X7_row rfl rfl rfl (by decide +kernel) ⟨Nat.le_of_ble_eq_true rfl, Nat.le_of_ble_eq_true rfl⟩) hE hP 0 rfl rfl [0, 1] rfl rfl hl.1 rfl (Nat.le_of_ble_eq_true rfl) ⟨Nat.zero_le _, Nat.zero_le _⟩ dX7_doChange_3 ?_
  refine lv_istore_n (lv' := [(3, .int (fX7_row (0 : Int32) p0 τ)), (0, .ref h0), (1, .int p0), (2, .int p1)]) hx hb dX7_doChange_6 rfl hl (by decide) rfl (fun ls hl => ?_)
  refine lv_aload_n hx hb dX7_doChange_7 rfl (lv_at hl 1 rfl) ?_
  refine cRV ⟨hx, hb, hml, hown, hts⟩ (kX7_isLogFull l D cI cS h0 h1 w1 w2 w3 w4 w5 w6 w7 w8 w9 w10 w11 w12 τ) (cwV 0 hts gX7_doChange_X7_isLogFull rfl rfl rfl (by decide +kernel) ⟨Nat.le_of_ble_eq_true rfl, Nat.le_of_ble_eq_true rfl⟩) hE hP 0 rfl rfl [0, 1] rfl rfl hl.1 rfl (Nat.le_of_ble_eq_true rfl) ⟨Nat.zero_le _, Nat.zero_le _⟩ dX7_doChange_8 ?_
  refine lv_if_eq (tgt := 29) hx hb dX7_doChange_11 (by decide) (fun c_11 => ?_) (fun c_11 => ?_)
  · refine lv_aload_n hx hb dX7_doChange_29 rfl (lv_at hl 1 rfl) ?_
    refine cRV ⟨hx, hb, hml, hown, hts⟩ (kX7_isCopy l D cI cS h0 h1 w1 w2 w3 w4 w5 w6 w7 w8 w9 w10 w11 w12 τ) (cwV 0 hts gX7_doChange_X7_isCopy rfl rfl rfl (by decide +kernel) ⟨Nat.le_of_ble_eq_true rfl, Nat.le_of_ble_eq_true rfl⟩) hE hP 0 rfl rfl [0, 1] rfl rfl hl.1 rfl (Nat.le_of_ble_eq_true rfl) ⟨Nat.zero_le _, Nat.zero_le _⟩ dX7_doChange_30 ?_
    refine lv_if_eq (tgt := 82) hx hb dX7_doChange_33 (by decide) (fun c_33 => ?_) (fun c_33 => ?_)
    · refine lv_aload_n hx hb dX7_doChange_82 rfl (lv_at hl 1 rfl) ?_
      refine lv_iconst (v := (0 : Int32)) hx hb dX7_doChange_83 (by decide +kernel) ?_
      refine lv_iload_n hx hb dX7_doChange_84 rfl (lv_at hl 2 rfl) ?_
      refine lv_iload_n hx hb dX7_doChange_85 rfl (lv_at hl 3 rfl) ?_
      refine cVV ⟨hx, hb, hml, hown, hts⟩ (kX7_lay l D cI cS h0 h1 w1 w2 w3 w4 w5 w6 w7 w8 w9 w10 w11 w12 (0 : Int32) p0 p1 τ (zz_rowK zz_T0 hk)) (cwV 3 hts gX7_doChange_X7_lay rfl rfl rfl (by decide +kernel) ⟨Nat.le_of_ble_eq_true rfl, Nat.le_of_ble_eq_true rfl⟩) hE hP hD hS 0 rfl rfl [0, 1] rfl (by decide) (fun _ => rfl) rfl hl.1 rfl (Nat.le_of_ble_eq_true rfl) ⟨Nat.zero_le _, Nat.zero_le _⟩ dX7_doChange_86 (fun u_86 H locs e_86 hP hD hS => ?_)
      have hP : va_P D vwCl [(h0, .inr (7, [.ref h1, .ref w1, .int w2, .ref w3, .int w4, .ref w5, .ref w6, .int w7, .int w8, .int w9, .int w10, .int w11, .int w12])), (h1, .inl (cI, 163, .inl u_86))] H := hP
      have hD : va_D A [(h0, .inr (7, [.ref h1, .ref w1, .int w2, .ref w3, .int w4, .ref w5, .ref w6, .int w7, .int w8, .int w9, .int w10, .int w11, .int w12])), (h1, .inl (cI, 163, .inl u_86))] := hD
      refine lv_iload_n hx hb dX7_doChange_89 rfl (lv_at hl 0 rfl) ?_
      refine cRS ⟨hx, hb, hml, hown, hts⟩ (kX7_outside l D cI cS (fX7_row (0 : Int32) p0 τ)) (va_cwS 1 hts gX7_doChange_X7_outside rfl rfl rfl (by decide +kernel) ⟨Nat.le_of_ble_eq_true rfl, Nat.le_of_ble_eq_true rfl⟩) hE hP [] rfl rfl hl.1 rfl (Nat.le_of_ble_eq_true rfl) ⟨Nat.zero_le _, Nat.zero_le _⟩ dX7_doChange_90 ?_
      exact hend _ _ _ _ _ _ dX7_doChange_93 rfl (fX7_doChange_p0 p0 p1 τ c_11 c_33 u_86 e_86) hP hS
    · refine lv_aload_n hx hb dX7_doChange_36 rfl (lv_at hl 1 rfl) ?_
      refine va_get (D := D) (ci := 7) (v := .ref h1) (C := RX7) (T := TX7) (N := 13) hx hb hts (fun _ h9 => List.mem_cons_of_mem _ (List.mem_append_right _ h9)) hown hE.1 hP 0 rfl rfl 0 (by decide) (hts (.fieldLink RX7 7 "ShadowTableModel" "s" "[I") (List.mem_of_getElem? (i := 1) rfl)) (fun _ h9 => h9) rfl dX7_doChange_37 ?_
      refine lv_bipush (v := (115 : Int32)) hx hb dX7_doChange_40 (by decide +kernel) ?_
      refine lv_iconst (v := (2 : Int32)) hx hb dX7_doChange_42 (by decide +kernel) ?_
      refine lv_aload_n hx hb dX7_doChange_43 rfl (lv_at hl 1 rfl) ?_
      refine va_get (D := D) (ci := 7) (v := .ref h1) (C := RX7) (T := TX7) (N := 13) hx hb hts (fun _ h9 => List.mem_cons_of_mem _ (List.mem_append_right _ h9)) hown hE.1 hP 0 rfl rfl 0 (by decide) (hts (.fieldLink RX7 7 "ShadowTableModel" "s" "[I") (List.mem_of_getElem? (i := 1) rfl)) (fun _ h9 => h9) rfl dX7_doChange_44 ?_
      refine lv_iconst (v := (4 : Int32)) hx hb dX7_doChange_47 (by decide +kernel) ?_
      refine xld (v := (τ 4)) (j := 4) hx hb hE hP 1 rfl rfl cl_4 (in_4 (by decide)) rfl dX7_doChange_48 ?_
      refine lv_imul hx hb dX7_doChange_49 ?_
      refine lv_iadd hx hb dX7_doChange_50 ?_
      refine lv_iload_n hx hb dX7_doChange_51 rfl (lv_at hl 2 rfl) ?_
      refine xst (j := (115 + 2 * (τ 4).toNatClampNeg)) hx hb hE hP hD hS 1 rfl rfl (zz_lj (zz_nf hm c_11 c_33)) (zz_li (zz_nf hm c_11 c_33)) [(h0, .inr (7, [.ref h1, .ref w1, .int w2, .ref w3, .int w4, .ref w5, .ref w6, .int w7, .int w8, .int w9, .int w10, .int w11, .int w12])), (h1, .inl (cI, 163, .inl (upd τ (115 + 2 * (τ 4).toNatClampNeg) p0)))] rfl dX7_doChange_52 (fun H locs hP hD hS => ?_)
      refine lv_aload_n hx hb dX7_doChange_53 rfl (lv_at hl 1 rfl) ?_
      refine va_get (D := D) (ci := 7) (v := .ref h1) (C := RX7) (T := TX7) (N := 13) hx hb hts (fun _ h9 => List.mem_cons_of_mem _ (List.mem_append_right _ h9)) hown hE.1 hP 0 rfl rfl 0 (by decide) (hts (.fieldLink RX7 7 "ShadowTableModel" "s" "[I") (List.mem_of_getElem? (i := 1) rfl)) (fun _ h9 => h9) rfl dX7_doChange_54 ?_
      refine lv_bipush (v := (115 : Int32)) hx hb dX7_doChange_57 (by decide +kernel) ?_
      refine lv_iconst (v := (2 : Int32)) hx hb dX7_doChange_59 (by decide +kernel) ?_
      refine lv_aload_n hx hb dX7_doChange_60 rfl (lv_at hl 1 rfl) ?_
      refine va_get (D := D) (ci := 7) (v := .ref h1) (C := RX7) (T := TX7) (N := 13) hx hb hts (fun _ h9 => List.mem_cons_of_mem _ (List.mem_append_right _ h9)) hown hE.1 hP 0 rfl rfl 0 (by decide) (hts (.fieldLink RX7 7 "ShadowTableModel" "s" "[I") (List.mem_of_getElem? (i := 1) rfl)) (fun _ h9 => h9) rfl dX7_doChange_61 ?_
      refine lv_iconst (v := (4 : Int32)) hx hb dX7_doChange_64 (by decide +kernel) ?_
      refine xld (v := (τ 4)) (j := 4) hx hb hE hP 1 rfl rfl cl_4 (in_4 (by decide)) (pk_un (by omega)) dX7_doChange_65 ?_
      refine lv_imul hx hb dX7_doChange_66 ?_
      refine lv_iadd hx hb dX7_doChange_67 ?_
      refine lv_iconst (v := (1 : Int32)) hx hb dX7_doChange_68 (by decide +kernel) ?_
      refine lv_iadd hx hb dX7_doChange_69 ?_
      refine lv_iload_n hx hb dX7_doChange_70 rfl (lv_at hl 3 rfl) ?_
      refine xst (j := (115 + 2 * (τ 4).toNatClampNeg + 1)) hx hb hE hP hD hS 1 rfl rfl (zz_lj1 (zz_nf hm c_11 c_33)) (zz_li1 (zz_nf hm c_11 c_33)) [(h0, .inr (7, [.ref h1, .ref w1, .int w2, .ref w3, .int w4, .ref w5, .ref w6, .int w7, .int w8, .int w9, .int w10, .int w11, .int w12])), (h1, .inl (cI, 163, .inl (upd (upd τ (115 + 2 * (τ 4).toNatClampNeg) p0) (115 + 2 * (τ 4).toNatClampNeg + 1) p1)))] rfl dX7_doChange_71 (fun H locs hP hD hS => ?_)
      refine lv_aload_n hx hb dX7_doChange_72 rfl (lv_at hl 1 rfl) ?_
      refine va_get (D := D) (ci := 7) (v := .ref h1) (C := RX7) (T := TX7) (N := 13) hx hb hts (fun _ h9 => List.mem_cons_of_mem _ (List.mem_append_right _ h9)) hown hE.1 hP 0 rfl rfl 0 (by decide) (hts (.fieldLink RX7 7 "ShadowTableModel" "s" "[I") (List.mem_of_getElem? (i := 1) rfl)) (fun _ h9 => h9) rfl dX7_doChange_73 ?_
      refine lv_iconst (v := (4 : Int32)) hx hb dX7_doChange_76 (by decide +kernel) ?_
      refine lv_dup2_11 hx hb dX7_doChange_77 rfl rfl ?_
      refine xld (v := (τ 4)) (j := 4) hx hb hE hP 1 rfl rfl cl_4 (in_4 (by decide)) ((pk_un (by omega)).trans (pk_un (by omega))) dX7_doChange_78 ?_
      refine lv_iconst (v := (1 : Int32)) hx hb dX7_doChange_79 (by decide +kernel) ?_
      refine lv_iadd hx hb dX7_doChange_80 ?_
      refine xst (j := 4) hx hb hE hP hD hS 1 rfl rfl cl_4 (in_4 (by decide)) [(h0, .inr (7, [.ref h1, .ref w1, .int w2, .ref w3, .int w4, .ref w5, .ref w6, .int w7, .int w8, .int w9, .int w10, .int w11, .int w12])), (h1, .inl (cI, 163, .inl (upd (upd (upd τ (115 + 2 * (τ 4).toNatClampNeg) p0) (115 + 2 * (τ 4).toNatClampNeg + 1) p1) 4 ((τ 4) + (1 : Int32)))))] rfl dX7_doChange_81 (fun H locs hP hD hS => ?_)
      refine lv_aload_n hx hb dX7_doChange_82 rfl (lv_at hl 1 rfl) ?_
      refine lv_iconst (v := (0 : Int32)) hx hb dX7_doChange_83 (by decide +kernel) ?_
      refine lv_iload_n hx hb dX7_doChange_84 rfl (lv_at hl 2 rfl) ?_
      refine lv_iload_n hx hb dX7_doChange_85 rfl (lv_at hl 3 rfl) ?_
      refine cVV ⟨hx, hb, hml, hown, hts⟩ (kX7_lay l D cI cS h0 h1 w1 w2 w3 w4 w5 w6 w7 w8 w9 w10 w11 w12 (0 : Int32) p0 p1 (upd (upd (upd τ (115 + 2 * (τ 4).toNatClampNeg) p0) (115 + 2 * (τ 4).toNatClampNeg + 1) p1) 4 ((τ 4) + (1 : Int32))) (zz_rowK zz_T0 hk)) (cwV 3 hts gX7_doChange_X7_lay rfl rfl rfl (by decide +kernel) ⟨Nat.le_of_ble_eq_true rfl, Nat.le_of_ble_eq_true rfl⟩) hE hP hD hS 0 rfl rfl [0, 1] rfl (by decide) (fun _ => rfl) rfl hl.1 rfl (Nat.le_of_ble_eq_true rfl) ⟨Nat.zero_le _, Nat.zero_le _⟩ dX7_doChange_86 (fun u_86 H locs e_86 hP hD hS => ?_)
      have hP : va_P D vwCl [(h0, .inr (7, [.ref h1, .ref w1, .int w2, .ref w3, .int w4, .ref w5, .ref w6, .int w7, .int w8, .int w9, .int w10, .int w11, .int w12])), (h1, .inl (cI, 163, .inl u_86))] H := hP
      have hD : va_D A [(h0, .inr (7, [.ref h1, .ref w1, .int w2, .ref w3, .int w4, .ref w5, .ref w6, .int w7, .int w8, .int w9, .int w10, .int w11, .int w12])), (h1, .inl (cI, 163, .inl u_86))] := hD
      refine lv_iload_n hx hb dX7_doChange_89 rfl (lv_at hl 0 rfl) ?_
      refine cRS ⟨hx, hb, hml, hown, hts⟩ (kX7_outside l D cI cS (fX7_row (0 : Int32) p0 τ)) (va_cwS 1 hts gX7_doChange_X7_outside rfl rfl rfl (by decide +kernel) ⟨Nat.le_of_ble_eq_true rfl, Nat.le_of_ble_eq_true rfl⟩) hE hP [] rfl rfl hl.1 rfl (Nat.le_of_ble_eq_true rfl) ⟨Nat.zero_le _, Nat.zero_le _⟩ dX7_doChange_90 ?_
      exact hend _ _ _ _ _ _ dX7_doChange_93 rfl (fX7_doChange_p1 p0 p1 τ c_11 c_33 u_86 e_86) hP hS
  · refine lv_aload_n hx hb dX7_doChange_14 rfl (lv_at hl 1 rfl) ?_
    refine cVV ⟨hx, hb, hml, hown, hts⟩ (kX7_endCopy l D cI cS h0 h1 w1 w2 w3 w4 w5 w6 w7 w8 w9 w10 w11 w12 τ) (cwV 0 hts gX7_doChange_X7_endCopy rfl rfl rfl (by decide +kernel) ⟨Nat.le_of_ble_eq_true rfl, Nat.le_of_ble_eq_true rfl⟩) hE hP hD hS 0 rfl rfl [0, 1] rfl (by decide) (fun _ => rfl) rfl hl.1 rfl (Nat.le_of_ble_eq_true rfl) ⟨Nat.zero_le _, Nat.zero_le _⟩ dX7_doChange_15 (fun u_15 H locs e_15 hP hD hS => ?_)
    have hP : va_P D vwCl [(h0, .inr (7, [.ref h1, .ref w1, .int w2, .ref w3, .int w4, .ref w5, .ref w6, .int w7, .int w8, .int w9, .int w10, .int w11, .int w12])), (h1, .inl (cI, 163, .inl u_15))] H := hP
    have hD : va_D A [(h0, .inr (7, [.ref h1, .ref w1, .int w2, .ref w3, .int w4, .ref w5, .ref w6, .int w7, .int w8, .int w9, .int w10, .int w11, .int w12])), (h1, .inl (cI, 163, .inl u_15))] := hD
    refine lv_aload_n hx hb dX7_doChange_18 rfl (lv_at hl 1 rfl) ?_
    refine va_get (D := D) (ci := 7) (v := .ref h1) (C := RX7) (T := TX7) (N := 13) hx hb hts (fun _ h9 => List.mem_cons_of_mem _ (List.mem_append_right _ h9)) hown hE.1 hP 0 rfl rfl 0 (by decide) (hts (.fieldLink RX7 7 "ShadowTableModel" "s" "[I") (List.mem_of_getElem? (i := 1) rfl)) (fun _ h9 => h9) rfl dX7_doChange_19 ?_
    refine lv_bipush (v := (13 : Int32)) hx hb dX7_doChange_22 (by decide +kernel) ?_
    refine lv_dup2_11 hx hb dX7_doChange_24 rfl rfl ?_
    refine xld (v := (u_15 13)) (j := 13) hx hb hE hP 1 rfl rfl cl_13 (in_13 (by decide)) rfl dX7_doChange_25 ?_
    refine lv_iconst (v := (1 : Int32)) hx hb dX7_doChange_26 (by decide +kernel) ?_
    refine lv_iadd hx hb dX7_doChange_27 ?_
    refine xst (j := 13) hx hb hE hP hD hS 1 rfl rfl cl_13 (in_13 (by decide)) [(h0, .inr (7, [.ref h1, .ref w1, .int w2, .ref w3, .int w4, .ref w5, .ref w6, .int w7, .int w8, .int w9, .int w10, .int w11, .int w12])), (h1, .inl (cI, 163, .inl (upd u_15 13 ((u_15 13) + (1 : Int32)))))] rfl dX7_doChange_28 (fun H locs hP hD hS => ?_)
    refine lv_aload_n hx hb dX7_doChange_29 rfl (lv_at hl 1 rfl) ?_
    refine cRV ⟨hx, hb, hml, hown, hts⟩ (kX7_isCopy l D cI cS h0 h1 w1 w2 w3 w4 w5 w6 w7 w8 w9 w10 w11 w12 (upd u_15 13 ((u_15 13) + (1 : Int32)))) (cwV 0 hts gX7_doChange_X7_isCopy rfl rfl rfl (by decide +kernel) ⟨Nat.le_of_ble_eq_true rfl, Nat.le_of_ble_eq_true rfl⟩) hE hP 0 rfl rfl [0, 1] rfl rfl hl.1 rfl (Nat.le_of_ble_eq_true rfl) ⟨Nat.zero_le _, Nat.zero_le _⟩ dX7_doChange_30 ?_
    refine lv_if_eq (tgt := 82) hx hb dX7_doChange_33 (by decide) (fun c_33 => ?_) (fun c_33 => ?_)
    · refine lv_aload_n hx hb dX7_doChange_82 rfl (lv_at hl 1 rfl) ?_
      refine lv_iconst (v := (0 : Int32)) hx hb dX7_doChange_83 (by decide +kernel) ?_
      refine lv_iload_n hx hb dX7_doChange_84 rfl (lv_at hl 2 rfl) ?_
      refine lv_iload_n hx hb dX7_doChange_85 rfl (lv_at hl 3 rfl) ?_
      refine cVV ⟨hx, hb, hml, hown, hts⟩ (kX7_lay l D cI cS h0 h1 w1 w2 w3 w4 w5 w6 w7 w8 w9 w10 w11 w12 (0 : Int32) p0 p1 (upd u_15 13 ((u_15 13) + (1 : Int32))) (zz_rowK zz_T0 hk)) (cwV 3 hts gX7_doChange_X7_lay rfl rfl rfl (by decide +kernel) ⟨Nat.le_of_ble_eq_true rfl, Nat.le_of_ble_eq_true rfl⟩) hE hP hD hS 0 rfl rfl [0, 1] rfl (by decide) (fun _ => rfl) rfl hl.1 rfl (Nat.le_of_ble_eq_true rfl) ⟨Nat.zero_le _, Nat.zero_le _⟩ dX7_doChange_86 (fun u_86 H locs e_86 hP hD hS => ?_)
      have hP : va_P D vwCl [(h0, .inr (7, [.ref h1, .ref w1, .int w2, .ref w3, .int w4, .ref w5, .ref w6, .int w7, .int w8, .int w9, .int w10, .int w11, .int w12])), (h1, .inl (cI, 163, .inl u_86))] H := hP
      have hD : va_D A [(h0, .inr (7, [.ref h1, .ref w1, .int w2, .ref w3, .int w4, .ref w5, .ref w6, .int w7, .int w8, .int w9, .int w10, .int w11, .int w12])), (h1, .inl (cI, 163, .inl u_86))] := hD
      refine lv_iload_n hx hb dX7_doChange_89 rfl (lv_at hl 0 rfl) ?_
      refine cRS ⟨hx, hb, hml, hown, hts⟩ (kX7_outside l D cI cS (fX7_row (0 : Int32) p0 τ)) (va_cwS 1 hts gX7_doChange_X7_outside rfl rfl rfl (by decide +kernel) ⟨Nat.le_of_ble_eq_true rfl, Nat.le_of_ble_eq_true rfl⟩) hE hP [] rfl rfl hl.1 rfl (Nat.le_of_ble_eq_true rfl) ⟨Nat.zero_le _, Nat.zero_le _⟩ dX7_doChange_90 ?_
      exact hend _ _ _ _ _ _ dX7_doChange_93 rfl (fX7_doChange_p2 p0 p1 τ c_11 u_15 e_15 c_33 u_86 e_86) hP hS
    · refine lv_aload_n hx hb dX7_doChange_36 rfl (lv_at hl 1 rfl) ?_
      refine va_get (D := D) (ci := 7) (v := .ref h1) (C := RX7) (T := TX7) (N := 13) hx hb hts (fun _ h9 => List.mem_cons_of_mem _ (List.mem_append_right _ h9)) hown hE.1 hP 0 rfl rfl 0 (by decide) (hts (.fieldLink RX7 7 "ShadowTableModel" "s" "[I") (List.mem_of_getElem? (i := 1) rfl)) (fun _ h9 => h9) rfl dX7_doChange_37 ?_
      refine lv_bipush (v := (115 : Int32)) hx hb dX7_doChange_40 (by decide +kernel) ?_
      refine lv_iconst (v := (2 : Int32)) hx hb dX7_doChange_42 (by decide +kernel) ?_
      refine lv_aload_n hx hb dX7_doChange_43 rfl (lv_at hl 1 rfl) ?_
      refine va_get (D := D) (ci := 7) (v := .ref h1) (C := RX7) (T := TX7) (N := 13) hx hb hts (fun _ h9 => List.mem_cons_of_mem _ (List.mem_append_right _ h9)) hown hE.1 hP 0 rfl rfl 0 (by decide) (hts (.fieldLink RX7 7 "ShadowTableModel" "s" "[I") (List.mem_of_getElem? (i := 1) rfl)) (fun _ h9 => h9) rfl dX7_doChange_44 ?_
      refine lv_iconst (v := (4 : Int32)) hx hb dX7_doChange_47 (by decide +kernel) ?_
      refine xld (v := (u_15 4)) (j := 4) hx hb hE hP 1 rfl rfl cl_4 (in_4 (by decide)) rfl dX7_doChange_48 ?_
      refine lv_imul hx hb dX7_doChange_49 ?_
      refine lv_iadd hx hb dX7_doChange_50 ?_
      refine lv_iload_n hx hb dX7_doChange_51 rfl (lv_at hl 2 rfl) ?_
      refine xst (j := (115 + 2 * (u_15 4).toNatClampNeg)) hx hb hE hP hD hS 1 rfl rfl (zz_lj (zz_ec e_15)) (zz_li (zz_ec e_15)) [(h0, .inr (7, [.ref h1, .ref w1, .int w2, .ref w3, .int w4, .ref w5, .ref w6, .int w7, .int w8, .int w9, .int w10, .int w11, .int w12])), (h1, .inl (cI, 163, .inl (upd (upd u_15 13 ((u_15 13) + (1 : Int32))) (115 + 2 * (u_15 4).toNatClampNeg) p0)))] rfl dX7_doChange_52 (fun H locs hP hD hS => ?_)
      refine lv_aload_n hx hb dX7_doChange_53 rfl (lv_at hl 1 rfl) ?_
      refine va_get (D := D) (ci := 7) (v := .ref h1) (C := RX7) (T := TX7) (N := 13) hx hb hts (fun _ h9 => List.mem_cons_of_mem _ (List.mem_append_right _ h9)) hown hE.1 hP 0 rfl rfl 0 (by decide) (hts (.fieldLink RX7 7 "ShadowTableModel" "s" "[I") (List.mem_of_getElem? (i := 1) rfl)) (fun _ h9 => h9) rfl dX7_doChange_54 ?_
      refine lv_bipush (v := (115 : Int32)) hx hb dX7_doChange_57 (by decide +kernel) ?_
      refine lv_iconst (v := (2 : Int32)) hx hb dX7_doChange_59 (by decide +kernel) ?_
      refine lv_aload_n hx hb dX7_doChange_60 rfl (lv_at hl 1 rfl) ?_
      refine va_get (D := D) (ci := 7) (v := .ref h1) (C := RX7) (T := TX7) (N := 13) hx hb hts (fun _ h9 => List.mem_cons_of_mem _ (List.mem_append_right _ h9)) hown hE.1 hP 0 rfl rfl 0 (by decide) (hts (.fieldLink RX7 7 "ShadowTableModel" "s" "[I") (List.mem_of_getElem? (i := 1) rfl)) (fun _ h9 => h9) rfl dX7_doChange_61 ?_
      refine lv_iconst (v := (4 : Int32)) hx hb dX7_doChange_64 (by decide +kernel) ?_
      refine xld (v := (u_15 4)) (j := 4) hx hb hE hP 1 rfl rfl cl_4 (in_4 (by decide)) ((pk_un (by omega)).trans (pk_un (by decide))) dX7_doChange_65 ?_
      refine lv_imul hx hb dX7_doChange_66 ?_
      refine lv_iadd hx hb dX7_doChange_67 ?_
      refine lv_iconst (v := (1 : Int32)) hx hb dX7_doChange_68 (by decide +kernel) ?_
      refine lv_iadd hx hb dX7_doChange_69 ?_
      refine lv_iload_n hx hb dX7_doChange_70 rfl (lv_at hl 3 rfl) ?_
      refine xst (j := (115 + 2 * (u_15 4).toNatClampNeg + 1)) hx hb hE hP hD hS 1 rfl rfl (zz_lj1 (zz_ec e_15)) (zz_li1 (zz_ec e_15)) [(h0, .inr (7, [.ref h1, .ref w1, .int w2, .ref w3, .int w4, .ref w5, .ref w6, .int w7, .int w8, .int w9, .int w10, .int w11, .int w12])), (h1, .inl (cI, 163, .inl (upd (upd (upd u_15 13 ((u_15 13) + (1 : Int32))) (115 + 2 * (u_15 4).toNatClampNeg) p0) (115 + 2 * (u_15 4).toNatClampNeg + 1) p1)))] rfl dX7_doChange_71 (fun H locs hP hD hS => ?_)
      refine lv_aload_n hx hb dX7_doChange_72 rfl (lv_at hl 1 rfl) ?_
      refine va_get (D := D) (ci := 7) (v := .ref h1) (C := RX7) (T := TX7) (N := 13) hx hb hts (fun _ h9 => List.mem_cons_of_mem _ (List.mem_append_right _ h9)) hown hE.1 hP 0 rfl rfl 0 (by decide) (hts (.fieldLink RX7 7 "ShadowTableModel" "s" "[I") (List.mem_of_getElem? (i := 1) rfl)) (fun _ h9 => h9) rfl dX7_doChange_73 ?_
      refine lv_iconst (v := (4 : Int32)) hx hb dX7_doChange_76 (by decide +kernel) ?_
      refine lv_dup2_11 hx hb dX7_doChange_77 rfl rfl ?_
      refine xld (v := (u_15 4)) (j := 4) hx hb hE hP 1 rfl rfl cl_4 (in_4 (by decide)) ((pk_un (by omega)).trans ((pk_un (by omega)).trans (pk_un (by decide)))) dX7_doChange_78 ?_
      refine lv_iconst (v := (1 : Int32)) hx hb dX7_doChange_79 (by decide +kernel) ?_
      refine lv_iadd hx hb dX7_doChange_80 ?_
      refine xst (j := 4) hx hb hE hP hD hS 1 rfl rfl cl_4 (in_4 (by decide)) [(h0, .inr (7, [.ref h1, .ref w1, .int w2, .ref w3, .int w4, .ref w5, .ref w6, .int w7, .int w8, .int w9, .int w10, .int w11, .int w12])), (h1, .inl (cI, 163, .inl (upd (upd (upd (upd u_15 13 ((u_15 13) + (1 : Int32))) (115 + 2 * (u_15 4).toNatClampNeg) p0) (115 + 2 * (u_15 4).toNatClampNeg + 1) p1) 4 ((u_15 4) + (1 : Int32)))))] rfl dX7_doChange_81 (fun H locs hP hD hS => ?_)
      refine lv_aload_n hx hb dX7_doChange_82 rfl (lv_at hl 1 rfl) ?_
      refine lv_iconst (v := (0 : Int32)) hx hb dX7_doChange_83 (by decide +kernel) ?_
      refine lv_iload_n hx hb dX7_doChange_84 rfl (lv_at hl 2 rfl) ?_
      refine lv_iload_n hx hb dX7_doChange_85 rfl (lv_at hl 3 rfl) ?_
      refine cVV ⟨hx, hb, hml, hown, hts⟩ (kX7_lay l D cI cS h0 h1 w1 w2 w3 w4 w5 w6 w7 w8 w9 w10 w11 w12 (0 : Int32) p0 p1 (upd (upd (upd (upd u_15 13 ((u_15 13) + (1 : Int32))) (115 + 2 * (u_15 4).toNatClampNeg) p0) (115 + 2 * (u_15 4).toNatClampNeg + 1) p1) 4 ((u_15 4) + (1 : Int32))) (zz_rowK zz_T0 hk)) (cwV 3 hts gX7_doChange_X7_lay rfl rfl rfl (by decide +kernel) ⟨Nat.le_of_ble_eq_true rfl, Nat.le_of_ble_eq_true rfl⟩) hE hP hD hS 0 rfl rfl [0, 1] rfl (by decide) (fun _ => rfl) rfl hl.1 rfl (Nat.le_of_ble_eq_true rfl) ⟨Nat.zero_le _, Nat.zero_le _⟩ dX7_doChange_86 (fun u_86 H locs e_86 hP hD hS => ?_)
      have hP : va_P D vwCl [(h0, .inr (7, [.ref h1, .ref w1, .int w2, .ref w3, .int w4, .ref w5, .ref w6, .int w7, .int w8, .int w9, .int w10, .int w11, .int w12])), (h1, .inl (cI, 163, .inl u_86))] H := hP
      have hD : va_D A [(h0, .inr (7, [.ref h1, .ref w1, .int w2, .ref w3, .int w4, .ref w5, .ref w6, .int w7, .int w8, .int w9, .int w10, .int w11, .int w12])), (h1, .inl (cI, 163, .inl u_86))] := hD
      refine lv_iload_n hx hb dX7_doChange_89 rfl (lv_at hl 0 rfl) ?_
      refine cRS ⟨hx, hb, hml, hown, hts⟩ (kX7_outside l D cI cS (fX7_row (0 : Int32) p0 τ)) (va_cwS 1 hts gX7_doChange_X7_outside rfl rfl rfl (by decide +kernel) ⟨Nat.le_of_ble_eq_true rfl, Nat.le_of_ble_eq_true rfl⟩) hE hP [] rfl rfl hl.1 rfl (Nat.le_of_ble_eq_true rfl) ⟨Nat.zero_le _, Nat.zero_le _⟩ dX7_doChange_90 ?_
      exact hend _ _ _ _ _ _ dX7_doChange_93 rfl (fX7_doChange_p3 p0 p1 τ c_11 u_15 e_15 c_33 u_86 e_86) hP hS

def fX7_doErase (p0 : Int32) (τ : FnI) : Int32 × FnI := (if (fX7_row (0 : Int32) p0 τ) = (-1 : Int32) then ((-5 : Int32), τ) else (match (fX7_doChange p0 (-1 : Int32) τ) with | (r_18, u_18) => (r_18, u_18)))
theorem fX7_doErase_p0 (p0 : Int32) (τ : FnI) (c_7 : ¬ (fX7_row (0 : Int32) p0 τ) = (-1 : Int32)) (r_18 : Int32) (u_18 : FnI) (e_18 : (fX7_doChange p0 (-1 : Int32) τ) = (r_18, u_18)) : (fX7_doErase p0 τ) = (r_18, u_18) := by
  simp only [fX7_doErase, if_neg c_7, e_18]
theorem fX7_doErase_p1 (p0 : Int32) (τ : FnI) (c_7 : (fX7_row (0 : Int32) p0 τ) = (-1 : Int32)) : (fX7_doErase p0 τ) = ((-5 : Int32), τ) := by
  simp only [fX7_doErase, if_pos c_7]
set_option maxHeartbeats 4000000 in
set_option maxRecDepth 100000 in
theorem kX7_doErase (l : Launch) (D : va_G) (cI cS : ClassId) (h0 h1 : Nat) (w1 : Nat) (w2 : Int32) (w3 : Nat) (w4 : Int32) (w5 : Nat) (w6 : Nat) (w7 : Int32) (w8 : Int32) (w9 : Int32) (w10 : Int32) (w11 : Int32) (w12 : Int32) (p0 : Int32) (τ : FnI) (hm : WM τ) (hk : Bd p0 31) : KI l yX7_doErase wsX7_doErase { frames := 3, cells := 0, slots := 0, locals := 63 } D (tysA cI cS) [.ref h0, .int p0] [(h0, .inr (7, [.ref h1, .ref w1, .int w2, .ref w3, .int w4, .ref w5, .ref w6, .int w7, .int w8, .int w9, .int w10, .int w11, .int w12])), (h1, .inl (cI, 163, .inl τ))] (fX7_doErase p0 τ) (fun u => [(h0, .inr (7, [.ref h1, .ref w1, .int w2, .ref w3, .int w4, .ref w5, .ref w6, .int w7, .int w8, .int w9, .int w10, .int w11, .int w12])), (h1, .inl (cI, 163, .inl u))]) := by
  refine KI.of (cc := cX7_doErase) (maxL := 2) (ty := .int) (by decide) rfl (Nat.le_of_ble_eq_true rfl) rfl (fun p e s m args below meth c ls Q A hx hb hml hown hts hE hP hD hS hl hend => ?_)
  have hown : s.vm.findClass RX7 = some m.cls := hown
  have hl : lv_has ls 2 [(0, .ref h0), (1, .int p0)] := hl
  refine lv_aload_n hx hb dX7_doErase_0 rfl (lv_at hl 0 rfl) ?_
  refine lv_iconst (v := (0 : Int32)) hx hb dX7_doErase_1 (by decide +kernel) ?_
  refine lv_iload_n hx hb dX7_doErase_2 rfl (lv_at hl 1 rfl) ?_
  refine cRV ⟨hx, hb, hml, hown, hts⟩ (kX7_row l D cI cS h0 h1 w1 w2 w3 w4 w5 w6 w7 w8 w9 w10 w11 w12 (0 : Int32) p0 τ (zz_rowK zz_T0 hk)) (cwV 2 hts gX7_doErase_X7_row rfl rfl rfl (by decide +kernel) ⟨Nat.le_of_ble_eq_true rfl, Nat.le_of_ble_eq_true rfl⟩) hE hP 0 rfl rfl [0, 1] rfl rfl hl.1 rfl (Nat.le_of_ble_eq_true rfl) ⟨Nat.zero_le _, Nat.zero_le _⟩ dX7_doErase_3 ?_
  refine lv_iconst (v := (-1 : Int32)) hx hb dX7_doErase_6 (by decide +kernel) ?_
  refine lv_icmp_ne (tgt := 15) hx hb dX7_doErase_7 (by decide) (fun c_7 => ?_) (fun c_7 => ?_)
  · refine lv_aload_n hx hb dX7_doErase_15 rfl (lv_at hl 0 rfl) ?_
    refine lv_iload_n hx hb dX7_doErase_16 rfl (lv_at hl 1 rfl) ?_
    refine lv_iconst (v := (-1 : Int32)) hx hb dX7_doErase_17 (by decide +kernel) ?_
    refine cIV ⟨hx, hb, hml, hown, hts⟩ (kX7_doChange l D cI cS h0 h1 w1 w2 w3 w4 w5 w6 w7 w8 w9 w10 w11 w12 p0 (-1 : Int32) τ hm hk) (cwV 2 hts gX7_doErase_X7_doChange rfl rfl rfl (by decide +kernel) ⟨Nat.le_of_ble_eq_true rfl, Nat.le_of_ble_eq_true rfl⟩) hE hP hD hS 0 rfl rfl [0, 1] rfl (by decide) (fun _ => rfl) rfl hl.1 rfl (Nat.le_of_ble_eq_true rfl) ⟨Nat.zero_le _, Nat.zero_le _⟩ dX7_doErase_18 (fun r_18 u_18 H locs e_18 hP hD hS => ?_)
    have hP : va_P D vwCl [(h0, .inr (7, [.ref h1, .ref w1, .int w2, .ref w3, .int w4, .ref w5, .ref w6, .int w7, .int w8, .int w9, .int w10, .int w11, .int w12])), (h1, .inl (cI, 163, .inl u_18))] H := hP
    have hD : va_D A [(h0, .inr (7, [.ref h1, .ref w1, .int w2, .ref w3, .int w4, .ref w5, .ref w6, .int w7, .int w8, .int w9, .int w10, .int w11, .int w12])), (h1, .inl (cI, 163, .inl u_18))] := hD
    exact hend _ _ _ _ _ _ dX7_doErase_21 rfl (fX7_doErase_p0 p0 τ c_7 r_18 u_18 e_18) hP hS
  · refine lv_bipush (v := (-5 : Int32)) hx hb dX7_doErase_10 (by decide +kernel) ?_
    refine lv_goto (tgt := 21) hx hb dX7_doErase_12 (by decide) ?_
    exact hend _ _ _ _ _ _ dX7_doErase_21 rfl (fX7_doErase_p1 p0 τ c_7) hP hS

def fX7_doBegin_37 (p0 : Int32) (p1 : Int32) : Nat → Nat → FnI → Int32 × FnI
  | 0, k, σ => (0, σ)
  | n + 1, k, σ => (if (32 : Int32) ≤ (nI k) then ((fX7_rows (0 : Int32) (upd σ 11 ((σ 11) + (1 : Int32)))), (upd σ 11 ((σ 11) + (1 : Int32)))) else (let u_47 := (fX7_lay (1 : Int32) (nI k) (-1 : Int32) σ); fX7_doBegin_37 p0 p1 n (k + 1) u_47))
def fX7_doBegin (p0 : Int32) (p1 : Int32) (τ : FnI) : Int32 × FnI := fX7_doBegin_37 p0 p1 33 0 (upd (upd (upd (upd (upd τ 0 (1 : Int32)) 1 p0) 2 p1) 3 (0 : Int32)) 4 (0 : Int32))
theorem fX7_doBegin_37_p0 (p0 : Int32) (p1 : Int32) (n : Nat) (k : Nat) (σ : FnI) (c_40 : (32 : Int32) ≤ (nI k)) : fX7_doBegin_37 p0 p1 (n + 1) k σ = ((fX7_rows (0 : Int32) (upd σ 11 ((σ 11) + (1 : Int32)))), (upd σ 11 ((σ 11) + (1 : Int32)))) := by
  simp only [fX7_doBegin_37, if_pos c_40]
theorem fX7_doBegin_37_p1 (p0 : Int32) (p1 : Int32) (n : Nat) (k : Nat) (σ : FnI) (c_40 : ¬ (32 : Int32) ≤ (nI k)) (u_47 : FnI) (e_47 : (fX7_lay (1 : Int32) (nI k) (-1 : Int32) σ) = u_47) : fX7_doBegin_37 p0 p1 (n + 1) k σ = fX7_doBegin_37 p0 p1 n (k + 1) u_47 := by
  simp only [fX7_doBegin_37, if_neg c_40, e_47]
theorem fX7_doBegin_p2 (p0 : Int32) (p1 : Int32) (τ : FnI) : (fX7_doBegin p0 p1 τ) = fX7_doBegin_37 p0 p1 33 0 (upd (upd (upd (upd (upd τ 0 (1 : Int32)) 1 p0) 2 p1) 3 (0 : Int32)) 4 (0 : Int32)) := by
  simp only [fX7_doBegin]
set_option maxHeartbeats 4000000 in
set_option maxRecDepth 100000 in
theorem kX7_doBegin (l : Launch) (D : va_G) (cI cS : ClassId) (h0 h1 : Nat) (w1 : Nat) (w2 : Int32) (w3 : Nat) (w4 : Int32) (w5 : Nat) (w6 : Nat) (w7 : Int32) (w8 : Int32) (w9 : Int32) (w10 : Int32) (w11 : Int32) (w12 : Int32) (p0 : Int32) (p1 : Int32) (τ : FnI) : KI l yX7_doBegin wsX7_doBegin { frames := 2, cells := 0, slots := 0, locals := 45 } D (tysA cI cS) [.ref h0, .int p0, .int p1] [(h0, .inr (7, [.ref h1, .ref w1, .int w2, .ref w3, .int w4, .ref w5, .ref w6, .int w7, .int w8, .int w9, .int w10, .int w11, .int w12])), (h1, .inl (cI, 163, .inl τ))] (fX7_doBegin p0 p1 τ) (fun u => [(h0, .inr (7, [.ref h1, .ref w1, .int w2, .ref w3, .int w4, .ref w5, .ref w6, .int w7, .int w8, .int w9, .int w10, .int w11, .int w12])), (h1, .inl (cI, 163, .inl u))]) := by
  refine KI.of (cc := cX7_doBegin) (maxL := 4) (ty := .int) (by decide) rfl (Nat.le_of_ble_eq_true rfl) rfl (fun p e s m args below meth c ls Q A hx hb hml hown hts hE hP hD hS hl hend => ?_)
  have hown : s.vm.findClass RX7 = some m.cls := hown
  have hl : lv_has ls 4 [(0, .ref h0), (1, .int p0), (2, .int p1)] := hl
  have loop_37 : ∀ (n : Nat) (k : Nat) (σ : FnI), k ≤ 32 → 32 - k < n → (fX7_doBegin p0 p1 τ) = fX7_doBegin_37 p0 p1 n k σ → ∀ (H : Heap) (locs : List Loc), va_P D vwCl [(h0, .inr (7, [.ref h1, .ref w1, .int w2, .ref w3, .int w4, .ref w5, .ref w6, .int w7, .int w8, .int w9, .int w10, .int w11, .int w12])), (h1, .inl (cI, 163, .inl σ))] H → va_D A [(h0, .inr (7, [.ref h1, .ref w1, .int w2, .ref w3, .int w4, .ref w5, .ref w6, .int w7, .int w8, .int w9, .int w10, .int w11, .int w12])), (h1, .inl (cI, 163, .inl σ))] → va_S A s.heap H locs → ∀ (ls : Array Slot), lv_has ls 4 [(0, .ref h0), (3, .int (nI k))] → W p l e { frames := 2, cells := 0, slots := 0, locals := 45 } s m args below meth c H locs 0 0 Q (F0 m 37 ls []) := by
    intro n
    induction n with
    | zero =>
      intro k σ hk hn
      exact absurd hn (by omega)
    | succ n ih =>
      intro k σ hk hn hF H locs hP hD hS ls hl
      refine lv_iload_n hx hb dX7_doBegin_37 rfl (lv_at hl 1 rfl) ?_
      refine lv_bipush (v := (32 : Int32)) hx hb dX7_doBegin_38 (by decide +kernel) ?_
      refine lv_icmp_ge (tgt := 56) hx hb dX7_doBegin_40 (by decide) (fun c_40 => ?_) (fun c_40 => ?_)
      · have d_40 : 32 ≤ k := (nI_leI (a := 32) (b := k) (by omega) (by omega)).mp c_40
        refine lv_aload_n hx hb dX7_doBegin_56 rfl (lv_at hl 0 rfl) ?_
        refine va_get (D := D) (ci := 7) (v := .ref h1) (C := RX7) (T := TX7) (N := 13) hx hb hts (fun _ h9 => List.mem_cons_of_mem _ (List.mem_append_right _ h9)) hown hE.1 hP 0 rfl rfl 0 (by decide) (hts (.fieldLink RX7 7 "ShadowTableModel" "s" "[I") (List.mem_of_getElem? (i := 1) rfl)) (fun _ h9 => h9) rfl dX7_doBegin_57 ?_
        refine lv_bipush (v := (11 : Int32)) hx hb dX7_doBegin_60 (by decide +kernel) ?_
        refine lv_dup2_11 hx hb dX7_doBegin_62 rfl rfl ?_
        refine xld (v := (σ 11)) (j := 11) hx hb hE hP 1 rfl rfl cl_11 (in_11 (by decide)) rfl dX7_doBegin_63 ?_
        refine lv_iconst (v := (1 : Int32)) hx hb dX7_doBegin_64 (by decide +kernel) ?_
        refine lv_iadd hx hb dX7_doBegin_65 ?_
        refine xst (j := 11) hx hb hE hP hD hS 1 rfl rfl cl_11 (in_11 (by decide)) [(h0, .inr (7, [.ref h1, .ref w1, .int w2, .ref w3, .int w4, .ref w5, .ref w6, .int w7, .int w8, .int w9, .int w10, .int w11, .int w12])), (h1, .inl (cI, 163, .inl (upd σ 11 ((σ 11) + (1 : Int32)))))] rfl dX7_doBegin_66 (fun H locs hP hD hS => ?_)
        refine lv_aload_n hx hb dX7_doBegin_67 rfl (lv_at hl 0 rfl) ?_
        refine lv_iconst (v := (0 : Int32)) hx hb dX7_doBegin_68 (by decide +kernel) ?_
        refine cRV ⟨hx, hb, hml, hown, hts⟩ (kX7_rows l D cI cS h0 h1 w1 w2 w3 w4 w5 w6 w7 w8 w9 w10 w11 w12 (0 : Int32) (upd σ 11 ((σ 11) + (1 : Int32))) zz_T0) (cwV 1 hts gX7_doBegin_X7_rows rfl rfl rfl (by decide +kernel) ⟨Nat.le_of_ble_eq_true rfl, Nat.le_of_ble_eq_true rfl⟩) hE hP 0 rfl rfl [0, 1] rfl rfl hl.1 rfl (Nat.le_of_ble_eq_true rfl) ⟨Nat.zero_le _, Nat.zero_le _⟩ dX7_doBegin_69 ?_
        exact hend _ _ _ _ _ _ dX7_doBegin_72 rfl (hF.trans (fX7_doBegin_37_p0 p0 p1 n k σ c_40)) hP hS
      · have d_40 : k < 32 := Nat.lt_of_not_le (fun q => c_40 ((nI_leI (a := 32) (b := k) (by omega) (by omega)).mpr q))
        refine lv_aload_n hx hb dX7_doBegin_43 rfl (lv_at hl 0 rfl) ?_
        refine lv_iconst (v := (1 : Int32)) hx hb dX7_doBegin_44 (by decide +kernel) ?_
        refine lv_iload_n hx hb dX7_doBegin_45 rfl (lv_at hl 1 rfl) ?_
        refine lv_iconst (v := (-1 : Int32)) hx hb dX7_doBegin_46 (by decide +kernel) ?_
        refine cVV ⟨hx, hb, hml, hown, hts⟩ (kX7_lay l D cI cS h0 h1 w1 w2 w3 w4 w5 w6 w7 w8 w9 w10 w11 w12 (1 : Int32) (nI k) (-1 : Int32) σ (zz_row zz_T1 (by omega))) (cwV 3 hts gX7_doBegin_X7_lay rfl rfl rfl (by decide +kernel) ⟨Nat.le_of_ble_eq_true rfl, Nat.le_of_ble_eq_true rfl⟩) hE hP hD hS 0 rfl rfl [0, 1] rfl (by decide) (fun _ => rfl) rfl hl.1 rfl (Nat.le_of_ble_eq_true rfl) ⟨Nat.zero_le _, Nat.zero_le _⟩ dX7_doBegin_47 (fun u_47 H locs e_47 hP hD hS => ?_)
        have hP : va_P D vwCl [(h0, .inr (7, [.ref h1, .ref w1, .int w2, .ref w3, .int w4, .ref w5, .ref w6, .int w7, .int w8, .int w9, .int w10, .int w11, .int w12])), (h1, .inl (cI, 163, .inl u_47))] H := hP
        have hD : va_D A [(h0, .inr (7, [.ref h1, .ref w1, .int w2, .ref w3, .int w4, .ref w5, .ref w6, .int w7, .int w8, .int w9, .int w10, .int w11, .int w12])), (h1, .inl (cI, 163, .inl u_47))] := hD
        refine lv_iinc (v := (nI (k + 1))) (lv' := [(3, .int (nI (k + 1))), (0, .ref h0)]) hx hb dX7_doBegin_50 hl (k := 1) rfl (nI_1 _) (by decide) rfl (fun ls hl => ?_)
        refine lv_goto (tgt := 37) hx hb dX7_doBegin_53 (by decide) ?_
        exact ih (k + 1) u_47 (by omega) (by omega) (hF.trans (fX7_doBegin_37_p1 p0 p1 n k σ c_40 u_47 e_47)) _ _ hP hD hS _ (lv_sub hl [1, 0] rfl)
  refine lv_aload_n hx hb dX7_doBegin_0 rfl (lv_at hl 0 rfl) ?_
  refine va_get (D := D) (ci := 7) (v := .ref h1) (C := RX7) (T := TX7) (N := 13) hx hb hts (fun _ h9 => List.mem_cons_of_mem _ (List.mem_append_right _ h9)) hown hE.1 hP 0 rfl rfl 0 (by decide) (hts (.fieldLink RX7 7 "ShadowTableModel" "s" "[I") (List.mem_of_getElem? (i := 1) rfl)) (fun _ h9 => h9) rfl dX7_doBegin_1 ?_
  refine lv_iconst (v := (0 : Int32)) hx hb dX7_doBegin_4 (by decide +kernel) ?_
  refine lv_iconst (v := (1 : Int32)) hx hb dX7_doBegin_5 (by decide +kernel) ?_
  refine xst (j := 0) hx hb hE hP hD hS 1 rfl rfl cl_0 (in_0 (by decide)) [(h0, .inr (7, [.ref h1, .ref w1, .int w2, .ref w3, .int w4, .ref w5, .ref w6, .int w7, .int w8, .int w9, .int w10, .int w11, .int w12])), (h1, .inl (cI, 163, .inl (upd τ 0 (1 : Int32))))] rfl dX7_doBegin_6 (fun H locs hP hD hS => ?_)
  refine lv_aload_n hx hb dX7_doBegin_7 rfl (lv_at hl 0 rfl) ?_
  refine va_get (D := D) (ci := 7) (v := .ref h1) (C := RX7) (T := TX7) (N := 13) hx hb hts (fun _ h9 => List.mem_cons_of_mem _ (List.mem_append_right _ h9)) hown hE.1 hP 0 rfl rfl 0 (by decide) (hts (.fieldLink RX7 7 "ShadowTableModel" "s" "[I") (List.mem_of_getElem? (i := 1) rfl)) (fun _ h9 => h9) rfl dX7_doBegin_8 ?_
  refine lv_iconst (v := (1 : Int32)) hx hb dX7_doBegin_11 (by decide +kernel) ?_
  refine lv_iload_n hx hb dX7_doBegin_12 rfl (lv_at hl 1 rfl) ?_
  refine xst (j := 1) hx hb hE hP hD hS 1 rfl rfl cl_1 (in_1 (by decide)) [(h0, .inr (7, [.ref h1, .ref w1, .int w2, .ref w3, .int w4, .ref w5, .ref w6, .int w7, .int w8, .int w9, .int w10, .int w11, .int w12])), (h1, .inl (cI, 163, .inl (upd (upd τ 0 (1 : Int32)) 1 p0)))] rfl dX7_doBegin_13 (fun H locs hP hD hS => ?_)
  refine lv_aload_n hx hb dX7_doBegin_14 rfl (lv_at hl 0 rfl) ?_
  refine va_get (D := D) (ci := 7) (v := .ref h1) (C := RX7) (T := TX7) (N := 13) hx hb hts (fun _ h9 => List.mem_cons_of_mem _ (List.mem_append_right _ h9)) hown hE.1 hP 0 rfl rfl 0 (by decide) (hts (.fieldLink RX7 7 "ShadowTableModel" "s" "[I") (List.mem_of_getElem? (i := 1) rfl)) (fun _ h9 => h9) rfl dX7_doBegin_15 ?_
  refine lv_iconst (v := (2 : Int32)) hx hb dX7_doBegin_18 (by decide +kernel) ?_
  refine lv_iload_n hx hb dX7_doBegin_19 rfl (lv_at hl 2 rfl) ?_
  refine xst (j := 2) hx hb hE hP hD hS 1 rfl rfl cl_2 (in_2 (by decide)) [(h0, .inr (7, [.ref h1, .ref w1, .int w2, .ref w3, .int w4, .ref w5, .ref w6, .int w7, .int w8, .int w9, .int w10, .int w11, .int w12])), (h1, .inl (cI, 163, .inl (upd (upd (upd τ 0 (1 : Int32)) 1 p0) 2 p1)))] rfl dX7_doBegin_20 (fun H locs hP hD hS => ?_)
  refine lv_aload_n hx hb dX7_doBegin_21 rfl (lv_at hl 0 rfl) ?_
  refine va_get (D := D) (ci := 7) (v := .ref h1) (C := RX7) (T := TX7) (N := 13) hx hb hts (fun _ h9 => List.mem_cons_of_mem _ (List.mem_append_right _ h9)) hown hE.1 hP 0 rfl rfl 0 (by decide) (hts (.fieldLink RX7 7 "ShadowTableModel" "s" "[I") (List.mem_of_getElem? (i := 1) rfl)) (fun _ h9 => h9) rfl dX7_doBegin_22 ?_
  refine lv_iconst (v := (3 : Int32)) hx hb dX7_doBegin_25 (by decide +kernel) ?_
  refine lv_iconst (v := (0 : Int32)) hx hb dX7_doBegin_26 (by decide +kernel) ?_
  refine xst (j := 3) hx hb hE hP hD hS 1 rfl rfl cl_3 (in_3 (by decide)) [(h0, .inr (7, [.ref h1, .ref w1, .int w2, .ref w3, .int w4, .ref w5, .ref w6, .int w7, .int w8, .int w9, .int w10, .int w11, .int w12])), (h1, .inl (cI, 163, .inl (upd (upd (upd (upd τ 0 (1 : Int32)) 1 p0) 2 p1) 3 (0 : Int32))))] rfl dX7_doBegin_27 (fun H locs hP hD hS => ?_)
  refine lv_aload_n hx hb dX7_doBegin_28 rfl (lv_at hl 0 rfl) ?_
  refine va_get (D := D) (ci := 7) (v := .ref h1) (C := RX7) (T := TX7) (N := 13) hx hb hts (fun _ h9 => List.mem_cons_of_mem _ (List.mem_append_right _ h9)) hown hE.1 hP 0 rfl rfl 0 (by decide) (hts (.fieldLink RX7 7 "ShadowTableModel" "s" "[I") (List.mem_of_getElem? (i := 1) rfl)) (fun _ h9 => h9) rfl dX7_doBegin_29 ?_
  refine lv_iconst (v := (4 : Int32)) hx hb dX7_doBegin_32 (by decide +kernel) ?_
  refine lv_iconst (v := (0 : Int32)) hx hb dX7_doBegin_33 (by decide +kernel) ?_
  refine xst (j := 4) hx hb hE hP hD hS 1 rfl rfl cl_4 (in_4 (by decide)) [(h0, .inr (7, [.ref h1, .ref w1, .int w2, .ref w3, .int w4, .ref w5, .ref w6, .int w7, .int w8, .int w9, .int w10, .int w11, .int w12])), (h1, .inl (cI, 163, .inl (upd (upd (upd (upd (upd τ 0 (1 : Int32)) 1 p0) 2 p1) 3 (0 : Int32)) 4 (0 : Int32))))] rfl dX7_doBegin_34 (fun H locs hP hD hS => ?_)
  refine lv_iconst (v := (0 : Int32)) hx hb dX7_doBegin_35 (by decide +kernel) ?_
  refine lv_istore_n (lv' := [(3, .int (0 : Int32)), (0, .ref h0), (1, .int p0), (2, .int p1)]) hx hb dX7_doBegin_36 rfl hl (by decide) rfl (fun ls hl => ?_)
  exact loop_37 33 0 (upd (upd (upd (upd (upd τ 0 (1 : Int32)) 1 p0) 2 p1) 3 (0 : Int32)) 4 (0 : Int32)) (by omega) (by omega) (fX7_doBegin_p2 p0 p1 τ) _ _ hP hD hS _ (lv_sub hl [1, 0] rfl)

def fX7_doTick_2 (p0 : Int32) : Nat → Nat → FnI → Int32 × FnI
  | 0, k, σ => (0, σ)
  | n + 1, k, σ => (if p0 ≤ (nI k) then ((σ 0), σ) else (let u_8 := (fX7_tickOnce σ); fX7_doTick_2 p0 n (k + 1) u_8))
def fX7_doTick (p0 : Int32) (τ : FnI) : Int32 × FnI := fX7_doTick_2 p0 100 0 τ
theorem fX7_doTick_2_p0 (p0 : Int32) (n : Nat) (k : Nat) (σ : FnI) (c_4 : p0 ≤ (nI k)) : fX7_doTick_2 p0 (n + 1) k σ = ((σ 0), σ) := by
  simp only [fX7_doTick_2, if_pos c_4]
theorem fX7_doTick_2_p1 (p0 : Int32) (n : Nat) (k : Nat) (σ : FnI) (c_4 : ¬ p0 ≤ (nI k)) (u_8 : FnI) (e_8 : (fX7_tickOnce σ) = u_8) : fX7_doTick_2 p0 (n + 1) k σ = fX7_doTick_2 p0 n (k + 1) u_8 := by
  simp only [fX7_doTick_2, if_neg c_4, e_8]
theorem fX7_doTick_p2 (p0 : Int32) (τ : FnI) : (fX7_doTick p0 τ) = fX7_doTick_2 p0 100 0 τ := by
  simp only [fX7_doTick]
set_option maxHeartbeats 4000000 in
set_option maxRecDepth 100000 in
theorem kX7_doTick (l : Launch) (D : va_G) (cI cS : ClassId) (h0 h1 : Nat) (w1 : Nat) (w2 : Int32) (w3 : Nat) (w4 : Int32) (w5 : Nat) (w6 : Nat) (w7 : Int32) (w8 : Int32) (w9 : Int32) (w10 : Int32) (w11 : Int32) (w12 : Int32) (p0 : Int32) (τ : FnI) (hm : WM τ) (hbd : Bd p0 99) : KI l yX7_doTick wsX7_doTick { frames := 4, cells := 0, slots := 0, locals := 86 } D (tysA cI cS) [.ref h0, .int p0] [(h0, .inr (7, [.ref h1, .ref w1, .int w2, .ref w3, .int w4, .ref w5, .ref w6, .int w7, .int w8, .int w9, .int w10, .int w11, .int w12])), (h1, .inl (cI, 163, .inl τ))] (fX7_doTick p0 τ) (fun u => [(h0, .inr (7, [.ref h1, .ref w1, .int w2, .ref w3, .int w4, .ref w5, .ref w6, .int w7, .int w8, .int w9, .int w10, .int w11, .int w12])), (h1, .inl (cI, 163, .inl u))]) := by
  refine KI.of (cc := cX7_doTick) (maxL := 3) (ty := .int) (by decide) rfl (Nat.le_of_ble_eq_true rfl) rfl (fun p e s m args below meth c ls Q A hx hb hml hown hts hE hP hD hS hl hend => ?_)
  have hown : s.vm.findClass RX7 = some m.cls := hown
  have hl : lv_has ls 3 [(0, .ref h0), (1, .int p0)] := hl
  have loop_2 : ∀ (n : Nat) (k : Nat) (σ : FnI), WM σ → k ≤ p0.toNatClampNeg → p0.toNatClampNeg - k < n → (fX7_doTick p0 τ) = fX7_doTick_2 p0 n k σ → ∀ (H : Heap) (locs : List Loc), va_P D vwCl [(h0, .inr (7, [.ref h1, .ref w1, .int w2, .ref w3, .int w4, .ref w5, .ref w6, .int w7, .int w8, .int w9, .int w10, .int w11, .int w12])), (h1, .inl (cI, 163, .inl σ))] H → va_D A [(h0, .inr (7, [.ref h1, .ref w1, .int w2, .ref w3, .int w4, .ref w5, .ref w6, .int w7, .int w8, .int w9, .int w10, .int w11, .int w12])), (h1, .inl (cI, 163, .inl σ))] → va_S A s.heap H locs → ∀ (ls : Array Slot), lv_has ls 3 [(0, .ref h0), (1, .int p0), (2, .int (nI k))] → W p l e { frames := 4, cells := 0, slots := 0, locals := 86 } s m args below meth c H locs 0 0 Q (F0 m 2 ls []) := by
    intro n
    induction n with
    | zero =>
      intro k σ hm hk hn
      exact absurd hn (by omega)
    | succ n ih =>
      intro k σ hm hk hn hF H locs hP hD hS ls hl
      refine lv_iload_n hx hb dX7_doTick_2 rfl (lv_at hl 2 rfl) ?_
      refine lv_iload_n hx hb dX7_doTick_3 rfl (lv_at hl 1 rfl) ?_
      refine lv_icmp_ge (tgt := 17) hx hb dX7_doTick_4 (by decide) (fun c_4 => ?_) (fun c_4 => ?_)
      · refine lv_aload_n hx hb dX7_doTick_17 rfl (lv_at hl 0 rfl) ?_
        refine va_get (D := D) (ci := 7) (v := .ref h1) (C := RX7) (T := TX7) (N := 13) hx hb hts (fun _ h9 => List.mem_cons_of_mem _ (List.mem_append_right _ h9)) hown hE.1 hP 0 rfl rfl 0 (by decide) (hts (.fieldLink RX7 7 "ShadowTableModel" "s" "[I") (List.mem_of_getElem? (i := 1) rfl)) (fun _ h9 => h9) rfl dX7_doTick_18 ?_
        refine lv_iconst (v := (0 : Int32)) hx hb dX7_doTick_21 (by decide +kernel) ?_
        refine xld (v := (σ 0)) (j := 0) hx hb hE hP 1 rfl rfl cl_0 (in_0 (by decide)) rfl dX7_doTick_22 ?_
        exact hend _ _ _ _ _ _ dX7_doTick_23 rfl (hF.trans (fX7_doTick_2_p0 p0 n k σ c_4)) hP hS
      · refine lv_aload_n hx hb dX7_doTick_7 rfl (lv_at hl 0 rfl) ?_
        refine cVV ⟨hx, hb, hml, hown, hts⟩ (kX7_tickOnce l D cI cS h0 h1 w1 w2 w3 w4 w5 w6 w7 w8 w9 w10 w11 w12 σ hm) (cwV 0 hts gX7_doTick_X7_tickOnce rfl rfl rfl (by decide +kernel) ⟨Nat.le_of_ble_eq_true rfl, Nat.le_of_ble_eq_true rfl⟩) hE hP hD hS 0 rfl rfl [0, 1] rfl (by decide) (fun _ => rfl) rfl hl.1 rfl (Nat.le_of_ble_eq_true rfl) ⟨Nat.zero_le _, Nat.zero_le _⟩ dX7_doTick_8 (fun u_8 H locs e_8 hP hD hS => ?_)
        have hP : va_P D vwCl [(h0, .inr (7, [.ref h1, .ref w1, .int w2, .ref w3, .int w4, .ref w5, .ref w6, .int w7, .int w8, .int w9, .int w10, .int w11, .int w12])), (h1, .inl (cI, 163, .inl u_8))] H := hP
        have hD : va_D A [(h0, .inr (7, [.ref h1, .ref w1, .int w2, .ref w3, .int w4, .ref w5, .ref w6, .int w7, .int w8, .int w9, .int w10, .int w11, .int w12])), (h1, .inl (cI, 163, .inl u_8))] := hD
        refine lv_iinc (v := (nI (k + 1))) (lv' := [(2, .int (nI (k + 1))), (0, .ref h0), (1, .int p0)]) hx hb dX7_doTick_11 hl (k := 2) rfl (nI_1 _) (by decide) rfl (fun ls hl => ?_)
        refine lv_goto (tgt := 2) hx hb dX7_doTick_14 (by decide) ?_
        have hd := zz_lt hbd (by omega) (by have := hbd.2; omega) c_4
        exact ih (k + 1) u_8 (zz_WM_tick e_8 hm) (by omega) (by omega) (hF.trans (fX7_doTick_2_p1 p0 n k σ c_4 u_8 e_8)) _ _ hP hD hS _ (lv_sub hl [1, 2, 0] rfl)
  refine lv_iconst (v := (0 : Int32)) hx hb dX7_doTick_0 (by decide +kernel) ?_
  refine lv_istore_n (lv' := [(2, .int (0 : Int32)), (0, .ref h0), (1, .int p0)]) hx hb dX7_doTick_1 rfl hl (by decide) rfl (fun ls hl => ?_)
  exact loop_2 100 0 τ hm (by omega) (by have := hbd.2; omega) (fX7_doTick_p2 p0 τ) _ _ hP hD hS _ (lv_sub hl [1, 2, 0] rfl)

def fX7_doLock (τ : FnI) : Int32 × FnI := ((τ 4), (upd (upd τ 0 (3 : Int32)) 5 (0 : Int32)))
theorem fX7_doLock_p0 (τ : FnI) : (fX7_doLock τ) = ((τ 4), (upd (upd τ 0 (3 : Int32)) 5 (0 : Int32))) := by
  simp only [fX7_doLock]
set_option maxHeartbeats 4000000 in
set_option maxRecDepth 100000 in
theorem kX7_doLock (l : Launch) (D : va_G) (cI cS : ClassId) (h0 h1 : Nat) (w1 : Nat) (w2 : Int32) (w3 : Nat) (w4 : Int32) (w5 : Nat) (w6 : Nat) (w7 : Int32) (w8 : Int32) (w9 : Int32) (w10 : Int32) (w11 : Int32) (w12 : Int32) (τ : FnI) : KI l yX7_doLock wsX7_doLock { frames := 0, cells := 0, slots := 0, locals := 0 } D (tysA cI cS) [.ref h0] [(h0, .inr (7, [.ref h1, .ref w1, .int w2, .ref w3, .int w4, .ref w5, .ref w6, .int w7, .int w8, .int w9, .int w10, .int w11, .int w12])), (h1, .inl (cI, 163, .inl τ))] (fX7_doLock τ) (fun u => [(h0, .inr (7, [.ref h1, .ref w1, .int w2, .ref w3, .int w4, .ref w5, .ref w6, .int w7, .int w8, .int w9, .int w10, .int w11, .int w12])), (h1, .inl (cI, 163, .inl u))]) := by
  refine KI.of (cc := cX7_doLock) (maxL := 1) (ty := .int) (by decide) rfl (Nat.le_of_ble_eq_true rfl) rfl (fun p e s m args below meth c ls Q A hx hb hml hown hts hE hP hD hS hl hend => ?_)
  have hown : s.vm.findClass RX7 = some m.cls := hown
  have hl : lv_has ls 1 [(0, .ref h0)] := hl
  refine lv_aload_n hx hb dX7_doLock_0 rfl (lv_at hl 0 rfl) ?_
  refine va_get (D := D) (ci := 7) (v := .ref h1) (C := RX7) (T := TX7) (N := 13) hx hb hts (fun _ h9 => List.mem_cons_of_mem _ (List.mem_append_right _ h9)) hown hE.1 hP 0 rfl rfl 0 (by decide) (hts (.fieldLink RX7 7 "ShadowTableModel" "s" "[I") (List.mem_of_getElem? (i := 1) rfl)) (fun _ h9 => h9) rfl dX7_doLock_1 ?_
  refine lv_iconst (v := (0 : Int32)) hx hb dX7_doLock_4 (by decide +kernel) ?_
  refine lv_iconst (v := (3 : Int32)) hx hb dX7_doLock_5 (by decide +kernel) ?_
  refine xst (j := 0) hx hb hE hP hD hS 1 rfl rfl cl_0 (in_0 (by decide)) [(h0, .inr (7, [.ref h1, .ref w1, .int w2, .ref w3, .int w4, .ref w5, .ref w6, .int w7, .int w8, .int w9, .int w10, .int w11, .int w12])), (h1, .inl (cI, 163, .inl (upd τ 0 (3 : Int32))))] rfl dX7_doLock_6 (fun H locs hP hD hS => ?_)
  refine lv_aload_n hx hb dX7_doLock_7 rfl (lv_at hl 0 rfl) ?_
  refine va_get (D := D) (ci := 7) (v := .ref h1) (C := RX7) (T := TX7) (N := 13) hx hb hts (fun _ h9 => List.mem_cons_of_mem _ (List.mem_append_right _ h9)) hown hE.1 hP 0 rfl rfl 0 (by decide) (hts (.fieldLink RX7 7 "ShadowTableModel" "s" "[I") (List.mem_of_getElem? (i := 1) rfl)) (fun _ h9 => h9) rfl dX7_doLock_8 ?_
  refine lv_iconst (v := (5 : Int32)) hx hb dX7_doLock_11 (by decide +kernel) ?_
  refine lv_iconst (v := (0 : Int32)) hx hb dX7_doLock_12 (by decide +kernel) ?_
  refine xst (j := 5) hx hb hE hP hD hS 1 rfl rfl cl_5 (in_5 (by decide)) [(h0, .inr (7, [.ref h1, .ref w1, .int w2, .ref w3, .int w4, .ref w5, .ref w6, .int w7, .int w8, .int w9, .int w10, .int w11, .int w12])), (h1, .inl (cI, 163, .inl (upd (upd τ 0 (3 : Int32)) 5 (0 : Int32))))] rfl dX7_doLock_13 (fun H locs hP hD hS => ?_)
  refine lv_aload_n hx hb dX7_doLock_14 rfl (lv_at hl 0 rfl) ?_
  refine va_get (D := D) (ci := 7) (v := .ref h1) (C := RX7) (T := TX7) (N := 13) hx hb hts (fun _ h9 => List.mem_cons_of_mem _ (List.mem_append_right _ h9)) hown hE.1 hP 0 rfl rfl 0 (by decide) (hts (.fieldLink RX7 7 "ShadowTableModel" "s" "[I") (List.mem_of_getElem? (i := 1) rfl)) (fun _ h9 => h9) rfl dX7_doLock_15 ?_
  refine lv_iconst (v := (4 : Int32)) hx hb dX7_doLock_18 (by decide +kernel) ?_
  refine xld (v := (τ 4)) (j := 4) hx hb hE hP 1 rfl rfl cl_4 (in_4 (by decide)) rfl dX7_doLock_19 ?_
  exact hend _ _ _ _ _ _ dX7_doLock_20 rfl (fX7_doLock_p0 τ) hP hS

def fX7_doUnlock (τ : FnI) : Int32 × FnI := ((τ 5), (upd τ 0 (2 : Int32)))
theorem fX7_doUnlock_p0 (τ : FnI) : (fX7_doUnlock τ) = ((τ 5), (upd τ 0 (2 : Int32))) := by
  simp only [fX7_doUnlock]
set_option maxHeartbeats 4000000 in
set_option maxRecDepth 100000 in
theorem kX7_doUnlock (l : Launch) (D : va_G) (cI cS : ClassId) (h0 h1 : Nat) (w1 : Nat) (w2 : Int32) (w3 : Nat) (w4 : Int32) (w5 : Nat) (w6 : Nat) (w7 : Int32) (w8 : Int32) (w9 : Int32) (w10 : Int32) (w11 : Int32) (w12 : Int32) (τ : FnI) : KI l yX7_doUnlock wsX7_doUnlock { frames := 0, cells := 0, slots := 0, locals := 0 } D (tysA cI cS) [.ref h0] [(h0, .inr (7, [.ref h1, .ref w1, .int w2, .ref w3, .int w4, .ref w5, .ref w6, .int w7, .int w8, .int w9, .int w10, .int w11, .int w12])), (h1, .inl (cI, 163, .inl τ))] (fX7_doUnlock τ) (fun u => [(h0, .inr (7, [.ref h1, .ref w1, .int w2, .ref w3, .int w4, .ref w5, .ref w6, .int w7, .int w8, .int w9, .int w10, .int w11, .int w12])), (h1, .inl (cI, 163, .inl u))]) := by
  refine KI.of (cc := cX7_doUnlock) (maxL := 1) (ty := .int) (by decide) rfl (Nat.le_of_ble_eq_true rfl) rfl (fun p e s m args below meth c ls Q A hx hb hml hown hts hE hP hD hS hl hend => ?_)
  have hown : s.vm.findClass RX7 = some m.cls := hown
  have hl : lv_has ls 1 [(0, .ref h0)] := hl
  refine lv_aload_n hx hb dX7_doUnlock_0 rfl (lv_at hl 0 rfl) ?_
  refine va_get (D := D) (ci := 7) (v := .ref h1) (C := RX7) (T := TX7) (N := 13) hx hb hts (fun _ h9 => List.mem_cons_of_mem _ (List.mem_append_right _ h9)) hown hE.1 hP 0 rfl rfl 0 (by decide) (hts (.fieldLink RX7 7 "ShadowTableModel" "s" "[I") (List.mem_of_getElem? (i := 1) rfl)) (fun _ h9 => h9) rfl dX7_doUnlock_1 ?_
  refine lv_iconst (v := (0 : Int32)) hx hb dX7_doUnlock_4 (by decide +kernel) ?_
  refine lv_iconst (v := (2 : Int32)) hx hb dX7_doUnlock_5 (by decide +kernel) ?_
  refine xst (j := 0) hx hb hE hP hD hS 1 rfl rfl cl_0 (in_0 (by decide)) [(h0, .inr (7, [.ref h1, .ref w1, .int w2, .ref w3, .int w4, .ref w5, .ref w6, .int w7, .int w8, .int w9, .int w10, .int w11, .int w12])), (h1, .inl (cI, 163, .inl (upd τ 0 (2 : Int32))))] rfl dX7_doUnlock_6 (fun H locs hP hD hS => ?_)
  refine lv_aload_n hx hb dX7_doUnlock_7 rfl (lv_at hl 0 rfl) ?_
  refine va_get (D := D) (ci := 7) (v := .ref h1) (C := RX7) (T := TX7) (N := 13) hx hb hts (fun _ h9 => List.mem_cons_of_mem _ (List.mem_append_right _ h9)) hown hE.1 hP 0 rfl rfl 0 (by decide) (hts (.fieldLink RX7 7 "ShadowTableModel" "s" "[I") (List.mem_of_getElem? (i := 1) rfl)) (fun _ h9 => h9) rfl dX7_doUnlock_8 ?_
  refine lv_iconst (v := (5 : Int32)) hx hb dX7_doUnlock_11 (by decide +kernel) ?_
  refine xld (v := (τ 5)) (j := 5) hx hb hE hP 1 rfl rfl cl_5 (in_5 (by decide)) rfl dX7_doUnlock_12 ?_
  exact hend _ _ _ _ _ _ dX7_doUnlock_13 rfl (fX7_doUnlock_p0 τ) hP hS

def fX7_doSwap_2 : Nat → Nat → FnI → Int32 × FnI
  | 0, k, σ => (0, σ)
  | n + 1, k, σ => (if (32 : Int32) ≤ (nI k) then (let u_47 := (fX7_endCopy (upd σ 6 (1 : Int32))); ((fX7_rows (0 : Int32) (upd u_47 12 ((u_47 12) + (1 : Int32)))), (upd u_47 12 ((u_47 12) + (1 : Int32))))) else (let u_17 := (fX7_lay (2 : Int32) (nI k) (fX7_row (0 : Int32) (nI k) σ) σ); (let u_29 := (fX7_lay (0 : Int32) (nI k) (fX7_row (1 : Int32) (nI k) u_17) u_17); fX7_doSwap_2 n (k + 1) u_29)))
def fX7_doSwap (τ : FnI) : Int32 × FnI := fX7_doSwap_2 33 0 τ
theorem fX7_doSwap_2_p0 (n : Nat) (k : Nat) (σ : FnI) (c_5 : (32 : Int32) ≤ (nI k)) (u_47 : FnI) (e_47 : (fX7_endCopy (upd σ 6 (1 : Int32))) = u_47) : fX7_doSwap_2 (n + 1) k σ = ((fX7_rows (0 : Int32) (upd u_47 12 ((u_47 12) + (1 : Int32)))), (upd u_47 12 ((u_47 12) + (1 : Int32)))) := by
  simp only [fX7_doSwap_2, if_pos c_5, e_47]
theorem fX7_doSwap_2_p1 (n : Nat) (k : Nat) (σ : FnI) (c_5 : ¬ (32 : Int32) ≤ (nI k)) (u_17 : FnI) (e_17 : (fX7_lay (2 : Int32) (nI k) (fX7_row (0 : Int32) (nI k) σ) σ) = u_17) (u_29 : FnI) (e_29 : (fX7_lay (0 : Int32) (nI k) (fX7_row (1 : Int32) (nI k) u_17) u_17) = u_29) : fX7_doSwap_2 (n + 1) k σ = fX7_doSwap_2 n (k + 1) u_29 := by
  simp only [fX7_doSwap_2, if_neg c_5, e_17, e_29]
theorem fX7_doSwap_p2 (τ : FnI) : (fX7_doSwap τ) = fX7_doSwap_2 33 0 τ := by
  simp only [fX7_doSwap]
set_option maxHeartbeats 4000000 in
set_option maxRecDepth 100000 in
theorem kX7_doSwap (l : Launch) (D : va_G) (cI cS : ClassId) (h0 h1 : Nat) (w1 : Nat) (w2 : Int32) (w3 : Nat) (w4 : Int32) (w5 : Nat) (w6 : Nat) (w7 : Int32) (w8 : Int32) (w9 : Int32) (w10 : Int32) (w11 : Int32) (w12 : Int32) (τ : FnI) : KI l yX7_doSwap wsX7_doSwap { frames := 2, cells := 0, slots := 0, locals := 45 } D (tysA cI cS) [.ref h0] [(h0, .inr (7, [.ref h1, .ref w1, .int w2, .ref w3, .int w4, .ref w5, .ref w6, .int w7, .int w8, .int w9, .int w10, .int w11, .int w12])), (h1, .inl (cI, 163, .inl τ))] (fX7_doSwap τ) (fun u => [(h0, .inr (7, [.ref h1, .ref w1, .int w2, .ref w3, .int w4, .ref w5, .ref w6, .int w7, .int w8, .int w9, .int w10, .int w11, .int w12])), (h1, .inl (cI, 163, .inl u))]) := by
  refine KI.of (cc := cX7_doSwap) (maxL := 2) (ty := .int) (by decide) rfl (Nat.le_of_ble_eq_true rfl) rfl (fun p e s m args below meth c ls Q A hx hb hml hown hts hE hP hD hS hl hend => ?_)
  have hown : s.vm.findClass RX7 = some m.cls := hown
  have hl : lv_has ls 2 [(0, .ref h0)] := hl
  have loop_2 : ∀ (n : Nat) (k : Nat) (σ : FnI), k ≤ 32 → 32 - k < n → (fX7_doSwap τ) = fX7_doSwap_2 n k σ → ∀ (H : Heap) (locs : List Loc), va_P D vwCl [(h0, .inr (7, [.ref h1, .ref w1, .int w2, .ref w3, .int w4, .ref w5, .ref w6, .int w7, .int w8, .int w9, .int w10, .int w11, .int w12])), (h1, .inl (cI, 163, .inl σ))] H → va_D A [(h0, .inr (7, [.ref h1, .ref w1, .int w2, .ref w3, .int w4, .ref w5, .ref w6, .int w7, .int w8, .int w9, .int w10, .int w11, .int w12])), (h1, .inl (cI, 163, .inl σ))] → va_S A s.heap H locs → ∀ (ls : Array Slot), lv_has ls 2 [(0, .ref h0), (1, .int (nI k))] → W p l e { frames := 2, cells := 0, slots := 0, locals := 45 } s m args below meth c H locs 0 0 Q (F0 m 2 ls []) := by
    intro n
    induction n with
    | zero =>
      intro k σ hk hn
      exact absurd hn (by omega)
    | succ n ih =>
      intro k σ hk hn hF H locs hP hD hS ls hl
      refine lv_iload_n hx hb dX7_doSwap_2 rfl (lv_at hl 1 rfl) ?_
      refine lv_bipush (v := (32 : Int32)) hx hb dX7_doSwap_3 (by decide +kernel) ?_
      refine lv_icmp_ge (tgt := 38) hx hb dX7_doSwap_5 (by decide) (fun c_5 => ?_) (fun c_5 => ?_)
      · have d_5 : 32 ≤ k := (nI_leI (a := 32) (b := k) (by omega) (by omega)).mp c_5
        refine lv_aload_n hx hb dX7_doSwap_38 rfl (lv_at hl 0 rfl) ?_
        refine va_get (D := D) (ci := 7) (v := .ref h1) (C := RX7) (T := TX7) (N := 13) hx hb hts (fun _ h9 => List.mem_cons_of_mem _ (List.mem_append_right _ h9)) hown hE.1 hP 0 rfl rfl 0 (by decide) (hts (.fieldLink RX7 7 "ShadowTableModel" "s" "[I") (List.mem_of_getElem? (i := 1) rfl)) (fun _ h9 => h9) rfl dX7_doSwap_39 ?_
        refine lv_bipush (v := (6 : Int32)) hx hb dX7_doSwap_42 (by decide +kernel) ?_
        refine lv_iconst (v := (1 : Int32)) hx hb dX7_doSwap_44 (by decide +kernel) ?_
        refine xst (j := 6) hx hb hE hP hD hS 1 rfl rfl cl_6 (in_6 (by decide)) [(h0, .inr (7, [.ref h1, .ref w1, .int w2, .ref w3, .int w4, .ref w5, .ref w6, .int w7, .int w8, .int w9, .int w10, .int w11, .int w12])), (h1, .inl (cI, 163, .inl (upd σ 6 (1 : Int32))))] rfl dX7_doSwap_45 (fun H locs hP hD hS => ?_)
        refine lv_aload_n hx hb dX7_doSwap_46 rfl (lv_at hl 0 rfl) ?_
        refine cVV ⟨hx, hb, hml, hown, hts⟩ (kX7_endCopy l D cI cS h0 h1 w1 w2 w3 w4 w5 w6 w7 w8 w9 w10 w11 w12 (upd σ 6 (1 : Int32))) (cwV 0 hts gX7_doSwap_X7_endCopy rfl rfl rfl (by decide +kernel) ⟨Nat.le_of_ble_eq_true rfl, Nat.le_of_ble_eq_true rfl⟩) hE hP hD hS 0 rfl rfl [0, 1] rfl (by decide) (fun _ => rfl) rfl hl.1 rfl (Nat.le_of_ble_eq_true rfl) ⟨Nat.zero_le _, Nat.zero_le _⟩ dX7_doSwap_47 (fun u_47 H locs e_47 hP hD hS => ?_)
        have hP : va_P D vwCl [(h0, .inr (7, [.ref h1, .ref w1, .int w2, .ref w3, .int w4, .ref w5, .ref w6, .int w7, .int w8, .int w9, .int w10, .int w11, .int w12])), (h1, .inl (cI, 163, .inl u_47))] H := hP
        have hD : va_D A [(h0, .inr (7, [.ref h1, .ref w1, .int w2, .ref w3, .int w4, .ref w5, .ref w6, .int w7, .int w8, .int w9, .int w10, .int w11, .int w12])), (h1, .inl (cI, 163, .inl u_47))] := hD
        refine lv_aload_n hx hb dX7_doSwap_50 rfl (lv_at hl 0 rfl) ?_
        refine va_get (D := D) (ci := 7) (v := .ref h1) (C := RX7) (T := TX7) (N := 13) hx hb hts (fun _ h9 => List.mem_cons_of_mem _ (List.mem_append_right _ h9)) hown hE.1 hP 0 rfl rfl 0 (by decide) (hts (.fieldLink RX7 7 "ShadowTableModel" "s" "[I") (List.mem_of_getElem? (i := 1) rfl)) (fun _ h9 => h9) rfl dX7_doSwap_51 ?_
        refine lv_bipush (v := (12 : Int32)) hx hb dX7_doSwap_54 (by decide +kernel) ?_
        refine lv_dup2_11 hx hb dX7_doSwap_56 rfl rfl ?_
        refine xld (v := (u_47 12)) (j := 12) hx hb hE hP 1 rfl rfl cl_12 (in_12 (by decide)) rfl dX7_doSwap_57 ?_
        refine lv_iconst (v := (1 : Int32)) hx hb dX7_doSwap_58 (by decide +kernel) ?_
        refine lv_iadd hx hb dX7_doSwap_59 ?_
        refine xst (j := 12) hx hb hE hP hD hS 1 rfl rfl cl_12 (in_12 (by decide)) [(h0, .inr (7, [.ref h1, .ref w1, .int w2, .ref w3, .int w4, .ref w5, .ref w6, .int w7, .int w8, .int w9, .int w10, .int w11, .int w12])), (h1, .inl (cI, 163, .inl (upd u_47 12 ((u_47 12) + (1 : Int32)))))] rfl dX7_doSwap_60 (fun H locs hP hD hS => ?_)
        refine lv_aload_n hx hb dX7_doSwap_61 rfl (lv_at hl 0 rfl) ?_
        refine lv_iconst (v := (0 : Int32)) hx hb dX7_doSwap_62 (by decide +kernel) ?_
        refine cRV ⟨hx, hb, hml, hown, hts⟩ (kX7_rows l D cI cS h0 h1 w1 w2 w3 w4 w5 w6 w7 w8 w9 w10 w11 w12 (0 : Int32) (upd u_47 12 ((u_47 12) + (1 : Int32))) zz_T0) (cwV 1 hts gX7_doSwap_X7_rows rfl rfl rfl (by decide +kernel) ⟨Nat.le_of_ble_eq_true rfl, Nat.le_of_ble_eq_true rfl⟩) hE hP 0 rfl rfl [0, 1] rfl rfl hl.1 rfl (Nat.le_of_ble_eq_true rfl) ⟨Nat.zero_le _, Nat.zero_le _⟩ dX7_doSwap_63 ?_
        exact hend _ _ _ _ _ _ dX7_doSwap_66 rfl (hF.trans (fX7_doSwap_2_p0 n k σ c_5 u_47 e_47)) hP hS
      · have d_5 : k < 32 := Nat.lt_of_not_le (fun q => c_5 ((nI_leI (a := 32) (b := k) (by omega) (by omega)).mpr q))
        refine lv_aload_n hx hb dX7_doSwap_8 rfl (lv_at hl 0 rfl) ?_
        refine lv_iconst (v := (2 : Int32)) hx hb dX7_doSwap_9 (by decide +kernel) ?_
        refine lv_iload_n hx hb dX7_doSwap_10 rfl (lv_at hl 1 rfl) ?_
        refine lv_aload_n hx hb dX7_doSwap_11 rfl (lv_at hl 0 rfl) ?_
        refine lv_iconst (v := (0 : Int32)) hx hb dX7_doSwap_12 (by decide +kernel) ?_
        refine lv_iload_n hx hb dX7_doSwap_13 rfl (lv_at hl 1 rfl) ?_
        refine cRV ⟨hx, hb, hml, hown, hts⟩ (kX7_row l D cI cS h0 h1 w1 w2 w3 w4 w5 w6 w7 w8 w9 w10 w11 w12 (0 : Int32) (nI k) σ (zz_row zz_T0 (by omega))) (cwV 2 hts gX7_doSwap_X7_row rfl rfl rfl (by decide +kernel) ⟨Nat.le_of_ble_eq_true rfl, Nat.le_of_ble_eq_true rfl⟩) hE hP 0 rfl rfl [0, 1] rfl rfl hl.1 rfl (Nat.le_of_ble_eq_true rfl) ⟨Nat.zero_le _, Nat.zero_le _⟩ dX7_doSwap_14 ?_
        refine cVV ⟨hx, hb, hml, hown, hts⟩ (kX7_lay l D cI cS h0 h1 w1 w2 w3 w4 w5 w6 w7 w8 w9 w10 w11 w12 (2 : Int32) (nI k) (fX7_row (0 : Int32) (nI k) σ) σ (zz_row zz_T2 (by omega))) (cwV 3 hts gX7_doSwap_X7_lay rfl rfl rfl (by decide +kernel) ⟨Nat.le_of_ble_eq_true rfl, Nat.le_of_ble_eq_true rfl⟩) hE hP hD hS 0 rfl rfl [0, 1] rfl (by decide) (fun _ => rfl) rfl hl.1 rfl (Nat.le_of_ble_eq_true rfl) ⟨Nat.zero_le _, Nat.zero_le _⟩ dX7_doSwap_17 (fun u_17 H locs e_17 hP hD hS => ?_)
        have hP : va_P D vwCl [(h0, .inr (7, [.ref h1, .ref w1, .int w2, .ref w3, .int w4, .ref w5, .ref w6, .int w7, .int w8, .int w9, .int w10, .int w11, .int w12])), (h1, .inl (cI, 163, .inl u_17))] H := hP
        have hD : va_D A [(h0, .inr (7, [.ref h1, .ref w1, .int w2, .ref w3, .int w4, .ref w5, .ref w6, .int w7, .int w8, .int w9, .int w10, .int w11, .int w12])), (h1, .inl (cI, 163, .inl u_17))] := hD
        refine lv_aload_n hx hb dX7_doSwap_20 rfl (lv_at hl 0 rfl) ?_
        refine lv_iconst (v := (0 : Int32)) hx hb dX7_doSwap_21 (by decide +kernel) ?_
        refine lv_iload_n hx hb dX7_doSwap_22 rfl (lv_at hl 1 rfl) ?_
        refine lv_aload_n hx hb dX7_doSwap_23 rfl (lv_at hl 0 rfl) ?_
        refine lv_iconst (v := (1 : Int32)) hx hb dX7_doSwap_24 (by decide +kernel) ?_
        refine lv_iload_n hx hb dX7_doSwap_25 rfl (lv_at hl 1 rfl) ?_
        refine cRV ⟨hx, hb, hml, hown, hts⟩ (kX7_row l D cI cS h0 h1 w1 w2 w3 w4 w5 w6 w7 w8 w9 w10 w11 w12 (1 : Int32) (nI k) u_17 (zz_row zz_T1 (by omega))) (cwV 2 hts gX7_doSwap_X7_row rfl rfl rfl (by decide +kernel) ⟨Nat.le_of_ble_eq_true rfl, Nat.le_of_ble_eq_true rfl⟩) hE hP 0 rfl rfl [0, 1] rfl rfl hl.1 rfl (Nat.le_of_ble_eq_true rfl) ⟨Nat.zero_le _, Nat.zero_le _⟩ dX7_doSwap_26 ?_
        refine cVV ⟨hx, hb, hml, hown, hts⟩ (kX7_lay l D cI cS h0 h1 w1 w2 w3 w4 w5 w6 w7 w8 w9 w10 w11 w12 (0 : Int32) (nI k) (fX7_row (1 : Int32) (nI k) u_17) u_17 (zz_row zz_T0 (by omega))) (cwV 3 hts gX7_doSwap_X7_lay rfl rfl rfl (by decide +kernel) ⟨Nat.le_of_ble_eq_true rfl, Nat.le_of_ble_eq_true rfl⟩) hE hP hD hS 0 rfl rfl [0, 1] rfl (by decide) (fun _ => rfl) rfl hl.1 rfl (Nat.le_of_ble_eq_true rfl) ⟨Nat.zero_le _, Nat.zero_le _⟩ dX7_doSwap_29 (fun u_29 H locs e_29 hP hD hS => ?_)
        have hP : va_P D vwCl [(h0, .inr (7, [.ref h1, .ref w1, .int w2, .ref w3, .int w4, .ref w5, .ref w6, .int w7, .int w8, .int w9, .int w10, .int w11, .int w12])), (h1, .inl (cI, 163, .inl u_29))] H := hP
        have hD : va_D A [(h0, .inr (7, [.ref h1, .ref w1, .int w2, .ref w3, .int w4, .ref w5, .ref w6, .int w7, .int w8, .int w9, .int w10, .int w11, .int w12])), (h1, .inl (cI, 163, .inl u_29))] := hD
        refine lv_iinc (v := (nI (k + 1))) (lv' := [(1, .int (nI (k + 1))), (0, .ref h0)]) hx hb dX7_doSwap_32 hl (k := 1) rfl (nI_1 _) (by decide) rfl (fun ls hl => ?_)
        refine lv_goto (tgt := 2) hx hb dX7_doSwap_35 (by decide) ?_
        exact ih (k + 1) u_29 (by omega) (by omega) (hF.trans (fX7_doSwap_2_p1 n k σ c_5 u_17 e_17 u_29 e_29)) _ _ hP hD hS _ (lv_sub hl [1, 0] rfl)
  refine lv_iconst (v := (0 : Int32)) hx hb dX7_doSwap_0 (by decide +kernel) ?_
  refine lv_istore_n (lv' := [(1, .int (0 : Int32)), (0, .ref h0)]) hx hb dX7_doSwap_1 rfl hl (by decide) rfl (fun ls hl => ?_)
  exact loop_2 33 0 τ (by omega) (by omega) (fX7_doSwap_p2 τ) _ _ hP hD hS _ (lv_sub hl [1, 0] rfl)

def fX7_doGiveUp (τ : FnI) : Int32 × FnI := (let u_7 := (fX7_endCopy τ); ((fX7_rows (1 : Int32) τ), (upd u_7 13 ((u_7 13) + (1 : Int32)))))
theorem fX7_doGiveUp_p0 (τ : FnI) (u_7 : FnI) (e_7 : (fX7_endCopy τ) = u_7) : (fX7_doGiveUp τ) = ((fX7_rows (1 : Int32) τ), (upd u_7 13 ((u_7 13) + (1 : Int32)))) := by
  simp only [fX7_doGiveUp, e_7]
set_option maxHeartbeats 4000000 in
set_option maxRecDepth 100000 in
theorem kX7_doGiveUp (l : Launch) (D : va_G) (cI cS : ClassId) (h0 h1 : Nat) (w1 : Nat) (w2 : Int32) (w3 : Nat) (w4 : Int32) (w5 : Nat) (w6 : Nat) (w7 : Int32) (w8 : Int32) (w9 : Int32) (w10 : Int32) (w11 : Int32) (w12 : Int32) (τ : FnI) : KI l yX7_doGiveUp wsX7_doGiveUp { frames := 2, cells := 0, slots := 0, locals := 45 } D (tysA cI cS) [.ref h0] [(h0, .inr (7, [.ref h1, .ref w1, .int w2, .ref w3, .int w4, .ref w5, .ref w6, .int w7, .int w8, .int w9, .int w10, .int w11, .int w12])), (h1, .inl (cI, 163, .inl τ))] (fX7_doGiveUp τ) (fun u => [(h0, .inr (7, [.ref h1, .ref w1, .int w2, .ref w3, .int w4, .ref w5, .ref w6, .int w7, .int w8, .int w9, .int w10, .int w11, .int w12])), (h1, .inl (cI, 163, .inl u))]) := by
  refine KI.of (cc := cX7_doGiveUp) (maxL := 2) (ty := .int) (by decide) rfl (Nat.le_of_ble_eq_true rfl) rfl (fun p e s m args below meth c ls Q A hx hb hml hown hts hE hP hD hS hl hend => ?_)
  have hown : s.vm.findClass RX7 = some m.cls := hown
  have hl : lv_has ls 2 [(0, .ref h0)] := hl
  refine lv_aload_n hx hb dX7_doGiveUp_0 rfl (lv_at hl 0 rfl) ?_
  refine lv_iconst (v := (1 : Int32)) hx hb dX7_doGiveUp_1 (by decide +kernel) ?_
  refine cRV ⟨hx, hb, hml, hown, hts⟩ (kX7_rows l D cI cS h0 h1 w1 w2 w3 w4 w5 w6 w7 w8 w9 w10 w11 w12 (1 : Int32) τ zz_T1) (cwV 1 hts gX7_doGiveUp_X7_rows rfl rfl rfl (by decide +kernel) ⟨Nat.le_of_ble_eq_true rfl, Nat.le_of_ble_eq_true rfl⟩) hE hP 0 rfl rfl [0, 1] rfl rfl hl.1 rfl (Nat.le_of_ble_eq_true rfl) ⟨Nat.zero_le _, Nat.zero_le _⟩ dX7_doGiveUp_2 ?_
  refine lv_istore_n (lv' := [(1, .int (fX7_rows (1 : Int32) τ)), (0, .ref h0)]) hx hb dX7_doGiveUp_5 rfl hl (by decide) rfl (fun ls hl => ?_)
  refine lv_aload_n hx hb dX7_doGiveUp_6 rfl (lv_at hl 1 rfl) ?_
  refine cVV ⟨hx, hb, hml, hown, hts⟩ (kX7_endCopy l D cI cS h0 h1 w1 w2 w3 w4 w5 w6 w7 w8 w9 w10 w11 w12 τ) (cwV 0 hts gX7_doGiveUp_X7_endCopy rfl rfl rfl (by decide +kernel) ⟨Nat.le_of_ble_eq_true rfl, Nat.le_of_ble_eq_true rfl⟩) hE hP hD hS 0 rfl rfl [0, 1] rfl (by decide) (fun _ => rfl) rfl hl.1 rfl (Nat.le_of_ble_eq_true rfl) ⟨Nat.zero_le _, Nat.zero_le _⟩ dX7_doGiveUp_7 (fun u_7 H locs e_7 hP hD hS => ?_)
  have hP : va_P D vwCl [(h0, .inr (7, [.ref h1, .ref w1, .int w2, .ref w3, .int w4, .ref w5, .ref w6, .int w7, .int w8, .int w9, .int w10, .int w11, .int w12])), (h1, .inl (cI, 163, .inl u_7))] H := hP
  have hD : va_D A [(h0, .inr (7, [.ref h1, .ref w1, .int w2, .ref w3, .int w4, .ref w5, .ref w6, .int w7, .int w8, .int w9, .int w10, .int w11, .int w12])), (h1, .inl (cI, 163, .inl u_7))] := hD
  refine lv_aload_n hx hb dX7_doGiveUp_10 rfl (lv_at hl 1 rfl) ?_
  refine va_get (D := D) (ci := 7) (v := .ref h1) (C := RX7) (T := TX7) (N := 13) hx hb hts (fun _ h9 => List.mem_cons_of_mem _ (List.mem_append_right _ h9)) hown hE.1 hP 0 rfl rfl 0 (by decide) (hts (.fieldLink RX7 7 "ShadowTableModel" "s" "[I") (List.mem_of_getElem? (i := 1) rfl)) (fun _ h9 => h9) rfl dX7_doGiveUp_11 ?_
  refine lv_bipush (v := (13 : Int32)) hx hb dX7_doGiveUp_14 (by decide +kernel) ?_
  refine lv_dup2_11 hx hb dX7_doGiveUp_16 rfl rfl ?_
  refine xld (v := (u_7 13)) (j := 13) hx hb hE hP 1 rfl rfl cl_13 (in_13 (by decide)) rfl dX7_doGiveUp_17 ?_
  refine lv_iconst (v := (1 : Int32)) hx hb dX7_doGiveUp_18 (by decide +kernel) ?_
  refine lv_iadd hx hb dX7_doGiveUp_19 ?_
  refine xst (j := 13) hx hb hE hP hD hS 1 rfl rfl cl_13 (in_13 (by decide)) [(h0, .inr (7, [.ref h1, .ref w1, .int w2, .ref w3, .int w4, .ref w5, .ref w6, .int w7, .int w8, .int w9, .int w10, .int w11, .int w12])), (h1, .inl (cI, 163, .inl (upd u_7 13 ((u_7 13) + (1 : Int32)))))] rfl dX7_doGiveUp_20 (fun H locs hP hD hS => ?_)
  refine lv_iload_n hx hb dX7_doGiveUp_21 rfl (lv_at hl 0 rfl) ?_
  exact hend _ _ _ _ _ _ dX7_doGiveUp_22 rfl (fX7_doGiveUp_p0 τ u_7 e_7) hP hS
