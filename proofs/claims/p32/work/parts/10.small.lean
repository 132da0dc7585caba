/-- an int that is a number from 0 to N -/
def Bd (x : Int32) (N : Nat) : Prop := x = nI x.toNatClampNeg ∧ x.toNatClampNeg ≤ N
theorem Bd.of {j N : Nat} (h : j ≤ N) (hN : N < 2 ^ 31) : Bd (nI j) N := by
  unfold Bd
  rw [nI_clamp (by omega)]
  exact ⟨rfl, h⟩
theorem Bd.ge {x : Int32} {N : Nat} (h0 : 0 ≤ x.toInt) (h1 : x.toInt ≤ N) (hN : N < 2 ^ 31) : Bd x N := by
  have h2 : ¬ x < (0 : Int32) := by
    rw [Int32.lt_iff_toInt_lt]
    have h3 : (0 : Int32).toInt = 0 := by decide
    omega
  obtain ⟨j, hj, e⟩ := nI_of h2
  subst e
  rw [nI_toInt hj] at h1
  exact Bd.of (by omega) hN
theorem Bd.num {x : Int32} {N : Nat} (h : Bd x N) : ∃ j : Nat, j ≤ N ∧ x = nI j := ⟨_, h.2, h.1⟩
theorem Bd.toInt {x : Int32} {N : Nat} (h : Bd x N) (hN : N < 2 ^ 31) : x.toInt = (x.toNatClampNeg : Int) := by
  obtain ⟨j, hj, e⟩ := h.num
  subst e
  rw [nI_toInt (by omega), nI_clamp (by omega)]
theorem Bd.mono {x : Int32} {N M : Nat} (h : Bd x N) (hM : N ≤ M) : Bd x M := ⟨h.1, Nat.le_trans h.2 hM⟩
theorem zz_dec {x : Int32} (h0 : ¬ x < (0 : Int32)) (h : x.toInt ≤ 31) : (x + (-1 : Int32)).toInt = x.toInt - 1 := by
  obtain ⟨j, hj, e⟩ := nI_of h0
  subst e
  rw [nI_toInt hj] at h ⊢
  cases j with
  | zero => decide
  | succ j => rw [pk_m1, nI_toInt (by omega)]; omega
theorem zz_nn {x : Int32} (h0 : ¬ x < (0 : Int32)) : 0 ≤ x.toInt := by
  rw [Int32.lt_iff_toInt_lt] at h0
  have h3 : (0 : Int32).toInt = 0 := by decide
  omega
theorem zz_in31 {x : Int32} (h0 : ¬ x < (0 : Int32)) (h : x.toInt ≤ 31) : vp_in x 32 := by
  rw [Int32.lt_iff_toInt_lt] at h0
  have h3 : (0 : Int32).toInt = 0 := by decide
  exact vp_in_iff.mpr ⟨by omega, by omega⟩
theorem zz_lt {x : Int32} {k N : Nat} (h : Bd x N) (hN : N < 2 ^ 31) (hk : k < 2 ^ 31) (c : ¬ x ≤ nI k) : k < x.toNatClampNeg := by
  obtain ⟨j, hj, e⟩ := h.num
  subst e
  rw [nI_clamp (by omega)]
  exact Nat.lt_of_not_le (fun q => c (nI_le q hk))
def fX6_isIn (p0 : Int32) (p1 : Int32) (p2 : Int32) : Int32 := (if p0 < p1 then (0 : Int32) else (if p2 < p0 then (0 : Int32) else (1 : Int32)))
theorem fX6_isIn_p0 (p0 : Int32) (p1 : Int32) (p2 : Int32) (c_2 : p0 < p1) : (fX6_isIn p0 p1 p2) = (0 : Int32) := by
  simp only [fX6_isIn, if_pos c_2]
theorem fX6_isIn_p1 (p0 : Int32) (p1 : Int32) (p2 : Int32) (c_2 : ¬ p0 < p1) (c_7 : p2 < p0) : (fX6_isIn p0 p1 p2) = (0 : Int32) := by
  simp only [fX6_isIn, if_neg c_2, if_pos c_7]
theorem fX6_isIn_p2 (p0 : Int32) (p1 : Int32) (p2 : Int32) (c_2 : ¬ p0 < p1) (c_7 : ¬ p2 < p0) : (fX6_isIn p0 p1 p2) = (1 : Int32) := by
  simp only [fX6_isIn, if_neg c_2, if_neg c_7]
set_option maxHeartbeats 4000000 in
set_option maxRecDepth 100000 in
theorem kX6_isIn (l : Launch) (D : va_G) (cI cS : ClassId) (p0 : Int32) (p1 : Int32) (p2 : Int32) : KR l yX6_isIn wsX6_isIn { frames := 0, cells := 0, slots := 0, locals := 0 } D (tysA cI cS) [.int p0, .int p1, .int p2] [] (fX6_isIn p0 p1 p2) := by
  refine KR.of (cc := cX6_isIn) (maxL := 3) (ty := .boolean) (by decide) rfl (Nat.le_of_ble_eq_true rfl) rfl (fun p e s m args below meth c ls Q hx hb hml hown hts hE hP hl hend => ?_)
  have hown : s.vm.findClass RX6 = some m.cls := hown
  have hl : lv_has ls 3 [(0, .int p0), (1, .int p1), (2, .int p2)] := hl
  refine lv_iload_n hx hb dX6_isIn_0 rfl (lv_at hl 0 rfl) ?_
  refine lv_iload_n hx hb dX6_isIn_1 rfl (lv_at hl 1 rfl) ?_
  refine lv_icmp_lt (tgt := 14) hx hb dX6_isIn_2 (by decide) (fun c_2 => ?_) (fun c_2 => ?_)
  · refine lv_iconst (v := (0 : Int32)) hx hb dX6_isIn_14 (by decide +kernel) ?_
    exact hend _ _ _ dX6_isIn_15 rfl (fX6_isIn_p0 p0 p1 p2 c_2)
  · refine lv_iload_n hx hb dX6_isIn_5 rfl (lv_at hl 0 rfl) ?_
    refine lv_iload_n hx hb dX6_isIn_6 rfl (lv_at hl 2 rfl) ?_
    refine lv_icmp_gt (tgt := 14) hx hb dX6_isIn_7 (by decide) (fun c_7 => ?_) (fun c_7 => ?_)
    · refine lv_iconst (v := (0 : Int32)) hx hb dX6_isIn_14 (by decide +kernel) ?_
      exact hend _ _ _ dX6_isIn_15 rfl (fX6_isIn_p1 p0 p1 p2 c_2 c_7)
    · refine lv_iconst (v := (1 : Int32)) hx hb dX6_isIn_10 (by decide +kernel) ?_
      refine lv_goto (tgt := 15) hx hb dX6_isIn_11 (by decide) ?_
      exact hend _ _ _ dX6_isIn_15 rfl (fX6_isIn_p2 p0 p1 p2 c_2 c_7)

theorem zz_isIn (a b c : Int32) : narrow .boolean (.int (fX6_isIn a b c)) = .int (fX6_isIn a b c) := by
  unfold fX6_isIn
  split
  · rfl
  · split <;> rfl

def fX6_isKey (p0 : Int32) : Int32 := (fX6_isIn p0 (0 : Int32) (31 : Int32))
theorem fX6_isKey_p0 (p0 : Int32) : (fX6_isKey p0) = (fX6_isIn p0 (0 : Int32) (31 : Int32)) := by
  simp only [fX6_isKey]
set_option maxHeartbeats 4000000 in
set_option maxRecDepth 100000 in
theorem kX6_isKey (l : Launch) (D : va_G) (cI cS : ClassId) (p0 : Int32) : KR l yX6_isKey wsX6_isKey { frames := 1, cells := 0, slots := 0, locals := 22 } D (tysA cI cS) [.int p0] [] (fX6_isKey p0) := by
  refine KR.of (cc := cX6_isKey) (maxL := 1) (ty := .boolean) (by decide) rfl (Nat.le_of_ble_eq_true rfl) rfl (fun p e s m args below meth c ls Q hx hb hml hown hts hE hP hl hend => ?_)
  have hown : s.vm.findClass RX6 = some m.cls := hown
  have hl : lv_has ls 1 [(0, .int p0)] := hl
  refine lv_iload_n hx hb dX6_isKey_0 rfl (lv_at hl 0 rfl) ?_
  refine lv_iconst (v := (0 : Int32)) hx hb dX6_isKey_1 (by decide +kernel) ?_
  refine lv_bipush (v := (31 : Int32)) hx hb dX6_isKey_2 (by decide +kernel) ?_
  refine cRS ⟨hx, hb, hml, hown, hts⟩ (kX6_isIn l D cI cS p0 (0 : Int32) (31 : Int32)) (va_cwS 3 hts gX6_isKey_X6_isIn rfl rfl rfl (by decide +kernel) ⟨Nat.le_of_ble_eq_true rfl, Nat.le_of_ble_eq_true rfl⟩) hE hP [] rfl rfl hl.1 rfl (Nat.le_of_ble_eq_true rfl) ⟨Nat.zero_le _, Nat.zero_le _⟩ dX6_isKey_4 ?_
  exact hend _ _ _ dX6_isKey_7 (zz_isIn _ _ _) (fX6_isKey_p0 p0)

def fX6_isValue (p0 : Int32) : Int32 := (fX6_isIn p0 (0 : Int32) (99 : Int32))
theorem fX6_isValue_p0 (p0 : Int32) : (fX6_isValue p0) = (fX6_isIn p0 (0 : Int32) (99 : Int32)) := by
  simp only [fX6_isValue]
set_option maxHeartbeats 4000000 in
set_option maxRecDepth 100000 in
theorem kX6_isValue (l : Launch) (D : va_G) (cI cS : ClassId) (p0 : Int32) : KR l yX6_isValue wsX6_isValue { frames := 1, cells := 0, slots := 0, locals := 22 } D (tysA cI cS) [.int p0] [] (fX6_isValue p0) := by
  refine KR.of (cc := cX6_isValue) (maxL := 1) (ty := .boolean) (by decide) rfl (Nat.le_of_ble_eq_true rfl) rfl (fun p e s m args below meth c ls Q hx hb hml hown hts hE hP hl hend => ?_)
  have hown : s.vm.findClass RX6 = some m.cls := hown
  have hl : lv_has ls 1 [(0, .int p0)] := hl
  refine lv_iload_n hx hb dX6_isValue_0 rfl (lv_at hl 0 rfl) ?_
  refine lv_iconst (v := (0 : Int32)) hx hb dX6_isValue_1 (by decide +kernel) ?_
  refine lv_bipush (v := (99 : Int32)) hx hb dX6_isValue_2 (by decide +kernel) ?_
  refine cRS ⟨hx, hb, hml, hown, hts⟩ (kX6_isIn l D cI cS p0 (0 : Int32) (99 : Int32)) (va_cwS 3 hts gX6_isValue_X6_isIn rfl rfl rfl (by decide +kernel) ⟨Nat.le_of_ble_eq_true rfl, Nat.le_of_ble_eq_true rfl⟩) hE hP [] rfl rfl hl.1 rfl (Nat.le_of_ble_eq_true rfl) ⟨Nat.zero_le _, Nat.zero_le _⟩ dX6_isValue_4 ?_
  exact hend _ _ _ dX6_isValue_7 (zz_isIn _ _ _) (fX6_isValue_p0 p0)

def fX6_isKind (p0 : Int32) : Int32 := (fX6_isIn p0 (0 : Int32) (4 : Int32))
theorem fX6_isKind_p0 (p0 : Int32) : (fX6_isKind p0) = (fX6_isIn p0 (0 : Int32) (4 : Int32)) := by
  simp only [fX6_isKind]
set_option maxHeartbeats 4000000 in
set_option maxRecDepth 100000 in
theorem kX6_isKind (l : Launch) (D : va_G) (cI cS : ClassId) (p0 : Int32) : KR l yX6_isKind wsX6_isKind { frames := 1, cells := 0, slots := 0, locals := 22 } D (tysA cI cS) [.int p0] [] (fX6_isKind p0) := by
  refine KR.of (cc := cX6_isKind) (maxL := 1) (ty := .boolean) (by decide) rfl (Nat.le_of_ble_eq_true rfl) rfl (fun p e s m args below meth c ls Q hx hb hml hown hts hE hP hl hend => ?_)
  have hown : s.vm.findClass RX6 = some m.cls := hown
  have hl : lv_has ls 1 [(0, .int p0)] := hl
  refine lv_iload_n hx hb dX6_isKind_0 rfl (lv_at hl 0 rfl) ?_
  refine lv_iconst (v := (0 : Int32)) hx hb dX6_isKind_1 (by decide +kernel) ?_
  refine lv_iconst (v := (4 : Int32)) hx hb dX6_isKind_2 (by decide +kernel) ?_
  refine cRS ⟨hx, hb, hml, hown, hts⟩ (kX6_isIn l D cI cS p0 (0 : Int32) (4 : Int32)) (va_cwS 3 hts gX6_isKind_X6_isIn rfl rfl rfl (by decide +kernel) ⟨Nat.le_of_ble_eq_true rfl, Nat.le_of_ble_eq_true rfl⟩) hE hP [] rfl rfl hl.1 rfl (Nat.le_of_ble_eq_true rfl) ⟨Nat.zero_le _, Nat.zero_le _⟩ dX6_isKind_3 ?_
  exact hend _ _ _ dX6_isKind_6 (zz_isIn _ _ _) (fX6_isKind_p0 p0)

def fX6_isLot (p0 : Int32) : Int32 := (fX6_isIn p0 (1 : Int32) (8 : Int32))
theorem fX6_isLot_p0 (p0 : Int32) : (fX6_isLot p0) = (fX6_isIn p0 (1 : Int32) (8 : Int32)) := by
  simp only [fX6_isLot]
set_option maxHeartbeats 4000000 in
set_option maxRecDepth 100000 in
theorem kX6_isLot (l : Launch) (D : va_G) (cI cS : ClassId) (p0 : Int32) : KR l yX6_isLot wsX6_isLot { frames := 1, cells := 0, slots := 0, locals := 22 } D (tysA cI cS) [.int p0] [] (fX6_isLot p0) := by
  refine KR.of (cc := cX6_isLot) (maxL := 1) (ty := .boolean) (by decide) rfl (Nat.le_of_ble_eq_true rfl) rfl (fun p e s m args below meth c ls Q hx hb hml hown hts hE hP hl hend => ?_)
  have hown : s.vm.findClass RX6 = some m.cls := hown
  have hl : lv_has ls 1 [(0, .int p0)] := hl
  refine lv_iload_n hx hb dX6_isLot_0 rfl (lv_at hl 0 rfl) ?_
  refine lv_iconst (v := (1 : Int32)) hx hb dX6_isLot_1 (by decide +kernel) ?_
  refine lv_bipush (v := (8 : Int32)) hx hb dX6_isLot_2 (by decide +kernel) ?_
  refine cRS ⟨hx, hb, hml, hown, hts⟩ (kX6_isIn l D cI cS p0 (1 : Int32) (8 : Int32)) (va_cwS 3 hts gX6_isLot_X6_isIn rfl rfl rfl (by decide +kernel) ⟨Nat.le_of_ble_eq_true rfl, Nat.le_of_ble_eq_true rfl⟩) hE hP [] rfl rfl hl.1 rfl (Nat.le_of_ble_eq_true rfl) ⟨Nat.zero_le _, Nat.zero_le _⟩ dX6_isLot_4 ?_
  exact hend _ _ _ dX6_isLot_7 (zz_isIn _ _ _) (fX6_isLot_p0 p0)

def fX6_isTicks (p0 : Int32) : Int32 := (fX6_isIn p0 (1 : Int32) (99 : Int32))
theorem fX6_isTicks_p0 (p0 : Int32) : (fX6_isTicks p0) = (fX6_isIn p0 (1 : Int32) (99 : Int32)) := by
  simp only [fX6_isTicks]
set_option maxHeartbeats 4000000 in
set_option maxRecDepth 100000 in
theorem kX6_isTicks (l : Launch) (D : va_G) (cI cS : ClassId) (p0 : Int32) : KR l yX6_isTicks wsX6_isTicks { frames := 1, cells := 0, slots := 0, locals := 22 } D (tysA cI cS) [.int p0] [] (fX6_isTicks p0) := by
  refine KR.of (cc := cX6_isTicks) (maxL := 1) (ty := .boolean) (by decide) rfl (Nat.le_of_ble_eq_true rfl) rfl (fun p e s m args below meth c ls Q hx hb hml hown hts hE hP hl hend => ?_)
  have hown : s.vm.findClass RX6 = some m.cls := hown
  have hl : lv_has ls 1 [(0, .int p0)] := hl
  refine lv_iload_n hx hb dX6_isTicks_0 rfl (lv_at hl 0 rfl) ?_
  refine lv_iconst (v := (1 : Int32)) hx hb dX6_isTicks_1 (by decide +kernel) ?_
  refine lv_bipush (v := (99 : Int32)) hx hb dX6_isTicks_2 (by decide +kernel) ?_
  refine cRS ⟨hx, hb, hml, hown, hts⟩ (kX6_isIn l D cI cS p0 (1 : Int32) (99 : Int32)) (va_cwS 3 hts gX6_isTicks_X6_isIn rfl rfl rfl (by decide +kernel) ⟨Nat.le_of_ble_eq_true rfl, Nat.le_of_ble_eq_true rfl⟩) hE hP [] rfl rfl hl.1 rfl (Nat.le_of_ble_eq_true rfl) ⟨Nat.zero_le _, Nat.zero_le _⟩ dX6_isTicks_4 ?_
  exact hend _ _ _ dX6_isTicks_7 (zz_isIn _ _ _) (fX6_isTicks_p0 p0)

def fX6_isTable (p0 : Int32) : Int32 := (fX6_isIn p0 (0 : Int32) (2 : Int32))
theorem fX6_isTable_p0 (p0 : Int32) : (fX6_isTable p0) = (fX6_isIn p0 (0 : Int32) (2 : Int32)) := by
  simp only [fX6_isTable]
set_option maxHeartbeats 4000000 in
set_option maxRecDepth 100000 in
theorem kX6_isTable (l : Launch) (D : va_G) (cI cS : ClassId) (p0 : Int32) : KR l yX6_isTable wsX6_isTable { frames := 1, cells := 0, slots := 0, locals := 22 } D (tysA cI cS) [.int p0] [] (fX6_isTable p0) := by
  refine KR.of (cc := cX6_isTable) (maxL := 1) (ty := .boolean) (by decide) rfl (Nat.le_of_ble_eq_true rfl) rfl (fun p e s m args below meth c ls Q hx hb hml hown hts hE hP hl hend => ?_)
  have hown : s.vm.findClass RX6 = some m.cls := hown
  have hl : lv_has ls 1 [(0, .int p0)] := hl
  refine lv_iload_n hx hb dX6_isTable_0 rfl (lv_at hl 0 rfl) ?_
  refine lv_iconst (v := (0 : Int32)) hx hb dX6_isTable_1 (by decide +kernel) ?_
  refine lv_iconst (v := (2 : Int32)) hx hb dX6_isTable_2 (by decide +kernel) ?_
  refine cRS ⟨hx, hb, hml, hown, hts⟩ (kX6_isIn l D cI cS p0 (0 : Int32) (2 : Int32)) (va_cwS 3 hts gX6_isTable_X6_isIn rfl rfl rfl (by decide +kernel) ⟨Nat.le_of_ble_eq_true rfl, Nat.le_of_ble_eq_true rfl⟩) hE hP [] rfl rfl hl.1 rfl (Nat.le_of_ble_eq_true rfl) ⟨Nat.zero_le _, Nat.zero_le _⟩ dX6_isTable_3 ?_
  exact hend _ _ _ dX6_isTable_6 (zz_isIn _ _ _) (fX6_isTable_p0 p0)

def fX6_isSetting (p0 : Int32) : Int32 := (fX6_isIn p0 (0 : Int32) (3 : Int32))
theorem fX6_isSetting_p0 (p0 : Int32) : (fX6_isSetting p0) = (fX6_isIn p0 (0 : Int32) (3 : Int32)) := by
  simp only [fX6_isSetting]
set_option maxHeartbeats 4000000 in
set_option maxRecDepth 100000 in
theorem kX6_isSetting (l : Launch) (D : va_G) (cI cS : ClassId) (p0 : Int32) : KR l yX6_isSetting wsX6_isSetting { frames := 1, cells := 0, slots := 0, locals := 22 } D (tysA cI cS) [.int p0] [] (fX6_isSetting p0) := by
  refine KR.of (cc := cX6_isSetting) (maxL := 1) (ty := .boolean) (by decide) rfl (Nat.le_of_ble_eq_true rfl) rfl (fun p e s m args below meth c ls Q hx hb hml hown hts hE hP hl hend => ?_)
  have hown : s.vm.findClass RX6 = some m.cls := hown
  have hl : lv_has ls 1 [(0, .int p0)] := hl
  refine lv_iload_n hx hb dX6_isSetting_0 rfl (lv_at hl 0 rfl) ?_
  refine lv_iconst (v := (0 : Int32)) hx hb dX6_isSetting_1 (by decide +kernel) ?_
  refine lv_iconst (v := (3 : Int32)) hx hb dX6_isSetting_2 (by decide +kernel) ?_
  refine cRS ⟨hx, hb, hml, hown, hts⟩ (kX6_isIn l D cI cS p0 (0 : Int32) (3 : Int32)) (va_cwS 3 hts gX6_isSetting_X6_isIn rfl rfl rfl (by decide +kernel) ⟨Nat.le_of_ble_eq_true rfl, Nat.le_of_ble_eq_true rfl⟩) hE hP [] rfl rfl hl.1 rfl (Nat.le_of_ble_eq_true rfl) ⟨Nat.zero_le _, Nat.zero_le _⟩ dX6_isSetting_3 ?_
  exact hend _ _ _ dX6_isSetting_6 (zz_isIn _ _ _) (fX6_isSetting_p0 p0)

def fX6_isError (p0 : Int32) : Int32 := (if (0 : Int32) ≤ p0 then (0 : Int32) else (if p0 = (-5 : Int32) then (0 : Int32) else (1 : Int32)))
theorem fX6_isError_p0 (p0 : Int32) (c_1 : (0 : Int32) ≤ p0) : (fX6_isError p0) = (0 : Int32) := by
  simp only [fX6_isError, if_pos c_1]
theorem fX6_isError_p1 (p0 : Int32) (c_1 : ¬ (0 : Int32) ≤ p0) (c_7 : p0 = (-5 : Int32)) : (fX6_isError p0) = (0 : Int32) := by
  simp only [fX6_isError, if_neg c_1, if_pos c_7]
theorem fX6_isError_p2 (p0 : Int32) (c_1 : ¬ (0 : Int32) ≤ p0) (c_7 : ¬ p0 = (-5 : Int32)) : (fX6_isError p0) = (1 : Int32) := by
  simp only [fX6_isError, if_neg c_1, if_neg c_7]
set_option maxHeartbeats 4000000 in
set_option maxRecDepth 100000 in
theorem kX6_isError (l : Launch) (D : va_G) (cI cS : ClassId) (p0 : Int32) : KR l yX6_isError wsX6_isError { frames := 0, cells := 0, slots := 0, locals := 0 } D (tysA cI cS) [.int p0] [] (fX6_isError p0) := by
  refine KR.of (cc := cX6_isError) (maxL := 1) (ty := .boolean) (by decide) rfl (Nat.le_of_ble_eq_true rfl) rfl (fun p e s m args below meth c ls Q hx hb hml hown hts hE hP hl hend => ?_)
  have hown : s.vm.findClass RX6 = some m.cls := hown
  have hl : lv_has ls 1 [(0, .int p0)] := hl
  refine lv_iload_n hx hb dX6_isError_0 rfl (lv_at hl 0 rfl) ?_
  refine lv_if_ge (tgt := 14) hx hb dX6_isError_1 (by decide) (fun c_1 => ?_) (fun c_1 => ?_)
  · refine lv_iconst (v := (0 : Int32)) hx hb dX6_isError_14 (by decide +kernel) ?_
    exact hend _ _ _ dX6_isError_15 rfl (fX6_isError_p0 p0 c_1)
  · refine lv_iload_n hx hb dX6_isError_4 rfl (lv_at hl 0 rfl) ?_
    refine lv_bipush (v := (-5 : Int32)) hx hb dX6_isError_5 (by decide +kernel) ?_
    refine lv_icmp_eq (tgt := 14) hx hb dX6_isError_7 (by decide) (fun c_7 => ?_) (fun c_7 => ?_)
    · refine lv_iconst (v := (0 : Int32)) hx hb dX6_isError_14 (by decide +kernel) ?_
      exact hend _ _ _ dX6_isError_15 rfl (fX6_isError_p1 p0 c_1 c_7)
    · refine lv_iconst (v := (1 : Int32)) hx hb dX6_isError_10 (by decide +kernel) ?_
      refine lv_goto (tgt := 15) hx hb dX6_isError_11 (by decide) ?_
      exact hend _ _ _ dX6_isError_15 rfl (fX6_isError_p2 p0 c_1 c_7)

def fX6_changedValue (p0 : Int32) (p1 : Int32) (p2 : Int32) : Int32 := (if p2 = (-5 : Int32) then (-5 : Int32) else (if p0 = (1 : Int32) then (((2 : Int32) * p2) - ((2 : Int32) * p2) / (100 : Int32) * (100 : Int32)) else (if p0 = (2 : Int32) then (((p2 - p2 / (10 : Int32) * (10 : Int32)) * (10 : Int32)) + (p2 / (10 : Int32))) else (if p0 = (3 : Int32) then (if (p2 - p2 / (2 : Int32) * (2 : Int32)) = (0 : Int32) then p2 else (-5 : Int32)) else (if p0 = (4 : Int32) then ((p2 + p1) - (p2 + p1) / (100 : Int32) * (100 : Int32)) else p2)))))
theorem fX6_changedValue_p0 (p0 : Int32) (p1 : Int32) (p2 : Int32) (c_3 : ¬ p2 = (-5 : Int32)) (c_10_0 : p0 = (1 : Int32)) : (fX6_changedValue p0 p1 p2) = (((2 : Int32) * p2) - ((2 : Int32) * p2) / (100 : Int32) * (100 : Int32)) := by
  simp only [fX6_changedValue, if_neg c_3, if_pos c_10_0]
theorem fX6_changedValue_p1 (p0 : Int32) (p1 : Int32) (p2 : Int32) (c_3 : ¬ p2 = (-5 : Int32)) (c_10_0 : ¬ p0 = (1 : Int32)) (c_10_1 : p0 = (2 : Int32)) : (fX6_changedValue p0 p1 p2) = (((p2 - p2 / (10 : Int32) * (10 : Int32)) * (10 : Int32)) + (p2 / (10 : Int32))) := by
  simp only [fX6_changedValue, if_neg c_3, if_neg c_10_0, if_pos c_10_1]
theorem fX6_changedValue_p2 (p0 : Int32) (p1 : Int32) (p2 : Int32) (c_3 : ¬ p2 = (-5 : Int32)) (c_10_0 : ¬ p0 = (1 : Int32)) (c_10_1 : ¬ p0 = (2 : Int32)) (c_10_2 : p0 = (3 : Int32)) (c_63 : ¬ (p2 - p2 / (2 : Int32) * (2 : Int32)) = (0 : Int32)) : (fX6_changedValue p0 p1 p2) = (-5 : Int32) := by
  simp only [fX6_changedValue, if_neg c_3, if_neg c_10_0, if_neg c_10_1, if_pos c_10_2, if_neg c_63]
theorem fX6_changedValue_p3 (p0 : Int32) (p1 : Int32) (p2 : Int32) (c_3 : ¬ p2 = (-5 : Int32)) (c_10_0 : ¬ p0 = (1 : Int32)) (c_10_1 : ¬ p0 = (2 : Int32)) (c_10_2 : p0 = (3 : Int32)) (c_63 : (p2 - p2 / (2 : Int32) * (2 : Int32)) = (0 : Int32)) : (fX6_changedValue p0 p1 p2) = p2 := by
  simp only [fX6_changedValue, if_neg c_3, if_neg c_10_0, if_neg c_10_1, if_pos c_10_2, if_pos c_63]
theorem fX6_changedValue_p4 (p0 : Int32) (p1 : Int32) (p2 : Int32) (c_3 : ¬ p2 = (-5 : Int32)) (c_10_0 : ¬ p0 = (1 : Int32)) (c_10_1 : ¬ p0 = (2 : Int32)) (c_10_2 : ¬ p0 = (3 : Int32)) (c_10_3 : p0 = (4 : Int32)) : (fX6_changedValue p0 p1 p2) = ((p2 + p1) - (p2 + p1) / (100 : Int32) * (100 : Int32)) := by
  simp only [fX6_changedValue, if_neg c_3, if_neg c_10_0, if_neg c_10_1, if_neg c_10_2, if_pos c_10_3]
theorem fX6_changedValue_p5 (p0 : Int32) (p1 : Int32) (p2 : Int32) (c_3 : ¬ p2 = (-5 : Int32)) (c_10_0 : ¬ p0 = (1 : Int32)) (c_10_1 : ¬ p0 = (2 : Int32)) (c_10_2 : ¬ p0 = (3 : Int32)) (c_10_3 : ¬ p0 = (4 : Int32)) : (fX6_changedValue p0 p1 p2) = p2 := by
  simp only [fX6_changedValue, if_neg c_3, if_neg c_10_0, if_neg c_10_1, if_neg c_10_2, if_neg c_10_3]
theorem fX6_changedValue_p6 (p0 : Int32) (p1 : Int32) (p2 : Int32) (c_3 : p2 = (-5 : Int32)) : (fX6_changedValue p0 p1 p2) = (-5 : Int32) := by
  simp only [fX6_changedValue, if_pos c_3]
set_option maxHeartbeats 4000000 in
set_option maxRecDepth 100000 in
theorem kX6_changedValue (l : Launch) (D : va_G) (cI cS : ClassId) (p0 : Int32) (p1 : Int32) (p2 : Int32) : KR l yX6_changedValue wsX6_changedValue { frames := 0, cells := 0, slots := 0, locals := 0 } D (tysA cI cS) [.int p0, .int p1, .int p2] [] (fX6_changedValue p0 p1 p2) := by
  refine KR.of (cc := cX6_changedValue) (maxL := 3) (ty := .int) (by decide) rfl (Nat.le_of_ble_eq_true rfl) rfl (fun p e s m args below meth c ls Q hx hb hml hown hts hE hP hl hend => ?_)
  have hown : s.vm.findClass RX6 = some m.cls := hown
  have hl : lv_has ls 3 [(0, .int p0), (1, .int p1), (2, .int p2)] := hl
  refine lv_iload_n hx hb dX6_changedValue_0 rfl (lv_at hl 2 rfl) ?_
  refine lv_bipush (v := (-5 : Int32)) hx hb dX6_changedValue_1 (by decide +kernel) ?_
  refine lv_icmp_ne (tgt := 9) hx hb dX6_changedValue_3 (by decide) (fun c_3 => ?_) (fun c_3 => ?_)
  · refine lv_iload_n hx hb dX6_changedValue_9 rfl (lv_at hl 0 rfl) ?_
    refine (Decidable.em (p0 = (1 : Int32))).elim (fun c_10_0 => ?_) (fun c_10_0 => ?_)
    · refine lv_tableIn (off := 30) (tgt := 40) hx hb dX6_changedValue_10 (by rw [c_10_0]; decide +kernel) (by rw [c_10_0]; decide +kernel) (by rw [c_10_0]; decide +kernel) (by decide) ?_
      refine lv_iconst (v := (2 : Int32)) hx hb dX6_changedValue_40 (by decide +kernel) ?_
      refine lv_iload_n hx hb dX6_changedValue_41 rfl (lv_at hl 2 rfl) ?_
      refine lv_imul hx hb dX6_changedValue_42 ?_
      refine lv_bipush (v := (100 : Int32)) hx hb dX6_changedValue_43 (by decide +kernel) ?_
      refine lv_irem hx hb dX6_changedValue_45 (by decide) ?_
      exact hend _ _ _ dX6_changedValue_46 rfl (fX6_changedValue_p0 p0 p1 p2 c_3 c_10_0)
    · refine (Decidable.em (p0 = (2 : Int32))).elim (fun c_10_1 => ?_) (fun c_10_1 => ?_)
      · refine lv_tableIn (off := 37) (tgt := 47) hx hb dX6_changedValue_10 (by rw [c_10_1]; decide +kernel) (by rw [c_10_1]; decide +kernel) (by rw [c_10_1]; decide +kernel) (by decide) ?_
        refine lv_iload_n hx hb dX6_changedValue_47 rfl (lv_at hl 2 rfl) ?_
        refine lv_bipush (v := (10 : Int32)) hx hb dX6_changedValue_48 (by decide +kernel) ?_
        refine lv_irem hx hb dX6_changedValue_50 (by decide) ?_
        refine lv_bipush (v := (10 : Int32)) hx hb dX6_changedValue_51 (by decide +kernel) ?_
        refine lv_imul hx hb dX6_changedValue_53 ?_
        refine lv_iload_n hx hb dX6_changedValue_54 rfl (lv_at hl 2 rfl) ?_
        refine lv_bipush (v := (10 : Int32)) hx hb dX6_changedValue_55 (by decide +kernel) ?_
        refine lv_idiv hx hb dX6_changedValue_57 (by decide) ?_
        refine lv_iadd hx hb dX6_changedValue_58 ?_
        exact hend _ _ _ dX6_changedValue_59 rfl (fX6_changedValue_p1 p0 p1 p2 c_3 c_10_0 c_10_1)
      · refine (Decidable.em (p0 = (3 : Int32))).elim (fun c_10_2 => ?_) (fun c_10_2 => ?_)
        · refine lv_tableIn (off := 50) (tgt := 60) hx hb dX6_changedValue_10 (by rw [c_10_2]; decide +kernel) (by rw [c_10_2]; decide +kernel) (by rw [c_10_2]; decide +kernel) (by decide) ?_
          refine lv_iload_n hx hb dX6_changedValue_60 rfl (lv_at hl 2 rfl) ?_
          refine lv_iconst (v := (2 : Int32)) hx hb dX6_changedValue_61 (by decide +kernel) ?_
          refine lv_irem hx hb dX6_changedValue_62 (by decide) ?_
          refine lv_if_ne (tgt := 70) hx hb dX6_changedValue_63 (by decide) (fun c_63 => ?_) (fun c_63 => ?_)
          · refine lv_bipush (v := (-5 : Int32)) hx hb dX6_changedValue_70 (by decide +kernel) ?_
            exact hend _ _ _ dX6_changedValue_72 rfl (fX6_changedValue_p2 p0 p1 p2 c_3 c_10_0 c_10_1 c_10_2 c_63)
          · refine lv_iload_n hx hb dX6_changedValue_66 rfl (lv_at hl 2 rfl) ?_
            refine lv_goto (tgt := 72) hx hb dX6_changedValue_67 (by decide) ?_
            exact hend _ _ _ dX6_changedValue_72 rfl (fX6_changedValue_p3 p0 p1 p2 c_3 c_10_0 c_10_1 c_10_2 c_63)
        · refine (Decidable.em (p0 = (4 : Int32))).elim (fun c_10_3 => ?_) (fun c_10_3 => ?_)
          · refine lv_tableIn (off := 63) (tgt := 73) hx hb dX6_changedValue_10 (by rw [c_10_3]; decide +kernel) (by rw [c_10_3]; decide +kernel) (by rw [c_10_3]; decide +kernel) (by decide) ?_
            refine lv_iload_n hx hb dX6_changedValue_73 rfl (lv_at hl 2 rfl) ?_
            refine lv_iload_n hx hb dX6_changedValue_74 rfl (lv_at hl 1 rfl) ?_
            refine lv_iadd hx hb dX6_changedValue_75 ?_
            refine lv_bipush (v := (100 : Int32)) hx hb dX6_changedValue_76 (by decide +kernel) ?_
            refine lv_irem hx hb dX6_changedValue_78 (by decide) ?_
            exact hend _ _ _ dX6_changedValue_79 rfl (fX6_changedValue_p4 p0 p1 p2 c_3 c_10_0 c_10_1 c_10_2 c_10_3)
          · refine xtabD (tgt := 80) hx hb dX6_changedValue_10 (xno_cons (a := 1) c_10_0 (by decide) (xno_cons (a := 2) c_10_1 (by decide) (xno_cons (a := 3) c_10_2 (by decide) (xno_cons (a := 4) c_10_3 (by decide) xno_nil)))) (by decide +kernel) (by decide) ?_
            refine lv_iload_n hx hb dX6_changedValue_80 rfl (lv_at hl 2 rfl) ?_
            exact hend _ _ _ dX6_changedValue_81 rfl (fX6_changedValue_p5 p0 p1 p2 c_3 c_10_0 c_10_1 c_10_2 c_10_3)
  · refine lv_bipush (v := (-5 : Int32)) hx hb dX6_changedValue_6 (by decide +kernel) ?_
    exact hend _ _ _ dX6_changedValue_8 rfl (fX6_changedValue_p6 p0 p1 p2 c_3)

def fJ7_fill_53178_5 (p1 : Int32) : Nat → Nat → FnI → FnI
  | 0, k, σ => σ
  | n + 1, k, σ => (if (32 : Int32) ≤ (nI k) then σ else fJ7_fill_53178_5 p1 n (k + 1) (upd σ k p1))
def fJ7_fill_53178 (p1 : Int32) (τ : FnI) : FnI := fJ7_fill_53178_5 p1 33 0 τ
theorem fJ7_fill_53178_5_p0 (p1 : Int32) (n : Nat) (k : Nat) (σ : FnI) (c_7 : (32 : Int32) ≤ (nI k)) : fJ7_fill_53178_5 p1 (n + 1) k σ = σ := by
  simp only [fJ7_fill_53178_5, if_pos c_7]
theorem fJ7_fill_53178_5_p1 (p1 : Int32) (n : Nat) (k : Nat) (σ : FnI) (c_7 : ¬ (32 : Int32) ≤ (nI k)) : fJ7_fill_53178_5 p1 (n + 1) k σ = fJ7_fill_53178_5 p1 n (k + 1) (upd σ k p1) := by
  simp only [fJ7_fill_53178_5, if_neg c_7]
theorem fJ7_fill_53178_p2 (p1 : Int32) (τ : FnI) : (fJ7_fill_53178 p1 τ) = fJ7_fill_53178_5 p1 33 0 τ := by
  simp only [fJ7_fill_53178]
set_option maxHeartbeats 4000000 in
set_option maxRecDepth 100000 in
theorem kJ7_fill_53178 (l : Launch) (D : va_G) (cI cS : ClassId) (h0 : Nat) (p1 : Int32) (τ : FnI) : KV l yJ7_fill_53178 wsJ7_fill_53178 { frames := 0, cells := 0, slots := 0, locals := 0 } D (tysA cI cS) [.ref h0, .int p1] [(h0, .inl (cI, 32, .inl τ))] (fJ7_fill_53178 p1 τ) (fun u => [(h0, .inl (cI, 32, .inl u))]) := by
  refine KV.of (cc := cJ7_fill_53178) (maxL := 4) (by decide) rfl (Nat.le_of_ble_eq_true rfl) rfl (fun p e s m args below meth c ls Q A hx hb hml hown hts hE hP hD hS hl hend => ?_)
  have hown : s.vm.findClass RJ7 = some m.cls := hown
  have hl : lv_has ls 4 [(0, .ref h0), (1, .int p1)] := hl
  have loop_5 : ∀ (n : Nat) (k : Nat) (σ : FnI), k ≤ 32 → 32 - k < n → (fJ7_fill_53178 p1 τ) = fJ7_fill_53178_5 p1 n k σ → ∀ (H : Heap) (locs : List Loc), va_P D vwCl [(h0, .inl (cI, 32, .inl σ))] H → va_D A [(h0, .inl (cI, 32, .inl σ))] → va_S A s.heap H locs → ∀ (ls : Array Slot), lv_has ls 4 [(0, .ref h0), (1, .int p1), (2, .int (nI k)), (3, .int (32 : Int32))] → W p l e { frames := 0, cells := 0, slots := 0, locals := 0 } s m args below meth c H locs 0 0 Q (F0 m 5 ls []) := by
    intro n
    induction n with
    | zero =>
      intro k σ hk hn
      exact absurd hn (by omega)
    | succ n ih =>
      intro k σ hk hn hF H locs hP hD hS ls hl
      refine lv_iload_n hx hb dJ7_fill_53178_5 rfl (lv_at hl 2 rfl) ?_
      refine lv_iload_n hx hb dJ7_fill_53178_6 rfl (lv_at hl 3 rfl) ?_
      refine lv_icmp_ge (tgt := 20) hx hb dJ7_fill_53178_7 (by decide) (fun c_7 => ?_) (fun c_7 => ?_)
      · have d_7 : 32 ≤ k := (nI_leI (a := 32) (b := k) (by omega) (by omega)).mp c_7
        exact hend _ _ _ _ _ dJ7_fill_53178_20 (hF.trans (fJ7_fill_53178_5_p0 p1 n k σ c_7)) hP hS
      · have d_7 : k < 32 := Nat.lt_of_not_le (fun q => c_7 ((nI_leI (a := 32) (b := k) (by omega) (by omega)).mpr q))
        refine lv_aload_n hx hb dJ7_fill_53178_10 rfl (lv_at hl 0 rfl) ?_
        refine lv_iload_n hx hb dJ7_fill_53178_11 rfl (lv_at hl 2 rfl) ?_
        refine lv_iload_n hx hb dJ7_fill_53178_12 rfl (lv_at hl 1 rfl) ?_
        refine xst (j := k) hx hb hE hP hD hS 0 rfl rfl (nI_clamp (by omega)) (vp_in_nI (by omega) (by omega)) [(h0, .inl (cI, 32, .inl (upd σ k p1)))] rfl dJ7_fill_53178_13 (fun H locs hP hD hS => ?_)
        refine lv_iinc (v := (nI (k + 1))) (lv' := [(2, .int (nI (k + 1))), (0, .ref h0), (1, .int p1), (3, .int (32 : Int32))]) hx hb dJ7_fill_53178_14 hl (k := 2) rfl (nI_1 _) (by decide) rfl (fun ls hl => ?_)
        refine lv_goto (tgt := 5) hx hb dJ7_fill_53178_17 (by decide) ?_
        exact ih (k + 1) (upd σ k p1) (by omega) (by omega) (hF.trans (fJ7_fill_53178_5_p1 p1 n k σ c_7)) _ _ hP hD hS _ (lv_sub hl [1, 2, 0, 3] rfl)
  refine lv_iconst (v := (0 : Int32)) hx hb dJ7_fill_53178_0 (by decide +kernel) ?_
  refine lv_istore_n (lv' := [(2, .int (0 : Int32)), (0, .ref h0), (1, .int p1)]) hx hb dJ7_fill_53178_1 rfl hl (by decide) rfl (fun ls hl => ?_)
  refine lv_aload_n hx hb dJ7_fill_53178_2 rfl (lv_at hl 1 rfl) ?_
  refine va_alen (v := (32 : Int32)) hx hb hE.1 hP 0 0 rfl rfl rfl dJ7_fill_53178_3 ?_
  refine lv_istore_n (lv' := [(3, .int (32 : Int32)), (2, .int (0 : Int32)), (0, .ref h0), (1, .int p1)]) hx hb dJ7_fill_53178_4 rfl hl (by decide) rfl (fun ls hl => ?_)
  exact loop_5 33 0 τ (by omega) (by omega) (fJ7_fill_53178_p2 p1 τ) _ _ hP hD hS _ (lv_sub hl [2, 3, 1, 0] rfl)

def fX3_at (p0 : Int32) (τ : FnI) : Int32 := (if p0 < (0 : Int32) then (-5 : Int32) else (if (32 : Int32) ≤ p0 then (-5 : Int32) else (τ p0.toNatClampNeg)))
theorem fX3_at_p0 (p0 : Int32) (τ : FnI) (c_1 : p0 < (0 : Int32)) : (fX3_at p0 τ) = (-5 : Int32) := by
  simp only [fX3_at, if_pos c_1]
theorem fX3_at_p1 (p0 : Int32) (τ : FnI) (c_1 : ¬ p0 < (0 : Int32)) (c_7 : (32 : Int32) ≤ p0) : (fX3_at p0 τ) = (-5 : Int32) := by
  simp only [fX3_at, if_neg c_1, if_pos c_7]
theorem fX3_at_p2 (p0 : Int32) (τ : FnI) (c_1 : ¬ p0 < (0 : Int32)) (c_7 : ¬ (32 : Int32) ≤ p0) : (fX3_at p0 τ) = (τ p0.toNatClampNeg) := by
  simp only [fX3_at, if_neg c_1, if_neg c_7]
set_option maxHeartbeats 4000000 in
set_option maxRecDepth 100000 in
theorem kX3_at (l : Launch) (D : va_G) (cI cS : ClassId) (h0 h1 : Nat) (p0 : Int32) (τ : FnI) : KR l yX3_at wsX3_at { frames := 0, cells := 0, slots := 0, locals := 0 } D (tysA cI cS) [.ref h0, .int p0] [(h0, .inr (3, [.ref h1])), (h1, .inl (cI, 32, .inl τ))] (fX3_at p0 τ) := by
  refine KR.of (cc := cX3_at) (maxL := 2) (ty := .int) (by decide) rfl (Nat.le_of_ble_eq_true rfl) rfl (fun p e s m args below meth c ls Q hx hb hml hown hts hE hP hl hend => ?_)
  have hown : s.vm.findClass RX3 = some m.cls := hown
  have hl : lv_has ls 2 [(0, .ref h0), (1, .int p0)] := hl
  refine lv_iload_n hx hb dX3_at_0 rfl (lv_at hl 1 rfl) ?_
  refine lv_if_lt (tgt := 19) hx hb dX3_at_1 (by decide) (fun c_1 => ?_) (fun c_1 => ?_)
  · refine lv_bipush (v := (-5 : Int32)) hx hb dX3_at_19 (by decide +kernel) ?_
    exact hend _ _ _ dX3_at_21 rfl (fX3_at_p0 p0 τ c_1)
  · refine lv_iload_n hx hb dX3_at_4 rfl (lv_at hl 1 rfl) ?_
    refine lv_bipush (v := (32 : Int32)) hx hb dX3_at_5 (by decide +kernel) ?_
    refine lv_icmp_ge (tgt := 19) hx hb dX3_at_7 (by decide) (fun c_7 => ?_) (fun c_7 => ?_)
    · refine lv_bipush (v := (-5 : Int32)) hx hb dX3_at_19 (by decide +kernel) ?_
      exact hend _ _ _ dX3_at_21 rfl (fX3_at_p1 p0 τ c_1 c_7)
    · refine lv_aload_n hx hb dX3_at_10 rfl (lv_at hl 0 rfl) ?_
      refine va_get (D := D) (ci := 3) (v := .ref h1) (C := RX3) (T := TX3) (N := 1) hx hb hts (fun _ h9 => List.mem_cons_of_mem _ (List.mem_append_right _ h9)) hown hE.1 hP 0 rfl rfl 0 (by decide) (hts (.fieldLink RX3 9 "ShadowTable$Rows" "values" "[I") (List.mem_of_getElem? (i := 1) rfl)) (fun _ h9 => h9) rfl dX3_at_11 ?_
      refine lv_iload_n hx hb dX3_at_14 rfl (lv_at hl 1 rfl) ?_
      refine xld (v := (τ p0.toNatClampNeg)) (j := p0.toNatClampNeg) hx hb hE hP 1 rfl rfl rfl (xin_ge c_1 c_7 (by decide)) rfl dX3_at_15 ?_
      refine lv_goto (tgt := 21) hx hb dX3_at_16 (by decide) ?_
      exact hend _ _ _ dX3_at_21 rfl (fX3_at_p2 p0 τ c_1 c_7)

def fX3_place (p0 : Int32) (p1 : Int32) (τ : FnI) : FnI := (if p0 < (0 : Int32) then τ else (if (32 : Int32) ≤ p0 then τ else (upd τ p0.toNatClampNeg p1)))
theorem fX3_place_p0 (p0 : Int32) (p1 : Int32) (τ : FnI) (c_1 : p0 < (0 : Int32)) : (fX3_place p0 p1 τ) = τ := by
  simp only [fX3_place, if_pos c_1]
theorem fX3_place_p1 (p0 : Int32) (p1 : Int32) (τ : FnI) (c_1 : ¬ p0 < (0 : Int32)) (c_7 : (32 : Int32) ≤ p0) : (fX3_place p0 p1 τ) = τ := by
  simp only [fX3_place, if_neg c_1, if_pos c_7]
theorem fX3_place_p2 (p0 : Int32) (p1 : Int32) (τ : FnI) (c_1 : ¬ p0 < (0 : Int32)) (c_7 : ¬ (32 : Int32) ≤ p0) : (fX3_place p0 p1 τ) = (upd τ p0.toNatClampNeg p1) := by
  simp only [fX3_place, if_neg c_1, if_neg c_7]
set_option maxHeartbeats 4000000 in
set_option maxRecDepth 100000 in
theorem kX3_place (l : Launch) (D : va_G) (cI cS : ClassId) (h0 h1 : Nat) (p0 : Int32) (p1 : Int32) (τ : FnI) : KV l yX3_place wsX3_place { frames := 0, cells := 0, slots := 0, locals := 0 } D (tysA cI cS) [.ref h0, .int p0, .int p1] [(h0, .inr (3, [.ref h1])), (h1, .inl (cI, 32, .inl τ))] (fX3_place p0 p1 τ) (fun u => [(h0, .inr (3, [.ref h1])), (h1, .inl (cI, 32, .inl u))]) := by
  refine KV.of (cc := cX3_place) (maxL := 3) (by decide) rfl (Nat.le_of_ble_eq_true rfl) rfl (fun p e s m args below meth c ls Q A hx hb hml hown hts hE hP hD hS hl hend => ?_)
  have hown : s.vm.findClass RX3 = some m.cls := hown
  have hl : lv_has ls 3 [(0, .ref h0), (1, .int p0), (2, .int p1)] := hl
  refine lv_iload_n hx hb dX3_place_0 rfl (lv_at hl 1 rfl) ?_
  refine lv_if_lt (tgt := 17) hx hb dX3_place_1 (by decide) (fun c_1 => ?_) (fun c_1 => ?_)
  · exact hend _ _ _ _ _ dX3_place_17 (fX3_place_p0 p0 p1 τ c_1) hP hS
  · refine lv_iload_n hx hb dX3_place_4 rfl (lv_at hl 1 rfl) ?_
    refine lv_bipush (v := (32 : Int32)) hx hb dX3_place_5 (by decide +kernel) ?_
    refine lv_icmp_ge (tgt := 17) hx hb dX3_place_7 (by decide) (fun c_7 => ?_) (fun c_7 => ?_)
    · exact hend _ _ _ _ _ dX3_place_17 (fX3_place_p1 p0 p1 τ c_1 c_7) hP hS
    · refine lv_aload_n hx hb dX3_place_10 rfl (lv_at hl 0 rfl) ?_
      refine va_get (D := D) (ci := 3) (v := .ref h1) (C := RX3) (T := TX3) (N := 1) hx hb hts (fun _ h9 => List.mem_cons_of_mem _ (List.mem_append_right _ h9)) hown hE.1 hP 0 rfl rfl 0 (by decide) (hts (.fieldLink RX3 9 "ShadowTable$Rows" "values" "[I") (List.mem_of_getElem? (i := 1) rfl)) (fun _ h9 => h9) rfl dX3_place_11 ?_
      refine lv_iload_n hx hb dX3_place_14 rfl (lv_at hl 1 rfl) ?_
      refine lv_iload_n hx hb dX3_place_15 rfl (lv_at hl 2 rfl) ?_
      refine xst (j := p0.toNatClampNeg) hx hb hE hP hD hS 1 rfl rfl rfl (xin_ge c_1 c_7 (by decide)) [(h0, .inr (3, [.ref h1])), (h1, .inl (cI, 32, .inl (upd τ p0.toNatClampNeg p1)))] rfl dX3_place_16 (fun H locs hP hD hS => ?_)
      exact hend _ _ _ _ _ dX3_place_17 (fX3_place_p2 p0 p1 τ c_1 c_7) hP hS

def fX3_count_4 (τ : FnI) : Nat → Int32 → Nat → Int32
  | 0, cnt, k => 0
  | n + 1, cnt, k => (if (32 : Int32) ≤ (nI k) then cnt else (if (τ k) = (-5 : Int32) then fX3_count_4 τ n cnt (k + 1) else fX3_count_4 τ n (cnt + (1 : Int32)) (k + 1)))
def fX3_count (τ : FnI) : Int32 := fX3_count_4 τ 33 (0 : Int32) 0
theorem fX3_count_4_p0 (τ : FnI) (n : Nat) (cnt : Int32) (k : Nat) (c_7 : (32 : Int32) ≤ (nI k)) : fX3_count_4 τ (n + 1) cnt k = cnt := by
  simp only [fX3_count_4, if_pos c_7]
theorem fX3_count_4_p1 (τ : FnI) (n : Nat) (cnt : Int32) (k : Nat) (c_7 : ¬ (32 : Int32) ≤ (nI k)) (c_18 : (τ k) = (-5 : Int32)) : fX3_count_4 τ (n + 1) cnt k = fX3_count_4 τ n cnt (k + 1) := by
  simp only [fX3_count_4, if_neg c_7, if_pos c_18]
theorem fX3_count_4_p2 (τ : FnI) (n : Nat) (cnt : Int32) (k : Nat) (c_7 : ¬ (32 : Int32) ≤ (nI k)) (c_18 : ¬ (τ k) = (-5 : Int32)) : fX3_count_4 τ (n + 1) cnt k = fX3_count_4 τ n (cnt + (1 : Int32)) (k + 1) := by
  simp only [fX3_count_4, if_neg c_7, if_neg c_18]
theorem fX3_count_p3 (τ : FnI) : (fX3_count τ) = fX3_count_4 τ 33 (0 : Int32) 0 := by
  simp only [fX3_count]
set_option maxHeartbeats 4000000 in
set_option maxRecDepth 100000 in
theorem kX3_count (l : Launch) (D : va_G) (cI cS : ClassId) (h0 h1 : Nat) (τ : FnI) : KR l yX3_count wsX3_count { frames := 0, cells := 0, slots := 0, locals := 0 } D (tysA cI cS) [.ref h0] [(h0, .inr (3, [.ref h1])), (h1, .inl (cI, 32, .inl τ))] (fX3_count τ) := by
  refine KR.of (cc := cX3_count) (maxL := 3) (ty := .int) (by decide) rfl (Nat.le_of_ble_eq_true rfl) rfl (fun p e s m args below meth c ls Q hx hb hml hown hts hE hP hl hend => ?_)
  have hown : s.vm.findClass RX3 = some m.cls := hown
  have hl : lv_has ls 3 [(0, .ref h0)] := hl
  have loop_4 : ∀ (n : Nat) (cnt : Int32) (k : Nat), k ≤ 32 → 32 - k < n → (fX3_count τ) = fX3_count_4 τ n cnt k → ∀ (ls : Array Slot), lv_has ls 3 [(0, .ref h0), (1, .int cnt), (2, .int (nI k))] → W p l e { frames := 0, cells := 0, slots := 0, locals := 0 } s m args below meth c s.heap [] 0 0 Q (F0 m 4 ls []) := by
    intro n
    induction n with
    | zero =>
      intro cnt k hk hn
      exact absurd hn (by omega)
    | succ n ih =>
      intro cnt k hk hn hF ls hl
      refine lv_iload_n hx hb dX3_count_4 rfl (lv_at hl 2 rfl) ?_
      refine lv_bipush (v := (32 : Int32)) hx hb dX3_count_5 (by decide +kernel) ?_
      refine lv_icmp_ge (tgt := 30) hx hb dX3_count_7 (by decide) (fun c_7 => ?_) (fun c_7 => ?_)
      · have d_7 : 32 ≤ k := (nI_leI (a := 32) (b := k) (by omega) (by omega)).mp c_7
        refine lv_iload_n hx hb dX3_count_30 rfl (lv_at hl 1 rfl) ?_
        exact hend _ _ _ dX3_count_31 rfl (hF.trans (fX3_count_4_p0 τ n cnt k c_7))
      · have d_7 : k < 32 := Nat.lt_of_not_le (fun q => c_7 ((nI_leI (a := 32) (b := k) (by omega) (by omega)).mpr q))
        refine lv_aload_n hx hb dX3_count_10 rfl (lv_at hl 0 rfl) ?_
        refine va_get (D := D) (ci := 3) (v := .ref h1) (C := RX3) (T := TX3) (N := 1) hx hb hts (fun _ h9 => List.mem_cons_of_mem _ (List.mem_append_right _ h9)) hown hE.1 hP 0 rfl rfl 0 (by decide) (hts (.fieldLink RX3 9 "ShadowTable$Rows" "values" "[I") (List.mem_of_getElem? (i := 1) rfl)) (fun _ h9 => h9) rfl dX3_count_11 ?_
        refine lv_iload_n hx hb dX3_count_14 rfl (lv_at hl 2 rfl) ?_
        refine xld (v := (τ k)) (j := k) hx hb hE hP 1 rfl rfl (nI_clamp (by omega)) (vp_in_nI (by omega) (by omega)) rfl dX3_count_15 ?_
        refine lv_bipush (v := (-5 : Int32)) hx hb dX3_count_16 (by decide +kernel) ?_
        refine lv_icmp_eq (tgt := 24) hx hb dX3_count_18 (by decide) (fun c_18 => ?_) (fun c_18 => ?_)
        · refine lv_iinc (v := (nI (k + 1))) (lv' := [(2, .int (nI (k + 1))), (0, .ref h0), (1, .int cnt)]) hx hb dX3_count_24 hl (k := 2) rfl (nI_1 _) (by decide) rfl (fun ls hl => ?_)
          refine lv_goto (tgt := 4) hx hb dX3_count_27 (by decide) ?_
          exact ih cnt (k + 1) (by omega) (by omega) (hF.trans (fX3_count_4_p1 τ n cnt k c_7 c_18)) _ (lv_sub hl [1, 2, 0] rfl)
        · refine lv_iinc (v := (cnt + (1 : Int32))) (lv' := [(1, .int (cnt + (1 : Int32))), (0, .ref h0), (2, .int (nI k))]) hx hb dX3_count_21 hl (k := 1) rfl rfl (by decide) rfl (fun ls hl => ?_)
          refine lv_iinc (v := (nI (k + 1))) (lv' := [(2, .int (nI (k + 1))), (1, .int (cnt + (1 : Int32))), (0, .ref h0)]) hx hb dX3_count_24 hl (k := 2) rfl (nI_1 _) (by decide) rfl (fun ls hl => ?_)
          refine lv_goto (tgt := 4) hx hb dX3_count_27 (by decide) ?_
          exact ih (cnt + (1 : Int32)) (k + 1) (by omega) (by omega) (hF.trans (fX3_count_4_p2 τ n cnt k c_7 c_18)) _ (lv_sub hl [2, 1, 0] rfl)
  refine lv_iconst (v := (0 : Int32)) hx hb dX3_count_0 (by decide +kernel) ?_
  refine lv_istore_n (lv' := [(1, .int (0 : Int32)), (0, .ref h0)]) hx hb dX3_count_1 rfl hl (by decide) rfl (fun ls hl => ?_)
  refine lv_iconst (v := (0 : Int32)) hx hb dX3_count_2 (by decide +kernel) ?_
  refine lv_istore_n (lv' := [(2, .int (0 : Int32)), (1, .int (0 : Int32)), (0, .ref h0)]) hx hb dX3_count_3 rfl hl (by decide) rfl (fun ls hl => ?_)
  exact loop_4 33 (0 : Int32) 0 (by omega) (by omega) (fX3_count_p3 τ) _ (lv_sub hl [2, 1, 0] rfl)

def fX3_sum_4 (τ : FnI) : Nat → Int32 → Nat → Int32
  | 0, cnt, k => 0
  | n + 1, cnt, k => (if (32 : Int32) ≤ (nI k) then cnt else (if (τ k) = (-5 : Int32) then fX3_sum_4 τ n cnt (k + 1) else fX3_sum_4 τ n (cnt + (τ k)) (k + 1)))
def fX3_sum (τ : FnI) : Int32 := fX3_sum_4 τ 33 (0 : Int32) 0
theorem fX3_sum_4_p0 (τ : FnI) (n : Nat) (cnt : Int32) (k : Nat) (c_7 : (32 : Int32) ≤ (nI k)) : fX3_sum_4 τ (n + 1) cnt k = cnt := by
  simp only [fX3_sum_4, if_pos c_7]
theorem fX3_sum_4_p1 (τ : FnI) (n : Nat) (cnt : Int32) (k : Nat) (c_7 : ¬ (32 : Int32) ≤ (nI k)) (c_18 : (τ k) = (-5 : Int32)) : fX3_sum_4 τ (n + 1) cnt k = fX3_sum_4 τ n cnt (k + 1) := by
  simp only [fX3_sum_4, if_neg c_7, if_pos c_18]
theorem fX3_sum_4_p2 (τ : FnI) (n : Nat) (cnt : Int32) (k : Nat) (c_7 : ¬ (32 : Int32) ≤ (nI k)) (c_18 : ¬ (τ k) = (-5 : Int32)) : fX3_sum_4 τ (n + 1) cnt k = fX3_sum_4 τ n (cnt + (τ k)) (k + 1) := by
  simp only [fX3_sum_4, if_neg c_7, if_neg c_18]
theorem fX3_sum_p3 (τ : FnI) : (fX3_sum τ) = fX3_sum_4 τ 33 (0 : Int32) 0 := by
  simp only [fX3_sum]
set_option maxHeartbeats 4000000 in
set_option maxRecDepth 100000 in
theorem kX3_sum (l : Launch) (D : va_G) (cI cS : ClassId) (h0 h1 : Nat) (τ : FnI) : KR l yX3_sum wsX3_sum { frames := 0, cells := 0, slots := 0, locals := 0 } D (tysA cI cS) [.ref h0] [(h0, .inr (3, [.ref h1])), (h1, .inl (cI, 32, .inl τ))] (fX3_sum τ) := by
  refine KR.of (cc := cX3_sum) (maxL := 3) (ty := .int) (by decide) rfl (Nat.le_of_ble_eq_true rfl) rfl (fun p e s m args below meth c ls Q hx hb hml hown hts hE hP hl hend => ?_)
  have hown : s.vm.findClass RX3 = some m.cls := hown
  have hl : lv_has ls 3 [(0, .ref h0)] := hl
  have loop_4 : ∀ (n : Nat) (cnt : Int32) (k : Nat), k ≤ 32 → 32 - k < n → (fX3_sum τ) = fX3_sum_4 τ n cnt k → ∀ (ls : Array Slot), lv_has ls 3 [(0, .ref h0), (1, .int cnt), (2, .int (nI k))] → W p l e { frames := 0, cells := 0, slots := 0, locals := 0 } s m args below meth c s.heap [] 0 0 Q (F0 m 4 ls []) := by
    intro n
    induction n with
    | zero =>
      intro cnt k hk hn
      exact absurd hn (by omega)
    | succ n ih =>
      intro cnt k hk hn hF ls hl
      refine lv_iload_n hx hb dX3_sum_4 rfl (lv_at hl 2 rfl) ?_
      refine lv_bipush (v := (32 : Int32)) hx hb dX3_sum_5 (by decide +kernel) ?_
      refine lv_icmp_ge (tgt := 36) hx hb dX3_sum_7 (by decide) (fun c_7 => ?_) (fun c_7 => ?_)
      · have d_7 : 32 ≤ k := (nI_leI (a := 32) (b := k) (by omega) (by omega)).mp c_7
        refine lv_iload_n hx hb dX3_sum_36 rfl (lv_at hl 1 rfl) ?_
        exact hend _ _ _ dX3_sum_37 rfl (hF.trans (fX3_sum_4_p0 τ n cnt k c_7))
      · have d_7 : k < 32 := Nat.lt_of_not_le (fun q => c_7 ((nI_leI (a := 32) (b := k) (by omega) (by omega)).mpr q))
        refine lv_aload_n hx hb dX3_sum_10 rfl (lv_at hl 0 rfl) ?_
        refine va_get (D := D) (ci := 3) (v := .ref h1) (C := RX3) (T := TX3) (N := 1) hx hb hts (fun _ h9 => List.mem_cons_of_mem _ (List.mem_append_right _ h9)) hown hE.1 hP 0 rfl rfl 0 (by decide) (hts (.fieldLink RX3 9 "ShadowTable$Rows" "values" "[I") (List.mem_of_getElem? (i := 1) rfl)) (fun _ h9 => h9) rfl dX3_sum_11 ?_
        refine lv_iload_n hx hb dX3_sum_14 rfl (lv_at hl 2 rfl) ?_
        refine xld (v := (τ k)) (j := k) hx hb hE hP 1 rfl rfl (nI_clamp (by omega)) (vp_in_nI (by omega) (by omega)) rfl dX3_sum_15 ?_
        refine lv_bipush (v := (-5 : Int32)) hx hb dX3_sum_16 (by decide +kernel) ?_
        refine lv_icmp_eq (tgt := 30) hx hb dX3_sum_18 (by decide) (fun c_18 => ?_) (fun c_18 => ?_)
        · refine lv_iinc (v := (nI (k + 1))) (lv' := [(2, .int (nI (k + 1))), (0, .ref h0), (1, .int cnt)]) hx hb dX3_sum_30 hl (k := 2) rfl (nI_1 _) (by decide) rfl (fun ls hl => ?_)
          refine lv_goto (tgt := 4) hx hb dX3_sum_33 (by decide) ?_
          exact ih cnt (k + 1) (by omega) (by omega) (hF.trans (fX3_sum_4_p1 τ n cnt k c_7 c_18)) _ (lv_sub hl [1, 2, 0] rfl)
        · refine lv_iload_n hx hb dX3_sum_21 rfl (lv_at hl 1 rfl) ?_
          refine lv_aload_n hx hb dX3_sum_22 rfl (lv_at hl 0 rfl) ?_
          refine va_get (D := D) (ci := 3) (v := .ref h1) (C := RX3) (T := TX3) (N := 1) hx hb hts (fun _ h9 => List.mem_cons_of_mem _ (List.mem_append_right _ h9)) hown hE.1 hP 0 rfl rfl 0 (by decide) (hts (.fieldLink RX3 9 "ShadowTable$Rows" "values" "[I") (List.mem_of_getElem? (i := 1) rfl)) (fun _ h9 => h9) rfl dX3_sum_23 ?_
          refine lv_iload_n hx hb dX3_sum_26 rfl (lv_at hl 2 rfl) ?_
          refine xld (v := (τ k)) (j := k) hx hb hE hP 1 rfl rfl (nI_clamp (by omega)) (vp_in_nI (by omega) (by omega)) rfl dX3_sum_27 ?_
          refine lv_iadd hx hb dX3_sum_28 ?_
          refine lv_istore_n (lv' := [(1, .int (cnt + (τ k))), (0, .ref h0), (2, .int (nI k))]) hx hb dX3_sum_29 rfl hl (by decide) rfl (fun ls hl => ?_)
          refine lv_iinc (v := (nI (k + 1))) (lv' := [(2, .int (nI (k + 1))), (1, .int (cnt + (τ k))), (0, .ref h0)]) hx hb dX3_sum_30 hl (k := 2) rfl (nI_1 _) (by decide) rfl (fun ls hl => ?_)
          refine lv_goto (tgt := 4) hx hb dX3_sum_33 (by decide) ?_
          exact ih (cnt + (τ k)) (k + 1) (by omega) (by omega) (hF.trans (fX3_sum_4_p2 τ n cnt k c_7 c_18)) _ (lv_sub hl [2, 1, 0] rfl)
  refine lv_iconst (v := (0 : Int32)) hx hb dX3_sum_0 (by decide +kernel) ?_
  refine lv_istore_n (lv' := [(1, .int (0 : Int32)), (0, .ref h0)]) hx hb dX3_sum_1 rfl hl (by decide) rfl (fun ls hl => ?_)
  refine lv_iconst (v := (0 : Int32)) hx hb dX3_sum_2 (by decide +kernel) ?_
  refine lv_istore_n (lv' := [(2, .int (0 : Int32)), (1, .int (0 : Int32)), (0, .ref h0)]) hx hb dX3_sum_3 rfl hl (by decide) rfl (fun ls hl => ?_)
  exact loop_4 33 (0 : Int32) 0 (by omega) (by omega) (fX3_sum_p3 τ) _ (lv_sub hl [2, 1, 0] rfl)

def fX3_leastKey_2 (τ : FnI) : Nat → Nat → Int32
  | 0, k => 0
  | n + 1, k => (if (32 : Int32) ≤ (nI k) then (-5 : Int32) else (if (τ k) = (-5 : Int32) then fX3_leastKey_2 τ n (k + 1) else (nI k)))
def fX3_leastKey (τ : FnI) : Int32 := fX3_leastKey_2 τ 33 0
theorem fX3_leastKey_2_p0 (τ : FnI) (n : Nat) (k : Nat) (c_5 : (32 : Int32) ≤ (nI k)) : fX3_leastKey_2 τ (n + 1) k = (-5 : Int32) := by
  simp only [fX3_leastKey_2, if_pos c_5]
theorem fX3_leastKey_2_p1 (τ : FnI) (n : Nat) (k : Nat) (c_5 : ¬ (32 : Int32) ≤ (nI k)) (c_16 : (τ k) = (-5 : Int32)) : fX3_leastKey_2 τ (n + 1) k = fX3_leastKey_2 τ n (k + 1) := by
  simp only [fX3_leastKey_2, if_neg c_5, if_pos c_16]
theorem fX3_leastKey_2_p2 (τ : FnI) (n : Nat) (k : Nat) (c_5 : ¬ (32 : Int32) ≤ (nI k)) (c_16 : ¬ (τ k) = (-5 : Int32)) : fX3_leastKey_2 τ (n + 1) k = (nI k) := by
  simp only [fX3_leastKey_2, if_neg c_5, if_neg c_16]
theorem fX3_leastKey_p3 (τ : FnI) : (fX3_leastKey τ) = fX3_leastKey_2 τ 33 0 := by
  simp only [fX3_leastKey]
set_option maxHeartbeats 4000000 in
set_option maxRecDepth 100000 in
theorem kX3_leastKey (l : Launch) (D : va_G) (cI cS : ClassId) (h0 h1 : Nat) (τ : FnI) : KR l yX3_leastKey wsX3_leastKey { frames := 0, cells := 0, slots := 0, locals := 0 } D (tysA cI cS) [.ref h0] [(h0, .inr (3, [.ref h1])), (h1, .inl (cI, 32, .inl τ))] (fX3_leastKey τ) := by
  refine KR.of (cc := cX3_leastKey) (maxL := 2) (ty := .int) (by decide) rfl (Nat.le_of_ble_eq_true rfl) rfl (fun p e s m args below meth c ls Q hx hb hml hown hts hE hP hl hend => ?_)
  have hown : s.vm.findClass RX3 = some m.cls := hown
  have hl : lv_has ls 2 [(0, .ref h0)] := hl
  have loop_2 : ∀ (n : Nat) (k : Nat), k ≤ 32 → 32 - k < n → (fX3_leastKey τ) = fX3_leastKey_2 τ n k → ∀ (ls : Array Slot), lv_has ls 2 [(0, .ref h0), (1, .int (nI k))] → W p l e { frames := 0, cells := 0, slots := 0, locals := 0 } s m args below meth c s.heap [] 0 0 Q (F0 m 2 ls []) := by
    intro n
    induction n with
    | zero =>
      intro k hk hn
      exact absurd hn (by omega)
    | succ n ih =>
      intro k hk hn hF ls hl
      refine lv_iload_n hx hb dX3_leastKey_2 rfl (lv_at hl 1 rfl) ?_
      refine lv_bipush (v := (32 : Int32)) hx hb dX3_leastKey_3 (by decide +kernel) ?_
      refine lv_icmp_ge (tgt := 27) hx hb dX3_leastKey_5 (by decide) (fun c_5 => ?_) (fun c_5 => ?_)
      · have d_5 : 32 ≤ k := (nI_leI (a := 32) (b := k) (by omega) (by omega)).mp c_5
        refine lv_bipush (v := (-5 : Int32)) hx hb dX3_leastKey_27 (by decide +kernel) ?_
        exact hend _ _ _ dX3_leastKey_29 rfl (hF.trans (fX3_leastKey_2_p0 τ n k c_5))
      · have d_5 : k < 32 := Nat.lt_of_not_le (fun q => c_5 ((nI_leI (a := 32) (b := k) (by omega) (by omega)).mpr q))
        refine lv_aload_n hx hb dX3_leastKey_8 rfl (lv_at hl 0 rfl) ?_
        refine va_get (D := D) (ci := 3) (v := .ref h1) (C := RX3) (T := TX3) (N := 1) hx hb hts (fun _ h9 => List.mem_cons_of_mem _ (List.mem_append_right _ h9)) hown hE.1 hP 0 rfl rfl 0 (by decide) (hts (.fieldLink RX3 9 "ShadowTable$Rows" "values" "[I") (List.mem_of_getElem? (i := 1) rfl)) (fun _ h9 => h9) rfl dX3_leastKey_9 ?_
        refine lv_iload_n hx hb dX3_leastKey_12 rfl (lv_at hl 1 rfl) ?_
        refine xld (v := (τ k)) (j := k) hx hb hE hP 1 rfl rfl (nI_clamp (by omega)) (vp_in_nI (by omega) (by omega)) rfl dX3_leastKey_13 ?_
        refine lv_bipush (v := (-5 : Int32)) hx hb dX3_leastKey_14 (by decide +kernel) ?_
        refine lv_icmp_eq (tgt := 21) hx hb dX3_leastKey_16 (by decide) (fun c_16 => ?_) (fun c_16 => ?_)
        · refine lv_iinc (v := (nI (k + 1))) (lv' := [(1, .int (nI (k + 1))), (0, .ref h0)]) hx hb dX3_leastKey_21 hl (k := 1) rfl (nI_1 _) (by decide) rfl (fun ls hl => ?_)
          refine lv_goto (tgt := 2) hx hb dX3_leastKey_24 (by decide) ?_
          exact ih (k + 1) (by omega) (by omega) (hF.trans (fX3_leastKey_2_p1 τ n k c_5 c_16)) _ (lv_sub hl [1, 0] rfl)
        · refine lv_iload_n hx hb dX3_leastKey_19 rfl (lv_at hl 1 rfl) ?_
          exact hend _ _ _ dX3_leastKey_20 rfl (hF.trans (fX3_leastKey_2_p2 τ n k c_5 c_16))
  refine lv_iconst (v := (0 : Int32)) hx hb dX3_leastKey_0 (by decide +kernel) ?_
  refine lv_istore_n (lv' := [(1, .int (0 : Int32)), (0, .ref h0)]) hx hb dX3_leastKey_1 rfl hl (by decide) rfl (fun ls hl => ?_)
  exact loop_2 33 0 (by omega) (by omega) (fX3_leastKey_p3 τ) _ (lv_sub hl [1, 0] rfl)

def fX3_greatestKey_3 (τ : FnI) : Nat → Int32 → Int32
  | 0, x => 0
  | n + 1, x => (if x < (0 : Int32) then (-5 : Int32) else (if (τ x.toNatClampNeg) = (-5 : Int32) then fX3_greatestKey_3 τ n (x + (-1 : Int32)) else x))
def fX3_greatestKey (τ : FnI) : Int32 := fX3_greatestKey_3 τ 33 (31 : Int32)
theorem fX3_greatestKey_3_p0 (τ : FnI) (n : Nat) (x : Int32) (c_4 : x < (0 : Int32)) : fX3_greatestKey_3 τ (n + 1) x = (-5 : Int32) := by
  simp only [fX3_greatestKey_3, if_pos c_4]
theorem fX3_greatestKey_3_p1 (τ : FnI) (n : Nat) (x : Int32) (c_4 : ¬ x < (0 : Int32)) (c_15 : (τ x.toNatClampNeg) = (-5 : Int32)) : fX3_greatestKey_3 τ (n + 1) x = fX3_greatestKey_3 τ n (x + (-1 : Int32)) := by
  simp only [fX3_greatestKey_3, if_neg c_4, if_pos c_15]
theorem fX3_greatestKey_3_p2 (τ : FnI) (n : Nat) (x : Int32) (c_4 : ¬ x < (0 : Int32)) (c_15 : ¬ (τ x.toNatClampNeg) = (-5 : Int32)) : fX3_greatestKey_3 τ (n + 1) x = x := by
  simp only [fX3_greatestKey_3, if_neg c_4, if_neg c_15]
theorem fX3_greatestKey_p3 (τ : FnI) : (fX3_greatestKey τ) = fX3_greatestKey_3 τ 33 (31 : Int32) := by
  simp only [fX3_greatestKey]
set_option maxHeartbeats 4000000 in
set_option maxRecDepth 100000 in
theorem kX3_greatestKey (l : Launch) (D : va_G) (cI cS : ClassId) (h0 h1 : Nat) (τ : FnI) : KR l yX3_greatestKey wsX3_greatestKey { frames := 0, cells := 0, slots := 0, locals := 0 } D (tysA cI cS) [.ref h0] [(h0, .inr (3, [.ref h1])), (h1, .inl (cI, 32, .inl τ))] (fX3_greatestKey τ) := by
  refine KR.of (cc := cX3_greatestKey) (maxL := 2) (ty := .int) (by decide) rfl (Nat.le_of_ble_eq_true rfl) rfl (fun p e s m args below meth c ls Q hx hb hml hown hts hE hP hl hend => ?_)
  have hown : s.vm.findClass RX3 = some m.cls := hown
  have hl : lv_has ls 2 [(0, .ref h0)] := hl
  have loop_3 : ∀ (n : Nat) (x : Int32), -1 ≤ x.toInt → x.toInt ≤ 31 → x.toInt + 1 < n → (fX3_greatestKey τ) = fX3_greatestKey_3 τ n x → ∀ (ls : Array Slot), lv_has ls 2 [(0, .ref h0), (1, .int x)] → W p l e { frames := 0, cells := 0, slots := 0, locals := 0 } s m args below meth c s.heap [] 0 0 Q (F0 m 3 ls []) := by
    intro n
    induction n with
    | zero =>
      intro x hv1 hv2 hn
      exact absurd hn (by omega)
    | succ n ih =>
      intro x hv1 hv2 hn hF ls hl
      refine lv_iload_n hx hb dX3_greatestKey_3 rfl (lv_at hl 1 rfl) ?_
      refine lv_if_lt (tgt := 26) hx hb dX3_greatestKey_4 (by decide) (fun c_4 => ?_) (fun c_4 => ?_)
      · refine lv_bipush (v := (-5 : Int32)) hx hb dX3_greatestKey_26 (by decide +kernel) ?_
        exact hend _ _ _ dX3_greatestKey_28 rfl (hF.trans (fX3_greatestKey_3_p0 τ n x c_4))
      · refine lv_aload_n hx hb dX3_greatestKey_7 rfl (lv_at hl 0 rfl) ?_
        refine va_get (D := D) (ci := 3) (v := .ref h1) (C := RX3) (T := TX3) (N := 1) hx hb hts (fun _ h9 => List.mem_cons_of_mem _ (List.mem_append_right _ h9)) hown hE.1 hP 0 rfl rfl 0 (by decide) (hts (.fieldLink RX3 9 "ShadowTable$Rows" "values" "[I") (List.mem_of_getElem? (i := 1) rfl)) (fun _ h9 => h9) rfl dX3_greatestKey_8 ?_
        refine lv_iload_n hx hb dX3_greatestKey_11 rfl (lv_at hl 1 rfl) ?_
        refine xld (v := (τ x.toNatClampNeg)) (j := x.toNatClampNeg) hx hb hE hP 1 rfl rfl rfl (zz_in31 c_4 hv2) rfl dX3_greatestKey_12 ?_
        refine lv_bipush (v := (-5 : Int32)) hx hb dX3_greatestKey_13 (by decide +kernel) ?_
        refine lv_icmp_eq (tgt := 20) hx hb dX3_greatestKey_15 (by decide) (fun c_15 => ?_) (fun c_15 => ?_)
        · refine lv_iinc (v := (x + (-1 : Int32))) (lv' := [(1, .int (x + (-1 : Int32))), (0, .ref h0)]) hx hb dX3_greatestKey_20 hl (k := 1) rfl rfl (by decide) rfl (fun ls hl => ?_)
          refine lv_goto (tgt := 3) hx hb dX3_greatestKey_23 (by decide) ?_
          have hd := zz_dec c_4 hv2
          have hp := zz_nn c_4
          exact ih (x + (-1 : Int32)) (by omega) (by omega) (by omega) (hF.trans (fX3_greatestKey_3_p1 τ n x c_4 c_15)) _ (lv_sub hl [1, 0] rfl)
        · refine lv_iload_n hx hb dX3_greatestKey_18 rfl (lv_at hl 1 rfl) ?_
          exact hend _ _ _ dX3_greatestKey_19 rfl (hF.trans (fX3_greatestKey_3_p2 τ n x c_4 c_15))
  refine lv_bipush (v := (31 : Int32)) hx hb dX3_greatestKey_0 (by decide +kernel) ?_
  refine lv_istore_n (lv' := [(1, .int (31 : Int32)), (0, .ref h0)]) hx hb dX3_greatestKey_2 rfl hl (by decide) rfl (fun ls hl => ?_)
  exact loop_3 33 (31 : Int32) (by decide) (by decide) (by decide) (fX3_greatestKey_p3 τ) _ (lv_sub hl [1, 0] rfl)

def fX3_tell (p0 : Int32) (τ : FnI) : Int32 := (if p0 = (0 : Int32) then (fX3_count τ) else (if p0 = (1 : Int32) then (fX3_sum τ) else (if p0 = (2 : Int32) then (fX3_leastKey τ) else (fX3_greatestKey τ))))
theorem fX3_tell_p0 (p0 : Int32) (τ : FnI) (c_1_0 : p0 = (0 : Int32)) : (fX3_tell p0 τ) = (fX3_count τ) := by
  simp only [fX3_tell, if_pos c_1_0]
theorem fX3_tell_p1 (p0 : Int32) (τ : FnI) (c_1_0 : ¬ p0 = (0 : Int32)) (c_1_1 : p0 = (1 : Int32)) : (fX3_tell p0 τ) = (fX3_sum τ) := by
  simp only [fX3_tell, if_neg c_1_0, if_pos c_1_1]
theorem fX3_tell_p2 (p0 : Int32) (τ : FnI) (c_1_0 : ¬ p0 = (0 : Int32)) (c_1_1 : ¬ p0 = (1 : Int32)) (c_1_2 : p0 = (2 : Int32)) : (fX3_tell p0 τ) = (fX3_leastKey τ) := by
  simp only [fX3_tell, if_neg c_1_0, if_neg c_1_1, if_pos c_1_2]
theorem fX3_tell_p3 (p0 : Int32) (τ : FnI) (c_1_0 : ¬ p0 = (0 : Int32)) (c_1_1 : ¬ p0 = (1 : Int32)) (c_1_2 : ¬ p0 = (2 : Int32)) : (fX3_tell p0 τ) = (fX3_greatestKey τ) := by
  simp only [fX3_tell, if_neg c_1_0, if_neg c_1_1, if_neg c_1_2]
set_option maxHeartbeats 4000000 in
set_option maxRecDepth 100000 in
theorem kX3_tell (l : Launch) (D : va_G) (cI cS : ClassId) (h0 h1 : Nat) (p0 : Int32) (τ : FnI) : KR l yX3_tell wsX3_tell { frames := 1, cells := 0, slots := 0, locals := 22 } D (tysA cI cS) [.ref h0, .int p0] [(h0, .inr (3, [.ref h1])), (h1, .inl (cI, 32, .inl τ))] (fX3_tell p0 τ) := by
  refine KR.of (cc := cX3_tell) (maxL := 2) (ty := .int) (by decide) rfl (Nat.le_of_ble_eq_true rfl) rfl (fun p e s m args below meth c ls Q hx hb hml hown hts hE hP hl hend => ?_)
  have hown : s.vm.findClass RX3 = some m.cls := hown
  have hl : lv_has ls 2 [(0, .ref h0), (1, .int p0)] := hl
  refine lv_iload_n hx hb dX3_tell_0 rfl (lv_at hl 1 rfl) ?_
  refine (Decidable.em (p0 = (0 : Int32))).elim (fun c_1_0 => ?_) (fun c_1_0 => ?_)
  · refine lv_tableIn (off := 27) (tgt := 28) hx hb dX3_tell_1 (by rw [c_1_0]; decide +kernel) (by rw [c_1_0]; decide +kernel) (by rw [c_1_0]; decide +kernel) (by decide) ?_
    refine lv_aload_n hx hb dX3_tell_28 rfl (lv_at hl 0 rfl) ?_
    refine cRV ⟨hx, hb, hml, hown, hts⟩ (kX3_count l D cI cS h0 h1 τ) (cwV 0 hts gX3_tell_X3_count rfl rfl rfl (by decide +kernel) ⟨Nat.le_of_ble_eq_true rfl, Nat.le_of_ble_eq_true rfl⟩) hE hP 0 rfl rfl [0, 1] rfl rfl hl.1 rfl (Nat.le_of_ble_eq_true rfl) ⟨Nat.zero_le _, Nat.zero_le _⟩ dX3_tell_29 ?_
    exact hend _ _ _ dX3_tell_32 rfl (fX3_tell_p0 p0 τ c_1_0)
  · refine (Decidable.em (p0 = (1 : Int32))).elim (fun c_1_1 => ?_) (fun c_1_1 => ?_)
    · refine lv_tableIn (off := 32) (tgt := 33) hx hb dX3_tell_1 (by rw [c_1_1]; decide +kernel) (by rw [c_1_1]; decide +kernel) (by rw [c_1_1]; decide +kernel) (by decide) ?_
      refine lv_aload_n hx hb dX3_tell_33 rfl (lv_at hl 0 rfl) ?_
      refine cRV ⟨hx, hb, hml, hown, hts⟩ (kX3_sum l D cI cS h0 h1 τ) (cwV 0 hts gX3_tell_X3_sum rfl rfl rfl (by decide +kernel) ⟨Nat.le_of_ble_eq_true rfl, Nat.le_of_ble_eq_true rfl⟩) hE hP 0 rfl rfl [0, 1] rfl rfl hl.1 rfl (Nat.le_of_ble_eq_true rfl) ⟨Nat.zero_le _, Nat.zero_le _⟩ dX3_tell_34 ?_
      exact hend _ _ _ dX3_tell_37 rfl (fX3_tell_p1 p0 τ c_1_0 c_1_1)
    · refine (Decidable.em (p0 = (2 : Int32))).elim (fun c_1_2 => ?_) (fun c_1_2 => ?_)
      · refine lv_tableIn (off := 37) (tgt := 38) hx hb dX3_tell_1 (by rw [c_1_2]; decide +kernel) (by rw [c_1_2]; decide +kernel) (by rw [c_1_2]; decide +kernel) (by decide) ?_
        refine lv_aload_n hx hb dX3_tell_38 rfl (lv_at hl 0 rfl) ?_
        refine cRV ⟨hx, hb, hml, hown, hts⟩ (kX3_leastKey l D cI cS h0 h1 τ) (cwV 0 hts gX3_tell_X3_leastKey rfl rfl rfl (by decide +kernel) ⟨Nat.le_of_ble_eq_true rfl, Nat.le_of_ble_eq_true rfl⟩) hE hP 0 rfl rfl [0, 1] rfl rfl hl.1 rfl (Nat.le_of_ble_eq_true rfl) ⟨Nat.zero_le _, Nat.zero_le _⟩ dX3_tell_39 ?_
        exact hend _ _ _ dX3_tell_42 rfl (fX3_tell_p2 p0 τ c_1_0 c_1_1 c_1_2)
      · refine xtabD (tgt := 43) hx hb dX3_tell_1 (xno_cons (a := 0) c_1_0 (by decide) (xno_cons (a := 1) c_1_1 (by decide) (xno_cons (a := 2) c_1_2 (by decide) xno_nil))) (by decide +kernel) (by decide) ?_
        refine lv_aload_n hx hb dX3_tell_43 rfl (lv_at hl 0 rfl) ?_
        refine cRV ⟨hx, hb, hml, hown, hts⟩ (kX3_greatestKey l D cI cS h0 h1 τ) (cwV 0 hts gX3_tell_X3_greatestKey rfl rfl rfl (by decide +kernel) ⟨Nat.le_of_ble_eq_true rfl, Nat.le_of_ble_eq_true rfl⟩) hE hP 0 rfl rfl [0, 1] rfl rfl hl.1 rfl (Nat.le_of_ble_eq_true rfl) ⟨Nat.zero_le _, Nat.zero_le _⟩ dX3_tell_44 ?_
        exact hend _ _ _ dX3_tell_47 rfl (fX3_tell_p3 p0 τ c_1_0 c_1_1 c_1_2)

def fX3_removeAll (τ : FnI) : FnI := (let u_6 := (fJ7_fill_53178 (-5 : Int32) τ); u_6)
theorem fX3_removeAll_p0 (τ : FnI) (u_6 : FnI) (e_6 : (fJ7_fill_53178 (-5 : Int32) τ) = u_6) : (fX3_removeAll τ) = u_6 := by
  simp only [fX3_removeAll, e_6]
set_option maxHeartbeats 4000000 in
set_option maxRecDepth 100000 in
theorem kX3_removeAll (l : Launch) (D : va_G) (cI cS : ClassId) (h0 h1 : Nat) (τ : FnI) : KV l yX3_removeAll wsX3_removeAll { frames := 1, cells := 0, slots := 0, locals := 23 } D (tysA cI cS) [.ref h0] [(h0, .inr (3, [.ref h1])), (h1, .inl (cI, 32, .inl τ))] (fX3_removeAll τ) (fun u => [(h0, .inr (3, [.ref h1])), (h1, .inl (cI, 32, .inl u))]) := by
  refine KV.of (cc := cX3_removeAll) (maxL := 1) (by decide) rfl (Nat.le_of_ble_eq_true rfl) rfl (fun p e s m args below meth c ls Q A hx hb hml hown hts hE hP hD hS hl hend => ?_)
  have hown : s.vm.findClass RX3 = some m.cls := hown
  have hl : lv_has ls 1 [(0, .ref h0)] := hl
  refine lv_aload_n hx hb dX3_removeAll_0 rfl (lv_at hl 0 rfl) ?_
  refine va_get (D := D) (ci := 3) (v := .ref h1) (C := RX3) (T := TX3) (N := 1) hx hb hts (fun _ h9 => List.mem_cons_of_mem _ (List.mem_append_right _ h9)) hown hE.1 hP 0 rfl rfl 0 (by decide) (hts (.fieldLink RX3 9 "ShadowTable$Rows" "values" "[I") (List.mem_of_getElem? (i := 1) rfl)) (fun _ h9 => h9) rfl dX3_removeAll_1 ?_
  refine lv_bipush (v := (-5 : Int32)) hx hb dX3_removeAll_4 (by decide +kernel) ?_
  refine cVS ⟨hx, hb, hml, hown, hts⟩ (kJ7_fill_53178 l D cI cS h1 (-5 : Int32) τ) (va_cwS 2 hts gX3_removeAll_J7_fill_53178 rfl rfl rfl (by decide +kernel) ⟨Nat.le_of_ble_eq_true rfl, Nat.le_of_ble_eq_true rfl⟩) hE hP hD hS [1] rfl (by decide) (fun _ => rfl) rfl hl.1 rfl (Nat.le_of_ble_eq_true rfl) ⟨Nat.zero_le _, Nat.zero_le _⟩ dX3_removeAll_6 (fun u_6 H locs e_6 hP hD hS => ?_)
  have hP : va_P D vwCl [(h0, .inr (3, [.ref h1])), (h1, .inl (cI, 32, .inl u_6))] H := hP
  have hD : va_D A [(h0, .inr (3, [.ref h1])), (h1, .inl (cI, 32, .inl u_6))] := hD
  exact hend _ _ _ _ _ dX3_removeAll_9 (fX3_removeAll_p0 τ u_6 e_6) hP hS

def fX3_take (τ : FnI) (υ : FnI) : FnI := υ
theorem fX3_take_p0 (τ : FnI) (υ : FnI) : (fX3_take τ υ) = υ := by
  simp only [fX3_take]
set_option maxHeartbeats 4000000 in
set_option maxRecDepth 100000 in
theorem kX3_take (l : Launch) (D : va_G) (cI cS : ClassId) (h0 h1 h2 h3 : Nat) (τ : FnI) (υ : FnI) : KV l yX3_take wsX3_take { frames := 1, cells := 0, slots := 0, locals := 24 } D (tysA cI cS) [.ref h0, .ref h2] [(h0, .inr (3, [.ref h1])), (h1, .inl (cI, 32, .inl τ)), (h2, .inr (3, [.ref h3])), (h3, .inl (cI, 32, .inl υ))] (fX3_take τ υ) (fun u => [(h0, .inr (3, [.ref h1])), (h1, .inl (cI, 32, .inl u)), (h2, .inr (3, [.ref h3])), (h3, .inl (cI, 32, .inl υ))]) := by
  refine KV.of (cc := cX3_take) (maxL := 2) (by decide) rfl (Nat.le_of_ble_eq_true rfl) rfl (fun p e s m args below meth c ls Q A hx hb hml hown hts hE hP hD hS hl hend => ?_)
  have hown : s.vm.findClass RX3 = some m.cls := hown
  have hl : lv_has ls 2 [(0, .ref h0), (1, .ref h2)] := hl
  refine lv_aload_n hx hb dX3_take_0 rfl (lv_at hl 1 rfl) ?_
  refine va_get (D := D) (ci := 3) (v := .ref h3) (C := RX3) (T := TX3) (N := 1) hx hb hts (fun _ h9 => List.mem_cons_of_mem _ (List.mem_append_right _ h9)) hown hE.1 hP 2 rfl rfl 0 (by decide) (hts (.fieldLink RX3 9 "ShadowTable$Rows" "values" "[I") (List.mem_of_getElem? (i := 1) rfl)) (fun _ h9 => h9) rfl dX3_take_1 ?_
  refine lv_iconst (v := (0 : Int32)) hx hb dX3_take_4 (by decide +kernel) ?_
  refine lv_aload_n hx hb dX3_take_5 rfl (lv_at hl 0 rfl) ?_
  refine va_get (D := D) (ci := 3) (v := .ref h1) (C := RX3) (T := TX3) (N := 1) hx hb hts (fun _ h9 => List.mem_cons_of_mem _ (List.mem_append_right _ h9)) hown hE.1 hP 0 rfl rfl 0 (by decide) (hts (.fieldLink RX3 9 "ShadowTable$Rows" "values" "[I") (List.mem_of_getElem? (i := 1) rfl)) (fun _ h9 => h9) rfl dX3_take_6 ?_
  refine lv_iconst (v := (0 : Int32)) hx hb dX3_take_9 (by decide +kernel) ?_
  refine lv_bipush (v := (32 : Int32)) hx hb dX3_take_10 (by decide +kernel) ?_
  refine xcpy hx hb (hml.trans hl.1.symm) hown (hts (.methodLink RX3 21 arraycopyName) (List.mem_of_getElem? (i := 2) rfl)) (hts (.native arraycopyName) (List.mem_of_getElem? (i := 3) rfl)) (hts (.static arraycopyName) (List.mem_of_getElem? (i := 4) rfl)) (hts (.initialized "java/lang/System") (List.mem_of_getElem? (i := 5) rfl)) hE hP hD hS 3 1 rfl rfl rfl cl_32 (by decide) (Nat.le_of_ble_eq_true rfl) (Nat.le_of_ble_eq_true rfl) [(h0, .inr (3, [.ref h1])), (h1, .inl (cI, 32, .inl υ)), (h2, .inr (3, [.ref h3])), (h3, .inl (cI, 32, .inl υ))] rfl dX3_take_12 (fun H locs hP hD hS => ?_)
  exact hend _ _ _ _ _ dX3_take_15 (fX3_take_p0 τ υ) hP hS

def fX2_slotOf (p0 : Int32) (τ : LogT) : Int32 := ((τ.2.2.1 + p0) - (τ.2.2.1 + p0) / (24 : Int32) * (24 : Int32))
theorem fX2_slotOf_p0 (p0 : Int32) (τ : LogT) : (fX2_slotOf p0 τ) = ((τ.2.2.1 + p0) - (τ.2.2.1 + p0) / (24 : Int32) * (24 : Int32)) := by
  simp only [fX2_slotOf]
set_option maxHeartbeats 4000000 in
set_option maxRecDepth 100000 in
theorem kX2_slotOf (l : Launch) (D : va_G) (cI cS : ClassId) (h0 h1 h2 : Nat) (p0 : Int32) (τ : LogT) : KR l yX2_slotOf wsX2_slotOf { frames := 0, cells := 0, slots := 0, locals := 0 } D (tysA cI cS) [.ref h0, .int p0] [(h0, .inr (2, [.ref h1, .ref h2, .int τ.2.2.1, .int τ.2.2.2])), (h1, .inl (cI, 24, .inl τ.1)), (h2, .inl (cI, 24, .inl τ.2.1))] (fX2_slotOf p0 τ) := by
  refine KR.of (cc := cX2_slotOf) (maxL := 2) (ty := .int) (by decide) rfl (Nat.le_of_ble_eq_true rfl) rfl (fun p e s m args below meth c ls Q hx hb hml hown hts hE hP hl hend => ?_)
  have hown : s.vm.findClass RX2 = some m.cls := hown
  have hl : lv_has ls 2 [(0, .ref h0), (1, .int p0)] := hl
  refine lv_aload_n hx hb dX2_slotOf_0 rfl (lv_at hl 0 rfl) ?_
  refine va_get (D := D) (ci := 2) (v := .int τ.2.2.1) (C := RX2) (T := TX2) (N := 4) hx hb hts (fun _ h9 => List.mem_cons_of_mem _ (List.mem_append_right _ h9)) hown hE.1 hP 0 rfl rfl 2 (by decide) (hts (.fieldLink RX2 18 "ShadowTable$Log" "start" "I") (List.mem_of_getElem? (i := 1) rfl)) (fun _ h9 => h9) rfl dX2_slotOf_1 ?_
  refine lv_iload_n hx hb dX2_slotOf_4 rfl (lv_at hl 1 rfl) ?_
  refine lv_iadd hx hb dX2_slotOf_5 ?_
  refine lv_bipush (v := (24 : Int32)) hx hb dX2_slotOf_6 (by decide +kernel) ?_
  refine lv_irem hx hb dX2_slotOf_8 (by decide) ?_
  exact hend _ _ _ dX2_slotOf_9 rfl (fX2_slotOf_p0 p0 τ)

/-- a log whose start and size are in their ranges -/
def WL (τ : LogT) : Prop := Bd τ.2.2.1 23 ∧ Bd τ.2.2.2 24
theorem slot_eq {τ : LogT} {e : Nat} (hw : WL τ) (he : e < 2 ^ 30) : fX2_slotOf (nI e) τ = nI ((τ.2.2.1.toNatClampNeg + e) % 24) := by
  unfold fX2_slotOf
  have h := hw.1
  generalize τ.2.2.1 = x at h ⊢
  obtain ⟨h1, h2⟩ := h
  generalize x.toNatClampNeg = j at h1 h2 ⊢
  subst h1
  rw [nI_add, show (24 : Int32) = nI 24 from rfl, pk_rem (by omega) (by omega) (by omega)]
theorem zz_slotN {τ : LogT} {e : Nat} (hw : WL τ) (he : e < 2 ^ 30) : vp_in (fX2_slotOf (nI e) τ) 24 := by
  rw [slot_eq hw he]
  exact vp_in_nI (Nat.mod_lt _ (by omega)) (by omega)
theorem zz_slotS {τ : LogT} (hw : WL τ) : vp_in (fX2_slotOf τ.2.2.2 τ) 24 := by
  rw [hw.2.1]
  exact zz_slotN hw (by have := hw.2.2; omega)
theorem zz_slotE {τ : LogT} {x : Int32} (hw : WL τ) (h0 : ¬ x < (0 : Int32)) (h1 : ¬ τ.2.2.2 ≤ x) : vp_in (fX2_slotOf x τ) 24 := by
  obtain ⟨j, hj, e⟩ := nI_of h0
  subst e
  obtain ⟨k, hk, e⟩ := hw.2.num
  rw [e] at h1
  have h2 : j < k := Nat.lt_of_not_le (fun q => h1 (nI_le q hj))
  exact zz_slotN hw (by omega)

def fX2_removeAll (τ : LogT) : LogT := (τ.1, τ.2.1, (0 : Int32), (0 : Int32))
theorem fX2_removeAll_p0 (τ : LogT) : (fX2_removeAll τ) = (τ.1, τ.2.1, (0 : Int32), (0 : Int32)) := by
  simp only [fX2_removeAll]
set_option maxHeartbeats 4000000 in
set_option maxRecDepth 100000 in
theorem kX2_removeAll (l : Launch) (D : va_G) (cI cS : ClassId) (h0 h1 h2 : Nat) (τ : LogT) : KV l yX2_removeAll wsX2_removeAll { frames := 0, cells := 0, slots := 0, locals := 0 } D (tysA cI cS) [.ref h0] [(h0, .inr (2, [.ref h1, .ref h2, .int τ.2.2.1, .int τ.2.2.2])), (h1, .inl (cI, 24, .inl τ.1)), (h2, .inl (cI, 24, .inl τ.2.1))] (fX2_removeAll τ) (fun u => [(h0, .inr (2, [.ref h1, .ref h2, .int u.2.2.1, .int u.2.2.2])), (h1, .inl (cI, 24, .inl u.1)), (h2, .inl (cI, 24, .inl u.2.1))]) := by
  refine KV.of (cc := cX2_removeAll) (maxL := 1) (by decide) rfl (Nat.le_of_ble_eq_true rfl) rfl (fun p e s m args below meth c ls Q A hx hb hml hown hts hE hP hD hS hl hend => ?_)
  have hown : s.vm.findClass RX2 = some m.cls := hown
  have hl : lv_has ls 1 [(0, .ref h0)] := hl
  refine lv_aload_n hx hb dX2_removeAll_0 rfl (lv_at hl 0 rfl) ?_
  refine lv_iconst (v := (0 : Int32)) hx hb dX2_removeAll_1 (by decide +kernel) ?_
  refine xpf (ty := .int) (v := .int (0 : Int32)) (C := RX2) (T := TX2) (N := 4) hx hb hts (fun _ h9 => List.mem_cons_of_mem _ (List.mem_append_right _ h9)) tyX2 tyX2_ok nmX2 hown hE hP hD hS 0 rfl rfl 2 (by decide) (hts (.fieldLink RX2 18 "ShadowTable$Log" "start" "I") (List.mem_of_getElem? (i := 1) rfl)) rfl rfl (by decide +kernel) rfl rfl (Nat.le_of_ble_eq_true rfl) [(h0, .inr (2, [.ref h1, .ref h2, .int (0 : Int32), .int τ.2.2.2])), (h1, .inl (cI, 24, .inl τ.1)), (h2, .inl (cI, 24, .inl τ.2.1))] rfl dX2_removeAll_2 (fun H locs hP hD hS => ?_)
  refine lv_aload_n hx hb dX2_removeAll_5 rfl (lv_at hl 0 rfl) ?_
  refine lv_iconst (v := (0 : Int32)) hx hb dX2_removeAll_6 (by decide +kernel) ?_
  refine xpf (ty := .int) (v := .int (0 : Int32)) (C := RX2) (T := TX2) (N := 4) hx hb hts (fun _ h9 => List.mem_cons_of_mem _ (List.mem_append_right _ h9)) tyX2 tyX2_ok nmX2 hown hE hP hD hS 0 rfl rfl 3 (by decide) (hts (.fieldLink RX2 22 "ShadowTable$Log" "size" "I") (List.mem_of_getElem? (i := 2) rfl)) rfl rfl (by decide +kernel) rfl rfl (Nat.le_of_ble_eq_true rfl) [(h0, .inr (2, [.ref h1, .ref h2, .int (0 : Int32), .int (0 : Int32)])), (h1, .inl (cI, 24, .inl τ.1)), (h2, .inl (cI, 24, .inl τ.2.1))] rfl dX2_removeAll_7 (fun H locs hP hD hS => ?_)
  exact hend _ _ _ _ _ dX2_removeAll_10 (fX2_removeAll_p0 τ) hP hS

def fX2_take (τ : LogT) (υ : LogT) : LogT := υ
theorem fX2_take_p0 (τ : LogT) (υ : LogT) : (fX2_take τ υ) = υ := by
  simp only [fX2_take]
set_option maxHeartbeats 4000000 in
set_option maxRecDepth 100000 in
theorem kX2_take (l : Launch) (D : va_G) (cI cS : ClassId) (h0 h1 h2 h3 h4 h5 : Nat) (τ : LogT) (υ : LogT) : KV l yX2_take wsX2_take { frames := 1, cells := 0, slots := 0, locals := 24 } D (tysA cI cS) [.ref h0, .ref h3] [(h0, .inr (2, [.ref h1, .ref h2, .int τ.2.2.1, .int τ.2.2.2])), (h1, .inl (cI, 24, .inl τ.1)), (h2, .inl (cI, 24, .inl τ.2.1)), (h3, .inr (2, [.ref h4, .ref h5, .int υ.2.2.1, .int υ.2.2.2])), (h4, .inl (cI, 24, .inl υ.1)), (h5, .inl (cI, 24, .inl υ.2.1))] (fX2_take τ υ) (fun u => [(h0, .inr (2, [.ref h1, .ref h2, .int u.2.2.1, .int u.2.2.2])), (h1, .inl (cI, 24, .inl u.1)), (h2, .inl (cI, 24, .inl u.2.1)), (h3, .inr (2, [.ref h4, .ref h5, .int υ.2.2.1, .int υ.2.2.2])), (h4, .inl (cI, 24, .inl υ.1)), (h5, .inl (cI, 24, .inl υ.2.1))]) := by
  refine KV.of (cc := cX2_take) (maxL := 2) (by decide) rfl (Nat.le_of_ble_eq_true rfl) rfl (fun p e s m args below meth c ls Q A hx hb hml hown hts hE hP hD hS hl hend => ?_)
  have hown : s.vm.findClass RX2 = some m.cls := hown
  have hl : lv_has ls 2 [(0, .ref h0), (1, .ref h3)] := hl
  refine lv_aload_n hx hb dX2_take_0 rfl (lv_at hl 1 rfl) ?_
  refine va_get (D := D) (ci := 2) (v := .ref h4) (C := RX2) (T := TX2) (N := 4) hx hb hts (fun _ h9 => List.mem_cons_of_mem _ (List.mem_append_right _ h9)) hown hE.1 hP 3 rfl rfl 0 (by decide) (hts (.fieldLink RX2 9 "ShadowTable$Log" "keys" "[I") (List.mem_of_getElem? (i := 1) rfl)) (fun _ h9 => h9) rfl dX2_take_1 ?_
  refine lv_iconst (v := (0 : Int32)) hx hb dX2_take_4 (by decide +kernel) ?_
  refine lv_aload_n hx hb dX2_take_5 rfl (lv_at hl 0 rfl) ?_
  refine va_get (D := D) (ci := 2) (v := .ref h1) (C := RX2) (T := TX2) (N := 4) hx hb hts (fun _ h9 => List.mem_cons_of_mem _ (List.mem_append_right _ h9)) hown hE.1 hP 0 rfl rfl 0 (by decide) (hts (.fieldLink RX2 9 "ShadowTable$Log" "keys" "[I") (List.mem_of_getElem? (i := 1) rfl)) (fun _ h9 => h9) rfl dX2_take_6 ?_
  refine lv_iconst (v := (0 : Int32)) hx hb dX2_take_9 (by decide +kernel) ?_
  refine lv_bipush (v := (24 : Int32)) hx hb dX2_take_10 (by decide +kernel) ?_
  refine xcpy hx hb (hml.trans hl.1.symm) hown (hts (.methodLink RX2 25 arraycopyName) (List.mem_of_getElem? (i := 2) rfl)) (hts (.native arraycopyName) (List.mem_of_getElem? (i := 3) rfl)) (hts (.static arraycopyName) (List.mem_of_getElem? (i := 4) rfl)) (hts (.initialized "java/lang/System") (List.mem_of_getElem? (i := 5) rfl)) hE hP hD hS 4 1 rfl rfl rfl cl_24 (by decide) (Nat.le_of_ble_eq_true rfl) (Nat.le_of_ble_eq_true rfl) [(h0, .inr (2, [.ref h1, .ref h2, .int τ.2.2.1, .int τ.2.2.2])), (h1, .inl (cI, 24, .inl υ.1)), (h2, .inl (cI, 24, .inl τ.2.1)), (h3, .inr (2, [.ref h4, .ref h5, .int υ.2.2.1, .int υ.2.2.2])), (h4, .inl (cI, 24, .inl υ.1)), (h5, .inl (cI, 24, .inl υ.2.1))] rfl dX2_take_12 (fun H locs hP hD hS => ?_)
  refine lv_aload_n hx hb dX2_take_15 rfl (lv_at hl 1 rfl) ?_
  refine va_get (D := D) (ci := 2) (v := .ref h5) (C := RX2) (T := TX2) (N := 4) hx hb hts (fun _ h9 => List.mem_cons_of_mem _ (List.mem_append_right _ h9)) hown hE.1 hP 3 rfl rfl 1 (by decide) (hts (.fieldLink RX2 15 "ShadowTable$Log" "values" "[I") (List.mem_of_getElem? (i := 6) rfl)) (fun _ h9 => h9) rfl dX2_take_16 ?_
  refine lv_iconst (v := (0 : Int32)) hx hb dX2_take_19 (by decide +kernel) ?_
  refine lv_aload_n hx hb dX2_take_20 rfl (lv_at hl 0 rfl) ?_
  refine va_get (D := D) (ci := 2) (v := .ref h2) (C := RX2) (T := TX2) (N := 4) hx hb hts (fun _ h9 => List.mem_cons_of_mem _ (List.mem_append_right _ h9)) hown hE.1 hP 0 rfl rfl 1 (by decide) (hts (.fieldLink RX2 15 "ShadowTable$Log" "values" "[I") (List.mem_of_getElem? (i := 6) rfl)) (fun _ h9 => h9) rfl dX2_take_21 ?_
  refine lv_iconst (v := (0 : Int32)) hx hb dX2_take_24 (by decide +kernel) ?_
  refine lv_bipush (v := (24 : Int32)) hx hb dX2_take_25 (by decide +kernel) ?_
  refine xcpy hx hb (hml.trans hl.1.symm) hown (hts (.methodLink RX2 25 arraycopyName) (List.mem_of_getElem? (i := 2) rfl)) (hts (.native arraycopyName) (List.mem_of_getElem? (i := 3) rfl)) (hts (.static arraycopyName) (List.mem_of_getElem? (i := 4) rfl)) (hts (.initialized "java/lang/System") (List.mem_of_getElem? (i := 5) rfl)) hE hP hD hS 5 2 rfl rfl rfl cl_24 (by decide) (Nat.le_of_ble_eq_true rfl) (Nat.le_of_ble_eq_true rfl) [(h0, .inr (2, [.ref h1, .ref h2, .int τ.2.2.1, .int τ.2.2.2])), (h1, .inl (cI, 24, .inl υ.1)), (h2, .inl (cI, 24, .inl υ.2.1)), (h3, .inr (2, [.ref h4, .ref h5, .int υ.2.2.1, .int υ.2.2.2])), (h4, .inl (cI, 24, .inl υ.1)), (h5, .inl (cI, 24, .inl υ.2.1))] rfl dX2_take_27 (fun H locs hP hD hS => ?_)
  refine lv_aload_n hx hb dX2_take_30 rfl (lv_at hl 0 rfl) ?_
  refine lv_aload_n hx hb dX2_take_31 rfl (lv_at hl 1 rfl) ?_
  refine va_get (D := D) (ci := 2) (v := .int υ.2.2.1) (C := RX2) (T := TX2) (N := 4) hx hb hts (fun _ h9 => List.mem_cons_of_mem _ (List.mem_append_right _ h9)) hown hE.1 hP 3 rfl rfl 2 (by decide) (hts (.fieldLink RX2 18 "ShadowTable$Log" "start" "I") (List.mem_of_getElem? (i := 7) rfl)) (fun _ h9 => h9) rfl dX2_take_32 ?_
  refine xpf (ty := .int) (v := .int υ.2.2.1) (C := RX2) (T := TX2) (N := 4) hx hb hts (fun _ h9 => List.mem_cons_of_mem _ (List.mem_append_right _ h9)) tyX2 tyX2_ok nmX2 hown hE hP hD hS 0 rfl rfl 2 (by decide) (hts (.fieldLink RX2 18 "ShadowTable$Log" "start" "I") (List.mem_of_getElem? (i := 7) rfl)) rfl rfl (by decide +kernel) rfl rfl (Nat.le_of_ble_eq_true rfl) [(h0, .inr (2, [.ref h1, .ref h2, .int υ.2.2.1, .int τ.2.2.2])), (h1, .inl (cI, 24, .inl υ.1)), (h2, .inl (cI, 24, .inl υ.2.1)), (h3, .inr (2, [.ref h4, .ref h5, .int υ.2.2.1, .int υ.2.2.2])), (h4, .inl (cI, 24, .inl υ.1)), (h5, .inl (cI, 24, .inl υ.2.1))] rfl dX2_take_35 (fun H locs hP hD hS => ?_)
  refine lv_aload_n hx hb dX2_take_38 rfl (lv_at hl 0 rfl) ?_
  refine lv_aload_n hx hb dX2_take_39 rfl (lv_at hl 1 rfl) ?_
  refine va_get (D := D) (ci := 2) (v := .int υ.2.2.2) (C := RX2) (T := TX2) (N := 4) hx hb hts (fun _ h9 => List.mem_cons_of_mem _ (List.mem_append_right _ h9)) hown hE.1 hP 3 rfl rfl 3 (by decide) (hts (.fieldLink RX2 22 "ShadowTable$Log" "size" "I") (List.mem_of_getElem? (i := 8) rfl)) (fun _ h9 => h9) rfl dX2_take_40 ?_
  refine xpf (ty := .int) (v := .int υ.2.2.2) (C := RX2) (T := TX2) (N := 4) hx hb hts (fun _ h9 => List.mem_cons_of_mem _ (List.mem_append_right _ h9)) tyX2 tyX2_ok nmX2 hown hE hP hD hS 0 rfl rfl 3 (by decide) (hts (.fieldLink RX2 22 "ShadowTable$Log" "size" "I") (List.mem_of_getElem? (i := 8) rfl)) rfl rfl (by decide +kernel) rfl rfl (Nat.le_of_ble_eq_true rfl) [(h0, .inr (2, [.ref h1, .ref h2, .int υ.2.2.1, .int υ.2.2.2])), (h1, .inl (cI, 24, .inl υ.1)), (h2, .inl (cI, 24, .inl υ.2.1)), (h3, .inr (2, [.ref h4, .ref h5, .int υ.2.2.1, .int υ.2.2.2])), (h4, .inl (cI, 24, .inl υ.1)), (h5, .inl (cI, 24, .inl υ.2.1))] rfl dX2_take_43 (fun H locs hP hD hS => ?_)
  exact hend _ _ _ _ _ dX2_take_46 (fX2_take_p0 τ υ) hP hS

def fX2_add (p0 : Int32) (p1 : Int32) (τ : LogT) : Int32 × LogT := (if τ.2.2.2 < (24 : Int32) then ((1 : Int32), ((upd τ.1 ((fX2_slotOf τ.2.2.2 τ).toNatClampNeg) p0), (upd τ.2.1 ((fX2_slotOf τ.2.2.2 τ).toNatClampNeg) p1), τ.2.2.1, (τ.2.2.2 + (1 : Int32)))) else ((0 : Int32), τ))
theorem fX2_add_p0 (p0 : Int32) (p1 : Int32) (τ : LogT) (c_6 : τ.2.2.2 < (24 : Int32)) : (fX2_add p0 p1 τ) = ((1 : Int32), ((upd τ.1 ((fX2_slotOf τ.2.2.2 τ).toNatClampNeg) p0), (upd τ.2.1 ((fX2_slotOf τ.2.2.2 τ).toNatClampNeg) p1), τ.2.2.1, (τ.2.2.2 + (1 : Int32)))) := by
  simp only [fX2_add, if_pos c_6]
theorem fX2_add_p1 (p0 : Int32) (p1 : Int32) (τ : LogT) (c_6 : ¬ τ.2.2.2 < (24 : Int32)) : (fX2_add p0 p1 τ) = ((0 : Int32), τ) := by
  simp only [fX2_add, if_neg c_6]
set_option maxHeartbeats 4000000 in
set_option maxRecDepth 100000 in
theorem kX2_add (l : Launch) (D : va_G) (cI cS : ClassId) (h0 h1 h2 : Nat) (p0 : Int32) (p1 : Int32) (τ : LogT) (hw : WL τ) : KI l yX2_add wsX2_add { frames := 1, cells := 0, slots := 0, locals := 21 } D (tysA cI cS) [.ref h0, .int p0, .int p1] [(h0, .inr (2, [.ref h1, .ref h2, .int τ.2.2.1, .int τ.2.2.2])), (h1, .inl (cI, 24, .inl τ.1)), (h2, .inl (cI, 24, .inl τ.2.1))] (fX2_add p0 p1 τ) (fun u => [(h0, .inr (2, [.ref h1, .ref h2, .int u.2.2.1, .int u.2.2.2])), (h1, .inl (cI, 24, .inl u.1)), (h2, .inl (cI, 24, .inl u.2.1))]) := by
  refine KI.of (cc := cX2_add) (maxL := 4) (ty := .boolean) (by decide) rfl (Nat.le_of_ble_eq_true rfl) rfl (fun p e s m args below meth c ls Q A hx hb hml hown hts hE hP hD hS hl hend => ?_)
  have hown : s.vm.findClass RX2 = some m.cls := hown
  have hl : lv_has ls 4 [(0, .ref h0), (1, .int p0), (2, .int p1)] := hl
  refine lv_aload_n hx hb dX2_add_0 rfl (lv_at hl 0 rfl) ?_
  refine va_get (D := D) (ci := 2) (v := .int τ.2.2.2) (C := RX2) (T := TX2) (N := 4) hx hb hts (fun _ h9 => List.mem_cons_of_mem _ (List.mem_append_right _ h9)) hown hE.1 hP 0 rfl rfl 3 (by decide) (hts (.fieldLink RX2 22 "ShadowTable$Log" "size" "I") (List.mem_of_getElem? (i := 1) rfl)) (fun _ h9 => h9) rfl dX2_add_1 ?_
  refine lv_bipush (v := (24 : Int32)) hx hb dX2_add_4 (by decide +kernel) ?_
  refine lv_icmp_lt (tgt := 11) hx hb dX2_add_6 (by decide) (fun c_6 => ?_) (fun c_6 => ?_)
  · refine lv_aload_n hx hb dX2_add_11 rfl (lv_at hl 0 rfl) ?_
    refine lv_aload_n hx hb dX2_add_12 rfl (lv_at hl 0 rfl) ?_
    refine va_get (D := D) (ci := 2) (v := .int τ.2.2.2) (C := RX2) (T := TX2) (N := 4) hx hb hts (fun _ h9 => List.mem_cons_of_mem _ (List.mem_append_right _ h9)) hown hE.1 hP 0 rfl rfl 3 (by decide) (hts (.fieldLink RX2 22 "ShadowTable$Log" "size" "I") (List.mem_of_getElem? (i := 1) rfl)) (fun _ h9 => h9) rfl dX2_add_13 ?_
    refine cRV ⟨hx, hb, hml, hown, hts⟩ (kX2_slotOf l D cI cS h0 h1 h2 τ.2.2.2 τ) (cwV 1 hts gX2_add_X2_slotOf rfl rfl rfl (by decide +kernel) ⟨Nat.le_of_ble_eq_true rfl, Nat.le_of_ble_eq_true rfl⟩) hE hP 0 rfl rfl [0, 1, 2] rfl rfl hl.1 rfl (Nat.le_of_ble_eq_true rfl) ⟨Nat.zero_le _, Nat.zero_le _⟩ dX2_add_16 ?_
    refine lv_istore_n (lv' := [(3, .int (fX2_slotOf τ.2.2.2 τ)), (0, .ref h0), (1, .int p0), (2, .int p1)]) hx hb dX2_add_19 rfl hl (by decide) rfl (fun ls hl => ?_)
    refine lv_aload_n hx hb dX2_add_20 rfl (lv_at hl 1 rfl) ?_
    refine va_get (D := D) (ci := 2) (v := .ref h1) (C := RX2) (T := TX2) (N := 4) hx hb hts (fun _ h9 => List.mem_cons_of_mem _ (List.mem_append_right _ h9)) hown hE.1 hP 0 rfl rfl 0 (by decide) (hts (.fieldLink RX2 9 "ShadowTable$Log" "keys" "[I") (List.mem_of_getElem? (i := 2) rfl)) (fun _ h9 => h9) rfl dX2_add_21 ?_
    refine lv_iload_n hx hb dX2_add_24 rfl (lv_at hl 0 rfl) ?_
    refine lv_iload_n hx hb dX2_add_25 rfl (lv_at hl 2 rfl) ?_
    refine xst (j := (fX2_slotOf τ.2.2.2 τ).toNatClampNeg) hx hb hE hP hD hS 1 rfl rfl rfl (zz_slotS hw) [(h0, .inr (2, [.ref h1, .ref h2, .int τ.2.2.1, .int τ.2.2.2])), (h1, .inl (cI, 24, .inl (upd τ.1 ((fX2_slotOf τ.2.2.2 τ).toNatClampNeg) p0))), (h2, .inl (cI, 24, .inl τ.2.1))] rfl dX2_add_26 (fun H locs hP hD hS => ?_)
    refine lv_aload_n hx hb dX2_add_27 rfl (lv_at hl 1 rfl) ?_
    refine va_get (D := D) (ci := 2) (v := .ref h2) (C := RX2) (T := TX2) (N := 4) hx hb hts (fun _ h9 => List.mem_cons_of_mem _ (List.mem_append_right _ h9)) hown hE.1 hP 0 rfl rfl 1 (by decide) (hts (.fieldLink RX2 15 "ShadowTable$Log" "values" "[I") (List.mem_of_getElem? (i := 3) rfl)) (fun _ h9 => h9) rfl dX2_add_28 ?_
    refine lv_iload_n hx hb dX2_add_31 rfl (lv_at hl 0 rfl) ?_
    refine lv_iload_n hx hb dX2_add_32 rfl (lv_at hl 3 rfl) ?_
    refine xst (j := (fX2_slotOf τ.2.2.2 τ).toNatClampNeg) hx hb hE hP hD hS 2 rfl rfl rfl (zz_slotS hw) [(h0, .inr (2, [.ref h1, .ref h2, .int τ.2.2.1, .int τ.2.2.2])), (h1, .inl (cI, 24, .inl (upd τ.1 ((fX2_slotOf τ.2.2.2 τ).toNatClampNeg) p0))), (h2, .inl (cI, 24, .inl (upd τ.2.1 ((fX2_slotOf τ.2.2.2 τ).toNatClampNeg) p1)))] rfl dX2_add_33 (fun H locs hP hD hS => ?_)
    refine lv_aload_n hx hb dX2_add_34 rfl (lv_at hl 1 rfl) ?_
    refine lv_dup hx hb dX2_add_35 rfl ?_
    refine va_get (D := D) (ci := 2) (v := .int τ.2.2.2) (C := RX2) (T := TX2) (N := 4) hx hb hts (fun _ h9 => List.mem_cons_of_mem _ (List.mem_append_right _ h9)) hown hE.1 hP 0 rfl rfl 3 (by decide) (hts (.fieldLink RX2 22 "ShadowTable$Log" "size" "I") (List.mem_of_getElem? (i := 1) rfl)) (fun _ h9 => h9) rfl dX2_add_36 ?_
    refine lv_iconst (v := (1 : Int32)) hx hb dX2_add_39 (by decide +kernel) ?_
    refine lv_iadd hx hb dX2_add_40 ?_
    refine xpf (ty := .int) (v := .int (τ.2.2.2 + (1 : Int32))) (C := RX2) (T := TX2) (N := 4) hx hb hts (fun _ h9 => List.mem_cons_of_mem _ (List.mem_append_right _ h9)) tyX2 tyX2_ok nmX2 hown hE hP hD hS 0 rfl rfl 3 (by decide) (hts (.fieldLink RX2 22 "ShadowTable$Log" "size" "I") (List.mem_of_getElem? (i := 1) rfl)) rfl rfl (by decide +kernel) rfl rfl (Nat.le_of_ble_eq_true rfl) [(h0, .inr (2, [.ref h1, .ref h2, .int τ.2.2.1, .int (τ.2.2.2 + (1 : Int32))])), (h1, .inl (cI, 24, .inl (upd τ.1 ((fX2_slotOf τ.2.2.2 τ).toNatClampNeg) p0))), (h2, .inl (cI, 24, .inl (upd τ.2.1 ((fX2_slotOf τ.2.2.2 τ).toNatClampNeg) p1)))] rfl dX2_add_41 (fun H locs hP hD hS => ?_)
    refine lv_iconst (v := (1 : Int32)) hx hb dX2_add_44 (by decide +kernel) ?_
    exact hend _ _ _ _ _ _ dX2_add_45 rfl (fX2_add_p0 p0 p1 τ c_6) hP hS
  · refine lv_iconst (v := (0 : Int32)) hx hb dX2_add_9 (by decide +kernel) ?_
    exact hend _ _ _ _ _ _ dX2_add_10 rfl (fX2_add_p1 p0 p1 τ c_6) hP hS

def fX2_removeFirst (τ : LogT) : LogT := (if τ.2.2.2 ≤ (0 : Int32) then τ else (τ.1, τ.2.1, (fX2_slotOf (1 : Int32) τ), (τ.2.2.2 - (1 : Int32))))
theorem fX2_removeFirst_p0 (τ : LogT) (c_4 : τ.2.2.2 ≤ (0 : Int32)) : (fX2_removeFirst τ) = τ := by
  simp only [fX2_removeFirst, if_pos c_4]
theorem fX2_removeFirst_p1 (τ : LogT) (c_4 : ¬ τ.2.2.2 ≤ (0 : Int32)) : (fX2_removeFirst τ) = (τ.1, τ.2.1, (fX2_slotOf (1 : Int32) τ), (τ.2.2.2 - (1 : Int32))) := by
  simp only [fX2_removeFirst, if_neg c_4]
set_option maxHeartbeats 4000000 in
set_option maxRecDepth 100000 in
theorem kX2_removeFirst (l : Launch) (D : va_G) (cI cS : ClassId) (h0 h1 h2 : Nat) (τ : LogT) : KV l yX2_removeFirst wsX2_removeFirst { frames := 1, cells := 0, slots := 0, locals := 21 } D (tysA cI cS) [.ref h0] [(h0, .inr (2, [.ref h1, .ref h2, .int τ.2.2.1, .int τ.2.2.2])), (h1, .inl (cI, 24, .inl τ.1)), (h2, .inl (cI, 24, .inl τ.2.1))] (fX2_removeFirst τ) (fun u => [(h0, .inr (2, [.ref h1, .ref h2, .int u.2.2.1, .int u.2.2.2])), (h1, .inl (cI, 24, .inl u.1)), (h2, .inl (cI, 24, .inl u.2.1))]) := by
  refine KV.of (cc := cX2_removeFirst) (maxL := 1) (by decide) rfl (Nat.le_of_ble_eq_true rfl) rfl (fun p e s m args below meth c ls Q A hx hb hml hown hts hE hP hD hS hl hend => ?_)
  have hown : s.vm.findClass RX2 = some m.cls := hown
  have hl : lv_has ls 1 [(0, .ref h0)] := hl
  refine lv_aload_n hx hb dX2_removeFirst_0 rfl (lv_at hl 0 rfl) ?_
  refine va_get (D := D) (ci := 2) (v := .int τ.2.2.2) (C := RX2) (T := TX2) (N := 4) hx hb hts (fun _ h9 => List.mem_cons_of_mem _ (List.mem_append_right _ h9)) hown hE.1 hP 0 rfl rfl 3 (by decide) (hts (.fieldLink RX2 22 "ShadowTable$Log" "size" "I") (List.mem_of_getElem? (i := 1) rfl)) (fun _ h9 => h9) rfl dX2_removeFirst_1 ?_
  refine lv_if_le (tgt := 26) hx hb dX2_removeFirst_4 (by decide) (fun c_4 => ?_) (fun c_4 => ?_)
  · exact hend _ _ _ _ _ dX2_removeFirst_26 (fX2_removeFirst_p0 τ c_4) hP hS
  · refine lv_aload_n hx hb dX2_removeFirst_7 rfl (lv_at hl 0 rfl) ?_
    refine lv_aload_n hx hb dX2_removeFirst_8 rfl (lv_at hl 0 rfl) ?_
    refine lv_iconst (v := (1 : Int32)) hx hb dX2_removeFirst_9 (by decide +kernel) ?_
    refine cRV ⟨hx, hb, hml, hown, hts⟩ (kX2_slotOf l D cI cS h0 h1 h2 (1 : Int32) τ) (cwV 1 hts gX2_removeFirst_X2_slotOf rfl rfl rfl (by decide +kernel) ⟨Nat.le_of_ble_eq_true rfl, Nat.le_of_ble_eq_true rfl⟩) hE hP 0 rfl rfl [0, 1, 2] rfl rfl hl.1 rfl (Nat.le_of_ble_eq_true rfl) ⟨Nat.zero_le _, Nat.zero_le _⟩ dX2_removeFirst_10 ?_
    refine xpf (ty := .int) (v := .int (fX2_slotOf (1 : Int32) τ)) (C := RX2) (T := TX2) (N := 4) hx hb hts (fun _ h9 => List.mem_cons_of_mem _ (List.mem_append_right _ h9)) tyX2 tyX2_ok nmX2 hown hE hP hD hS 0 rfl rfl 2 (by decide) (hts (.fieldLink RX2 18 "ShadowTable$Log" "start" "I") (List.mem_of_getElem? (i := 2) rfl)) rfl rfl (by decide +kernel) rfl rfl (Nat.le_of_ble_eq_true rfl) [(h0, .inr (2, [.ref h1, .ref h2, .int (fX2_slotOf (1 : Int32) τ), .int τ.2.2.2])), (h1, .inl (cI, 24, .inl τ.1)), (h2, .inl (cI, 24, .inl τ.2.1))] rfl dX2_removeFirst_13 (fun H locs hP hD hS => ?_)
    refine lv_aload_n hx hb dX2_removeFirst_16 rfl (lv_at hl 0 rfl) ?_
    refine lv_dup hx hb dX2_removeFirst_17 rfl ?_
    refine va_get (D := D) (ci := 2) (v := .int τ.2.2.2) (C := RX2) (T := TX2) (N := 4) hx hb hts (fun _ h9 => List.mem_cons_of_mem _ (List.mem_append_right _ h9)) hown hE.1 hP 0 rfl rfl 3 (by decide) (hts (.fieldLink RX2 22 "ShadowTable$Log" "size" "I") (List.mem_of_getElem? (i := 1) rfl)) (fun _ h9 => h9) rfl dX2_removeFirst_18 ?_
    refine lv_iconst (v := (1 : Int32)) hx hb dX2_removeFirst_21 (by decide +kernel) ?_
    refine lv_isub hx hb dX2_removeFirst_22 ?_
    refine xpf (ty := .int) (v := .int (τ.2.2.2 - (1 : Int32))) (C := RX2) (T := TX2) (N := 4) hx hb hts (fun _ h9 => List.mem_cons_of_mem _ (List.mem_append_right _ h9)) tyX2 tyX2_ok nmX2 hown hE hP hD hS 0 rfl rfl 3 (by decide) (hts (.fieldLink RX2 22 "ShadowTable$Log" "size" "I") (List.mem_of_getElem? (i := 1) rfl)) rfl rfl (by decide +kernel) rfl rfl (Nat.le_of_ble_eq_true rfl) [(h0, .inr (2, [.ref h1, .ref h2, .int (fX2_slotOf (1 : Int32) τ), .int (τ.2.2.2 - (1 : Int32))])), (h1, .inl (cI, 24, .inl τ.1)), (h2, .inl (cI, 24, .inl τ.2.1))] rfl dX2_removeFirst_23 (fun H locs hP hD hS => ?_)
    exact hend _ _ _ _ _ dX2_removeFirst_26 (fX2_removeFirst_p1 τ c_4) hP hS

def fX2_keyAt (p0 : Int32) (τ : LogT) : Int32 := (if p0 < (0 : Int32) then (-5 : Int32) else (if τ.2.2.2 ≤ p0 then (-5 : Int32) else (τ.1 ((fX2_slotOf p0 τ).toNatClampNeg))))
theorem fX2_keyAt_p0 (p0 : Int32) (τ : LogT) (c_1 : p0 < (0 : Int32)) : (fX2_keyAt p0 τ) = (-5 : Int32) := by
  simp only [fX2_keyAt, if_pos c_1]
theorem fX2_keyAt_p1 (p0 : Int32) (τ : LogT) (c_1 : ¬ p0 < (0 : Int32)) (c_9 : τ.2.2.2 ≤ p0) : (fX2_keyAt p0 τ) = (-5 : Int32) := by
  simp only [fX2_keyAt, if_neg c_1, if_pos c_9]
theorem fX2_keyAt_p2 (p0 : Int32) (τ : LogT) (c_1 : ¬ p0 < (0 : Int32)) (c_9 : ¬ τ.2.2.2 ≤ p0) : (fX2_keyAt p0 τ) = (τ.1 ((fX2_slotOf p0 τ).toNatClampNeg)) := by
  simp only [fX2_keyAt, if_neg c_1, if_neg c_9]
set_option maxHeartbeats 4000000 in
set_option maxRecDepth 100000 in
theorem kX2_keyAt (l : Launch) (D : va_G) (cI cS : ClassId) (h0 h1 h2 : Nat) (p0 : Int32) (τ : LogT) (hw : WL τ) : KR l yX2_keyAt wsX2_keyAt { frames := 1, cells := 0, slots := 0, locals := 21 } D (tysA cI cS) [.ref h0, .int p0] [(h0, .inr (2, [.ref h1, .ref h2, .int τ.2.2.1, .int τ.2.2.2])), (h1, .inl (cI, 24, .inl τ.1)), (h2, .inl (cI, 24, .inl τ.2.1))] (fX2_keyAt p0 τ) := by
  refine KR.of (cc := cX2_keyAt) (maxL := 2) (ty := .int) (by decide) rfl (Nat.le_of_ble_eq_true rfl) rfl (fun p e s m args below meth c ls Q hx hb hml hown hts hE hP hl hend => ?_)
  have hown : s.vm.findClass RX2 = some m.cls := hown
  have hl : lv_has ls 2 [(0, .ref h0), (1, .int p0)] := hl
  refine lv_iload_n hx hb dX2_keyAt_0 rfl (lv_at hl 1 rfl) ?_
  refine lv_if_lt (tgt := 25) hx hb dX2_keyAt_1 (by decide) (fun c_1 => ?_) (fun c_1 => ?_)
  · refine lv_bipush (v := (-5 : Int32)) hx hb dX2_keyAt_25 (by decide +kernel) ?_
    exact hend _ _ _ dX2_keyAt_27 rfl (fX2_keyAt_p0 p0 τ c_1)
  · refine lv_iload_n hx hb dX2_keyAt_4 rfl (lv_at hl 1 rfl) ?_
    refine lv_aload_n hx hb dX2_keyAt_5 rfl (lv_at hl 0 rfl) ?_
    refine va_get (D := D) (ci := 2) (v := .int τ.2.2.2) (C := RX2) (T := TX2) (N := 4) hx hb hts (fun _ h9 => List.mem_cons_of_mem _ (List.mem_append_right _ h9)) hown hE.1 hP 0 rfl rfl 3 (by decide) (hts (.fieldLink RX2 22 "ShadowTable$Log" "size" "I") (List.mem_of_getElem? (i := 1) rfl)) (fun _ h9 => h9) rfl dX2_keyAt_6 ?_
    refine lv_icmp_ge (tgt := 25) hx hb dX2_keyAt_9 (by decide) (fun c_9 => ?_) (fun c_9 => ?_)
    · refine lv_bipush (v := (-5 : Int32)) hx hb dX2_keyAt_25 (by decide +kernel) ?_
      exact hend _ _ _ dX2_keyAt_27 rfl (fX2_keyAt_p1 p0 τ c_1 c_9)
    · refine lv_aload_n hx hb dX2_keyAt_12 rfl (lv_at hl 0 rfl) ?_
      refine va_get (D := D) (ci := 2) (v := .ref h1) (C := RX2) (T := TX2) (N := 4) hx hb hts (fun _ h9 => List.mem_cons_of_mem _ (List.mem_append_right _ h9)) hown hE.1 hP 0 rfl rfl 0 (by decide) (hts (.fieldLink RX2 9 "ShadowTable$Log" "keys" "[I") (List.mem_of_getElem? (i := 2) rfl)) (fun _ h9 => h9) rfl dX2_keyAt_13 ?_
      refine lv_aload_n hx hb dX2_keyAt_16 rfl (lv_at hl 0 rfl) ?_
      refine lv_iload_n hx hb dX2_keyAt_17 rfl (lv_at hl 1 rfl) ?_
      refine cRV ⟨hx, hb, hml, hown, hts⟩ (kX2_slotOf l D cI cS h0 h1 h2 p0 τ) (cwV 1 hts gX2_keyAt_X2_slotOf rfl rfl rfl (by decide +kernel) ⟨Nat.le_of_ble_eq_true rfl, Nat.le_of_ble_eq_true rfl⟩) hE hP 0 rfl rfl [0, 1, 2] rfl rfl hl.1 rfl (Nat.le_of_ble_eq_true rfl) ⟨Nat.zero_le _, Nat.zero_le _⟩ dX2_keyAt_18 ?_
      refine xld (v := (τ.1 ((fX2_slotOf p0 τ).toNatClampNeg))) (j := (fX2_slotOf p0 τ).toNatClampNeg) hx hb hE hP 1 rfl rfl rfl (zz_slotE hw c_1 c_9) rfl dX2_keyAt_21 ?_
      refine lv_goto (tgt := 27) hx hb dX2_keyAt_22 (by decide) ?_
      exact hend _ _ _ dX2_keyAt_27 rfl (fX2_keyAt_p2 p0 τ c_1 c_9)

def fX2_valueAt (p0 : Int32) (τ : LogT) : Int32 := (if p0 < (0 : Int32) then (-5 : Int32) else (if τ.2.2.2 ≤ p0 then (-5 : Int32) else (τ.2.1 ((fX2_slotOf p0 τ).toNatClampNeg))))
theorem fX2_valueAt_p0 (p0 : Int32) (τ : LogT) (c_1 : p0 < (0 : Int32)) : (fX2_valueAt p0 τ) = (-5 : Int32) := by
  simp only [fX2_valueAt, if_pos c_1]
theorem fX2_valueAt_p1 (p0 : Int32) (τ : LogT) (c_1 : ¬ p0 < (0 : Int32)) (c_9 : τ.2.2.2 ≤ p0) : (fX2_valueAt p0 τ) = (-5 : Int32) := by
  simp only [fX2_valueAt, if_neg c_1, if_pos c_9]
theorem fX2_valueAt_p2 (p0 : Int32) (τ : LogT) (c_1 : ¬ p0 < (0 : Int32)) (c_9 : ¬ τ.2.2.2 ≤ p0) : (fX2_valueAt p0 τ) = (τ.2.1 ((fX2_slotOf p0 τ).toNatClampNeg)) := by
  simp only [fX2_valueAt, if_neg c_1, if_neg c_9]
set_option maxHeartbeats 4000000 in
set_option maxRecDepth 100000 in
theorem kX2_valueAt (l : Launch) (D : va_G) (cI cS : ClassId) (h0 h1 h2 : Nat) (p0 : Int32) (τ : LogT) (hw : WL τ) : KR l yX2_valueAt wsX2_valueAt { frames := 1, cells := 0, slots := 0, locals := 21 } D (tysA cI cS) [.ref h0, .int p0] [(h0, .inr (2, [.ref h1, .ref h2, .int τ.2.2.1, .int τ.2.2.2])), (h1, .inl (cI, 24, .inl τ.1)), (h2, .inl (cI, 24, .inl τ.2.1))] (fX2_valueAt p0 τ) := by
  refine KR.of (cc := cX2_valueAt) (maxL := 2) (ty := .int) (by decide) rfl (Nat.le_of_ble_eq_true rfl) rfl (fun p e s m args below meth c ls Q hx hb hml hown hts hE hP hl hend => ?_)
  have hown : s.vm.findClass RX2 = some m.cls := hown
  have hl : lv_has ls 2 [(0, .ref h0), (1, .int p0)] := hl
  refine lv_iload_n hx hb dX2_valueAt_0 rfl (lv_at hl 1 rfl) ?_
  refine lv_if_lt (tgt := 25) hx hb dX2_valueAt_1 (by decide) (fun c_1 => ?_) (fun c_1 => ?_)
  · refine lv_bipush (v := (-5 : Int32)) hx hb dX2_valueAt_25 (by decide +kernel) ?_
    exact hend _ _ _ dX2_valueAt_27 rfl (fX2_valueAt_p0 p0 τ c_1)
  · refine lv_iload_n hx hb dX2_valueAt_4 rfl (lv_at hl 1 rfl) ?_
    refine lv_aload_n hx hb dX2_valueAt_5 rfl (lv_at hl 0 rfl) ?_
    refine va_get (D := D) (ci := 2) (v := .int τ.2.2.2) (C := RX2) (T := TX2) (N := 4) hx hb hts (fun _ h9 => List.mem_cons_of_mem _ (List.mem_append_right _ h9)) hown hE.1 hP 0 rfl rfl 3 (by decide) (hts (.fieldLink RX2 22 "ShadowTable$Log" "size" "I") (List.mem_of_getElem? (i := 1) rfl)) (fun _ h9 => h9) rfl dX2_valueAt_6 ?_
    refine lv_icmp_ge (tgt := 25) hx hb dX2_valueAt_9 (by decide) (fun c_9 => ?_) (fun c_9 => ?_)
    · refine lv_bipush (v := (-5 : Int32)) hx hb dX2_valueAt_25 (by decide +kernel) ?_
      exact hend _ _ _ dX2_valueAt_27 rfl (fX2_valueAt_p1 p0 τ c_1 c_9)
    · refine lv_aload_n hx hb dX2_valueAt_12 rfl (lv_at hl 0 rfl) ?_
      refine va_get (D := D) (ci := 2) (v := .ref h2) (C := RX2) (T := TX2) (N := 4) hx hb hts (fun _ h9 => List.mem_cons_of_mem _ (List.mem_append_right _ h9)) hown hE.1 hP 0 rfl rfl 1 (by decide) (hts (.fieldLink RX2 15 "ShadowTable$Log" "values" "[I") (List.mem_of_getElem? (i := 2) rfl)) (fun _ h9 => h9) rfl dX2_valueAt_13 ?_
      refine lv_aload_n hx hb dX2_valueAt_16 rfl (lv_at hl 0 rfl) ?_
      refine lv_iload_n hx hb dX2_valueAt_17 rfl (lv_at hl 1 rfl) ?_
      refine cRV ⟨hx, hb, hml, hown, hts⟩ (kX2_slotOf l D cI cS h0 h1 h2 p0 τ) (cwV 1 hts gX2_valueAt_X2_slotOf rfl rfl rfl (by decide +kernel) ⟨Nat.le_of_ble_eq_true rfl, Nat.le_of_ble_eq_true rfl⟩) hE hP 0 rfl rfl [0, 1, 2] rfl rfl hl.1 rfl (Nat.le_of_ble_eq_true rfl) ⟨Nat.zero_le _, Nat.zero_le _⟩ dX2_valueAt_18 ?_
      refine xld (v := (τ.2.1 ((fX2_slotOf p0 τ).toNatClampNeg))) (j := (fX2_slotOf p0 τ).toNatClampNeg) hx hb hE hP 2 rfl rfl rfl (zz_slotE hw c_1 c_9) rfl dX2_valueAt_21 ?_
      refine lv_goto (tgt := 27) hx hb dX2_valueAt_22 (by decide) ?_
      exact hend _ _ _ dX2_valueAt_27 rfl (fX2_valueAt_p2 p0 τ c_1 c_9)

def fX0_start (p0 : Int32) (p1 : Int32) (τ : CopyT) : CopyT := (let u_4 := (fX3_removeAll τ.1); (let u_11 := (fX2_removeAll τ.2.1); (u_4, u_11, (1 : Int32), p0, p1, (0 : Int32), τ.2.2.2.2.2.2)))
theorem fX0_start_p0 (p0 : Int32) (p1 : Int32) (τ : CopyT) (u_4 : FnI) (e_4 : (fX3_removeAll τ.1) = u_4) (u_11 : LogT) (e_11 : (fX2_removeAll τ.2.1) = u_11) : (fX0_start p0 p1 τ) = (u_4, u_11, (1 : Int32), p0, p1, (0 : Int32), τ.2.2.2.2.2.2) := by
  simp only [fX0_start, e_4, e_11]
set_option maxHeartbeats 4000000 in
set_option maxRecDepth 100000 in
theorem kX0_start (l : Launch) (D : va_G) (cI cS : ClassId) (h0 h1 h2 h3 h4 h5 : Nat) (p0 : Int32) (p1 : Int32) (τ : CopyT) : KV l yX0_start wsX0_start { frames := 2, cells := 0, slots := 0, locals := 43 } D (tysA cI cS) [.ref h0, .int p0, .int p1] [(h0, .inr (0, [.ref h1, .ref h3, .int τ.2.2.1, .int τ.2.2.2.1, .int τ.2.2.2.2.1, .int τ.2.2.2.2.2.1, .int τ.2.2.2.2.2.2])), (h1, .inr (3, [.ref h2])), (h2, .inl (cI, 32, .inl τ.1)), (h3, .inr (2, [.ref h4, .ref h5, .int τ.2.1.2.2.1, .int τ.2.1.2.2.2])), (h4, .inl (cI, 24, .inl τ.2.1.1)), (h5, .inl (cI, 24, .inl τ.2.1.2.1))] (fX0_start p0 p1 τ) (fun u => [(h0, .inr (0, [.ref h1, .ref h3, .int u.2.2.1, .int u.2.2.2.1, .int u.2.2.2.2.1, .int u.2.2.2.2.2.1, .int u.2.2.2.2.2.2])), (h1, .inr (3, [.ref h2])), (h2, .inl (cI, 32, .inl u.1)), (h3, .inr (2, [.ref h4, .ref h5, .int u.2.1.2.2.1, .int u.2.1.2.2.2])), (h4, .inl (cI, 24, .inl u.2.1.1)), (h5, .inl (cI, 24, .inl u.2.1.2.1))]) := by
  refine KV.of (cc := cX0_start) (maxL := 3) (by decide) rfl (Nat.le_of_ble_eq_true rfl) rfl (fun p e s m args below meth c ls Q A hx hb hml hown hts hE hP hD hS hl hend => ?_)
  have hown : s.vm.findClass RX0 = some m.cls := hown
  have hl : lv_has ls 3 [(0, .ref h0), (1, .int p0), (2, .int p1)] := hl
  refine lv_aload_n hx hb dX0_start_0 rfl (lv_at hl 0 rfl) ?_
  refine va_get (D := D) (ci := 0) (v := .ref h1) (C := RX0) (T := TX0) (N := 7) hx hb hts (fun _ h9 => List.mem_cons_of_mem _ (List.mem_append_left _ (List.mem_append_left _ (List.mem_append_right _ h9)))) hown hE.1 hP 0 rfl rfl 0 (by decide) (hts (.fieldLink RX0 12 "ShadowTable$Copy" "shadow" "LShadowTable$Rows;") (List.mem_of_getElem? (i := 1) rfl)) (fun _ h9 => h9) rfl dX0_start_1 ?_
  refine cVV ⟨hx, hb, hml, hown, hts⟩ (kX3_removeAll l D cI cS h1 h2 τ.1) (cwV 0 hts gX0_start_X3_removeAll rfl rfl rfl (by decide +kernel) ⟨Nat.le_of_ble_eq_true rfl, Nat.le_of_ble_eq_true rfl⟩) hE hP hD hS 1 rfl rfl [1, 2] rfl (by decide) (fun _ => rfl) rfl hl.1 rfl (Nat.le_of_ble_eq_true rfl) ⟨Nat.zero_le _, Nat.zero_le _⟩ dX0_start_4 (fun u_4 H locs e_4 hP hD hS => ?_)
  have hP : va_P D vwCl [(h0, .inr (0, [.ref h1, .ref h3, .int τ.2.2.1, .int τ.2.2.2.1, .int τ.2.2.2.2.1, .int τ.2.2.2.2.2.1, .int τ.2.2.2.2.2.2])), (h1, .inr (3, [.ref h2])), (h2, .inl (cI, 32, .inl u_4)), (h3, .inr (2, [.ref h4, .ref h5, .int τ.2.1.2.2.1, .int τ.2.1.2.2.2])), (h4, .inl (cI, 24, .inl τ.2.1.1)), (h5, .inl (cI, 24, .inl τ.2.1.2.1))] H := hP
  have hD : va_D A [(h0, .inr (0, [.ref h1, .ref h3, .int τ.2.2.1, .int τ.2.2.2.1, .int τ.2.2.2.2.1, .int τ.2.2.2.2.2.1, .int τ.2.2.2.2.2.2])), (h1, .inr (3, [.ref h2])), (h2, .inl (cI, 32, .inl u_4)), (h3, .inr (2, [.ref h4, .ref h5, .int τ.2.1.2.2.1, .int τ.2.1.2.2.2])), (h4, .inl (cI, 24, .inl τ.2.1.1)), (h5, .inl (cI, 24, .inl τ.2.1.2.1))] := hD
  refine lv_aload_n hx hb dX0_start_7 rfl (lv_at hl 0 rfl) ?_
  refine va_get (D := D) (ci := 0) (v := .ref h3) (C := RX0) (T := TX0) (N := 7) hx hb hts (fun _ h9 => List.mem_cons_of_mem _ (List.mem_append_left _ (List.mem_append_left _ (List.mem_append_right _ h9)))) hown hE.1 hP 0 rfl rfl 1 (by decide) (hts (.fieldLink RX0 21 "ShadowTable$Copy" "log" "LShadowTable$Log;") (List.mem_of_getElem? (i := 2) rfl)) (fun _ h9 => h9) rfl dX0_start_8 ?_
  refine cVV ⟨hx, hb, hml, hown, hts⟩ (kX2_removeAll l D cI cS h3 h4 h5 τ.2.1) (cwV 0 hts gX0_start_X2_removeAll rfl rfl rfl (by decide +kernel) ⟨Nat.le_of_ble_eq_true rfl, Nat.le_of_ble_eq_true rfl⟩) hE hP hD hS 3 rfl rfl [3, 4, 5] rfl (by decide) (fun _ => rfl) rfl hl.1 rfl (Nat.le_of_ble_eq_true rfl) ⟨Nat.zero_le _, Nat.zero_le _⟩ dX0_start_11 (fun u_11 H locs e_11 hP hD hS => ?_)
  have hP : va_P D vwCl [(h0, .inr (0, [.ref h1, .ref h3, .int τ.2.2.1, .int τ.2.2.2.1, .int τ.2.2.2.2.1, .int τ.2.2.2.2.2.1, .int τ.2.2.2.2.2.2])), (h1, .inr (3, [.ref h2])), (h2, .inl (cI, 32, .inl u_4)), (h3, .inr (2, [.ref h4, .ref h5, .int u_11.2.2.1, .int u_11.2.2.2])), (h4, .inl (cI, 24, .inl u_11.1)), (h5, .inl (cI, 24, .inl u_11.2.1))] H := hP
  have hD : va_D A [(h0, .inr (0, [.ref h1, .ref h3, .int τ.2.2.1, .int τ.2.2.2.1, .int τ.2.2.2.2.1, .int τ.2.2.2.2.2.1, .int τ.2.2.2.2.2.2])), (h1, .inr (3, [.ref h2])), (h2, .inl (cI, 32, .inl u_4)), (h3, .inr (2, [.ref h4, .ref h5, .int u_11.2.2.1, .int u_11.2.2.2])), (h4, .inl (cI, 24, .inl u_11.1)), (h5, .inl (cI, 24, .inl u_11.2.1))] := hD
  refine lv_aload_n hx hb dX0_start_14 rfl (lv_at hl 0 rfl) ?_
  refine lv_iconst (v := (1 : Int32)) hx hb dX0_start_15 (by decide +kernel) ?_
  refine xpf (ty := .int) (v := .int (1 : Int32)) (C := RX0) (T := TX0) (N := 7) hx hb hts (fun _ h9 => List.mem_cons_of_mem _ (List.mem_append_left _ (List.mem_append_left _ (List.mem_append_right _ h9)))) tyX0 tyX0_ok nmX0 hown hE hP hD hS 0 rfl rfl 2 (by decide) (hts (.fieldLink RX0 25 "ShadowTable$Copy" "phase" "I") (List.mem_of_getElem? (i := 3) rfl)) rfl rfl (by decide +kernel) rfl rfl (Nat.le_of_ble_eq_true rfl) [(h0, .inr (0, [.ref h1, .ref h3, .int (1 : Int32), .int τ.2.2.2.1, .int τ.2.2.2.2.1, .int τ.2.2.2.2.2.1, .int τ.2.2.2.2.2.2])), (h1, .inr (3, [.ref h2])), (h2, .inl (cI, 32, .inl u_4)), (h3, .inr (2, [.ref h4, .ref h5, .int u_11.2.2.1, .int u_11.2.2.2])), (h4, .inl (cI, 24, .inl u_11.1)), (h5, .inl (cI, 24, .inl u_11.2.1))] rfl dX0_start_16 (fun H locs hP hD hS => ?_)
  refine lv_aload_n hx hb dX0_start_19 rfl (lv_at hl 0 rfl) ?_
  refine lv_iload_n hx hb dX0_start_20 rfl (lv_at hl 1 rfl) ?_
  refine xpf (ty := .int) (v := .int p0) (C := RX0) (T := TX0) (N := 7) hx hb hts (fun _ h9 => List.mem_cons_of_mem _ (List.mem_append_left _ (List.mem_append_left _ (List.mem_append_right _ h9)))) tyX0 tyX0_ok nmX0 hown hE hP hD hS 0 rfl rfl 3 (by decide) (hts (.fieldLink RX0 33 "ShadowTable$Copy" "kind" "I") (List.mem_of_getElem? (i := 4) rfl)) rfl rfl (by decide +kernel) rfl rfl (Nat.le_of_ble_eq_true rfl) [(h0, .inr (0, [.ref h1, .ref h3, .int (1 : Int32), .int p0, .int τ.2.2.2.2.1, .int τ.2.2.2.2.2.1, .int τ.2.2.2.2.2.2])), (h1, .inr (3, [.ref h2])), (h2, .inl (cI, 32, .inl u_4)), (h3, .inr (2, [.ref h4, .ref h5, .int u_11.2.2.1, .int u_11.2.2.2])), (h4, .inl (cI, 24, .inl u_11.1)), (h5, .inl (cI, 24, .inl u_11.2.1))] rfl dX0_start_21 (fun H locs hP hD hS => ?_)
  refine lv_aload_n hx hb dX0_start_24 rfl (lv_at hl 0 rfl) ?_
  refine lv_iload_n hx hb dX0_start_25 rfl (lv_at hl 2 rfl) ?_
  refine xpf (ty := .int) (v := .int p1) (C := RX0) (T := TX0) (N := 7) hx hb hts (fun _ h9 => List.mem_cons_of_mem _ (List.mem_append_left _ (List.mem_append_left _ (List.mem_append_right _ h9)))) tyX0 tyX0_ok nmX0 hown hE hP hD hS 0 rfl rfl 4 (by decide) (hts (.fieldLink RX0 36 "ShadowTable$Copy" "lot" "I") (List.mem_of_getElem? (i := 5) rfl)) rfl rfl (by decide +kernel) rfl rfl (Nat.le_of_ble_eq_true rfl) [(h0, .inr (0, [.ref h1, .ref h3, .int (1 : Int32), .int p0, .int p1, .int τ.2.2.2.2.2.1, .int τ.2.2.2.2.2.2])), (h1, .inr (3, [.ref h2])), (h2, .inl (cI, 32, .inl u_4)), (h3, .inr (2, [.ref h4, .ref h5, .int u_11.2.2.1, .int u_11.2.2.2])), (h4, .inl (cI, 24, .inl u_11.1)), (h5, .inl (cI, 24, .inl u_11.2.1))] rfl dX0_start_26 (fun H locs hP hD hS => ?_)
  refine lv_aload_n hx hb dX0_start_29 rfl (lv_at hl 0 rfl) ?_
  refine lv_iconst (v := (0 : Int32)) hx hb dX0_start_30 (by decide +kernel) ?_
  refine xpf (ty := .int) (v := .int (0 : Int32)) (C := RX0) (T := TX0) (N := 7) hx hb hts (fun _ h9 => List.mem_cons_of_mem _ (List.mem_append_left _ (List.mem_append_left _ (List.mem_append_right _ h9)))) tyX0 tyX0_ok nmX0 hown hE hP hD hS 0 rfl rfl 5 (by decide) (hts (.fieldLink RX0 39 "ShadowTable$Copy" "cursor" "I") (List.mem_of_getElem? (i := 6) rfl)) rfl rfl (by decide +kernel) rfl rfl (Nat.le_of_ble_eq_true rfl) [(h0, .inr (0, [.ref h1, .ref h3, .int (1 : Int32), .int p0, .int p1, .int (0 : Int32), .int τ.2.2.2.2.2.2])), (h1, .inr (3, [.ref h2])), (h2, .inl (cI, 32, .inl u_4)), (h3, .inr (2, [.ref h4, .ref h5, .int u_11.2.2.1, .int u_11.2.2.2])), (h4, .inl (cI, 24, .inl u_11.1)), (h5, .inl (cI, 24, .inl u_11.2.1))] rfl dX0_start_31 (fun H locs hP hD hS => ?_)
  exact hend _ _ _ _ _ dX0_start_34 (fX0_start_p0 p0 p1 τ u_4 e_4 u_11 e_11) hP hS

def fX0_take (τ : CopyT) (υ : CopyT) : CopyT := (let u_8 := (fX3_take τ.1 υ.1); (let u_19 := (fX2_take τ.2.1 υ.2.1); (u_8, u_19, υ.2.2.1, υ.2.2.2.1, υ.2.2.2.2.1, υ.2.2.2.2.2.1, υ.2.2.2.2.2.2)))
theorem fX0_take_p0 (τ : CopyT) (υ : CopyT) (u_8 : FnI) (e_8 : (fX3_take τ.1 υ.1) = u_8) (u_19 : LogT) (e_19 : (fX2_take τ.2.1 υ.2.1) = u_19) : (fX0_take τ υ) = (u_8, u_19, υ.2.2.1, υ.2.2.2.1, υ.2.2.2.2.1, υ.2.2.2.2.2.1, υ.2.2.2.2.2.2) := by
  simp only [fX0_take, e_8, e_19]
set_option maxHeartbeats 4000000 in
set_option maxRecDepth 100000 in
theorem kX0_take (l : Launch) (D : va_G) (cI cS : ClassId) (h0 h1 h2 h3 h4 h5 h6 h7 h8 h9 h10 h11 : Nat) (τ : CopyT) (υ : CopyT) : KV l yX0_take wsX0_take { frames := 2, cells := 0, slots := 0, locals := 45 } D (tysA cI cS) [.ref h0, .ref h6] [(h0, .inr (0, [.ref h1, .ref h3, .int τ.2.2.1, .int τ.2.2.2.1, .int τ.2.2.2.2.1, .int τ.2.2.2.2.2.1, .int τ.2.2.2.2.2.2])), (h1, .inr (3, [.ref h2])), (h2, .inl (cI, 32, .inl τ.1)), (h3, .inr (2, [.ref h4, .ref h5, .int τ.2.1.2.2.1, .int τ.2.1.2.2.2])), (h4, .inl (cI, 24, .inl τ.2.1.1)), (h5, .inl (cI, 24, .inl τ.2.1.2.1)), (h6, .inr (0, [.ref h7, .ref h9, .int υ.2.2.1, .int υ.2.2.2.1, .int υ.2.2.2.2.1, .int υ.2.2.2.2.2.1, .int υ.2.2.2.2.2.2])), (h7, .inr (3, [.ref h8])), (h8, .inl (cI, 32, .inl υ.1)), (h9, .inr (2, [.ref h10, .ref h11, .int υ.2.1.2.2.1, .int υ.2.1.2.2.2])), (h10, .inl (cI, 24, .inl υ.2.1.1)), (h11, .inl (cI, 24, .inl υ.2.1.2.1))] (fX0_take τ υ) (fun u => [(h0, .inr (0, [.ref h1, .ref h3, .int u.2.2.1, .int u.2.2.2.1, .int u.2.2.2.2.1, .int u.2.2.2.2.2.1, .int u.2.2.2.2.2.2])), (h1, .inr (3, [.ref h2])), (h2, .inl (cI, 32, .inl u.1)), (h3, .inr (2, [.ref h4, .ref h5, .int u.2.1.2.2.1, .int u.2.1.2.2.2])), (h4, .inl (cI, 24, .inl u.2.1.1)), (h5, .inl (cI, 24, .inl u.2.1.2.1)), (h6, .inr (0, [.ref h7, .ref h9, .int υ.2.2.1, .int υ.2.2.2.1, .int υ.2.2.2.2.1, .int υ.2.2.2.2.2.1, .int υ.2.2.2.2.2.2])), (h7, .inr (3, [.ref h8])), (h8, .inl (cI, 32, .inl υ.1)), (h9, .inr (2, [.ref h10, .ref h11, .int υ.2.1.2.2.1, .int υ.2.1.2.2.2])), (h10, .inl (cI, 24, .inl υ.2.1.1)), (h11, .inl (cI, 24, .inl υ.2.1.2.1))]) := by
  refine KV.of (cc := cX0_take) (maxL := 2) (by decide) rfl (Nat.le_of_ble_eq_true rfl) rfl (fun p e s m args below meth c ls Q A hx hb hml hown hts hE hP hD hS hl hend => ?_)
  have hown : s.vm.findClass RX0 = some m.cls := hown
  have hl : lv_has ls 2 [(0, .ref h0), (1, .ref h6)] := hl
  refine lv_aload_n hx hb dX0_take_0 rfl (lv_at hl 0 rfl) ?_
  refine va_get (D := D) (ci := 0) (v := .ref h1) (C := RX0) (T := TX0) (N := 7) hx hb hts (fun _ h9 => List.mem_cons_of_mem _ (List.mem_append_left _ (List.mem_append_left _ (List.mem_append_right _ h9)))) hown hE.1 hP 0 rfl rfl 0 (by decide) (hts (.fieldLink RX0 12 "ShadowTable$Copy" "shadow" "LShadowTable$Rows;") (List.mem_of_getElem? (i := 1) rfl)) (fun _ h9 => h9) rfl dX0_take_1 ?_
  refine lv_aload_n hx hb dX0_take_4 rfl (lv_at hl 1 rfl) ?_
  refine va_get (D := D) (ci := 0) (v := .ref h7) (C := RX0) (T := TX0) (N := 7) hx hb hts (fun _ h9 => List.mem_cons_of_mem _ (List.mem_append_left _ (List.mem_append_left _ (List.mem_append_right _ h9)))) hown hE.1 hP 6 rfl rfl 0 (by decide) (hts (.fieldLink RX0 12 "ShadowTable$Copy" "shadow" "LShadowTable$Rows;") (List.mem_of_getElem? (i := 1) rfl)) (fun _ h9 => h9) rfl dX0_take_5 ?_
  refine cVV ⟨hx, hb, hml, hown, hts⟩ (kX3_take l D cI cS h1 h2 h7 h8 τ.1 υ.1) (cwV 1 hts gX0_take_X3_take rfl rfl rfl (by decide +kernel) ⟨Nat.le_of_ble_eq_true rfl, Nat.le_of_ble_eq_true rfl⟩) hE hP hD hS 1 rfl rfl [1, 2, 7, 8] rfl (by decide) (fun _ => rfl) rfl hl.1 rfl (Nat.le_of_ble_eq_true rfl) ⟨Nat.zero_le _, Nat.zero_le _⟩ dX0_take_8 (fun u_8 H locs e_8 hP hD hS => ?_)
  have hP : va_P D vwCl [(h0, .inr (0, [.ref h1, .ref h3, .int τ.2.2.1, .int τ.2.2.2.1, .int τ.2.2.2.2.1, .int τ.2.2.2.2.2.1, .int τ.2.2.2.2.2.2])), (h1, .inr (3, [.ref h2])), (h2, .inl (cI, 32, .inl u_8)), (h3, .inr (2, [.ref h4, .ref h5, .int τ.2.1.2.2.1, .int τ.2.1.2.2.2])), (h4, .inl (cI, 24, .inl τ.2.1.1)), (h5, .inl (cI, 24, .inl τ.2.1.2.1)), (h6, .inr (0, [.ref h7, .ref h9, .int υ.2.2.1, .int υ.2.2.2.1, .int υ.2.2.2.2.1, .int υ.2.2.2.2.2.1, .int υ.2.2.2.2.2.2])), (h7, .inr (3, [.ref h8])), (h8, .inl (cI, 32, .inl υ.1)), (h9, .inr (2, [.ref h10, .ref h11, .int υ.2.1.2.2.1, .int υ.2.1.2.2.2])), (h10, .inl (cI, 24, .inl υ.2.1.1)), (h11, .inl (cI, 24, .inl υ.2.1.2.1))] H := hP
  have hD : va_D A [(h0, .inr (0, [.ref h1, .ref h3, .int τ.2.2.1, .int τ.2.2.2.1, .int τ.2.2.2.2.1, .int τ.2.2.2.2.2.1, .int τ.2.2.2.2.2.2])), (h1, .inr (3, [.ref h2])), (h2, .inl (cI, 32, .inl u_8)), (h3, .inr (2, [.ref h4, .ref h5, .int τ.2.1.2.2.1, .int τ.2.1.2.2.2])), (h4, .inl (cI, 24, .inl τ.2.1.1)), (h5, .inl (cI, 24, .inl τ.2.1.2.1)), (h6, .inr (0, [.ref h7, .ref h9, .int υ.2.2.1, .int υ.2.2.2.1, .int υ.2.2.2.2.1, .int υ.2.2.2.2.2.1, .int υ.2.2.2.2.2.2])), (h7, .inr (3, [.ref h8])), (h8, .inl (cI, 32, .inl υ.1)), (h9, .inr (2, [.ref h10, .ref h11, .int υ.2.1.2.2.1, .int υ.2.1.2.2.2])), (h10, .inl (cI, 24, .inl υ.2.1.1)), (h11, .inl (cI, 24, .inl υ.2.1.2.1))] := hD
  refine lv_aload_n hx hb dX0_take_11 rfl (lv_at hl 0 rfl) ?_
  refine va_get (D := D) (ci := 0) (v := .ref h3) (C := RX0) (T := TX0) (N := 7) hx hb hts (fun _ h9 => List.mem_cons_of_mem _ (List.mem_append_left _ (List.mem_append_left _ (List.mem_append_right _ h9)))) hown hE.1 hP 0 rfl rfl 1 (by decide) (hts (.fieldLink RX0 21 "ShadowTable$Copy" "log" "LShadowTable$Log;") (List.mem_of_getElem? (i := 2) rfl)) (fun _ h9 => h9) rfl dX0_take_12 ?_
  refine lv_aload_n hx hb dX0_take_15 rfl (lv_at hl 1 rfl) ?_
  refine va_get (D := D) (ci := 0) (v := .ref h9) (C := RX0) (T := TX0) (N := 7) hx hb hts (fun _ h9 => List.mem_cons_of_mem _ (List.mem_append_left _ (List.mem_append_left _ (List.mem_append_right _ h9)))) hown hE.1 hP 6 rfl rfl 1 (by decide) (hts (.fieldLink RX0 21 "ShadowTable$Copy" "log" "LShadowTable$Log;") (List.mem_of_getElem? (i := 2) rfl)) (fun _ h9 => h9) rfl dX0_take_16 ?_
  refine cVV ⟨hx, hb, hml, hown, hts⟩ (kX2_take l D cI cS h3 h4 h5 h9 h10 h11 τ.2.1 υ.2.1) (cwV 1 hts gX0_take_X2_take rfl rfl rfl (by decide +kernel) ⟨Nat.le_of_ble_eq_true rfl, Nat.le_of_ble_eq_true rfl⟩) hE hP hD hS 3 rfl rfl [3, 4, 5, 9, 10, 11] rfl (by decide) (fun _ => rfl) rfl hl.1 rfl (Nat.le_of_ble_eq_true rfl) ⟨Nat.zero_le _, Nat.zero_le _⟩ dX0_take_19 (fun u_19 H locs e_19 hP hD hS => ?_)
  have hP : va_P D vwCl [(h0, .inr (0, [.ref h1, .ref h3, .int τ.2.2.1, .int τ.2.2.2.1, .int τ.2.2.2.2.1, .int τ.2.2.2.2.2.1, .int τ.2.2.2.2.2.2])), (h1, .inr (3, [.ref h2])), (h2, .inl (cI, 32, .inl u_8)), (h3, .inr (2, [.ref h4, .ref h5, .int u_19.2.2.1, .int u_19.2.2.2])), (h4, .inl (cI, 24, .inl u_19.1)), (h5, .inl (cI, 24, .inl u_19.2.1)), (h6, .inr (0, [.ref h7, .ref h9, .int υ.2.2.1, .int υ.2.2.2.1, .int υ.2.2.2.2.1, .int υ.2.2.2.2.2.1, .int υ.2.2.2.2.2.2])), (h7, .inr (3, [.ref h8])), (h8, .inl (cI, 32, .inl υ.1)), (h9, .inr (2, [.ref h10, .ref h11, .int υ.2.1.2.2.1, .int υ.2.1.2.2.2])), (h10, .inl (cI, 24, .inl υ.2.1.1)), (h11, .inl (cI, 24, .inl υ.2.1.2.1))] H := hP
  have hD : va_D A [(h0, .inr (0, [.ref h1, .ref h3, .int τ.2.2.1, .int τ.2.2.2.1, .int τ.2.2.2.2.1, .int τ.2.2.2.2.2.1, .int τ.2.2.2.2.2.2])), (h1, .inr (3, [.ref h2])), (h2, .inl (cI, 32, .inl u_8)), (h3, .inr (2, [.ref h4, .ref h5, .int u_19.2.2.1, .int u_19.2.2.2])), (h4, .inl (cI, 24, .inl u_19.1)), (h5, .inl (cI, 24, .inl u_19.2.1)), (h6, .inr (0, [.ref h7, .ref h9, .int υ.2.2.1, .int υ.2.2.2.1, .int υ.2.2.2.2.1, .int υ.2.2.2.2.2.1, .int υ.2.2.2.2.2.2])), (h7, .inr (3, [.ref h8])), (h8, .inl (cI, 32, .inl υ.1)), (h9, .inr (2, [.ref h10, .ref h11, .int υ.2.1.2.2.1, .int υ.2.1.2.2.2])), (h10, .inl (cI, 24, .inl υ.2.1.1)), (h11, .inl (cI, 24, .inl υ.2.1.2.1))] := hD
  refine lv_aload_n hx hb dX0_take_22 rfl (lv_at hl 0 rfl) ?_
  refine lv_aload_n hx hb dX0_take_23 rfl (lv_at hl 1 rfl) ?_
  refine va_get (D := D) (ci := 0) (v := .int υ.2.2.1) (C := RX0) (T := TX0) (N := 7) hx hb hts (fun _ h9 => List.mem_cons_of_mem _ (List.mem_append_left _ (List.mem_append_left _ (List.mem_append_right _ h9)))) hown hE.1 hP 6 rfl rfl 2 (by decide) (hts (.fieldLink RX0 25 "ShadowTable$Copy" "phase" "I") (List.mem_of_getElem? (i := 3) rfl)) (fun _ h9 => h9) rfl dX0_take_24 ?_
  refine xpf (ty := .int) (v := .int υ.2.2.1) (C := RX0) (T := TX0) (N := 7) hx hb hts (fun _ h9 => List.mem_cons_of_mem _ (List.mem_append_left _ (List.mem_append_left _ (List.mem_append_right _ h9)))) tyX0 tyX0_ok nmX0 hown hE hP hD hS 0 rfl rfl 2 (by decide) (hts (.fieldLink RX0 25 "ShadowTable$Copy" "phase" "I") (List.mem_of_getElem? (i := 3) rfl)) rfl rfl (by decide +kernel) rfl rfl (Nat.le_of_ble_eq_true rfl) [(h0, .inr (0, [.ref h1, .ref h3, .int υ.2.2.1, .int τ.2.2.2.1, .int τ.2.2.2.2.1, .int τ.2.2.2.2.2.1, .int τ.2.2.2.2.2.2])), (h1, .inr (3, [.ref h2])), (h2, .inl (cI, 32, .inl u_8)), (h3, .inr (2, [.ref h4, .ref h5, .int u_19.2.2.1, .int u_19.2.2.2])), (h4, .inl (cI, 24, .inl u_19.1)), (h5, .inl (cI, 24, .inl u_19.2.1)), (h6, .inr (0, [.ref h7, .ref h9, .int υ.2.2.1, .int υ.2.2.2.1, .int υ.2.2.2.2.1, .int υ.2.2.2.2.2.1, .int υ.2.2.2.2.2.2])), (h7, .inr (3, [.ref h8])), (h8, .inl (cI, 32, .inl υ.1)), (h9, .inr (2, [.ref h10, .ref h11, .int υ.2.1.2.2.1, .int υ.2.1.2.2.2])), (h10, .inl (cI, 24, .inl υ.2.1.1)), (h11, .inl (cI, 24, .inl υ.2.1.2.1))] rfl dX0_take_27 (fun H locs hP hD hS => ?_)
  refine lv_aload_n hx hb dX0_take_30 rfl (lv_at hl 0 rfl) ?_
  refine lv_aload_n hx hb dX0_take_31 rfl (lv_at hl 1 rfl) ?_
  refine va_get (D := D) (ci := 0) (v := .int υ.2.2.2.1) (C := RX0) (T := TX0) (N := 7) hx hb hts (fun _ h9 => List.mem_cons_of_mem _ (List.mem_append_left _ (List.mem_append_left _ (List.mem_append_right _ h9)))) hown hE.1 hP 6 rfl rfl 3 (by decide) (hts (.fieldLink RX0 33 "ShadowTable$Copy" "kind" "I") (List.mem_of_getElem? (i := 4) rfl)) (fun _ h9 => h9) rfl dX0_take_32 ?_
  refine xpf (ty := .int) (v := .int υ.2.2.2.1) (C := RX0) (T := TX0) (N := 7) hx hb hts (fun _ h9 => List.mem_cons_of_mem _ (List.mem_append_left _ (List.mem_append_left _ (List.mem_append_right _ h9)))) tyX0 tyX0_ok nmX0 hown hE hP hD hS 0 rfl rfl 3 (by decide) (hts (.fieldLink RX0 33 "ShadowTable$Copy" "kind" "I") (List.mem_of_getElem? (i := 4) rfl)) rfl rfl (by decide +kernel) rfl rfl (Nat.le_of_ble_eq_true rfl) [(h0, .inr (0, [.ref h1, .ref h3, .int υ.2.2.1, .int υ.2.2.2.1, .int τ.2.2.2.2.1, .int τ.2.2.2.2.2.1, .int τ.2.2.2.2.2.2])), (h1, .inr (3, [.ref h2])), (h2, .inl (cI, 32, .inl u_8)), (h3, .inr (2, [.ref h4, .ref h5, .int u_19.2.2.1, .int u_19.2.2.2])), (h4, .inl (cI, 24, .inl u_19.1)), (h5, .inl (cI, 24, .inl u_19.2.1)), (h6, .inr (0, [.ref h7, .ref h9, .int υ.2.2.1, .int υ.2.2.2.1, .int υ.2.2.2.2.1, .int υ.2.2.2.2.2.1, .int υ.2.2.2.2.2.2])), (h7, .inr (3, [.ref h8])), (h8, .inl (cI, 32, .inl υ.1)), (h9, .inr (2, [.ref h10, .ref h11, .int υ.2.1.2.2.1, .int υ.2.1.2.2.2])), (h10, .inl (cI, 24, .inl υ.2.1.1)), (h11, .inl (cI, 24, .inl υ.2.1.2.1))] rfl dX0_take_35 (fun H locs hP hD hS => ?_)
  refine lv_aload_n hx hb dX0_take_38 rfl (lv_at hl 0 rfl) ?_
  refine lv_aload_n hx hb dX0_take_39 rfl (lv_at hl 1 rfl) ?_
  refine va_get (D := D) (ci := 0) (v := .int υ.2.2.2.2.1) (C := RX0) (T := TX0) (N := 7) hx hb hts (fun _ h9 => List.mem_cons_of_mem _ (List.mem_append_left _ (List.mem_append_left _ (List.mem_append_right _ h9)))) hown hE.1 hP 6 rfl rfl 4 (by decide) (hts (.fieldLink RX0 36 "ShadowTable$Copy" "lot" "I") (List.mem_of_getElem? (i := 5) rfl)) (fun _ h9 => h9) rfl dX0_take_40 ?_
  refine xpf (ty := .int) (v := .int υ.2.2.2.2.1) (C := RX0) (T := TX0) (N := 7) hx hb hts (fun _ h9 => List.mem_cons_of_mem _ (List.mem_append_left _ (List.mem_append_left _ (List.mem_append_right _ h9)))) tyX0 tyX0_ok nmX0 hown hE hP hD hS 0 rfl rfl 4 (by decide) (hts (.fieldLink RX0 36 "ShadowTable$Copy" "lot" "I") (List.mem_of_getElem? (i := 5) rfl)) rfl rfl (by decide +kernel) rfl rfl (Nat.le_of_ble_eq_true rfl) [(h0, .inr (0, [.ref h1, .ref h3, .int υ.2.2.1, .int υ.2.2.2.1, .int υ.2.2.2.2.1, .int τ.2.2.2.2.2.1, .int τ.2.2.2.2.2.2])), (h1, .inr (3, [.ref h2])), (h2, .inl (cI, 32, .inl u_8)), (h3, .inr (2, [.ref h4, .ref h5, .int u_19.2.2.1, .int u_19.2.2.2])), (h4, .inl (cI, 24, .inl u_19.1)), (h5, .inl (cI, 24, .inl u_19.2.1)), (h6, .inr (0, [.ref h7, .ref h9, .int υ.2.2.1, .int υ.2.2.2.1, .int υ.2.2.2.2.1, .int υ.2.2.2.2.2.1, .int υ.2.2.2.2.2.2])), (h7, .inr (3, [.ref h8])), (h8, .inl (cI, 32, .inl υ.1)), (h9, .inr (2, [.ref h10, .ref h11, .int υ.2.1.2.2.1, .int υ.2.1.2.2.2])), (h10, .inl (cI, 24, .inl υ.2.1.1)), (h11, .inl (cI, 24, .inl υ.2.1.2.1))] rfl dX0_take_43 (fun H locs hP hD hS => ?_)
  refine lv_aload_n hx hb dX0_take_46 rfl (lv_at hl 0 rfl) ?_
  refine lv_aload_n hx hb dX0_take_47 rfl (lv_at hl 1 rfl) ?_
  refine va_get (D := D) (ci := 0) (v := .int υ.2.2.2.2.2.1) (C := RX0) (T := TX0) (N := 7) hx hb hts (fun _ h9 => List.mem_cons_of_mem _ (List.mem_append_left _ (List.mem_append_left _ (List.mem_append_right _ h9)))) hown hE.1 hP 6 rfl rfl 5 (by decide) (hts (.fieldLink RX0 39 "ShadowTable$Copy" "cursor" "I") (List.mem_of_getElem? (i := 6) rfl)) (fun _ h9 => h9) rfl dX0_take_48 ?_
  refine xpf (ty := .int) (v := .int υ.2.2.2.2.2.1) (C := RX0) (T := TX0) (N := 7) hx hb hts (fun _ h9 => List.mem_cons_of_mem _ (List.mem_append_left _ (List.mem_append_left _ (List.mem_append_right _ h9)))) tyX0 tyX0_ok nmX0 hown hE hP hD hS 0 rfl rfl 5 (by decide) (hts (.fieldLink RX0 39 "ShadowTable$Copy" "cursor" "I") (List.mem_of_getElem? (i := 6) rfl)) rfl rfl (by decide +kernel) rfl rfl (Nat.le_of_ble_eq_true rfl) [(h0, .inr (0, [.ref h1, .ref h3, .int υ.2.2.1, .int υ.2.2.2.1, .int υ.2.2.2.2.1, .int υ.2.2.2.2.2.1, .int τ.2.2.2.2.2.2])), (h1, .inr (3, [.ref h2])), (h2, .inl (cI, 32, .inl u_8)), (h3, .inr (2, [.ref h4, .ref h5, .int u_19.2.2.1, .int u_19.2.2.2])), (h4, .inl (cI, 24, .inl u_19.1)), (h5, .inl (cI, 24, .inl u_19.2.1)), (h6, .inr (0, [.ref h7, .ref h9, .int υ.2.2.1, .int υ.2.2.2.1, .int υ.2.2.2.2.1, .int υ.2.2.2.2.2.1, .int υ.2.2.2.2.2.2])), (h7, .inr (3, [.ref h8])), (h8, .inl (cI, 32, .inl υ.1)), (h9, .inr (2, [.ref h10, .ref h11, .int υ.2.1.2.2.1, .int υ.2.1.2.2.2])), (h10, .inl (cI, 24, .inl υ.2.1.1)), (h11, .inl (cI, 24, .inl υ.2.1.2.1))] rfl dX0_take_51 (fun H locs hP hD hS => ?_)
  refine lv_aload_n hx hb dX0_take_54 rfl (lv_at hl 0 rfl) ?_
  refine lv_aload_n hx hb dX0_take_55 rfl (lv_at hl 1 rfl) ?_
  refine va_get (D := D) (ci := 0) (v := .int υ.2.2.2.2.2.2) (C := RX0) (T := TX0) (N := 7) hx hb hts (fun _ h9 => List.mem_cons_of_mem _ (List.mem_append_left _ (List.mem_append_left _ (List.mem_append_right _ h9)))) hown hE.1 hP 6 rfl rfl 6 (by decide) (hts (.fieldLink RX0 49 "ShadowTable$Copy" "age" "I") (List.mem_of_getElem? (i := 7) rfl)) (fun _ h9 => h9) rfl dX0_take_56 ?_
  refine xpf (ty := .int) (v := .int υ.2.2.2.2.2.2) (C := RX0) (T := TX0) (N := 7) hx hb hts (fun _ h9 => List.mem_cons_of_mem _ (List.mem_append_left _ (List.mem_append_left _ (List.mem_append_right _ h9)))) tyX0 tyX0_ok nmX0 hown hE hP hD hS 0 rfl rfl 6 (by decide) (hts (.fieldLink RX0 49 "ShadowTable$Copy" "age" "I") (List.mem_of_getElem? (i := 7) rfl)) rfl rfl (by decide +kernel) rfl rfl (Nat.le_of_ble_eq_true rfl) [(h0, .inr (0, [.ref h1, .ref h3, .int υ.2.2.1, .int υ.2.2.2.1, .int υ.2.2.2.2.1, .int υ.2.2.2.2.2.1, .int υ.2.2.2.2.2.2])), (h1, .inr (3, [.ref h2])), (h2, .inl (cI, 32, .inl u_8)), (h3, .inr (2, [.ref h4, .ref h5, .int u_19.2.2.1, .int u_19.2.2.2])), (h4, .inl (cI, 24, .inl u_19.1)), (h5, .inl (cI, 24, .inl u_19.2.1)), (h6, .inr (0, [.ref h7, .ref h9, .int υ.2.2.1, .int υ.2.2.2.1, .int υ.2.2.2.2.1, .int υ.2.2.2.2.2.1, .int υ.2.2.2.2.2.2])), (h7, .inr (3, [.ref h8])), (h8, .inl (cI, 32, .inl υ.1)), (h9, .inr (2, [.ref h10, .ref h11, .int υ.2.1.2.2.1, .int υ.2.1.2.2.2])), (h10, .inl (cI, 24, .inl υ.2.1.1)), (h11, .inl (cI, 24, .inl υ.2.1.2.1))] rfl dX0_take_59 (fun H locs hP hD hS => ?_)
  exact hend _ _ _ _ _ dX0_take_62 (fX0_take_p0 τ υ u_8 e_8 u_19 e_19) hP hS

def fX0_copyKey (p0 : Int32) (p1 : Int32) (τ : CopyT) : Int32 × CopyT := (if (fX6_changedValue τ.2.2.2.1 p0 p1) = (-5 : Int32) then ((0 : Int32), (τ.1, τ.2.1, τ.2.2.1, τ.2.2.2.1, τ.2.2.2.2.1, (p0 + (1 : Int32)), τ.2.2.2.2.2.2)) else (if (fX3_at p0 τ.1) = (-5 : Int32) then (let u_44 := (fX3_place p0 (fX6_changedValue τ.2.2.2.1 p0 p1) τ.1); ((1 : Int32), (u_44, τ.2.1, τ.2.2.1, τ.2.2.2.1, τ.2.2.2.2.1, (p0 + (1 : Int32)), τ.2.2.2.2.2.2))) else ((0 : Int32), (τ.1, τ.2.1, τ.2.2.1, τ.2.2.2.1, τ.2.2.2.2.1, (p0 + (1 : Int32)), τ.2.2.2.2.2.2))))
theorem fX0_copyKey_p0 (p0 : Int32) (p1 : Int32) (τ : CopyT) (c_20 : (fX6_changedValue τ.2.2.2.1 p0 p1) = (-5 : Int32)) : (fX0_copyKey p0 p1 τ) = ((0 : Int32), (τ.1, τ.2.1, τ.2.2.1, τ.2.2.2.1, τ.2.2.2.2.1, (p0 + (1 : Int32)), τ.2.2.2.2.2.2)) := by
  simp only [fX0_copyKey, if_pos c_20]
theorem fX0_copyKey_p1 (p0 : Int32) (p1 : Int32) (τ : CopyT) (c_20 : ¬ (fX6_changedValue τ.2.2.2.1 p0 p1) = (-5 : Int32)) (c_33 : (fX3_at p0 τ.1) = (-5 : Int32)) (u_44 : FnI) (e_44 : (fX3_place p0 (fX6_changedValue τ.2.2.2.1 p0 p1) τ.1) = u_44) : (fX0_copyKey p0 p1 τ) = ((1 : Int32), (u_44, τ.2.1, τ.2.2.1, τ.2.2.2.1, τ.2.2.2.2.1, (p0 + (1 : Int32)), τ.2.2.2.2.2.2)) := by
  simp only [fX0_copyKey, if_neg c_20, if_pos c_33, e_44]
theorem fX0_copyKey_p2 (p0 : Int32) (p1 : Int32) (τ : CopyT) (c_20 : ¬ (fX6_changedValue τ.2.2.2.1 p0 p1) = (-5 : Int32)) (c_33 : ¬ (fX3_at p0 τ.1) = (-5 : Int32)) : (fX0_copyKey p0 p1 τ) = ((0 : Int32), (τ.1, τ.2.1, τ.2.2.1, τ.2.2.2.1, τ.2.2.2.2.1, (p0 + (1 : Int32)), τ.2.2.2.2.2.2)) := by
  simp only [fX0_copyKey, if_neg c_20, if_neg c_33]
set_option maxHeartbeats 4000000 in
set_option maxRecDepth 100000 in
theorem kX0_copyKey (l : Launch) (D : va_G) (cI cS : ClassId) (h0 h1 h2 h3 h4 h5 : Nat) (p0 : Int32) (p1 : Int32) (τ : CopyT) : KI l yX0_copyKey wsX0_copyKey { frames := 1, cells := 0, slots := 0, locals := 22 } D (tysA cI cS) [.ref h0, .int p0, .int p1] [(h0, .inr (0, [.ref h1, .ref h3, .int τ.2.2.1, .int τ.2.2.2.1, .int τ.2.2.2.2.1, .int τ.2.2.2.2.2.1, .int τ.2.2.2.2.2.2])), (h1, .inr (3, [.ref h2])), (h2, .inl (cI, 32, .inl τ.1)), (h3, .inr (2, [.ref h4, .ref h5, .int τ.2.1.2.2.1, .int τ.2.1.2.2.2])), (h4, .inl (cI, 24, .inl τ.2.1.1)), (h5, .inl (cI, 24, .inl τ.2.1.2.1))] (fX0_copyKey p0 p1 τ) (fun u => [(h0, .inr (0, [.ref h1, .ref h3, .int u.2.2.1, .int u.2.2.2.1, .int u.2.2.2.2.1, .int u.2.2.2.2.2.1, .int u.2.2.2.2.2.2])), (h1, .inr (3, [.ref h2])), (h2, .inl (cI, 32, .inl u.1)), (h3, .inr (2, [.ref h4, .ref h5, .int u.2.1.2.2.1, .int u.2.1.2.2.2])), (h4, .inl (cI, 24, .inl u.2.1.1)), (h5, .inl (cI, 24, .inl u.2.1.2.1))]) := by
  refine KI.of (cc := cX0_copyKey) (maxL := 4) (ty := .boolean) (by decide) rfl (Nat.le_of_ble_eq_true rfl) rfl (fun p e s m args below meth c ls Q A hx hb hml hown hts hE hP hD hS hl hend => ?_)
  have hown : s.vm.findClass RX0 = some m.cls := hown
  have hl : lv_has ls 4 [(0, .ref h0), (1, .int p0), (2, .int p1)] := hl
  refine lv_aload_n hx hb dX0_copyKey_0 rfl (lv_at hl 0 rfl) ?_
  refine lv_iload_n hx hb dX0_copyKey_1 rfl (lv_at hl 1 rfl) ?_
  refine lv_iconst (v := (1 : Int32)) hx hb dX0_copyKey_2 (by decide +kernel) ?_
  refine lv_iadd hx hb dX0_copyKey_3 ?_
  refine xpf (ty := .int) (v := .int (p0 + (1 : Int32))) (C := RX0) (T := TX0) (N := 7) hx hb hts (fun _ h9 => List.mem_cons_of_mem _ (List.mem_append_left _ (List.mem_append_right _ h9))) tyX0 tyX0_ok nmX0 hown hE hP hD hS 0 rfl rfl 5 (by decide) (hts (.fieldLink RX0 39 "ShadowTable$Copy" "cursor" "I") (List.mem_of_getElem? (i := 1) rfl)) rfl rfl (by decide +kernel) rfl rfl (Nat.le_of_ble_eq_true rfl) [(h0, .inr (0, [.ref h1, .ref h3, .int τ.2.2.1, .int τ.2.2.2.1, .int τ.2.2.2.2.1, .int (p0 + (1 : Int32)), .int τ.2.2.2.2.2.2])), (h1, .inr (3, [.ref h2])), (h2, .inl (cI, 32, .inl τ.1)), (h3, .inr (2, [.ref h4, .ref h5, .int τ.2.1.2.2.1, .int τ.2.1.2.2.2])), (h4, .inl (cI, 24, .inl τ.2.1.1)), (h5, .inl (cI, 24, .inl τ.2.1.2.1))] rfl dX0_copyKey_4 (fun H locs hP hD hS => ?_)
  refine lv_aload_n hx hb dX0_copyKey_7 rfl (lv_at hl 0 rfl) ?_
  refine va_get (D := D) (ci := 0) (v := .int τ.2.2.2.1) (C := RX0) (T := TX0) (N := 7) hx hb hts (fun _ h9 => List.mem_cons_of_mem _ (List.mem_append_left _ (List.mem_append_right _ h9))) hown hE.1 hP 0 rfl rfl 3 (by decide) (hts (.fieldLink RX0 33 "ShadowTable$Copy" "kind" "I") (List.mem_of_getElem? (i := 2) rfl)) (fun _ h9 => h9) rfl dX0_copyKey_8 ?_
  refine lv_iload_n hx hb dX0_copyKey_11 rfl (lv_at hl 1 rfl) ?_
  refine lv_iload_n hx hb dX0_copyKey_12 rfl (lv_at hl 2 rfl) ?_
  refine cRSN ⟨hx, hb, hml, hown, hts⟩ (kX6_changedValue l D cI cS τ.2.2.2.1 p0 p1) ⟨(va_cnB 3 hts gX0_copyKey_X6_changedValue_n52 rfl rfl rfl (hE.2.m 11 rfl) (hts (.initialized RX6) (List.mem_of_getElem? (i := 5) rfl)) (by decide +kernel) ⟨Nat.le_of_ble_eq_true rfl, Nat.le_of_ble_eq_true rfl⟩), (hts (.static yX6_changedValue) (List.mem_of_getElem? (i := 4) rfl)), trivial⟩ hE hP [] rfl rfl hl.1 rfl (Nat.le_of_ble_eq_true rfl) ⟨Nat.zero_le _, Nat.zero_le _⟩ dX0_copyKey_13 ?_
  refine lv_istore_n (lv' := [(3, .int (fX6_changedValue τ.2.2.2.1 p0 p1)), (0, .ref h0), (1, .int p0), (2, .int p1)]) hx hb dX0_copyKey_16 rfl hl (by decide) rfl (fun ls hl => ?_)
  refine lv_iload_n hx hb dX0_copyKey_17 rfl (lv_at hl 0 rfl) ?_
  refine lv_bipush (v := (-5 : Int32)) hx hb dX0_copyKey_18 (by decide +kernel) ?_
  refine lv_icmp_eq (tgt := 36) hx hb dX0_copyKey_20 (by decide) (fun c_20 => ?_) (fun c_20 => ?_)
  · refine lv_iconst (v := (0 : Int32)) hx hb dX0_copyKey_36 (by decide +kernel) ?_
    exact hend _ _ _ _ _ _ dX0_copyKey_37 rfl (fX0_copyKey_p0 p0 p1 τ c_20) hP hS
  · refine lv_aload_n hx hb dX0_copyKey_23 rfl (lv_at hl 1 rfl) ?_
    refine va_get (D := D) (ci := 0) (v := .ref h1) (C := RX0) (T := TX0) (N := 7) hx hb hts (fun _ h9 => List.mem_cons_of_mem _ (List.mem_append_left _ (List.mem_append_right _ h9))) hown hE.1 hP 0 rfl rfl 0 (by decide) (hts (.fieldLink RX0 12 "ShadowTable$Copy" "shadow" "LShadowTable$Rows;") (List.mem_of_getElem? (i := 3) rfl)) (fun _ h9 => h9) rfl dX0_copyKey_24 ?_
    refine lv_iload_n hx hb dX0_copyKey_27 rfl (lv_at hl 2 rfl) ?_
    refine cRV ⟨hx, hb, hml, hown, hts⟩ (kX3_at l D cI cS h1 h2 p0 τ.1) (cwV 1 hts gX0_copyKey_X3_at rfl rfl rfl (by decide +kernel) ⟨Nat.le_of_ble_eq_true rfl, Nat.le_of_ble_eq_true rfl⟩) hE hP 1 rfl rfl [1, 2] rfl rfl hl.1 rfl (Nat.le_of_ble_eq_true rfl) ⟨Nat.zero_le _, Nat.zero_le _⟩ dX0_copyKey_28 ?_
    refine lv_bipush (v := (-5 : Int32)) hx hb dX0_copyKey_31 (by decide +kernel) ?_
    refine lv_icmp_eq (tgt := 38) hx hb dX0_copyKey_33 (by decide) (fun c_33 => ?_) (fun c_33 => ?_)
    · refine lv_aload_n hx hb dX0_copyKey_38 rfl (lv_at hl 1 rfl) ?_
      refine va_get (D := D) (ci := 0) (v := .ref h1) (C := RX0) (T := TX0) (N := 7) hx hb hts (fun _ h9 => List.mem_cons_of_mem _ (List.mem_append_left _ (List.mem_append_right _ h9))) hown hE.1 hP 0 rfl rfl 0 (by decide) (hts (.fieldLink RX0 12 "ShadowTable$Copy" "shadow" "LShadowTable$Rows;") (List.mem_of_getElem? (i := 3) rfl)) (fun _ h9 => h9) rfl dX0_copyKey_39 ?_
      refine lv_iload_n hx hb dX0_copyKey_42 rfl (lv_at hl 2 rfl) ?_
      refine lv_iload_n hx hb dX0_copyKey_43 rfl (lv_at hl 0 rfl) ?_
      refine cVV ⟨hx, hb, hml, hown, hts⟩ (kX3_place l D cI cS h1 h2 p0 (fX6_changedValue τ.2.2.2.1 p0 p1) τ.1) (cwV 2 hts gX0_copyKey_X3_place rfl rfl rfl (by decide +kernel) ⟨Nat.le_of_ble_eq_true rfl, Nat.le_of_ble_eq_true rfl⟩) hE hP hD hS 1 rfl rfl [1, 2] rfl (by decide) (fun _ => rfl) rfl hl.1 rfl (Nat.le_of_ble_eq_true rfl) ⟨Nat.zero_le _, Nat.zero_le _⟩ dX0_copyKey_44 (fun u_44 H locs e_44 hP hD hS => ?_)
      have hP : va_P D vwCl [(h0, .inr (0, [.ref h1, .ref h3, .int τ.2.2.1, .int τ.2.2.2.1, .int τ.2.2.2.2.1, .int (p0 + (1 : Int32)), .int τ.2.2.2.2.2.2])), (h1, .inr (3, [.ref h2])), (h2, .inl (cI, 32, .inl u_44)), (h3, .inr (2, [.ref h4, .ref h5, .int τ.2.1.2.2.1, .int τ.2.1.2.2.2])), (h4, .inl (cI, 24, .inl τ.2.1.1)), (h5, .inl (cI, 24, .inl τ.2.1.2.1))] H := hP
      have hD : va_D A [(h0, .inr (0, [.ref h1, .ref h3, .int τ.2.2.1, .int τ.2.2.2.1, .int τ.2.2.2.2.1, .int (p0 + (1 : Int32)), .int τ.2.2.2.2.2.2])), (h1, .inr (3, [.ref h2])), (h2, .inl (cI, 32, .inl u_44)), (h3, .inr (2, [.ref h4, .ref h5, .int τ.2.1.2.2.1, .int τ.2.1.2.2.2])), (h4, .inl (cI, 24, .inl τ.2.1.1)), (h5, .inl (cI, 24, .inl τ.2.1.2.1))] := hD
      refine lv_iconst (v := (1 : Int32)) hx hb dX0_copyKey_47 (by decide +kernel) ?_
      exact hend _ _ _ _ _ _ dX0_copyKey_48 rfl (fX0_copyKey_p1 p0 p1 τ c_20 c_33 u_44 e_44) hP hS
    · refine lv_iconst (v := (0 : Int32)) hx hb dX0_copyKey_36 (by decide +kernel) ?_
      exact hend _ _ _ _ _ _ dX0_copyKey_37 rfl (fX0_copyKey_p2 p0 p1 τ c_20 c_33) hP hS

def fX0_tell (p0 : Int32) (τ : CopyT) : Int32 := (if p0 = (0 : Int32) then τ.2.2.1 else (if p0 = (5 : Int32) then (if τ.2.2.1 = (3 : Int32) then τ.2.2.2.2.2.2 else (-5 : Int32)) else (if τ.2.2.1 = (0 : Int32) then (-5 : Int32) else (if p0 = (1 : Int32) then τ.2.2.2.1 else (if p0 = (2 : Int32) then τ.2.2.2.2.1 else (if p0 = (3 : Int32) then τ.2.2.2.2.2.1 else τ.2.1.2.2.2))))))
theorem fX0_tell_p0 (p0 : Int32) (τ : CopyT) (c_1 : ¬ p0 = (0 : Int32)) (c_11 : ¬ p0 = (5 : Int32)) (c_36 : ¬ τ.2.2.1 = (0 : Int32)) (c_43_0 : p0 = (1 : Int32)) : (fX0_tell p0 τ) = τ.2.2.2.1 := by
  simp only [fX0_tell, if_neg c_1, if_neg c_11, if_neg c_36, if_pos c_43_0]
theorem fX0_tell_p1 (p0 : Int32) (τ : CopyT) (c_1 : ¬ p0 = (0 : Int32)) (c_11 : ¬ p0 = (5 : Int32)) (c_36 : ¬ τ.2.2.1 = (0 : Int32)) (c_43_0 : ¬ p0 = (1 : Int32)) (c_43_1 : p0 = (2 : Int32)) : (fX0_tell p0 τ) = τ.2.2.2.2.1 := by
  simp only [fX0_tell, if_neg c_1, if_neg c_11, if_neg c_36, if_neg c_43_0, if_pos c_43_1]
theorem fX0_tell_p2 (p0 : Int32) (τ : CopyT) (c_1 : ¬ p0 = (0 : Int32)) (c_11 : ¬ p0 = (5 : Int32)) (c_36 : ¬ τ.2.2.1 = (0 : Int32)) (c_43_0 : ¬ p0 = (1 : Int32)) (c_43_1 : ¬ p0 = (2 : Int32)) (c_43_2 : p0 = (3 : Int32)) : (fX0_tell p0 τ) = τ.2.2.2.2.2.1 := by
  simp only [fX0_tell, if_neg c_1, if_neg c_11, if_neg c_36, if_neg c_43_0, if_neg c_43_1, if_pos c_43_2]
theorem fX0_tell_p3 (p0 : Int32) (τ : CopyT) (c_1 : ¬ p0 = (0 : Int32)) (c_11 : ¬ p0 = (5 : Int32)) (c_36 : ¬ τ.2.2.1 = (0 : Int32)) (c_43_0 : ¬ p0 = (1 : Int32)) (c_43_1 : ¬ p0 = (2 : Int32)) (c_43_2 : ¬ p0 = (3 : Int32)) : (fX0_tell p0 τ) = τ.2.1.2.2.2 := by
  simp only [fX0_tell, if_neg c_1, if_neg c_11, if_neg c_36, if_neg c_43_0, if_neg c_43_1, if_neg c_43_2]
theorem fX0_tell_p4 (p0 : Int32) (τ : CopyT) (c_1 : ¬ p0 = (0 : Int32)) (c_11 : ¬ p0 = (5 : Int32)) (c_36 : τ.2.2.1 = (0 : Int32)) : (fX0_tell p0 τ) = (-5 : Int32) := by
  simp only [fX0_tell, if_neg c_1, if_neg c_11, if_pos c_36]
theorem fX0_tell_p5 (p0 : Int32) (τ : CopyT) (c_1 : ¬ p0 = (0 : Int32)) (c_11 : p0 = (5 : Int32)) (c_19 : ¬ τ.2.2.1 = (3 : Int32)) : (fX0_tell p0 τ) = (-5 : Int32) := by
  simp only [fX0_tell, if_neg c_1, if_pos c_11, if_neg c_19]
theorem fX0_tell_p6 (p0 : Int32) (τ : CopyT) (c_1 : ¬ p0 = (0 : Int32)) (c_11 : p0 = (5 : Int32)) (c_19 : τ.2.2.1 = (3 : Int32)) : (fX0_tell p0 τ) = τ.2.2.2.2.2.2 := by
  simp only [fX0_tell, if_neg c_1, if_pos c_11, if_pos c_19]
theorem fX0_tell_p7 (p0 : Int32) (τ : CopyT) (c_1 : p0 = (0 : Int32)) : (fX0_tell p0 τ) = τ.2.2.1 := by
  simp only [fX0_tell, if_pos c_1]
set_option maxHeartbeats 4000000 in
set_option maxRecDepth 100000 in
theorem kX0_tell (l : Launch) (D : va_G) (cI cS : ClassId) (h0 h1 h2 h3 h4 h5 : Nat) (p0 : Int32) (τ : CopyT) : KR l yX0_tell wsX0_tell { frames := 0, cells := 0, slots := 0, locals := 0 } D (tysA cI cS) [.ref h0, .int p0] [(h0, .inr (0, [.ref h1, .ref h3, .int τ.2.2.1, .int τ.2.2.2.1, .int τ.2.2.2.2.1, .int τ.2.2.2.2.2.1, .int τ.2.2.2.2.2.2])), (h1, .inr (3, [.ref h2])), (h2, .inl (cI, 32, .inl τ.1)), (h3, .inr (2, [.ref h4, .ref h5, .int τ.2.1.2.2.1, .int τ.2.1.2.2.2])), (h4, .inl (cI, 24, .inl τ.2.1.1)), (h5, .inl (cI, 24, .inl τ.2.1.2.1))] (fX0_tell p0 τ) := by
  refine KR.of (cc := cX0_tell) (maxL := 2) (ty := .int) (by decide) rfl (Nat.le_of_ble_eq_true rfl) rfl (fun p e s m args below meth c ls Q hx hb hml hown hts hE hP hl hend => ?_)
  have hown : s.vm.findClass RX0 = some m.cls := hown
  have hl : lv_has ls 2 [(0, .ref h0), (1, .int p0)] := hl
  refine lv_iload_n hx hb dX0_tell_0 rfl (lv_at hl 1 rfl) ?_
  refine lv_if_ne (tgt := 9) hx hb dX0_tell_1 (by decide) (fun c_1 => ?_) (fun c_1 => ?_)
  · refine lv_iload_n hx hb dX0_tell_9 rfl (lv_at hl 1 rfl) ?_
    refine lv_iconst (v := (5 : Int32)) hx hb dX0_tell_10 (by decide +kernel) ?_
    refine lv_icmp_ne (tgt := 32) hx hb dX0_tell_11 (by decide) (fun c_11 => ?_) (fun c_11 => ?_)
    · refine lv_aload_n hx hb dX0_tell_32 rfl (lv_at hl 0 rfl) ?_
      refine va_get (D := D) (ci := 0) (v := .int τ.2.2.1) (C := RX0) (T := TX0) (N := 7) hx hb hts (fun _ h9 => List.mem_cons_of_mem _ (List.mem_append_left _ (List.mem_append_right _ h9))) hown hE.1 hP 0 rfl rfl 2 (by decide) (hts (.fieldLink RX0 25 "ShadowTable$Copy" "phase" "I") (List.mem_of_getElem? (i := 1) rfl)) (fun _ h9 => h9) rfl dX0_tell_33 ?_
      refine lv_if_ne (tgt := 42) hx hb dX0_tell_36 (by decide) (fun c_36 => ?_) (fun c_36 => ?_)
      · refine lv_iload_n hx hb dX0_tell_42 rfl (lv_at hl 1 rfl) ?_
        refine (Decidable.em (p0 = (1 : Int32))).elim (fun c_43_0 => ?_) (fun c_43_0 => ?_)
        · refine lv_tableIn (off := 25) (tgt := 68) hx hb dX0_tell_43 (by rw [c_43_0]; decide +kernel) (by rw [c_43_0]; decide +kernel) (by rw [c_43_0]; decide +kernel) (by decide) ?_
          refine lv_aload_n hx hb dX0_tell_68 rfl (lv_at hl 0 rfl) ?_
          refine va_get (D := D) (ci := 0) (v := .int τ.2.2.2.1) (C := RX0) (T := TX0) (N := 7) hx hb hts (fun _ h9 => List.mem_cons_of_mem _ (List.mem_append_left _ (List.mem_append_right _ h9))) hown hE.1 hP 0 rfl rfl 3 (by decide) (hts (.fieldLink RX0 33 "ShadowTable$Copy" "kind" "I") (List.mem_of_getElem? (i := 3) rfl)) (fun _ h9 => h9) rfl dX0_tell_69 ?_
          exact hend _ _ _ dX0_tell_72 rfl (fX0_tell_p0 p0 τ c_1 c_11 c_36 c_43_0)
        · refine (Decidable.em (p0 = (2 : Int32))).elim (fun c_43_1 => ?_) (fun c_43_1 => ?_)
          · refine lv_tableIn (off := 30) (tgt := 73) hx hb dX0_tell_43 (by rw [c_43_1]; decide +kernel) (by rw [c_43_1]; decide +kernel) (by rw [c_43_1]; decide +kernel) (by decide) ?_
            refine lv_aload_n hx hb dX0_tell_73 rfl (lv_at hl 0 rfl) ?_
            refine va_get (D := D) (ci := 0) (v := .int τ.2.2.2.2.1) (C := RX0) (T := TX0) (N := 7) hx hb hts (fun _ h9 => List.mem_cons_of_mem _ (List.mem_append_left _ (List.mem_append_right _ h9))) hown hE.1 hP 0 rfl rfl 4 (by decide) (hts (.fieldLink RX0 36 "ShadowTable$Copy" "lot" "I") (List.mem_of_getElem? (i := 4) rfl)) (fun _ h9 => h9) rfl dX0_tell_74 ?_
            exact hend _ _ _ dX0_tell_77 rfl (fX0_tell_p1 p0 τ c_1 c_11 c_36 c_43_0 c_43_1)
          · refine (Decidable.em (p0 = (3 : Int32))).elim (fun c_43_2 => ?_) (fun c_43_2 => ?_)
            · refine lv_tableIn (off := 35) (tgt := 78) hx hb dX0_tell_43 (by rw [c_43_2]; decide +kernel) (by rw [c_43_2]; decide +kernel) (by rw [c_43_2]; decide +kernel) (by decide) ?_
              refine lv_aload_n hx hb dX0_tell_78 rfl (lv_at hl 0 rfl) ?_
              refine va_get (D := D) (ci := 0) (v := .int τ.2.2.2.2.2.1) (C := RX0) (T := TX0) (N := 7) hx hb hts (fun _ h9 => List.mem_cons_of_mem _ (List.mem_append_left _ (List.mem_append_right _ h9))) hown hE.1 hP 0 rfl rfl 5 (by decide) (hts (.fieldLink RX0 39 "ShadowTable$Copy" "cursor" "I") (List.mem_of_getElem? (i := 5) rfl)) (fun _ h9 => h9) rfl dX0_tell_79 ?_
              exact hend _ _ _ dX0_tell_82 rfl (fX0_tell_p2 p0 τ c_1 c_11 c_36 c_43_0 c_43_1 c_43_2)
            · refine xtabD (tgt := 83) hx hb dX0_tell_43 (xno_cons (a := 1) c_43_0 (by decide) (xno_cons (a := 2) c_43_1 (by decide) (xno_cons (a := 3) c_43_2 (by decide) xno_nil))) (by decide +kernel) (by decide) ?_
              refine lv_aload_n hx hb dX0_tell_83 rfl (lv_at hl 0 rfl) ?_
              refine va_get (D := D) (ci := 0) (v := .ref h3) (C := RX0) (T := TX0) (N := 7) hx hb hts (fun _ h9 => List.mem_cons_of_mem _ (List.mem_append_left _ (List.mem_append_right _ h9))) hown hE.1 hP 0 rfl rfl 1 (by decide) (hts (.fieldLink RX0 21 "ShadowTable$Copy" "log" "LShadowTable$Log;") (List.mem_of_getElem? (i := 6) rfl)) (fun _ h9 => h9) rfl dX0_tell_84 ?_
              refine va_getN (D := D) (ci := 2) (v := .int τ.2.1.2.2.2) (C := RX2) (T := TX2) (N := 4) hx hb hts (fun _ h9 => List.mem_cons_of_mem _ (List.mem_append_right _ h9)) hown hE.1 hP 3 rfl rfl 3 (by decide) (hE.2.f 0 rfl) (fun _ h9 => h9) rfl dX0_tell_87 ?_
              exact hend _ _ _ dX0_tell_90 rfl (fX0_tell_p3 p0 τ c_1 c_11 c_36 c_43_0 c_43_1 c_43_2)
      · refine lv_bipush (v := (-5 : Int32)) hx hb dX0_tell_39 (by decide +kernel) ?_
        exact hend _ _ _ dX0_tell_41 rfl (fX0_tell_p4 p0 τ c_1 c_11 c_36)
    · refine lv_aload_n hx hb dX0_tell_14 rfl (lv_at hl 0 rfl) ?_
      refine va_get (D := D) (ci := 0) (v := .int τ.2.2.1) (C := RX0) (T := TX0) (N := 7) hx hb hts (fun _ h9 => List.mem_cons_of_mem _ (List.mem_append_left _ (List.mem_append_right _ h9))) hown hE.1 hP 0 rfl rfl 2 (by decide) (hts (.fieldLink RX0 25 "ShadowTable$Copy" "phase" "I") (List.mem_of_getElem? (i := 1) rfl)) (fun _ h9 => h9) rfl dX0_tell_15 ?_
      refine lv_iconst (v := (3 : Int32)) hx hb dX0_tell_18 (by decide +kernel) ?_
      refine lv_icmp_ne (tgt := 29) hx hb dX0_tell_19 (by decide) (fun c_19 => ?_) (fun c_19 => ?_)
      · refine lv_bipush (v := (-5 : Int32)) hx hb dX0_tell_29 (by decide +kernel) ?_
        exact hend _ _ _ dX0_tell_31 rfl (fX0_tell_p5 p0 τ c_1 c_11 c_19)
      · refine lv_aload_n hx hb dX0_tell_22 rfl (lv_at hl 0 rfl) ?_
        refine va_get (D := D) (ci := 0) (v := .int τ.2.2.2.2.2.2) (C := RX0) (T := TX0) (N := 7) hx hb hts (fun _ h9 => List.mem_cons_of_mem _ (List.mem_append_left _ (List.mem_append_right _ h9))) hown hE.1 hP 0 rfl rfl 6 (by decide) (hts (.fieldLink RX0 49 "ShadowTable$Copy" "age" "I") (List.mem_of_getElem? (i := 2) rfl)) (fun _ h9 => h9) rfl dX0_tell_23 ?_
        refine lv_goto (tgt := 31) hx hb dX0_tell_26 (by decide) ?_
        exact hend _ _ _ dX0_tell_31 rfl (fX0_tell_p6 p0 τ c_1 c_11 c_19)
  · refine lv_aload_n hx hb dX0_tell_4 rfl (lv_at hl 0 rfl) ?_
    refine va_get (D := D) (ci := 0) (v := .int τ.2.2.1) (C := RX0) (T := TX0) (N := 7) hx hb hts (fun _ h9 => List.mem_cons_of_mem _ (List.mem_append_left _ (List.mem_append_right _ h9))) hown hE.1 hP 0 rfl rfl 2 (by decide) (hts (.fieldLink RX0 25 "ShadowTable$Copy" "phase" "I") (List.mem_of_getElem? (i := 1) rfl)) (fun _ h9 => h9) rfl dX0_tell_5 ?_
    exact hend _ _ _ dX0_tell_8 rfl (fX0_tell_p7 p0 τ c_1)
