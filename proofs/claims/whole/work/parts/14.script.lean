/-- a text whose length is in its range -/
def WC (τ : ScT) : Prop := Bd τ.2.1 80
theorem zz_app {τ : ScT} (hs : WC τ) (c : τ.2.1 < (80 : Int32)) : vp_in τ.2.1 80 := by
  rw [Int32.lt_iff_toInt_lt] at c
  have h := Bd.toInt hs (by omega)
  have h3 : (80 : Int32).toInt = 80 := by decide
  exact vp_in_iff.mpr ⟨by omega, by omega⟩
theorem zz_pos {τ : ScT} (hs : WC τ) (c0 : ¬ τ.2.2.1 < (0 : Int32)) (c1 : ¬ τ.2.1 ≤ τ.2.2.1) : vp_in τ.2.2.1 80 := by
  rw [Int32.lt_iff_toInt_lt] at c0
  rw [Int32.le_iff_toInt_le] at c1
  have h := Bd.toInt hs (by omega)
  have h2 := hs.2
  have h3 : (0 : Int32).toInt = 0 := by decide
  exact vp_in_iff.mpr ⟨by omega, by omega⟩
def fX4_appendCharacter (p0 : Int32) (τ : ScT) : Int32 × ScT := (if (fX6_isIn p0 (32 : Int32) (126 : Int32)) = (0 : Int32) then ((-2 : Int32), τ) else (if τ.2.1 < (80 : Int32) then ((τ.2.1 + (1 : Int32)), ((upd τ.1 τ.2.1.toNatClampNeg p0), (τ.2.1 + (1 : Int32)), τ.2.2.1, τ.2.2.2.1, τ.2.2.2.2.1, τ.2.2.2.2.2.1, τ.2.2.2.2.2.2)) else ((-3 : Int32), τ)))
theorem fX4_appendCharacter_p0 (p0 : Int32) (τ : ScT) (c_8 : ¬ (fX6_isIn p0 (32 : Int32) (126 : Int32)) = (0 : Int32)) (c_20 : τ.2.1 < (80 : Int32)) : (fX4_appendCharacter p0 τ) = ((τ.2.1 + (1 : Int32)), ((upd τ.1 τ.2.1.toNatClampNeg p0), (τ.2.1 + (1 : Int32)), τ.2.2.1, τ.2.2.2.1, τ.2.2.2.2.1, τ.2.2.2.2.2.1, τ.2.2.2.2.2.2)) := by
  simp only [fX4_appendCharacter, if_neg c_8, if_pos c_20]
theorem fX4_appendCharacter_p1 (p0 : Int32) (τ : ScT) (c_8 : ¬ (fX6_isIn p0 (32 : Int32) (126 : Int32)) = (0 : Int32)) (c_20 : ¬ τ.2.1 < (80 : Int32)) : (fX4_appendCharacter p0 τ) = ((-3 : Int32), τ) := by
  simp only [fX4_appendCharacter, if_neg c_8, if_neg c_20]
theorem fX4_appendCharacter_p2 (p0 : Int32) (τ : ScT) (c_8 : (fX6_isIn p0 (32 : Int32) (126 : Int32)) = (0 : Int32)) : (fX4_appendCharacter p0 τ) = ((-2 : Int32), τ) := by
  simp only [fX4_appendCharacter, if_pos c_8]
set_option maxHeartbeats 4000000 in
set_option maxRecDepth 100000 in
theorem kX4_appendCharacter (l : Launch) (D : va_G) (cI cS : ClassId) (h0 h1 : Nat) (p0 : Int32) (τ : ScT) (hs : WC τ) : KI l yX4_appendCharacter wsX4_appendCharacter { frames := 1, cells := 0, slots := 0, locals := 22 } D (tysA cI cS) [.ref h0, .int p0] [(h0, .inr (4, [.ref h1, .int τ.2.1, .int τ.2.2.1, .int τ.2.2.2.1, .int τ.2.2.2.2.1, .int τ.2.2.2.2.2.1, .int τ.2.2.2.2.2.2])), (h1, .inl (cI, 80, .inl τ.1))] (fX4_appendCharacter p0 τ) (fun u => [(h0, .inr (4, [.ref h1, .int u.2.1, .int u.2.2.1, .int u.2.2.2.1, .int u.2.2.2.2.1, .int u.2.2.2.2.2.1, .int u.2.2.2.2.2.2])), (h1, .inl (cI, 80, .inl u.1))]) := by
  refine KI.of (cc := cX4_appendCharacter) (maxL := 2) (ty := .int) (by decide) rfl (Nat.le_of_ble_eq_true rfl) rfl (fun p e s m args below meth c ls Q A hx hb hml hown hts hE hP hD hS hl hend => ?_)
  have hown : s.vm.findClass RX4 = some m.cls := hown
  have hl : lv_has ls 2 [(0, .ref h0), (1, .int p0)] := hl
  refine lv_iload_n hx hb dX4_appendCharacter_0 rfl (lv_at hl 1 rfl) ?_
  refine lv_bipush (v := (32 : Int32)) hx hb dX4_appendCharacter_1 (by decide +kernel) ?_
  refine lv_bipush (v := (126 : Int32)) hx hb dX4_appendCharacter_3 (by decide +kernel) ?_
  refine cRSN ⟨hx, hb, hml, hown, hts⟩ (kX6_isIn l D cI cS p0 (32 : Int32) (126 : Int32)) ⟨(va_cnB 3 hts gX4_appendCharacter_X6_isIn_n15 rfl rfl rfl (hE.2.m 14 rfl) (hts (.initialized RX6) (List.mem_of_getElem? (i := 4) rfl)) (by decide +kernel) ⟨Nat.le_of_ble_eq_true rfl, Nat.le_of_ble_eq_true rfl⟩), (hts (.static yX6_isIn) (List.mem_of_getElem? (i := 3) rfl)), trivial⟩ hE hP [] rfl rfl hl.1 rfl (Nat.le_of_ble_eq_true rfl) ⟨Nat.zero_le _, Nat.zero_le _⟩ dX4_appendCharacter_5 ?_
  refine lv_if_ne (tgt := 14) hx hb dX4_appendCharacter_8 (by decide) (fun c_8 => ?_) (fun c_8 => ?_)
  · refine lv_aload_n hx hb dX4_appendCharacter_14 rfl (lv_at hl 0 rfl) ?_
    refine va_get (D := D) (ci := 4) (v := .int τ.2.1) (C := RX4) (T := TX4) (N := 7) hx hb hts (fun _ h9 => List.mem_cons_of_mem _ (List.mem_append_right _ h9)) hown hE.1 hP 0 rfl rfl 1 (by decide) (hts (.fieldLink RX4 19 "ShadowTable$Script" "length" "I") (List.mem_of_getElem? (i := 1) rfl)) (fun _ h9 => h9) rfl dX4_appendCharacter_15 ?_
    refine lv_bipush (v := (80 : Int32)) hx hb dX4_appendCharacter_18 (by decide +kernel) ?_
    refine lv_icmp_lt (tgt := 26) hx hb dX4_appendCharacter_20 (by decide) (fun c_20 => ?_) (fun c_20 => ?_)
    · refine lv_aload_n hx hb dX4_appendCharacter_26 rfl (lv_at hl 0 rfl) ?_
      refine va_get (D := D) (ci := 4) (v := .ref h1) (C := RX4) (T := TX4) (N := 7) hx hb hts (fun _ h9 => List.mem_cons_of_mem _ (List.mem_append_right _ h9)) hown hE.1 hP 0 rfl rfl 0 (by decide) (hts (.fieldLink RX4 9 "ShadowTable$Script" "characters" "[I") (List.mem_of_getElem? (i := 2) rfl)) (fun _ h9 => h9) rfl dX4_appendCharacter_27 ?_
      refine lv_aload_n hx hb dX4_appendCharacter_30 rfl (lv_at hl 0 rfl) ?_
      refine va_get (D := D) (ci := 4) (v := .int τ.2.1) (C := RX4) (T := TX4) (N := 7) hx hb hts (fun _ h9 => List.mem_cons_of_mem _ (List.mem_append_right _ h9)) hown hE.1 hP 0 rfl rfl 1 (by decide) (hts (.fieldLink RX4 19 "ShadowTable$Script" "length" "I") (List.mem_of_getElem? (i := 1) rfl)) (fun _ h9 => h9) rfl dX4_appendCharacter_31 ?_
      refine lv_iload_n hx hb dX4_appendCharacter_34 rfl (lv_at hl 1 rfl) ?_
      refine xst (j := τ.2.1.toNatClampNeg) hx hb hE hP hD hS 1 rfl rfl rfl (zz_app hs c_20) [(h0, .inr (4, [.ref h1, .int τ.2.1, .int τ.2.2.1, .int τ.2.2.2.1, .int τ.2.2.2.2.1, .int τ.2.2.2.2.2.1, .int τ.2.2.2.2.2.2])), (h1, .inl (cI, 80, .inl (upd τ.1 τ.2.1.toNatClampNeg p0)))] rfl dX4_appendCharacter_35 (fun H locs hP hD hS => ?_)
      refine lv_aload_n hx hb dX4_appendCharacter_36 rfl (lv_at hl 0 rfl) ?_
      refine lv_dup hx hb dX4_appendCharacter_37 rfl ?_
      refine va_get (D := D) (ci := 4) (v := .int τ.2.1) (C := RX4) (T := TX4) (N := 7) hx hb hts (fun _ h9 => List.mem_cons_of_mem _ (List.mem_append_right _ h9)) hown hE.1 hP 0 rfl rfl 1 (by decide) (hts (.fieldLink RX4 19 "ShadowTable$Script" "length" "I") (List.mem_of_getElem? (i := 1) rfl)) (fun _ h9 => h9) rfl dX4_appendCharacter_38 ?_
      refine lv_iconst (v := (1 : Int32)) hx hb dX4_appendCharacter_41 (by decide +kernel) ?_
      refine lv_iadd hx hb dX4_appendCharacter_42 ?_
      refine xpf (ty := .int) (v := .int (τ.2.1 + (1 : Int32))) (C := RX4) (T := TX4) (N := 7) hx hb hts (fun _ h9 => List.mem_cons_of_mem _ (List.mem_append_right _ h9)) tyX4 tyX4_ok nmX4 hown hE hP hD hS 0 rfl rfl 1 (by decide) (hts (.fieldLink RX4 19 "ShadowTable$Script" "length" "I") (List.mem_of_getElem? (i := 1) rfl)) rfl rfl (by decide +kernel) rfl rfl (Nat.le_of_ble_eq_true rfl) [(h0, .inr (4, [.ref h1, .int (τ.2.1 + (1 : Int32)), .int τ.2.2.1, .int τ.2.2.2.1, .int τ.2.2.2.2.1, .int τ.2.2.2.2.2.1, .int τ.2.2.2.2.2.2])), (h1, .inl (cI, 80, .inl (upd τ.1 τ.2.1.toNatClampNeg p0)))] rfl dX4_appendCharacter_43 (fun H locs hP hD hS => ?_)
      refine lv_aload_n hx hb dX4_appendCharacter_46 rfl (lv_at hl 0 rfl) ?_
      refine va_get (D := D) (ci := 4) (v := .int (τ.2.1 + (1 : Int32))) (C := RX4) (T := TX4) (N := 7) hx hb hts (fun _ h9 => List.mem_cons_of_mem _ (List.mem_append_right _ h9)) hown hE.1 hP 0 rfl rfl 1 (by decide) (hts (.fieldLink RX4 19 "ShadowTable$Script" "length" "I") (List.mem_of_getElem? (i := 1) rfl)) (fun _ h9 => h9) rfl dX4_appendCharacter_47 ?_
      exact hend _ _ _ _ _ _ dX4_appendCharacter_50 rfl (fX4_appendCharacter_p0 p0 τ c_8 c_20) hP hS
    · refine lv_bipush (v := (-3 : Int32)) hx hb dX4_appendCharacter_23 (by decide +kernel) ?_
      exact hend _ _ _ _ _ _ dX4_appendCharacter_25 rfl (fX4_appendCharacter_p1 p0 τ c_8 c_20) hP hS
  · refine lv_bipush (v := (-2 : Int32)) hx hb dX4_appendCharacter_11 (by decide +kernel) ?_
    exact hend _ _ _ _ _ _ dX4_appendCharacter_13 rfl (fX4_appendCharacter_p2 p0 τ c_8) hP hS

def fX4_empty (τ : ScT) : Int32 × ScT := (τ.2.1, (τ.1, (0 : Int32), τ.2.2.1, τ.2.2.2.1, τ.2.2.2.2.1, τ.2.2.2.2.2.1, τ.2.2.2.2.2.2))
theorem fX4_empty_p0 (τ : ScT) : (fX4_empty τ) = (τ.2.1, (τ.1, (0 : Int32), τ.2.2.1, τ.2.2.2.1, τ.2.2.2.2.1, τ.2.2.2.2.2.1, τ.2.2.2.2.2.2)) := by
  simp only [fX4_empty]
set_option maxHeartbeats 4000000 in
set_option maxRecDepth 100000 in
theorem kX4_empty (l : Launch) (D : va_G) (cI cS : ClassId) (h0 h1 : Nat) (τ : ScT) : KI l yX4_empty wsX4_empty { frames := 0, cells := 0, slots := 0, locals := 0 } D (tysA cI cS) [.ref h0] [(h0, .inr (4, [.ref h1, .int τ.2.1, .int τ.2.2.1, .int τ.2.2.2.1, .int τ.2.2.2.2.1, .int τ.2.2.2.2.2.1, .int τ.2.2.2.2.2.2])), (h1, .inl (cI, 80, .inl τ.1))] (fX4_empty τ) (fun u => [(h0, .inr (4, [.ref h1, .int u.2.1, .int u.2.2.1, .int u.2.2.2.1, .int u.2.2.2.2.1, .int u.2.2.2.2.2.1, .int u.2.2.2.2.2.2])), (h1, .inl (cI, 80, .inl u.1))]) := by
  refine KI.of (cc := cX4_empty) (maxL := 2) (ty := .int) (by decide) rfl (Nat.le_of_ble_eq_true rfl) rfl (fun p e s m args below meth c ls Q A hx hb hml hown hts hE hP hD hS hl hend => ?_)
  have hown : s.vm.findClass RX4 = some m.cls := hown
  have hl : lv_has ls 2 [(0, .ref h0)] := hl
  refine lv_aload_n hx hb dX4_empty_0 rfl (lv_at hl 0 rfl) ?_
  refine va_get (D := D) (ci := 4) (v := .int τ.2.1) (C := RX4) (T := TX4) (N := 7) hx hb hts (fun _ h9 => List.mem_cons_of_mem _ (List.mem_append_right _ h9)) hown hE.1 hP 0 rfl rfl 1 (by decide) (hts (.fieldLink RX4 19 "ShadowTable$Script" "length" "I") (List.mem_of_getElem? (i := 1) rfl)) (fun _ h9 => h9) rfl dX4_empty_1 ?_
  refine lv_istore_n (lv' := [(1, .int τ.2.1), (0, .ref h0)]) hx hb dX4_empty_4 rfl hl (by decide) rfl (fun ls hl => ?_)
  refine lv_aload_n hx hb dX4_empty_5 rfl (lv_at hl 1 rfl) ?_
  refine lv_iconst (v := (0 : Int32)) hx hb dX4_empty_6 (by decide +kernel) ?_
  refine xpf (ty := .int) (v := .int (0 : Int32)) (C := RX4) (T := TX4) (N := 7) hx hb hts (fun _ h9 => List.mem_cons_of_mem _ (List.mem_append_right _ h9)) tyX4 tyX4_ok nmX4 hown hE hP hD hS 0 rfl rfl 1 (by decide) (hts (.fieldLink RX4 19 "ShadowTable$Script" "length" "I") (List.mem_of_getElem? (i := 1) rfl)) rfl rfl (by decide +kernel) rfl rfl (Nat.le_of_ble_eq_true rfl) [(h0, .inr (4, [.ref h1, .int (0 : Int32), .int τ.2.2.1, .int τ.2.2.2.1, .int τ.2.2.2.2.1, .int τ.2.2.2.2.2.1, .int τ.2.2.2.2.2.2])), (h1, .inl (cI, 80, .inl τ.1))] rfl dX4_empty_7 (fun H locs hP hD hS => ?_)
  refine lv_iload_n hx hb dX4_empty_10 rfl (lv_at hl 0 rfl) ?_
  exact hend _ _ _ _ _ _ dX4_empty_11 rfl (fX4_empty_p0 τ) hP hS

theorem zz_dummy_X4 : True := trivial

def fX4_goToStart (τ : ScT) : ScT := (τ.1, τ.2.1, (0 : Int32), τ.2.2.2.1, τ.2.2.2.2.1, τ.2.2.2.2.2.1, τ.2.2.2.2.2.2)
theorem fX4_goToStart_p0 (τ : ScT) : (fX4_goToStart τ) = (τ.1, τ.2.1, (0 : Int32), τ.2.2.2.1, τ.2.2.2.2.1, τ.2.2.2.2.2.1, τ.2.2.2.2.2.2) := by
  simp only [fX4_goToStart]
set_option maxHeartbeats 4000000 in
set_option maxRecDepth 100000 in
theorem kX4_goToStart (l : Launch) (D : va_G) (cI cS : ClassId) (h0 h1 : Nat) (τ : ScT) : KV l yX4_goToStart wsX4_goToStart { frames := 0, cells := 0, slots := 0, locals := 0 } D (tysA cI cS) [.ref h0] [(h0, .inr (4, [.ref h1, .int τ.2.1, .int τ.2.2.1, .int τ.2.2.2.1, .int τ.2.2.2.2.1, .int τ.2.2.2.2.2.1, .int τ.2.2.2.2.2.2])), (h1, .inl (cI, 80, .inl τ.1))] (fX4_goToStart τ) (fun u => [(h0, .inr (4, [.ref h1, .int u.2.1, .int u.2.2.1, .int u.2.2.2.1, .int u.2.2.2.2.1, .int u.2.2.2.2.2.1, .int u.2.2.2.2.2.2])), (h1, .inl (cI, 80, .inl u.1))]) := by
  refine KV.of (cc := cX4_goToStart) (maxL := 1) (by decide) rfl (Nat.le_of_ble_eq_true rfl) rfl (fun p e s m args below meth c ls Q A hx hb hml hown hts hE hP hD hS hl hend => ?_)
  have hown : s.vm.findClass RX4 = some m.cls := hown
  have hl : lv_has ls 1 [(0, .ref h0)] := hl
  refine lv_aload_n hx hb dX4_goToStart_0 rfl (lv_at hl 0 rfl) ?_
  refine lv_iconst (v := (0 : Int32)) hx hb dX4_goToStart_1 (by decide +kernel) ?_
  refine xpf (ty := .int) (v := .int (0 : Int32)) (C := RX4) (T := TX4) (N := 7) hx hb hts (fun _ h9 => List.mem_cons_of_mem _ (List.mem_append_right _ h9)) tyX4 tyX4_ok nmX4 hown hE hP hD hS 0 rfl rfl 2 (by decide) (hts (.fieldLink RX4 23 "ShadowTable$Script" "position" "I") (List.mem_of_getElem? (i := 1) rfl)) rfl rfl (by decide +kernel) rfl rfl (Nat.le_of_ble_eq_true rfl) [(h0, .inr (4, [.ref h1, .int τ.2.1, .int (0 : Int32), .int τ.2.2.2.1, .int τ.2.2.2.2.1, .int τ.2.2.2.2.2.1, .int τ.2.2.2.2.2.2])), (h1, .inl (cI, 80, .inl τ.1))] rfl dX4_goToStart_2 (fun H locs hP hD hS => ?_)
  exact hend _ _ _ _ _ dX4_goToStart_5 (fX4_goToStart_p0 τ) hP hS

theorem zz_WC_go {τ u : ScT} (e : fX4_goToStart τ = u) (hs : WC τ) : WC u := by
  subst e
  exact hs

def fX4_here (τ : ScT) : Int32 := (if τ.2.2.1 < (0 : Int32) then (-5 : Int32) else (if τ.2.1 ≤ τ.2.2.1 then (-5 : Int32) else (τ.1 τ.2.2.1.toNatClampNeg)))
theorem fX4_here_p0 (τ : ScT) (c_4 : τ.2.2.1 < (0 : Int32)) : (fX4_here τ) = (-5 : Int32) := by
  simp only [fX4_here, if_pos c_4]
theorem fX4_here_p1 (τ : ScT) (c_4 : ¬ τ.2.2.1 < (0 : Int32)) (c_15 : τ.2.1 ≤ τ.2.2.1) : (fX4_here τ) = (-5 : Int32) := by
  simp only [fX4_here, if_neg c_4, if_pos c_15]
theorem fX4_here_p2 (τ : ScT) (c_4 : ¬ τ.2.2.1 < (0 : Int32)) (c_15 : ¬ τ.2.1 ≤ τ.2.2.1) : (fX4_here τ) = (τ.1 τ.2.2.1.toNatClampNeg) := by
  simp only [fX4_here, if_neg c_4, if_neg c_15]
set_option maxHeartbeats 4000000 in
set_option maxRecDepth 100000 in
theorem kX4_here (l : Launch) (D : va_G) (cI cS : ClassId) (h0 h1 : Nat) (τ : ScT) (hs : WC τ) : KR l yX4_here wsX4_here { frames := 0, cells := 0, slots := 0, locals := 0 } D (tysA cI cS) [.ref h0] [(h0, .inr (4, [.ref h1, .int τ.2.1, .int τ.2.2.1, .int τ.2.2.2.1, .int τ.2.2.2.2.1, .int τ.2.2.2.2.2.1, .int τ.2.2.2.2.2.2])), (h1, .inl (cI, 80, .inl τ.1))] (fX4_here τ) := by
  refine KR.of (cc := cX4_here) (maxL := 1) (ty := .int) (by decide) rfl (Nat.le_of_ble_eq_true rfl) rfl (fun p e s m args below meth c ls Q hx hb hml hown hts hE hP hl hend => ?_)
  have hown : s.vm.findClass RX4 = some m.cls := hown
  have hl : lv_has ls 1 [(0, .ref h0)] := hl
  refine lv_aload_n hx hb dX4_here_0 rfl (lv_at hl 0 rfl) ?_
  refine va_get (D := D) (ci := 4) (v := .int τ.2.2.1) (C := RX4) (T := TX4) (N := 7) hx hb hts (fun _ h9 => List.mem_cons_of_mem _ (List.mem_append_right _ h9)) hown hE.1 hP 0 rfl rfl 2 (by decide) (hts (.fieldLink RX4 23 "ShadowTable$Script" "position" "I") (List.mem_of_getElem? (i := 1) rfl)) (fun _ h9 => h9) rfl dX4_here_1 ?_
  refine lv_if_lt (tgt := 30) hx hb dX4_here_4 (by decide) (fun c_4 => ?_) (fun c_4 => ?_)
  · refine lv_bipush (v := (-5 : Int32)) hx hb dX4_here_30 (by decide +kernel) ?_
    exact hend _ _ _ dX4_here_32 rfl (fX4_here_p0 τ c_4)
  · refine lv_aload_n hx hb dX4_here_7 rfl (lv_at hl 0 rfl) ?_
    refine va_get (D := D) (ci := 4) (v := .int τ.2.2.1) (C := RX4) (T := TX4) (N := 7) hx hb hts (fun _ h9 => List.mem_cons_of_mem _ (List.mem_append_right _ h9)) hown hE.1 hP 0 rfl rfl 2 (by decide) (hts (.fieldLink RX4 23 "ShadowTable$Script" "position" "I") (List.mem_of_getElem? (i := 1) rfl)) (fun _ h9 => h9) rfl dX4_here_8 ?_
    refine lv_aload_n hx hb dX4_here_11 rfl (lv_at hl 0 rfl) ?_
    refine va_get (D := D) (ci := 4) (v := .int τ.2.1) (C := RX4) (T := TX4) (N := 7) hx hb hts (fun _ h9 => List.mem_cons_of_mem _ (List.mem_append_right _ h9)) hown hE.1 hP 0 rfl rfl 1 (by decide) (hts (.fieldLink RX4 19 "ShadowTable$Script" "length" "I") (List.mem_of_getElem? (i := 2) rfl)) (fun _ h9 => h9) rfl dX4_here_12 ?_
    refine lv_icmp_ge (tgt := 30) hx hb dX4_here_15 (by decide) (fun c_15 => ?_) (fun c_15 => ?_)
    · refine lv_bipush (v := (-5 : Int32)) hx hb dX4_here_30 (by decide +kernel) ?_
      exact hend _ _ _ dX4_here_32 rfl (fX4_here_p1 τ c_4 c_15)
    · refine lv_aload_n hx hb dX4_here_18 rfl (lv_at hl 0 rfl) ?_
      refine va_get (D := D) (ci := 4) (v := .ref h1) (C := RX4) (T := TX4) (N := 7) hx hb hts (fun _ h9 => List.mem_cons_of_mem _ (List.mem_append_right _ h9)) hown hE.1 hP 0 rfl rfl 0 (by decide) (hts (.fieldLink RX4 9 "ShadowTable$Script" "characters" "[I") (List.mem_of_getElem? (i := 3) rfl)) (fun _ h9 => h9) rfl dX4_here_19 ?_
      refine lv_aload_n hx hb dX4_here_22 rfl (lv_at hl 0 rfl) ?_
      refine va_get (D := D) (ci := 4) (v := .int τ.2.2.1) (C := RX4) (T := TX4) (N := 7) hx hb hts (fun _ h9 => List.mem_cons_of_mem _ (List.mem_append_right _ h9)) hown hE.1 hP 0 rfl rfl 2 (by decide) (hts (.fieldLink RX4 23 "ShadowTable$Script" "position" "I") (List.mem_of_getElem? (i := 1) rfl)) (fun _ h9 => h9) rfl dX4_here_23 ?_
      refine xld (v := (τ.1 τ.2.2.1.toNatClampNeg)) (j := τ.2.2.1.toNatClampNeg) hx hb hE hP 1 rfl rfl rfl (zz_pos hs c_4 c_15) rfl dX4_here_26 ?_
      refine lv_goto (tgt := 32) hx hb dX4_here_27 (by decide) ?_
      exact hend _ _ _ dX4_here_32 rfl (fX4_here_p2 τ c_4 c_15)

def fX4_digitHere (τ : ScT) : Int32 := (if (fX6_isIn (fX4_here τ) (48 : Int32) (57 : Int32)) = (0 : Int32) then (-5 : Int32) else ((fX4_here τ) - (48 : Int32)))
theorem fX4_digitHere_p0 (τ : ScT) (c_13 : (fX6_isIn (fX4_here τ) (48 : Int32) (57 : Int32)) = (0 : Int32)) : (fX4_digitHere τ) = (-5 : Int32) := by
  simp only [fX4_digitHere, if_pos c_13]
theorem fX4_digitHere_p1 (τ : ScT) (c_13 : ¬ (fX6_isIn (fX4_here τ) (48 : Int32) (57 : Int32)) = (0 : Int32)) : (fX4_digitHere τ) = ((fX4_here τ) - (48 : Int32)) := by
  simp only [fX4_digitHere, if_neg c_13]
set_option maxHeartbeats 4000000 in
set_option maxRecDepth 100000 in
theorem kX4_digitHere (l : Launch) (D : va_G) (cI cS : ClassId) (h0 h1 : Nat) (τ : ScT) (hs : WC τ) : KR l yX4_digitHere wsX4_digitHere { frames := 1, cells := 0, slots := 0, locals := 22 } D (tysA cI cS) [.ref h0] [(h0, .inr (4, [.ref h1, .int τ.2.1, .int τ.2.2.1, .int τ.2.2.2.1, .int τ.2.2.2.2.1, .int τ.2.2.2.2.2.1, .int τ.2.2.2.2.2.2])), (h1, .inl (cI, 80, .inl τ.1))] (fX4_digitHere τ) := by
  refine KR.of (cc := cX4_digitHere) (maxL := 2) (ty := .int) (by decide) rfl (Nat.le_of_ble_eq_true rfl) rfl (fun p e s m args below meth c ls Q hx hb hml hown hts hE hP hl hend => ?_)
  have hown : s.vm.findClass RX4 = some m.cls := hown
  have hl : lv_has ls 2 [(0, .ref h0)] := hl
  refine lv_aload_n hx hb dX4_digitHere_0 rfl (lv_at hl 0 rfl) ?_
  refine cRV ⟨hx, hb, hml, hown, hts⟩ (kX4_here l D cI cS h0 h1 τ hs) (cwV 0 hts gX4_digitHere_X4_here rfl rfl rfl (by decide +kernel) ⟨Nat.le_of_ble_eq_true rfl, Nat.le_of_ble_eq_true rfl⟩) hE hP 0 rfl rfl [0, 1] rfl rfl hl.1 rfl (Nat.le_of_ble_eq_true rfl) ⟨Nat.zero_le _, Nat.zero_le _⟩ dX4_digitHere_1 ?_
  refine lv_istore_n (lv' := [(1, .int (fX4_here τ)), (0, .ref h0)]) hx hb dX4_digitHere_4 rfl hl (by decide) rfl (fun ls hl => ?_)
  refine lv_iload_n hx hb dX4_digitHere_5 rfl (lv_at hl 0 rfl) ?_
  refine lv_bipush (v := (48 : Int32)) hx hb dX4_digitHere_6 (by decide +kernel) ?_
  refine lv_bipush (v := (57 : Int32)) hx hb dX4_digitHere_8 (by decide +kernel) ?_
  refine cRSN ⟨hx, hb, hml, hown, hts⟩ (kX6_isIn l D cI cS (fX4_here τ) (48 : Int32) (57 : Int32)) ⟨(va_cnB 3 hts gX4_digitHere_X6_isIn_n15 rfl rfl rfl (hE.2.m 14 rfl) (hts (.initialized RX6) (List.mem_of_getElem? (i := 10) rfl)) (by decide +kernel) ⟨Nat.le_of_ble_eq_true rfl, Nat.le_of_ble_eq_true rfl⟩), (hts (.static yX6_isIn) (List.mem_of_getElem? (i := 9) rfl)), trivial⟩ hE hP [] rfl rfl hl.1 rfl (Nat.le_of_ble_eq_true rfl) ⟨Nat.zero_le _, Nat.zero_le _⟩ dX4_digitHere_10 ?_
  refine lv_if_eq (tgt := 23) hx hb dX4_digitHere_13 (by decide) (fun c_13 => ?_) (fun c_13 => ?_)
  · refine lv_bipush (v := (-5 : Int32)) hx hb dX4_digitHere_23 (by decide +kernel) ?_
    exact hend _ _ _ dX4_digitHere_25 rfl (fX4_digitHere_p0 τ c_13)
  · refine lv_iload_n hx hb dX4_digitHere_16 rfl (lv_at hl 0 rfl) ?_
    refine lv_bipush (v := (48 : Int32)) hx hb dX4_digitHere_17 (by decide +kernel) ?_
    refine lv_isub hx hb dX4_digitHere_19 ?_
    refine lv_goto (tgt := 25) hx hb dX4_digitHere_20 (by decide) ?_
    exact hend _ _ _ dX4_digitHere_25 rfl (fX4_digitHere_p1 τ c_13)

def fX4_readNumber (p0 : Int32) (p1 : Int32) (τ : ScT) : Int32 × ScT := (if (fX4_digitHere τ) < p0 then ((0 : Int32), (τ.1, τ.2.1, τ.2.2.1, (fX4_digitHere τ), τ.2.2.2.2.1, τ.2.2.2.2.2.1, τ.2.2.2.2.2.2)) else (if (fX4_digitHere τ) ≤ p1 then (if (fX4_digitHere (τ.1, τ.2.1, (τ.2.2.1 + (1 : Int32)), (fX4_digitHere τ), τ.2.2.2.2.1, τ.2.2.2.2.2.1, τ.2.2.2.2.2.2)) = (-5 : Int32) then ((1 : Int32), (τ.1, τ.2.1, (τ.2.2.1 + (1 : Int32)), (fX4_digitHere τ), τ.2.2.2.2.1, τ.2.2.2.2.2.1, τ.2.2.2.2.2.2)) else (if (fX4_digitHere τ) = (0 : Int32) then ((1 : Int32), (τ.1, τ.2.1, (τ.2.2.1 + (1 : Int32)), (fX4_digitHere τ), τ.2.2.2.2.1, τ.2.2.2.2.2.1, τ.2.2.2.2.2.2)) else (if p1 < (((10 : Int32) * (fX4_digitHere τ)) + (fX4_digitHere (τ.1, τ.2.1, (τ.2.2.1 + (1 : Int32)), (fX4_digitHere τ), τ.2.2.2.2.1, τ.2.2.2.2.2.1, τ.2.2.2.2.2.2))) then ((1 : Int32), (τ.1, τ.2.1, (τ.2.2.1 + (1 : Int32)), (fX4_digitHere τ), τ.2.2.2.2.1, τ.2.2.2.2.2.1, τ.2.2.2.2.2.2)) else ((1 : Int32), (τ.1, τ.2.1, ((τ.2.2.1 + (1 : Int32)) + (1 : Int32)), (((10 : Int32) * (fX4_digitHere τ)) + (fX4_digitHere (τ.1, τ.2.1, (τ.2.2.1 + (1 : Int32)), (fX4_digitHere τ), τ.2.2.2.2.1, τ.2.2.2.2.2.1, τ.2.2.2.2.2.2))), τ.2.2.2.2.1, τ.2.2.2.2.2.1, τ.2.2.2.2.2.2))))) else ((0 : Int32), (τ.1, τ.2.1, τ.2.2.1, (fX4_digitHere τ), τ.2.2.2.2.1, τ.2.2.2.2.2.1, τ.2.2.2.2.2.2))))
theorem fX4_readNumber_p0 (p0 : Int32) (p1 : Int32) (τ : ScT) (c_13 : (fX4_digitHere τ) < p0) : (fX4_readNumber p0 p1 τ) = ((0 : Int32), (τ.1, τ.2.1, τ.2.2.1, (fX4_digitHere τ), τ.2.2.2.2.1, τ.2.2.2.2.2.1, τ.2.2.2.2.2.2)) := by
  simp only [fX4_readNumber, if_pos c_13]
theorem fX4_readNumber_p1 (p0 : Int32) (p1 : Int32) (τ : ScT) (c_13 : ¬ (fX4_digitHere τ) < p0) (c_21 : (fX4_digitHere τ) ≤ p1) (c_44 : (fX4_digitHere (τ.1, τ.2.1, (τ.2.2.1 + (1 : Int32)), (fX4_digitHere τ), τ.2.2.2.2.1, τ.2.2.2.2.2.1, τ.2.2.2.2.2.2)) = (-5 : Int32)) : (fX4_readNumber p0 p1 τ) = ((1 : Int32), (τ.1, τ.2.1, (τ.2.2.1 + (1 : Int32)), (fX4_digitHere τ), τ.2.2.2.2.1, τ.2.2.2.2.2.1, τ.2.2.2.2.2.2)) := by
  simp only [fX4_readNumber, if_neg c_13, if_pos c_21, if_pos c_44]
theorem fX4_readNumber_p2 (p0 : Int32) (p1 : Int32) (τ : ScT) (c_13 : ¬ (fX4_digitHere τ) < p0) (c_21 : (fX4_digitHere τ) ≤ p1) (c_44 : ¬ (fX4_digitHere (τ.1, τ.2.1, (τ.2.2.1 + (1 : Int32)), (fX4_digitHere τ), τ.2.2.2.2.1, τ.2.2.2.2.2.1, τ.2.2.2.2.2.2)) = (-5 : Int32)) (c_51 : (fX4_digitHere τ) = (0 : Int32)) : (fX4_readNumber p0 p1 τ) = ((1 : Int32), (τ.1, τ.2.1, (τ.2.2.1 + (1 : Int32)), (fX4_digitHere τ), τ.2.2.2.2.1, τ.2.2.2.2.2.1, τ.2.2.2.2.2.2)) := by
  simp only [fX4_readNumber, if_neg c_13, if_pos c_21, if_neg c_44, if_pos c_51]
theorem fX4_readNumber_p3 (p0 : Int32) (p1 : Int32) (τ : ScT) (c_13 : ¬ (fX4_digitHere τ) < p0) (c_21 : (fX4_digitHere τ) ≤ p1) (c_44 : ¬ (fX4_digitHere (τ.1, τ.2.1, (τ.2.2.1 + (1 : Int32)), (fX4_digitHere τ), τ.2.2.2.2.1, τ.2.2.2.2.2.1, τ.2.2.2.2.2.2)) = (-5 : Int32)) (c_51 : ¬ (fX4_digitHere τ) = (0 : Int32)) (c_64 : p1 < (((10 : Int32) * (fX4_digitHere τ)) + (fX4_digitHere (τ.1, τ.2.1, (τ.2.2.1 + (1 : Int32)), (fX4_digitHere τ), τ.2.2.2.2.1, τ.2.2.2.2.2.1, τ.2.2.2.2.2.2)))) : (fX4_readNumber p0 p1 τ) = ((1 : Int32), (τ.1, τ.2.1, (τ.2.2.1 + (1 : Int32)), (fX4_digitHere τ), τ.2.2.2.2.1, τ.2.2.2.2.2.1, τ.2.2.2.2.2.2)) := by
  simp only [fX4_readNumber, if_neg c_13, if_pos c_21, if_neg c_44, if_neg c_51, if_pos c_64]
theorem fX4_readNumber_p4 (p0 : Int32) (p1 : Int32) (τ : ScT) (c_13 : ¬ (fX4_digitHere τ) < p0) (c_21 : (fX4_digitHere τ) ≤ p1) (c_44 : ¬ (fX4_digitHere (τ.1, τ.2.1, (τ.2.2.1 + (1 : Int32)), (fX4_digitHere τ), τ.2.2.2.2.1, τ.2.2.2.2.2.1, τ.2.2.2.2.2.2)) = (-5 : Int32)) (c_51 : ¬ (fX4_digitHere τ) = (0 : Int32)) (c_64 : ¬ p1 < (((10 : Int32) * (fX4_digitHere τ)) + (fX4_digitHere (τ.1, τ.2.1, (τ.2.2.1 + (1 : Int32)), (fX4_digitHere τ), τ.2.2.2.2.1, τ.2.2.2.2.2.1, τ.2.2.2.2.2.2)))) : (fX4_readNumber p0 p1 τ) = ((1 : Int32), (τ.1, τ.2.1, ((τ.2.2.1 + (1 : Int32)) + (1 : Int32)), (((10 : Int32) * (fX4_digitHere τ)) + (fX4_digitHere (τ.1, τ.2.1, (τ.2.2.1 + (1 : Int32)), (fX4_digitHere τ), τ.2.2.2.2.1, τ.2.2.2.2.2.1, τ.2.2.2.2.2.2))), τ.2.2.2.2.1, τ.2.2.2.2.2.1, τ.2.2.2.2.2.2)) := by
  simp only [fX4_readNumber, if_neg c_13, if_pos c_21, if_neg c_44, if_neg c_51, if_neg c_64]
theorem fX4_readNumber_p5 (p0 : Int32) (p1 : Int32) (τ : ScT) (c_13 : ¬ (fX4_digitHere τ) < p0) (c_21 : ¬ (fX4_digitHere τ) ≤ p1) : (fX4_readNumber p0 p1 τ) = ((0 : Int32), (τ.1, τ.2.1, τ.2.2.1, (fX4_digitHere τ), τ.2.2.2.2.1, τ.2.2.2.2.2.1, τ.2.2.2.2.2.2)) := by
  simp only [fX4_readNumber, if_neg c_13, if_neg c_21]
set_option maxHeartbeats 4000000 in
set_option maxRecDepth 100000 in
theorem kX4_readNumber (l : Launch) (D : va_G) (cI cS : ClassId) (h0 h1 : Nat) (p0 : Int32) (p1 : Int32) (τ : ScT) (hs : WC τ) : KI l yX4_readNumber wsX4_readNumber { frames := 2, cells := 0, slots := 0, locals := 43 } D (tysA cI cS) [.ref h0, .int p0, .int p1] [(h0, .inr (4, [.ref h1, .int τ.2.1, .int τ.2.2.1, .int τ.2.2.2.1, .int τ.2.2.2.2.1, .int τ.2.2.2.2.2.1, .int τ.2.2.2.2.2.2])), (h1, .inl (cI, 80, .inl τ.1))] (fX4_readNumber p0 p1 τ) (fun u => [(h0, .inr (4, [.ref h1, .int u.2.1, .int u.2.2.1, .int u.2.2.2.1, .int u.2.2.2.2.1, .int u.2.2.2.2.2.1, .int u.2.2.2.2.2.2])), (h1, .inl (cI, 80, .inl u.1))]) := by
  refine KI.of (cc := cX4_readNumber) (maxL := 4) (ty := .boolean) (by decide) rfl (Nat.le_of_ble_eq_true rfl) rfl (fun p e s m args below meth c ls Q A hx hb hml hown hts hE hP hD hS hl hend => ?_)
  have hown : s.vm.findClass RX4 = some m.cls := hown
  have hl : lv_has ls 4 [(0, .ref h0), (1, .int p0), (2, .int p1)] := hl
  refine lv_aload_n hx hb dX4_readNumber_0 rfl (lv_at hl 0 rfl) ?_
  refine lv_aload_n hx hb dX4_readNumber_1 rfl (lv_at hl 0 rfl) ?_
  refine cRV ⟨hx, hb, hml, hown, hts⟩ (kX4_digitHere l D cI cS h0 h1 τ hs) (cwV 0 hts gX4_readNumber_X4_digitHere rfl rfl rfl (by decide +kernel) ⟨Nat.le_of_ble_eq_true rfl, Nat.le_of_ble_eq_true rfl⟩) hE hP 0 rfl rfl [0, 1] rfl rfl hl.1 rfl (Nat.le_of_ble_eq_true rfl) ⟨Nat.zero_le _, Nat.zero_le _⟩ dX4_readNumber_2 ?_
  refine xpf (ty := .int) (v := .int (fX4_digitHere τ)) (C := RX4) (T := TX4) (N := 7) hx hb hts (fun _ h9 => List.mem_cons_of_mem _ (List.mem_append_right _ h9)) tyX4 tyX4_ok nmX4 hown hE hP hD hS 0 rfl rfl 3 (by decide) (hts (.fieldLink RX4 57 "ShadowTable$Script" "number" "I") (List.mem_of_getElem? (i := 1) rfl)) rfl rfl (by decide +kernel) rfl rfl (Nat.le_of_ble_eq_true rfl) [(h0, .inr (4, [.ref h1, .int τ.2.1, .int τ.2.2.1, .int (fX4_digitHere τ), .int τ.2.2.2.2.1, .int τ.2.2.2.2.2.1, .int τ.2.2.2.2.2.2])), (h1, .inl (cI, 80, .inl τ.1))] rfl dX4_readNumber_5 (fun H locs hP hD hS => ?_)
  refine lv_aload_n hx hb dX4_readNumber_8 rfl (lv_at hl 0 rfl) ?_
  refine va_get (D := D) (ci := 4) (v := .int (fX4_digitHere τ)) (C := RX4) (T := TX4) (N := 7) hx hb hts (fun _ h9 => List.mem_cons_of_mem _ (List.mem_append_right _ h9)) hown hE.1 hP 0 rfl rfl 3 (by decide) (hts (.fieldLink RX4 57 "ShadowTable$Script" "number" "I") (List.mem_of_getElem? (i := 1) rfl)) (fun _ h9 => h9) rfl dX4_readNumber_9 ?_
  refine lv_iload_n hx hb dX4_readNumber_12 rfl (lv_at hl 1 rfl) ?_
  refine lv_icmp_lt (tgt := 24) hx hb dX4_readNumber_13 (by decide) (fun c_13 => ?_) (fun c_13 => ?_)
  · refine lv_iconst (v := (0 : Int32)) hx hb dX4_readNumber_24 (by decide +kernel) ?_
    exact hend _ _ _ _ _ _ dX4_readNumber_25 rfl (fX4_readNumber_p0 p0 p1 τ c_13) hP hS
  · refine lv_aload_n hx hb dX4_readNumber_16 rfl (lv_at hl 0 rfl) ?_
    refine va_get (D := D) (ci := 4) (v := .int (fX4_digitHere τ)) (C := RX4) (T := TX4) (N := 7) hx hb hts (fun _ h9 => List.mem_cons_of_mem _ (List.mem_append_right _ h9)) hown hE.1 hP 0 rfl rfl 3 (by decide) (hts (.fieldLink RX4 57 "ShadowTable$Script" "number" "I") (List.mem_of_getElem? (i := 1) rfl)) (fun _ h9 => h9) rfl dX4_readNumber_17 ?_
    refine lv_iload_n hx hb dX4_readNumber_20 rfl (lv_at hl 2 rfl) ?_
    refine lv_icmp_le (tgt := 26) hx hb dX4_readNumber_21 (by decide) (fun c_21 => ?_) (fun c_21 => ?_)
    · refine lv_aload_n hx hb dX4_readNumber_26 rfl (lv_at hl 0 rfl) ?_
      refine lv_dup hx hb dX4_readNumber_27 rfl ?_
      refine va_get (D := D) (ci := 4) (v := .int τ.2.2.1) (C := RX4) (T := TX4) (N := 7) hx hb hts (fun _ h9 => List.mem_cons_of_mem _ (List.mem_append_right _ h9)) hown hE.1 hP 0 rfl rfl 2 (by decide) (hts (.fieldLink RX4 23 "ShadowTable$Script" "position" "I") (List.mem_of_getElem? (i := 2) rfl)) (fun _ h9 => h9) rfl dX4_readNumber_28 ?_
      refine lv_iconst (v := (1 : Int32)) hx hb dX4_readNumber_31 (by decide +kernel) ?_
      refine lv_iadd hx hb dX4_readNumber_32 ?_
      refine xpf (ty := .int) (v := .int (τ.2.2.1 + (1 : Int32))) (C := RX4) (T := TX4) (N := 7) hx hb hts (fun _ h9 => List.mem_cons_of_mem _ (List.mem_append_right _ h9)) tyX4 tyX4_ok nmX4 hown hE hP hD hS 0 rfl rfl 2 (by decide) (hts (.fieldLink RX4 23 "ShadowTable$Script" "position" "I") (List.mem_of_getElem? (i := 2) rfl)) rfl rfl (by decide +kernel) rfl rfl (Nat.le_of_ble_eq_true rfl) [(h0, .inr (4, [.ref h1, .int τ.2.1, .int (τ.2.2.1 + (1 : Int32)), .int (fX4_digitHere τ), .int τ.2.2.2.2.1, .int τ.2.2.2.2.2.1, .int τ.2.2.2.2.2.2])), (h1, .inl (cI, 80, .inl τ.1))] rfl dX4_readNumber_33 (fun H locs hP hD hS => ?_)
      refine lv_aload_n hx hb dX4_readNumber_36 rfl (lv_at hl 0 rfl) ?_
      refine cRV ⟨hx, hb, hml, hown, hts⟩ (kX4_digitHere l D cI cS h0 h1 (τ.1, τ.2.1, (τ.2.2.1 + (1 : Int32)), (fX4_digitHere τ), τ.2.2.2.2.1, τ.2.2.2.2.2.1, τ.2.2.2.2.2.2) hs) (cwV 0 hts gX4_readNumber_X4_digitHere rfl rfl rfl (by decide +kernel) ⟨Nat.le_of_ble_eq_true rfl, Nat.le_of_ble_eq_true rfl⟩) hE hP 0 rfl rfl [0, 1] rfl rfl hl.1 rfl (Nat.le_of_ble_eq_true rfl) ⟨Nat.zero_le _, Nat.zero_le _⟩ dX4_readNumber_37 ?_
      refine lv_istore_n (lv' := [(3, .int (fX4_digitHere (τ.1, τ.2.1, (τ.2.2.1 + (1 : Int32)), (fX4_digitHere τ), τ.2.2.2.2.1, τ.2.2.2.2.2.1, τ.2.2.2.2.2.2))), (0, .ref h0), (1, .int p0), (2, .int p1)]) hx hb dX4_readNumber_40 rfl hl (by decide) rfl (fun ls hl => ?_)
      refine lv_iload_n hx hb dX4_readNumber_41 rfl (lv_at hl 0 rfl) ?_
      refine lv_bipush (v := (-5 : Int32)) hx hb dX4_readNumber_42 (by decide +kernel) ?_
      refine lv_icmp_eq (tgt := 90) hx hb dX4_readNumber_44 (by decide) (fun c_44 => ?_) (fun c_44 => ?_)
      · refine lv_iconst (v := (1 : Int32)) hx hb dX4_readNumber_90 (by decide +kernel) ?_
        exact hend _ _ _ _ _ _ dX4_readNumber_91 rfl (fX4_readNumber_p1 p0 p1 τ c_13 c_21 c_44) hP hS
      · refine lv_aload_n hx hb dX4_readNumber_47 rfl (lv_at hl 1 rfl) ?_
        refine va_get (D := D) (ci := 4) (v := .int (fX4_digitHere τ)) (C := RX4) (T := TX4) (N := 7) hx hb hts (fun _ h9 => List.mem_cons_of_mem _ (List.mem_append_right _ h9)) hown hE.1 hP 0 rfl rfl 3 (by decide) (hts (.fieldLink RX4 57 "ShadowTable$Script" "number" "I") (List.mem_of_getElem? (i := 1) rfl)) (fun _ h9 => h9) rfl dX4_readNumber_48 ?_
        refine lv_if_eq (tgt := 90) hx hb dX4_readNumber_51 (by decide) (fun c_51 => ?_) (fun c_51 => ?_)
        · refine lv_iconst (v := (1 : Int32)) hx hb dX4_readNumber_90 (by decide +kernel) ?_
          exact hend _ _ _ _ _ _ dX4_readNumber_91 rfl (fX4_readNumber_p2 p0 p1 τ c_13 c_21 c_44 c_51) hP hS
        · refine lv_bipush (v := (10 : Int32)) hx hb dX4_readNumber_54 (by decide +kernel) ?_
          refine lv_aload_n hx hb dX4_readNumber_56 rfl (lv_at hl 1 rfl) ?_
          refine va_get (D := D) (ci := 4) (v := .int (fX4_digitHere τ)) (C := RX4) (T := TX4) (N := 7) hx hb hts (fun _ h9 => List.mem_cons_of_mem _ (List.mem_append_right _ h9)) hown hE.1 hP 0 rfl rfl 3 (by decide) (hts (.fieldLink RX4 57 "ShadowTable$Script" "number" "I") (List.mem_of_getElem? (i := 1) rfl)) (fun _ h9 => h9) rfl dX4_readNumber_57 ?_
          refine lv_imul hx hb dX4_readNumber_60 ?_
          refine lv_iload_n hx hb dX4_readNumber_61 rfl (lv_at hl 0 rfl) ?_
          refine lv_iadd hx hb dX4_readNumber_62 ?_
          refine lv_iload_n hx hb dX4_readNumber_63 rfl (lv_at hl 3 rfl) ?_
          refine lv_icmp_gt (tgt := 90) hx hb dX4_readNumber_64 (by decide) (fun c_64 => ?_) (fun c_64 => ?_)
          · refine lv_iconst (v := (1 : Int32)) hx hb dX4_readNumber_90 (by decide +kernel) ?_
            exact hend _ _ _ _ _ _ dX4_readNumber_91 rfl (fX4_readNumber_p3 p0 p1 τ c_13 c_21 c_44 c_51 c_64) hP hS
          · refine lv_aload_n hx hb dX4_readNumber_67 rfl (lv_at hl 1 rfl) ?_
            refine lv_bipush (v := (10 : Int32)) hx hb dX4_readNumber_68 (by decide +kernel) ?_
            refine lv_aload_n hx hb dX4_readNumber_70 rfl (lv_at hl 1 rfl) ?_
            refine va_get (D := D) (ci := 4) (v := .int (fX4_digitHere τ)) (C := RX4) (T := TX4) (N := 7) hx hb hts (fun _ h9 => List.mem_cons_of_mem _ (List.mem_append_right _ h9)) hown hE.1 hP 0 rfl rfl 3 (by decide) (hts (.fieldLink RX4 57 "ShadowTable$Script" "number" "I") (List.mem_of_getElem? (i := 1) rfl)) (fun _ h9 => h9) rfl dX4_readNumber_71 ?_
            refine lv_imul hx hb dX4_readNumber_74 ?_
            refine lv_iload_n hx hb dX4_readNumber_75 rfl (lv_at hl 0 rfl) ?_
            refine lv_iadd hx hb dX4_readNumber_76 ?_
            refine xpf (ty := .int) (v := .int (((10 : Int32) * (fX4_digitHere τ)) + (fX4_digitHere (τ.1, τ.2.1, (τ.2.2.1 + (1 : Int32)), (fX4_digitHere τ), τ.2.2.2.2.1, τ.2.2.2.2.2.1, τ.2.2.2.2.2.2)))) (C := RX4) (T := TX4) (N := 7) hx hb hts (fun _ h9 => List.mem_cons_of_mem _ (List.mem_append_right _ h9)) tyX4 tyX4_ok nmX4 hown hE hP hD hS 0 rfl rfl 3 (by decide) (hts (.fieldLink RX4 57 "ShadowTable$Script" "number" "I") (List.mem_of_getElem? (i := 1) rfl)) rfl rfl (by decide +kernel) rfl rfl (Nat.le_of_ble_eq_true rfl) [(h0, .inr (4, [.ref h1, .int τ.2.1, .int (τ.2.2.1 + (1 : Int32)), .int (((10 : Int32) * (fX4_digitHere τ)) + (fX4_digitHere (τ.1, τ.2.1, (τ.2.2.1 + (1 : Int32)), (fX4_digitHere τ), τ.2.2.2.2.1, τ.2.2.2.2.2.1, τ.2.2.2.2.2.2))), .int τ.2.2.2.2.1, .int τ.2.2.2.2.2.1, .int τ.2.2.2.2.2.2])), (h1, .inl (cI, 80, .inl τ.1))] rfl dX4_readNumber_77 (fun H locs hP hD hS => ?_)
            refine lv_aload_n hx hb dX4_readNumber_80 rfl (lv_at hl 1 rfl) ?_
            refine lv_dup hx hb dX4_readNumber_81 rfl ?_
            refine va_get (D := D) (ci := 4) (v := .int (τ.2.2.1 + (1 : Int32))) (C := RX4) (T := TX4) (N := 7) hx hb hts (fun _ h9 => List.mem_cons_of_mem _ (List.mem_append_right _ h9)) hown hE.1 hP 0 rfl rfl 2 (by decide) (hts (.fieldLink RX4 23 "ShadowTable$Script" "position" "I") (List.mem_of_getElem? (i := 2) rfl)) (fun _ h9 => h9) rfl dX4_readNumber_82 ?_
            refine lv_iconst (v := (1 : Int32)) hx hb dX4_readNumber_85 (by decide +kernel) ?_
            refine lv_iadd hx hb dX4_readNumber_86 ?_
            refine xpf (ty := .int) (v := .int ((τ.2.2.1 + (1 : Int32)) + (1 : Int32))) (C := RX4) (T := TX4) (N := 7) hx hb hts (fun _ h9 => List.mem_cons_of_mem _ (List.mem_append_right _ h9)) tyX4 tyX4_ok nmX4 hown hE hP hD hS 0 rfl rfl 2 (by decide) (hts (.fieldLink RX4 23 "ShadowTable$Script" "position" "I") (List.mem_of_getElem? (i := 2) rfl)) rfl rfl (by decide +kernel) rfl rfl (Nat.le_of_ble_eq_true rfl) [(h0, .inr (4, [.ref h1, .int τ.2.1, .int ((τ.2.2.1 + (1 : Int32)) + (1 : Int32)), .int (((10 : Int32) * (fX4_digitHere τ)) + (fX4_digitHere (τ.1, τ.2.1, (τ.2.2.1 + (1 : Int32)), (fX4_digitHere τ), τ.2.2.2.2.1, τ.2.2.2.2.2.1, τ.2.2.2.2.2.2))), .int τ.2.2.2.2.1, .int τ.2.2.2.2.2.1, .int τ.2.2.2.2.2.2])), (h1, .inl (cI, 80, .inl τ.1))] rfl dX4_readNumber_87 (fun H locs hP hD hS => ?_)
            refine lv_iconst (v := (1 : Int32)) hx hb dX4_readNumber_90 (by decide +kernel) ?_
            exact hend _ _ _ _ _ _ dX4_readNumber_91 rfl (fX4_readNumber_p4 p0 p1 τ c_13 c_21 c_44 c_51 c_64) hP hS
    · refine lv_iconst (v := (0 : Int32)) hx hb dX4_readNumber_24 (by decide +kernel) ?_
      exact hend _ _ _ _ _ _ dX4_readNumber_25 rfl (fX4_readNumber_p5 p0 p1 τ c_13 c_21) hP hS

theorem rn_len (a b : Int32) (τ : ScT) : (fX4_readNumber a b τ).2.2.1 = τ.2.1 := by
  unfold fX4_readNumber
  repeat' split
  all_goals rfl
theorem rn_bit (a b : Int32) (τ : ScT) : (fX4_readNumber a b τ).1 = 0 ∨ (fX4_readNumber a b τ).1 = 1 := by
  unfold fX4_readNumber
  repeat' split
  all_goals first | exact Or.inl rfl | exact Or.inr rfl
theorem zz_rn_b {a b r : Int32} {τ u : ScT} (e : fX4_readNumber a b τ = (r, u)) : narrow .boolean (.int r) = .int r := by
  have h := rn_bit a b τ
  rw [e] at h
  exact zz_bn h

def fX4_readFirst (p0 : Int32) (p1 : Int32) (τ : ScT) : Int32 × ScT := (match (fX4_readNumber p0 p1 τ) with | (r_3, u_3) => (r_3, (u_3.1, u_3.2.1, u_3.2.2.1, u_3.2.2.2.1, u_3.2.2.2.2.1, u_3.2.2.2.1, u_3.2.2.2.2.2.2)))
theorem fX4_readFirst_p0 (p0 : Int32) (p1 : Int32) (τ : ScT) (r_3 : Int32) (u_3 : ScT) (e_3 : (fX4_readNumber p0 p1 τ) = (r_3, u_3)) : (fX4_readFirst p0 p1 τ) = (r_3, (u_3.1, u_3.2.1, u_3.2.2.1, u_3.2.2.2.1, u_3.2.2.2.2.1, u_3.2.2.2.1, u_3.2.2.2.2.2.2)) := by
  simp only [fX4_readFirst, e_3]
set_option maxHeartbeats 4000000 in
set_option maxRecDepth 100000 in
theorem kX4_readFirst (l : Launch) (D : va_G) (cI cS : ClassId) (h0 h1 : Nat) (p0 : Int32) (p1 : Int32) (τ : ScT) (hs : WC τ) : KI l yX4_readFirst wsX4_readFirst { frames := 3, cells := 0, slots := 0, locals := 66 } D (tysA cI cS) [.ref h0, .int p0, .int p1] [(h0, .inr (4, [.ref h1, .int τ.2.1, .int τ.2.2.1, .int τ.2.2.2.1, .int τ.2.2.2.2.1, .int τ.2.2.2.2.2.1, .int τ.2.2.2.2.2.2])), (h1, .inl (cI, 80, .inl τ.1))] (fX4_readFirst p0 p1 τ) (fun u => [(h0, .inr (4, [.ref h1, .int u.2.1, .int u.2.2.1, .int u.2.2.2.1, .int u.2.2.2.2.1, .int u.2.2.2.2.2.1, .int u.2.2.2.2.2.2])), (h1, .inl (cI, 80, .inl u.1))]) := by
  refine KI.of (cc := cX4_readFirst) (maxL := 4) (ty := .boolean) (by decide) rfl (Nat.le_of_ble_eq_true rfl) rfl (fun p e s m args below meth c ls Q A hx hb hml hown hts hE hP hD hS hl hend => ?_)
  have hown : s.vm.findClass RX4 = some m.cls := hown
  have hl : lv_has ls 4 [(0, .ref h0), (1, .int p0), (2, .int p1)] := hl
  refine lv_aload_n hx hb dX4_readFirst_0 rfl (lv_at hl 0 rfl) ?_
  refine lv_iload_n hx hb dX4_readFirst_1 rfl (lv_at hl 1 rfl) ?_
  refine lv_iload_n hx hb dX4_readFirst_2 rfl (lv_at hl 2 rfl) ?_
  refine cIV ⟨hx, hb, hml, hown, hts⟩ (kX4_readNumber l D cI cS h0 h1 p0 p1 τ hs) (cwV 2 hts gX4_readFirst_X4_readNumber rfl rfl rfl (by decide +kernel) ⟨Nat.le_of_ble_eq_true rfl, Nat.le_of_ble_eq_true rfl⟩) hE hP hD hS 0 rfl rfl [0, 1] rfl (by decide) (fun _ => rfl) rfl hl.1 rfl (Nat.le_of_ble_eq_true rfl) ⟨Nat.zero_le _, Nat.zero_le _⟩ dX4_readFirst_3 (fun r_3 u_3 H locs e_3 hP hD hS => ?_)
  have hP : va_P D vwCl [(h0, .inr (4, [.ref h1, .int u_3.2.1, .int u_3.2.2.1, .int u_3.2.2.2.1, .int u_3.2.2.2.2.1, .int u_3.2.2.2.2.2.1, .int u_3.2.2.2.2.2.2])), (h1, .inl (cI, 80, .inl u_3.1))] H := hP
  have hD : va_D A [(h0, .inr (4, [.ref h1, .int u_3.2.1, .int u_3.2.2.1, .int u_3.2.2.2.1, .int u_3.2.2.2.2.1, .int u_3.2.2.2.2.2.1, .int u_3.2.2.2.2.2.2])), (h1, .inl (cI, 80, .inl u_3.1))] := hD
  refine lv_istore_n (lv' := [(3, .int r_3), (0, .ref h0), (1, .int p0), (2, .int p1)]) hx hb dX4_readFirst_6 rfl hl (by decide) rfl (fun ls hl => ?_)
  refine lv_aload_n hx hb dX4_readFirst_7 rfl (lv_at hl 1 rfl) ?_
  refine lv_aload_n hx hb dX4_readFirst_8 rfl (lv_at hl 1 rfl) ?_
  refine va_get (D := D) (ci := 4) (v := .int u_3.2.2.2.1) (C := RX4) (T := TX4) (N := 7) hx hb hts (fun _ h9 => List.mem_cons_of_mem _ (List.mem_append_right _ h9)) hown hE.1 hP 0 rfl rfl 3 (by decide) (hts (.fieldLink RX4 57 "ShadowTable$Script" "number" "I") (List.mem_of_getElem? (i := 1) rfl)) (fun _ h9 => h9) rfl dX4_readFirst_9 ?_
  refine xpf (ty := .int) (v := .int u_3.2.2.2.1) (C := RX4) (T := TX4) (N := 7) hx hb hts (fun _ h9 => List.mem_cons_of_mem _ (List.mem_append_right _ h9)) tyX4 tyX4_ok nmX4 hown hE hP hD hS 0 rfl rfl 5 (by decide) (hts (.fieldLink RX4 51 "ShadowTable$Script" "first" "I") (List.mem_of_getElem? (i := 2) rfl)) rfl rfl (by decide +kernel) rfl rfl (Nat.le_of_ble_eq_true rfl) [(h0, .inr (4, [.ref h1, .int u_3.2.1, .int u_3.2.2.1, .int u_3.2.2.2.1, .int u_3.2.2.2.2.1, .int u_3.2.2.2.1, .int u_3.2.2.2.2.2.2])), (h1, .inl (cI, 80, .inl u_3.1))] rfl dX4_readFirst_12 (fun H locs hP hD hS => ?_)
  refine lv_iload_n hx hb dX4_readFirst_15 rfl (lv_at hl 0 rfl) ?_
  exact hend _ _ _ _ _ _ dX4_readFirst_16 (zz_rn_b e_3) (fX4_readFirst_p0 p0 p1 τ r_3 u_3 e_3) hP hS

theorem rf_eq (a b : Int32) (τ : ScT) : fX4_readFirst a b τ = ((fX4_readNumber a b τ).1, ((fX4_readNumber a b τ).2.1, (fX4_readNumber a b τ).2.2.1, (fX4_readNumber a b τ).2.2.2.1, (fX4_readNumber a b τ).2.2.2.2.1, (fX4_readNumber a b τ).2.2.2.2.2.1, (fX4_readNumber a b τ).2.2.2.2.1, (fX4_readNumber a b τ).2.2.2.2.2.2.2)) := rfl
theorem zz_WC_rf {a b r : Int32} {τ u : ScT} (e : fX4_readFirst a b τ = (r, u)) (hs : WC τ) : WC u := by
  rw [rf_eq] at e
  have h1 := rn_len a b τ
  have h2 : (fX4_readNumber a b τ).2.2.1 = u.2.1 := congrArg (fun q : Int32 × ScT => q.2.2.1) e
  show Bd u.2.1 80
  rw [← h2, h1]
  exact hs
theorem zz_rf_b {a b r : Int32} {τ u : ScT} (e : fX4_readFirst a b τ = (r, u)) : narrow .boolean (.int r) = .int r := by
  rw [rf_eq] at e
  have h := rn_bit a b τ
  have h2 : (fX4_readNumber a b τ).1 = r := congrArg (fun q : Int32 × ScT => q.1) e
  rw [h2] at h
  exact zz_bn h

def fX4_readSecond (p0 : Int32) (p1 : Int32) (τ : ScT) : Int32 × ScT := (match (fX4_readNumber p0 p1 τ) with | (r_3, u_3) => (r_3, (u_3.1, u_3.2.1, u_3.2.2.1, u_3.2.2.2.1, u_3.2.2.2.2.1, u_3.2.2.2.2.2.1, u_3.2.2.2.1)))
theorem fX4_readSecond_p0 (p0 : Int32) (p1 : Int32) (τ : ScT) (r_3 : Int32) (u_3 : ScT) (e_3 : (fX4_readNumber p0 p1 τ) = (r_3, u_3)) : (fX4_readSecond p0 p1 τ) = (r_3, (u_3.1, u_3.2.1, u_3.2.2.1, u_3.2.2.2.1, u_3.2.2.2.2.1, u_3.2.2.2.2.2.1, u_3.2.2.2.1)) := by
  simp only [fX4_readSecond, e_3]
set_option maxHeartbeats 4000000 in
set_option maxRecDepth 100000 in
theorem kX4_readSecond (l : Launch) (D : va_G) (cI cS : ClassId) (h0 h1 : Nat) (p0 : Int32) (p1 : Int32) (τ : ScT) (hs : WC τ) : KI l yX4_readSecond wsX4_readSecond { frames := 3, cells := 0, slots := 0, locals := 66 } D (tysA cI cS) [.ref h0, .int p0, .int p1] [(h0, .inr (4, [.ref h1, .int τ.2.1, .int τ.2.2.1, .int τ.2.2.2.1, .int τ.2.2.2.2.1, .int τ.2.2.2.2.2.1, .int τ.2.2.2.2.2.2])), (h1, .inl (cI, 80, .inl τ.1))] (fX4_readSecond p0 p1 τ) (fun u => [(h0, .inr (4, [.ref h1, .int u.2.1, .int u.2.2.1, .int u.2.2.2.1, .int u.2.2.2.2.1, .int u.2.2.2.2.2.1, .int u.2.2.2.2.2.2])), (h1, .inl (cI, 80, .inl u.1))]) := by
  refine KI.of (cc := cX4_readSecond) (maxL := 4) (ty := .boolean) (by decide) rfl (Nat.le_of_ble_eq_true rfl) rfl (fun p e s m args below meth c ls Q A hx hb hml hown hts hE hP hD hS hl hend => ?_)
  have hown : s.vm.findClass RX4 = some m.cls := hown
  have hl : lv_has ls 4 [(0, .ref h0), (1, .int p0), (2, .int p1)] := hl
  refine lv_aload_n hx hb dX4_readSecond_0 rfl (lv_at hl 0 rfl) ?_
  refine lv_iload_n hx hb dX4_readSecond_1 rfl (lv_at hl 1 rfl) ?_
  refine lv_iload_n hx hb dX4_readSecond_2 rfl (lv_at hl 2 rfl) ?_
  refine cIV ⟨hx, hb, hml, hown, hts⟩ (kX4_readNumber l D cI cS h0 h1 p0 p1 τ hs) (cwV 2 hts gX4_readSecond_X4_readNumber rfl rfl rfl (by decide +kernel) ⟨Nat.le_of_ble_eq_true rfl, Nat.le_of_ble_eq_true rfl⟩) hE hP hD hS 0 rfl rfl [0, 1] rfl (by decide) (fun _ => rfl) rfl hl.1 rfl (Nat.le_of_ble_eq_true rfl) ⟨Nat.zero_le _, Nat.zero_le _⟩ dX4_readSecond_3 (fun r_3 u_3 H locs e_3 hP hD hS => ?_)
  have hP : va_P D vwCl [(h0, .inr (4, [.ref h1, .int u_3.2.1, .int u_3.2.2.1, .int u_3.2.2.2.1, .int u_3.2.2.2.2.1, .int u_3.2.2.2.2.2.1, .int u_3.2.2.2.2.2.2])), (h1, .inl (cI, 80, .inl u_3.1))] H := hP
  have hD : va_D A [(h0, .inr (4, [.ref h1, .int u_3.2.1, .int u_3.2.2.1, .int u_3.2.2.2.1, .int u_3.2.2.2.2.1, .int u_3.2.2.2.2.2.1, .int u_3.2.2.2.2.2.2])), (h1, .inl (cI, 80, .inl u_3.1))] := hD
  refine lv_istore_n (lv' := [(3, .int r_3), (0, .ref h0), (1, .int p0), (2, .int p1)]) hx hb dX4_readSecond_6 rfl hl (by decide) rfl (fun ls hl => ?_)
  refine lv_aload_n hx hb dX4_readSecond_7 rfl (lv_at hl 1 rfl) ?_
  refine lv_aload_n hx hb dX4_readSecond_8 rfl (lv_at hl 1 rfl) ?_
  refine va_get (D := D) (ci := 4) (v := .int u_3.2.2.2.1) (C := RX4) (T := TX4) (N := 7) hx hb hts (fun _ h9 => List.mem_cons_of_mem _ (List.mem_append_right _ h9)) hown hE.1 hP 0 rfl rfl 3 (by decide) (hts (.fieldLink RX4 57 "ShadowTable$Script" "number" "I") (List.mem_of_getElem? (i := 1) rfl)) (fun _ h9 => h9) rfl dX4_readSecond_9 ?_
  refine xpf (ty := .int) (v := .int u_3.2.2.2.1) (C := RX4) (T := TX4) (N := 7) hx hb hts (fun _ h9 => List.mem_cons_of_mem _ (List.mem_append_right _ h9)) tyX4 tyX4_ok nmX4 hown hE hP hD hS 0 rfl rfl 6 (by decide) (hts (.fieldLink RX4 60 "ShadowTable$Script" "second" "I") (List.mem_of_getElem? (i := 2) rfl)) rfl rfl (by decide +kernel) rfl rfl (Nat.le_of_ble_eq_true rfl) [(h0, .inr (4, [.ref h1, .int u_3.2.1, .int u_3.2.2.1, .int u_3.2.2.2.1, .int u_3.2.2.2.2.1, .int u_3.2.2.2.2.2.1, .int u_3.2.2.2.1])), (h1, .inl (cI, 80, .inl u_3.1))] rfl dX4_readSecond_12 (fun H locs hP hD hS => ?_)
  refine lv_iload_n hx hb dX4_readSecond_15 rfl (lv_at hl 0 rfl) ?_
  exact hend _ _ _ _ _ _ dX4_readSecond_16 (zz_rn_b e_3) (fX4_readSecond_p0 p0 p1 τ r_3 u_3 e_3) hP hS

theorem rs_eq (a b : Int32) (τ : ScT) : fX4_readSecond a b τ = ((fX4_readNumber a b τ).1, ((fX4_readNumber a b τ).2.1, (fX4_readNumber a b τ).2.2.1, (fX4_readNumber a b τ).2.2.2.1, (fX4_readNumber a b τ).2.2.2.2.1, (fX4_readNumber a b τ).2.2.2.2.2.1, (fX4_readNumber a b τ).2.2.2.2.2.2.1, (fX4_readNumber a b τ).2.2.2.2.1)) := rfl
theorem zz_WC_rs {a b r : Int32} {τ u : ScT} (e : fX4_readSecond a b τ = (r, u)) (hs : WC τ) : WC u := by
  rw [rs_eq] at e
  have h1 := rn_len a b τ
  have h2 : (fX4_readNumber a b τ).2.2.1 = u.2.1 := congrArg (fun q : Int32 × ScT => q.2.2.1) e
  show Bd u.2.1 80
  rw [← h2, h1]
  exact hs

def fX4_skip (p0 : Int32) (τ : ScT) : Int32 × ScT := (if (fX4_here τ) = p0 then ((1 : Int32), (τ.1, τ.2.1, (τ.2.2.1 + (1 : Int32)), τ.2.2.2.1, τ.2.2.2.2.1, τ.2.2.2.2.2.1, τ.2.2.2.2.2.2)) else ((0 : Int32), τ))
theorem fX4_skip_p0 (p0 : Int32) (τ : ScT) (c_5 : (fX4_here τ) = p0) : (fX4_skip p0 τ) = ((1 : Int32), (τ.1, τ.2.1, (τ.2.2.1 + (1 : Int32)), τ.2.2.2.1, τ.2.2.2.2.1, τ.2.2.2.2.2.1, τ.2.2.2.2.2.2)) := by
  simp only [fX4_skip, if_pos c_5]
theorem fX4_skip_p1 (p0 : Int32) (τ : ScT) (c_5 : ¬ (fX4_here τ) = p0) : (fX4_skip p0 τ) = ((0 : Int32), τ) := by
  simp only [fX4_skip, if_neg c_5]
set_option maxHeartbeats 4000000 in
set_option maxRecDepth 100000 in
theorem kX4_skip (l : Launch) (D : va_G) (cI cS : ClassId) (h0 h1 : Nat) (p0 : Int32) (τ : ScT) (hs : WC τ) : KI l yX4_skip wsX4_skip { frames := 1, cells := 0, slots := 0, locals := 20 } D (tysA cI cS) [.ref h0, .int p0] [(h0, .inr (4, [.ref h1, .int τ.2.1, .int τ.2.2.1, .int τ.2.2.2.1, .int τ.2.2.2.2.1, .int τ.2.2.2.2.2.1, .int τ.2.2.2.2.2.2])), (h1, .inl (cI, 80, .inl τ.1))] (fX4_skip p0 τ) (fun u => [(h0, .inr (4, [.ref h1, .int u.2.1, .int u.2.2.1, .int u.2.2.2.1, .int u.2.2.2.2.1, .int u.2.2.2.2.2.1, .int u.2.2.2.2.2.2])), (h1, .inl (cI, 80, .inl u.1))]) := by
  refine KI.of (cc := cX4_skip) (maxL := 2) (ty := .boolean) (by decide) rfl (Nat.le_of_ble_eq_true rfl) rfl (fun p e s m args below meth c ls Q A hx hb hml hown hts hE hP hD hS hl hend => ?_)
  have hown : s.vm.findClass RX4 = some m.cls := hown
  have hl : lv_has ls 2 [(0, .ref h0), (1, .int p0)] := hl
  refine lv_aload_n hx hb dX4_skip_0 rfl (lv_at hl 0 rfl) ?_
  refine cRV ⟨hx, hb, hml, hown, hts⟩ (kX4_here l D cI cS h0 h1 τ hs) (cwV 0 hts gX4_skip_X4_here rfl rfl rfl (by decide +kernel) ⟨Nat.le_of_ble_eq_true rfl, Nat.le_of_ble_eq_true rfl⟩) hE hP 0 rfl rfl [0, 1] rfl rfl hl.1 rfl (Nat.le_of_ble_eq_true rfl) ⟨Nat.zero_le _, Nat.zero_le _⟩ dX4_skip_1 ?_
  refine lv_iload_n hx hb dX4_skip_4 rfl (lv_at hl 1 rfl) ?_
  refine lv_icmp_eq (tgt := 10) hx hb dX4_skip_5 (by decide) (fun c_5 => ?_) (fun c_5 => ?_)
  · refine lv_aload_n hx hb dX4_skip_10 rfl (lv_at hl 0 rfl) ?_
    refine lv_dup hx hb dX4_skip_11 rfl ?_
    refine va_get (D := D) (ci := 4) (v := .int τ.2.2.1) (C := RX4) (T := TX4) (N := 7) hx hb hts (fun _ h9 => List.mem_cons_of_mem _ (List.mem_append_right _ h9)) hown hE.1 hP 0 rfl rfl 2 (by decide) (hts (.fieldLink RX4 23 "ShadowTable$Script" "position" "I") (List.mem_of_getElem? (i := 1) rfl)) (fun _ h9 => h9) rfl dX4_skip_12 ?_
    refine lv_iconst (v := (1 : Int32)) hx hb dX4_skip_15 (by decide +kernel) ?_
    refine lv_iadd hx hb dX4_skip_16 ?_
    refine xpf (ty := .int) (v := .int (τ.2.2.1 + (1 : Int32))) (C := RX4) (T := TX4) (N := 7) hx hb hts (fun _ h9 => List.mem_cons_of_mem _ (List.mem_append_right _ h9)) tyX4 tyX4_ok nmX4 hown hE hP hD hS 0 rfl rfl 2 (by decide) (hts (.fieldLink RX4 23 "ShadowTable$Script" "position" "I") (List.mem_of_getElem? (i := 1) rfl)) rfl rfl (by decide +kernel) rfl rfl (Nat.le_of_ble_eq_true rfl) [(h0, .inr (4, [.ref h1, .int τ.2.1, .int (τ.2.2.1 + (1 : Int32)), .int τ.2.2.2.1, .int τ.2.2.2.2.1, .int τ.2.2.2.2.2.1, .int τ.2.2.2.2.2.2])), (h1, .inl (cI, 80, .inl τ.1))] rfl dX4_skip_17 (fun H locs hP hD hS => ?_)
    refine lv_iconst (v := (1 : Int32)) hx hb dX4_skip_20 (by decide +kernel) ?_
    exact hend _ _ _ _ _ _ dX4_skip_21 rfl (fX4_skip_p0 p0 τ c_5) hP hS
  · refine lv_iconst (v := (0 : Int32)) hx hb dX4_skip_8 (by decide +kernel) ?_
    exact hend _ _ _ _ _ _ dX4_skip_9 rfl (fX4_skip_p1 p0 τ c_5) hP hS

theorem sk_len (a : Int32) (τ : ScT) : (fX4_skip a τ).2.2.1 = τ.2.1 := by
  unfold fX4_skip
  split <;> rfl
theorem zz_WC_sk {a r : Int32} {τ u : ScT} (e : fX4_skip a τ = (r, u)) (hs : WC τ) : WC u := by
  have h1 := sk_len a τ
  rw [e] at h1
  show Bd u.2.1 80
  rw [show u.2.1 = τ.2.1 from h1]
  exact hs

def fX4_readOrder (τ : ScT) : Int32 × ScT := (if (fX4_here τ) = (98 : Int32) then (match (fX4_readFirst (0 : Int32) (4 : Int32) (τ.1, τ.2.1, (τ.2.2.1 + (1 : Int32)), τ.2.2.2.1, (fX4_here τ), τ.2.2.2.2.2.1, τ.2.2.2.2.2.2)) with | (r_184, u_184) => (if r_184 = (0 : Int32) then ((0 : Int32), u_184) else (match (fX4_readSecond (1 : Int32) (8 : Int32) u_184) with | (r_194, u_194) => (if r_194 = (0 : Int32) then ((0 : Int32), u_194) else ((1 : Int32), u_194))))) else (if (fX4_here τ) = (101 : Int32) then (match (fX4_readFirst (0 : Int32) (31 : Int32) (τ.1, τ.2.1, (τ.2.2.1 + (1 : Int32)), τ.2.2.2.1, (fX4_here τ), τ.2.2.2.2.2.1, τ.2.2.2.2.2.2)) with | (r_167, u_167) => (r_167, u_167)) else (if (fX4_here τ) = (103 : Int32) then ((1 : Int32), (τ.1, τ.2.1, (τ.2.2.1 + (1 : Int32)), τ.2.2.2.1, (fX4_here τ), τ.2.2.2.2.2.1, τ.2.2.2.2.2.2)) else (if (fX4_here τ) = (108 : Int32) then ((1 : Int32), (τ.1, τ.2.1, (τ.2.2.1 + (1 : Int32)), τ.2.2.2.1, (fX4_here τ), τ.2.2.2.2.2.1, τ.2.2.2.2.2.2)) else (if (fX4_here τ) = (112 : Int32) then (match (fX4_readFirst (0 : Int32) (31 : Int32) (τ.1, τ.2.1, (τ.2.2.1 + (1 : Int32)), τ.2.2.2.1, (fX4_here τ), τ.2.2.2.2.2.1, τ.2.2.2.2.2.2)) with | (r_122, u_122) => (if r_122 = (0 : Int32) then ((0 : Int32), u_122) else (match (fX4_skip (61 : Int32) u_122) with | (r_131, u_131) => (if r_131 = (0 : Int32) then ((0 : Int32), u_131) else (match (fX4_readSecond (0 : Int32) (99 : Int32) u_131) with | (r_141, u_141) => (if r_141 = (0 : Int32) then ((0 : Int32), u_141) else ((1 : Int32), u_141))))))) else (if (fX4_here τ) = (115 : Int32) then ((1 : Int32), (τ.1, τ.2.1, (τ.2.2.1 + (1 : Int32)), τ.2.2.2.1, (fX4_here τ), τ.2.2.2.2.2.1, τ.2.2.2.2.2.2)) else (if (fX4_here τ) = (116 : Int32) then (match (fX4_readFirst (1 : Int32) (99 : Int32) (τ.1, τ.2.1, (τ.2.2.1 + (1 : Int32)), τ.2.2.2.1, (fX4_here τ), τ.2.2.2.2.2.1, τ.2.2.2.2.2.2)) with | (r_220, u_220) => (if r_220 = (0 : Int32) then ((1 : Int32), (u_220.1, u_220.2.1, u_220.2.2.1, u_220.2.2.2.1, u_220.2.2.2.2.1, (1 : Int32), u_220.2.2.2.2.2.2)) else ((1 : Int32), u_220))) else (if (fX4_here τ) = (117 : Int32) then ((1 : Int32), (τ.1, τ.2.1, (τ.2.2.1 + (1 : Int32)), τ.2.2.2.1, (fX4_here τ), τ.2.2.2.2.2.1, τ.2.2.2.2.2.2)) else ((0 : Int32), (τ.1, τ.2.1, τ.2.2.1, τ.2.2.2.1, (fX4_here τ), τ.2.2.2.2.2.1, τ.2.2.2.2.2.2))))))))))
theorem fX4_readOrder_p0 (τ : ScT) (c_12_0 : (fX4_here τ) = (98 : Int32)) (r_184 : Int32) (u_184 : ScT) (e_184 : (fX4_readFirst (0 : Int32) (4 : Int32) (τ.1, τ.2.1, (τ.2.2.1 + (1 : Int32)), τ.2.2.2.1, (fX4_here τ), τ.2.2.2.2.2.1, τ.2.2.2.2.2.2)) = (r_184, u_184)) (c_187 : r_184 = (0 : Int32)) : (fX4_readOrder τ) = ((0 : Int32), u_184) := by
  simp only [fX4_readOrder, if_pos c_12_0, e_184, if_pos c_187]
theorem fX4_readOrder_p1 (τ : ScT) (c_12_0 : (fX4_here τ) = (98 : Int32)) (r_184 : Int32) (u_184 : ScT) (e_184 : (fX4_readFirst (0 : Int32) (4 : Int32) (τ.1, τ.2.1, (τ.2.2.1 + (1 : Int32)), τ.2.2.2.1, (fX4_here τ), τ.2.2.2.2.2.1, τ.2.2.2.2.2.2)) = (r_184, u_184)) (c_187 : ¬ r_184 = (0 : Int32)) (r_194 : Int32) (u_194 : ScT) (e_194 : (fX4_readSecond (1 : Int32) (8 : Int32) u_184) = (r_194, u_194)) (c_197 : r_194 = (0 : Int32)) : (fX4_readOrder τ) = ((0 : Int32), u_194) := by
  simp only [fX4_readOrder, if_pos c_12_0, e_184, if_neg c_187, e_194, if_pos c_197]
theorem fX4_readOrder_p2 (τ : ScT) (c_12_0 : (fX4_here τ) = (98 : Int32)) (r_184 : Int32) (u_184 : ScT) (e_184 : (fX4_readFirst (0 : Int32) (4 : Int32) (τ.1, τ.2.1, (τ.2.2.1 + (1 : Int32)), τ.2.2.2.1, (fX4_here τ), τ.2.2.2.2.2.1, τ.2.2.2.2.2.2)) = (r_184, u_184)) (c_187 : ¬ r_184 = (0 : Int32)) (r_194 : Int32) (u_194 : ScT) (e_194 : (fX4_readSecond (1 : Int32) (8 : Int32) u_184) = (r_194, u_194)) (c_197 : ¬ r_194 = (0 : Int32)) : (fX4_readOrder τ) = ((1 : Int32), u_194) := by
  simp only [fX4_readOrder, if_pos c_12_0, e_184, if_neg c_187, e_194, if_neg c_197]
theorem fX4_readOrder_p3 (τ : ScT) (c_12_0 : ¬ (fX4_here τ) = (98 : Int32)) (c_12_1 : (fX4_here τ) = (101 : Int32)) (r_167 : Int32) (u_167 : ScT) (e_167 : (fX4_readFirst (0 : Int32) (31 : Int32) (τ.1, τ.2.1, (τ.2.2.1 + (1 : Int32)), τ.2.2.2.1, (fX4_here τ), τ.2.2.2.2.2.1, τ.2.2.2.2.2.2)) = (r_167, u_167)) : (fX4_readOrder τ) = (r_167, u_167) := by
  simp only [fX4_readOrder, if_neg c_12_0, if_pos c_12_1, e_167]
theorem fX4_readOrder_p4 (τ : ScT) (c_12_0 : ¬ (fX4_here τ) = (98 : Int32)) (c_12_1 : ¬ (fX4_here τ) = (101 : Int32)) (c_12_2 : (fX4_here τ) = (103 : Int32)) : (fX4_readOrder τ) = ((1 : Int32), (τ.1, τ.2.1, (τ.2.2.1 + (1 : Int32)), τ.2.2.2.1, (fX4_here τ), τ.2.2.2.2.2.1, τ.2.2.2.2.2.2)) := by
  simp only [fX4_readOrder, if_neg c_12_0, if_neg c_12_1, if_pos c_12_2]
theorem fX4_readOrder_p5 (τ : ScT) (c_12_0 : ¬ (fX4_here τ) = (98 : Int32)) (c_12_1 : ¬ (fX4_here τ) = (101 : Int32)) (c_12_2 : ¬ (fX4_here τ) = (103 : Int32)) (c_12_3 : (fX4_here τ) = (108 : Int32)) : (fX4_readOrder τ) = ((1 : Int32), (τ.1, τ.2.1, (τ.2.2.1 + (1 : Int32)), τ.2.2.2.1, (fX4_here τ), τ.2.2.2.2.2.1, τ.2.2.2.2.2.2)) := by
  simp only [fX4_readOrder, if_neg c_12_0, if_neg c_12_1, if_neg c_12_2, if_pos c_12_3]
theorem fX4_readOrder_p6 (τ : ScT) (c_12_0 : ¬ (fX4_here τ) = (98 : Int32)) (c_12_1 : ¬ (fX4_here τ) = (101 : Int32)) (c_12_2 : ¬ (fX4_here τ) = (103 : Int32)) (c_12_3 : ¬ (fX4_here τ) = (108 : Int32)) (c_12_4 : (fX4_here τ) = (112 : Int32)) (r_122 : Int32) (u_122 : ScT) (e_122 : (fX4_readFirst (0 : Int32) (31 : Int32) (τ.1, τ.2.1, (τ.2.2.1 + (1 : Int32)), τ.2.2.2.1, (fX4_here τ), τ.2.2.2.2.2.1, τ.2.2.2.2.2.2)) = (r_122, u_122)) (c_125 : r_122 = (0 : Int32)) : (fX4_readOrder τ) = ((0 : Int32), u_122) := by
  simp only [fX4_readOrder, if_neg c_12_0, if_neg c_12_1, if_neg c_12_2, if_neg c_12_3, if_pos c_12_4, e_122, if_pos c_125]
theorem fX4_readOrder_p7 (τ : ScT) (c_12_0 : ¬ (fX4_here τ) = (98 : Int32)) (c_12_1 : ¬ (fX4_here τ) = (101 : Int32)) (c_12_2 : ¬ (fX4_here τ) = (103 : Int32)) (c_12_3 : ¬ (fX4_here τ) = (108 : Int32)) (c_12_4 : (fX4_here τ) = (112 : Int32)) (r_122 : Int32) (u_122 : ScT) (e_122 : (fX4_readFirst (0 : Int32) (31 : Int32) (τ.1, τ.2.1, (τ.2.2.1 + (1 : Int32)), τ.2.2.2.1, (fX4_here τ), τ.2.2.2.2.2.1, τ.2.2.2.2.2.2)) = (r_122, u_122)) (c_125 : ¬ r_122 = (0 : Int32)) (r_131 : Int32) (u_131 : ScT) (e_131 : (fX4_skip (61 : Int32) u_122) = (r_131, u_131)) (c_134 : r_131 = (0 : Int32)) : (fX4_readOrder τ) = ((0 : Int32), u_131) := by
  simp only [fX4_readOrder, if_neg c_12_0, if_neg c_12_1, if_neg c_12_2, if_neg c_12_3, if_pos c_12_4, e_122, if_neg c_125, e_131, if_pos c_134]
theorem fX4_readOrder_p8 (τ : ScT) (c_12_0 : ¬ (fX4_here τ) = (98 : Int32)) (c_12_1 : ¬ (fX4_here τ) = (101 : Int32)) (c_12_2 : ¬ (fX4_here τ) = (103 : Int32)) (c_12_3 : ¬ (fX4_here τ) = (108 : Int32)) (c_12_4 : (fX4_here τ) = (112 : Int32)) (r_122 : Int32) (u_122 : ScT) (e_122 : (fX4_readFirst (0 : Int32) (31 : Int32) (τ.1, τ.2.1, (τ.2.2.1 + (1 : Int32)), τ.2.2.2.1, (fX4_here τ), τ.2.2.2.2.2.1, τ.2.2.2.2.2.2)) = (r_122, u_122)) (c_125 : ¬ r_122 = (0 : Int32)) (r_131 : Int32) (u_131 : ScT) (e_131 : (fX4_skip (61 : Int32) u_122) = (r_131, u_131)) (c_134 : ¬ r_131 = (0 : Int32)) (r_141 : Int32) (u_141 : ScT) (e_141 : (fX4_readSecond (0 : Int32) (99 : Int32) u_131) = (r_141, u_141)) (c_144 : r_141 = (0 : Int32)) : (fX4_readOrder τ) = ((0 : Int32), u_141) := by
  simp only [fX4_readOrder, if_neg c_12_0, if_neg c_12_1, if_neg c_12_2, if_neg c_12_3, if_pos c_12_4, e_122, if_neg c_125, e_131, if_neg c_134, e_141, if_pos c_144]
theorem fX4_readOrder_p9 (τ : ScT) (c_12_0 : ¬ (fX4_here τ) = (98 : Int32)) (c_12_1 : ¬ (fX4_here τ) = (101 : Int32)) (c_12_2 : ¬ (fX4_here τ) = (103 : Int32)) (c_12_3 : ¬ (fX4_here τ) = (108 : Int32)) (c_12_4 : (fX4_here τ) = (112 : Int32)) (r_122 : Int32) (u_122 : ScT) (e_122 : (fX4_readFirst (0 : Int32) (31 : Int32) (τ.1, τ.2.1, (τ.2.2.1 + (1 : Int32)), τ.2.2.2.1, (fX4_here τ), τ.2.2.2.2.2.1, τ.2.2.2.2.2.2)) = (r_122, u_122)) (c_125 : ¬ r_122 = (0 : Int32)) (r_131 : Int32) (u_131 : ScT) (e_131 : (fX4_skip (61 : Int32) u_122) = (r_131, u_131)) (c_134 : ¬ r_131 = (0 : Int32)) (r_141 : Int32) (u_141 : ScT) (e_141 : (fX4_readSecond (0 : Int32) (99 : Int32) u_131) = (r_141, u_141)) (c_144 : ¬ r_141 = (0 : Int32)) : (fX4_readOrder τ) = ((1 : Int32), u_141) := by
  simp only [fX4_readOrder, if_neg c_12_0, if_neg c_12_1, if_neg c_12_2, if_neg c_12_3, if_pos c_12_4, e_122, if_neg c_125, e_131, if_neg c_134, e_141, if_neg c_144]
theorem fX4_readOrder_p10 (τ : ScT) (c_12_0 : ¬ (fX4_here τ) = (98 : Int32)) (c_12_1 : ¬ (fX4_here τ) = (101 : Int32)) (c_12_2 : ¬ (fX4_here τ) = (103 : Int32)) (c_12_3 : ¬ (fX4_here τ) = (108 : Int32)) (c_12_4 : ¬ (fX4_here τ) = (112 : Int32)) (c_12_5 : (fX4_here τ) = (115 : Int32)) : (fX4_readOrder τ) = ((1 : Int32), (τ.1, τ.2.1, (τ.2.2.1 + (1 : Int32)), τ.2.2.2.1, (fX4_here τ), τ.2.2.2.2.2.1, τ.2.2.2.2.2.2)) := by
  simp only [fX4_readOrder, if_neg c_12_0, if_neg c_12_1, if_neg c_12_2, if_neg c_12_3, if_neg c_12_4, if_pos c_12_5]
theorem fX4_readOrder_p11 (τ : ScT) (c_12_0 : ¬ (fX4_here τ) = (98 : Int32)) (c_12_1 : ¬ (fX4_here τ) = (101 : Int32)) (c_12_2 : ¬ (fX4_here τ) = (103 : Int32)) (c_12_3 : ¬ (fX4_here τ) = (108 : Int32)) (c_12_4 : ¬ (fX4_here τ) = (112 : Int32)) (c_12_5 : ¬ (fX4_here τ) = (115 : Int32)) (c_12_6 : (fX4_here τ) = (116 : Int32)) (r_220 : Int32) (u_220 : ScT) (e_220 : (fX4_readFirst (1 : Int32) (99 : Int32) (τ.1, τ.2.1, (τ.2.2.1 + (1 : Int32)), τ.2.2.2.1, (fX4_here τ), τ.2.2.2.2.2.1, τ.2.2.2.2.2.2)) = (r_220, u_220)) (c_223 : ¬ r_220 = (0 : Int32)) : (fX4_readOrder τ) = ((1 : Int32), u_220) := by
  simp only [fX4_readOrder, if_neg c_12_0, if_neg c_12_1, if_neg c_12_2, if_neg c_12_3, if_neg c_12_4, if_neg c_12_5, if_pos c_12_6, e_220, if_neg c_223]
theorem fX4_readOrder_p12 (τ : ScT) (c_12_0 : ¬ (fX4_here τ) = (98 : Int32)) (c_12_1 : ¬ (fX4_here τ) = (101 : Int32)) (c_12_2 : ¬ (fX4_here τ) = (103 : Int32)) (c_12_3 : ¬ (fX4_here τ) = (108 : Int32)) (c_12_4 : ¬ (fX4_here τ) = (112 : Int32)) (c_12_5 : ¬ (fX4_here τ) = (115 : Int32)) (c_12_6 : (fX4_here τ) = (116 : Int32)) (r_220 : Int32) (u_220 : ScT) (e_220 : (fX4_readFirst (1 : Int32) (99 : Int32) (τ.1, τ.2.1, (τ.2.2.1 + (1 : Int32)), τ.2.2.2.1, (fX4_here τ), τ.2.2.2.2.2.1, τ.2.2.2.2.2.2)) = (r_220, u_220)) (c_223 : r_220 = (0 : Int32)) : (fX4_readOrder τ) = ((1 : Int32), (u_220.1, u_220.2.1, u_220.2.2.1, u_220.2.2.2.1, u_220.2.2.2.2.1, (1 : Int32), u_220.2.2.2.2.2.2)) := by
  simp only [fX4_readOrder, if_neg c_12_0, if_neg c_12_1, if_neg c_12_2, if_neg c_12_3, if_neg c_12_4, if_neg c_12_5, if_pos c_12_6, e_220, if_pos c_223]
theorem fX4_readOrder_p13 (τ : ScT) (c_12_0 : ¬ (fX4_here τ) = (98 : Int32)) (c_12_1 : ¬ (fX4_here τ) = (101 : Int32)) (c_12_2 : ¬ (fX4_here τ) = (103 : Int32)) (c_12_3 : ¬ (fX4_here τ) = (108 : Int32)) (c_12_4 : ¬ (fX4_here τ) = (112 : Int32)) (c_12_5 : ¬ (fX4_here τ) = (115 : Int32)) (c_12_6 : ¬ (fX4_here τ) = (116 : Int32)) (c_12_7 : (fX4_here τ) = (117 : Int32)) : (fX4_readOrder τ) = ((1 : Int32), (τ.1, τ.2.1, (τ.2.2.1 + (1 : Int32)), τ.2.2.2.1, (fX4_here τ), τ.2.2.2.2.2.1, τ.2.2.2.2.2.2)) := by
  simp only [fX4_readOrder, if_neg c_12_0, if_neg c_12_1, if_neg c_12_2, if_neg c_12_3, if_neg c_12_4, if_neg c_12_5, if_neg c_12_6, if_pos c_12_7]
theorem fX4_readOrder_p14 (τ : ScT) (c_12_0 : ¬ (fX4_here τ) = (98 : Int32)) (c_12_1 : ¬ (fX4_here τ) = (101 : Int32)) (c_12_2 : ¬ (fX4_here τ) = (103 : Int32)) (c_12_3 : ¬ (fX4_here τ) = (108 : Int32)) (c_12_4 : ¬ (fX4_here τ) = (112 : Int32)) (c_12_5 : ¬ (fX4_here τ) = (115 : Int32)) (c_12_6 : ¬ (fX4_here τ) = (116 : Int32)) (c_12_7 : ¬ (fX4_here τ) = (117 : Int32)) : (fX4_readOrder τ) = ((0 : Int32), (τ.1, τ.2.1, τ.2.2.1, τ.2.2.2.1, (fX4_here τ), τ.2.2.2.2.2.1, τ.2.2.2.2.2.2)) := by
  simp only [fX4_readOrder, if_neg c_12_0, if_neg c_12_1, if_neg c_12_2, if_neg c_12_3, if_neg c_12_4, if_neg c_12_5, if_neg c_12_6, if_neg c_12_7]
set_option maxHeartbeats 4000000 in
set_option maxRecDepth 100000 in
theorem kX4_readOrder (l : Launch) (D : va_G) (cI cS : ClassId) (h0 h1 : Nat) (τ : ScT) (hs : WC τ) : KI l yX4_readOrder wsX4_readOrder { frames := 4, cells := 0, slots := 0, locals := 89 } D (tysA cI cS) [.ref h0] [(h0, .inr (4, [.ref h1, .int τ.2.1, .int τ.2.2.1, .int τ.2.2.2.1, .int τ.2.2.2.2.1, .int τ.2.2.2.2.2.1, .int τ.2.2.2.2.2.2])), (h1, .inl (cI, 80, .inl τ.1))] (fX4_readOrder τ) (fun u => [(h0, .inr (4, [.ref h1, .int u.2.1, .int u.2.2.1, .int u.2.2.2.1, .int u.2.2.2.2.1, .int u.2.2.2.2.2.1, .int u.2.2.2.2.2.2])), (h1, .inl (cI, 80, .inl u.1))]) := by
  refine KI.of (cc := cX4_readOrder) (maxL := 1) (ty := .boolean) (by decide) rfl (Nat.le_of_ble_eq_true rfl) rfl (fun p e s m args below meth c ls Q A hx hb hml hown hts hE hP hD hS hl hend => ?_)
  have hown : s.vm.findClass RX4 = some m.cls := hown
  have hl : lv_has ls 1 [(0, .ref h0)] := hl
  refine lv_aload_n hx hb dX4_readOrder_0 rfl (lv_at hl 0 rfl) ?_
  refine lv_aload_n hx hb dX4_readOrder_1 rfl (lv_at hl 0 rfl) ?_
  refine cRV ⟨hx, hb, hml, hown, hts⟩ (kX4_here l D cI cS h0 h1 τ hs) (cwV 0 hts gX4_readOrder_X4_here rfl rfl rfl (by decide +kernel) ⟨Nat.le_of_ble_eq_true rfl, Nat.le_of_ble_eq_true rfl⟩) hE hP 0 rfl rfl [0, 1] rfl rfl hl.1 rfl (Nat.le_of_ble_eq_true rfl) ⟨Nat.zero_le _, Nat.zero_le _⟩ dX4_readOrder_2 ?_
  refine xpf (ty := .int) (v := .int (fX4_here τ)) (C := RX4) (T := TX4) (N := 7) hx hb hts (fun _ h9 => List.mem_cons_of_mem _ (List.mem_append_right _ h9)) tyX4 tyX4_ok nmX4 hown hE hP hD hS 0 rfl rfl 4 (by decide) (hts (.fieldLink RX4 41 "ShadowTable$Script" "order" "I") (List.mem_of_getElem? (i := 1) rfl)) rfl rfl (by decide +kernel) rfl rfl (Nat.le_of_ble_eq_true rfl) [(h0, .inr (4, [.ref h1, .int τ.2.1, .int τ.2.2.1, .int τ.2.2.2.1, .int (fX4_here τ), .int τ.2.2.2.2.2.1, .int τ.2.2.2.2.2.2])), (h1, .inl (cI, 80, .inl τ.1))] rfl dX4_readOrder_5 (fun H locs hP hD hS => ?_)
  refine lv_aload_n hx hb dX4_readOrder_8 rfl (lv_at hl 0 rfl) ?_
  refine va_get (D := D) (ci := 4) (v := .int (fX4_here τ)) (C := RX4) (T := TX4) (N := 7) hx hb hts (fun _ h9 => List.mem_cons_of_mem _ (List.mem_append_right _ h9)) hown hE.1 hP 0 rfl rfl 4 (by decide) (hts (.fieldLink RX4 41 "ShadowTable$Script" "order" "I") (List.mem_of_getElem? (i := 1) rfl)) (fun _ h9 => h9) rfl dX4_readOrder_9 ?_
  refine (Decidable.em ((fX4_here τ) = (98 : Int32))).elim (fun c_12_0 => ?_) (fun c_12_0 => ?_)
  · refine lv_tableIn (off := 159) (tgt := 171) hx hb dX4_readOrder_12 (by rw [c_12_0]; decide +kernel) (by rw [c_12_0]; decide +kernel) (by rw [c_12_0]; decide +kernel) (by decide) ?_
    refine lv_aload_n hx hb dX4_readOrder_171 rfl (lv_at hl 0 rfl) ?_
    refine lv_dup hx hb dX4_readOrder_172 rfl ?_
    refine va_get (D := D) (ci := 4) (v := .int τ.2.2.1) (C := RX4) (T := TX4) (N := 7) hx hb hts (fun _ h9 => List.mem_cons_of_mem _ (List.mem_append_right _ h9)) hown hE.1 hP 0 rfl rfl 2 (by decide) (hts (.fieldLink RX4 23 "ShadowTable$Script" "position" "I") (List.mem_of_getElem? (i := 2) rfl)) (fun _ h9 => h9) rfl dX4_readOrder_173 ?_
    refine lv_iconst (v := (1 : Int32)) hx hb dX4_readOrder_176 (by decide +kernel) ?_
    refine lv_iadd hx hb dX4_readOrder_177 ?_
    refine xpf (ty := .int) (v := .int (τ.2.2.1 + (1 : Int32))) (C := RX4) (T := TX4) (N := 7) hx hb hts (fun _ h9 => List.mem_cons_of_mem _ (List.mem_append_right _ h9)) tyX4 tyX4_ok nmX4 hown hE hP hD hS 0 rfl rfl 2 (by decide) (hts (.fieldLink RX4 23 "ShadowTable$Script" "position" "I") (List.mem_of_getElem? (i := 2) rfl)) rfl rfl (by decide +kernel) rfl rfl (Nat.le_of_ble_eq_true rfl) [(h0, .inr (4, [.ref h1, .int τ.2.1, .int (τ.2.2.1 + (1 : Int32)), .int τ.2.2.2.1, .int (fX4_here τ), .int τ.2.2.2.2.2.1, .int τ.2.2.2.2.2.2])), (h1, .inl (cI, 80, .inl τ.1))] rfl dX4_readOrder_178 (fun H locs hP hD hS => ?_)
    refine lv_aload_n hx hb dX4_readOrder_181 rfl (lv_at hl 0 rfl) ?_
    refine lv_iconst (v := (0 : Int32)) hx hb dX4_readOrder_182 (by decide +kernel) ?_
    refine lv_iconst (v := (4 : Int32)) hx hb dX4_readOrder_183 (by decide +kernel) ?_
    refine cIV ⟨hx, hb, hml, hown, hts⟩ (kX4_readFirst l D cI cS h0 h1 (0 : Int32) (4 : Int32) (τ.1, τ.2.1, (τ.2.2.1 + (1 : Int32)), τ.2.2.2.1, (fX4_here τ), τ.2.2.2.2.2.1, τ.2.2.2.2.2.2) hs) (cwV 2 hts gX4_readOrder_X4_readFirst rfl rfl rfl (by decide +kernel) ⟨Nat.le_of_ble_eq_true rfl, Nat.le_of_ble_eq_true rfl⟩) hE hP hD hS 0 rfl rfl [0, 1] rfl (by decide) (fun _ => rfl) rfl hl.1 rfl (Nat.le_of_ble_eq_true rfl) ⟨Nat.zero_le _, Nat.zero_le _⟩ dX4_readOrder_184 (fun r_184 u_184 H locs e_184 hP hD hS => ?_)
    have hP : va_P D vwCl [(h0, .inr (4, [.ref h1, .int u_184.2.1, .int u_184.2.2.1, .int u_184.2.2.2.1, .int u_184.2.2.2.2.1, .int u_184.2.2.2.2.2.1, .int u_184.2.2.2.2.2.2])), (h1, .inl (cI, 80, .inl u_184.1))] H := hP
    have hD : va_D A [(h0, .inr (4, [.ref h1, .int u_184.2.1, .int u_184.2.2.1, .int u_184.2.2.2.1, .int u_184.2.2.2.2.1, .int u_184.2.2.2.2.2.1, .int u_184.2.2.2.2.2.2])), (h1, .inl (cI, 80, .inl u_184.1))] := hD
    refine lv_if_eq (tgt := 204) hx hb dX4_readOrder_187 (by decide) (fun c_187 => ?_) (fun c_187 => ?_)
    · refine lv_iconst (v := (0 : Int32)) hx hb dX4_readOrder_204 (by decide +kernel) ?_
      exact hend _ _ _ _ _ _ dX4_readOrder_205 rfl (fX4_readOrder_p0 τ c_12_0 r_184 u_184 e_184 c_187) hP hS
    · refine lv_aload_n hx hb dX4_readOrder_190 rfl (lv_at hl 0 rfl) ?_
      refine lv_iconst (v := (1 : Int32)) hx hb dX4_readOrder_191 (by decide +kernel) ?_
      refine lv_bipush (v := (8 : Int32)) hx hb dX4_readOrder_192 (by decide +kernel) ?_
      refine cIV ⟨hx, hb, hml, hown, hts⟩ (kX4_readSecond l D cI cS h0 h1 (1 : Int32) (8 : Int32) u_184 (zz_WC_rf e_184 hs)) (cwV 2 hts gX4_readOrder_X4_readSecond rfl rfl rfl (by decide +kernel) ⟨Nat.le_of_ble_eq_true rfl, Nat.le_of_ble_eq_true rfl⟩) hE hP hD hS 0 rfl rfl [0, 1] rfl (by decide) (fun _ => rfl) rfl hl.1 rfl (Nat.le_of_ble_eq_true rfl) ⟨Nat.zero_le _, Nat.zero_le _⟩ dX4_readOrder_194 (fun r_194 u_194 H locs e_194 hP hD hS => ?_)
      have hP : va_P D vwCl [(h0, .inr (4, [.ref h1, .int u_194.2.1, .int u_194.2.2.1, .int u_194.2.2.2.1, .int u_194.2.2.2.2.1, .int u_194.2.2.2.2.2.1, .int u_194.2.2.2.2.2.2])), (h1, .inl (cI, 80, .inl u_194.1))] H := hP
      have hD : va_D A [(h0, .inr (4, [.ref h1, .int u_194.2.1, .int u_194.2.2.1, .int u_194.2.2.2.1, .int u_194.2.2.2.2.1, .int u_194.2.2.2.2.2.1, .int u_194.2.2.2.2.2.2])), (h1, .inl (cI, 80, .inl u_194.1))] := hD
      refine lv_if_eq (tgt := 204) hx hb dX4_readOrder_197 (by decide) (fun c_197 => ?_) (fun c_197 => ?_)
      · refine lv_iconst (v := (0 : Int32)) hx hb dX4_readOrder_204 (by decide +kernel) ?_
        exact hend _ _ _ _ _ _ dX4_readOrder_205 rfl (fX4_readOrder_p1 τ c_12_0 r_184 u_184 e_184 c_187 r_194 u_194 e_194 c_197) hP hS
      · refine lv_iconst (v := (1 : Int32)) hx hb dX4_readOrder_200 (by decide +kernel) ?_
        refine lv_goto (tgt := 205) hx hb dX4_readOrder_201 (by decide) ?_
        exact hend _ _ _ _ _ _ dX4_readOrder_205 rfl (fX4_readOrder_p2 τ c_12_0 r_184 u_184 e_184 c_187 r_194 u_194 e_194 c_197) hP hS
  · refine (Decidable.em ((fX4_here τ) = (101 : Int32))).elim (fun c_12_1 => ?_) (fun c_12_1 => ?_)
    · refine lv_tableIn (off := 141) (tgt := 153) hx hb dX4_readOrder_12 (by rw [c_12_1]; decide +kernel) (by rw [c_12_1]; decide +kernel) (by rw [c_12_1]; decide +kernel) (by decide) ?_
      refine lv_aload_n hx hb dX4_readOrder_153 rfl (lv_at hl 0 rfl) ?_
      refine lv_dup hx hb dX4_readOrder_154 rfl ?_
      refine va_get (D := D) (ci := 4) (v := .int τ.2.2.1) (C := RX4) (T := TX4) (N := 7) hx hb hts (fun _ h9 => List.mem_cons_of_mem _ (List.mem_append_right _ h9)) hown hE.1 hP 0 rfl rfl 2 (by decide) (hts (.fieldLink RX4 23 "ShadowTable$Script" "position" "I") (List.mem_of_getElem? (i := 2) rfl)) (fun _ h9 => h9) rfl dX4_readOrder_155 ?_
      refine lv_iconst (v := (1 : Int32)) hx hb dX4_readOrder_158 (by decide +kernel) ?_
      refine lv_iadd hx hb dX4_readOrder_159 ?_
      refine xpf (ty := .int) (v := .int (τ.2.2.1 + (1 : Int32))) (C := RX4) (T := TX4) (N := 7) hx hb hts (fun _ h9 => List.mem_cons_of_mem _ (List.mem_append_right _ h9)) tyX4 tyX4_ok nmX4 hown hE hP hD hS 0 rfl rfl 2 (by decide) (hts (.fieldLink RX4 23 "ShadowTable$Script" "position" "I") (List.mem_of_getElem? (i := 2) rfl)) rfl rfl (by decide +kernel) rfl rfl (Nat.le_of_ble_eq_true rfl) [(h0, .inr (4, [.ref h1, .int τ.2.1, .int (τ.2.2.1 + (1 : Int32)), .int τ.2.2.2.1, .int (fX4_here τ), .int τ.2.2.2.2.2.1, .int τ.2.2.2.2.2.2])), (h1, .inl (cI, 80, .inl τ.1))] rfl dX4_readOrder_160 (fun H locs hP hD hS => ?_)
      refine lv_aload_n hx hb dX4_readOrder_163 rfl (lv_at hl 0 rfl) ?_
      refine lv_iconst (v := (0 : Int32)) hx hb dX4_readOrder_164 (by decide +kernel) ?_
      refine lv_bipush (v := (31 : Int32)) hx hb dX4_readOrder_165 (by decide +kernel) ?_
      refine cIV ⟨hx, hb, hml, hown, hts⟩ (kX4_readFirst l D cI cS h0 h1 (0 : Int32) (31 : Int32) (τ.1, τ.2.1, (τ.2.2.1 + (1 : Int32)), τ.2.2.2.1, (fX4_here τ), τ.2.2.2.2.2.1, τ.2.2.2.2.2.2) hs) (cwV 2 hts gX4_readOrder_X4_readFirst rfl rfl rfl (by decide +kernel) ⟨Nat.le_of_ble_eq_true rfl, Nat.le_of_ble_eq_true rfl⟩) hE hP hD hS 0 rfl rfl [0, 1] rfl (by decide) (fun _ => rfl) rfl hl.1 rfl (Nat.le_of_ble_eq_true rfl) ⟨Nat.zero_le _, Nat.zero_le _⟩ dX4_readOrder_167 (fun r_167 u_167 H locs e_167 hP hD hS => ?_)
      have hP : va_P D vwCl [(h0, .inr (4, [.ref h1, .int u_167.2.1, .int u_167.2.2.1, .int u_167.2.2.2.1, .int u_167.2.2.2.2.1, .int u_167.2.2.2.2.2.1, .int u_167.2.2.2.2.2.2])), (h1, .inl (cI, 80, .inl u_167.1))] H := hP
      have hD : va_D A [(h0, .inr (4, [.ref h1, .int u_167.2.1, .int u_167.2.2.1, .int u_167.2.2.2.1, .int u_167.2.2.2.2.1, .int u_167.2.2.2.2.2.1, .int u_167.2.2.2.2.2.2])), (h1, .inl (cI, 80, .inl u_167.1))] := hD
      exact hend _ _ _ _ _ _ dX4_readOrder_170 (zz_rf_b e_167) (fX4_readOrder_p3 τ c_12_0 c_12_1 r_167 u_167 e_167) hP hS
    · refine (Decidable.em ((fX4_here τ) = (103 : Int32))).elim (fun c_12_2 => ?_) (fun c_12_2 => ?_)
      · refine lv_tableIn (off := 221) (tgt := 233) hx hb dX4_readOrder_12 (by rw [c_12_2]; decide +kernel) (by rw [c_12_2]; decide +kernel) (by rw [c_12_2]; decide +kernel) (by decide) ?_
        refine lv_aload_n hx hb dX4_readOrder_233 rfl (lv_at hl 0 rfl) ?_
        refine lv_dup hx hb dX4_readOrder_234 rfl ?_
        refine va_get (D := D) (ci := 4) (v := .int τ.2.2.1) (C := RX4) (T := TX4) (N := 7) hx hb hts (fun _ h9 => List.mem_cons_of_mem _ (List.mem_append_right _ h9)) hown hE.1 hP 0 rfl rfl 2 (by decide) (hts (.fieldLink RX4 23 "ShadowTable$Script" "position" "I") (List.mem_of_getElem? (i := 2) rfl)) (fun _ h9 => h9) rfl dX4_readOrder_235 ?_
        refine lv_iconst (v := (1 : Int32)) hx hb dX4_readOrder_238 (by decide +kernel) ?_
        refine lv_iadd hx hb dX4_readOrder_239 ?_
        refine xpf (ty := .int) (v := .int (τ.2.2.1 + (1 : Int32))) (C := RX4) (T := TX4) (N := 7) hx hb hts (fun _ h9 => List.mem_cons_of_mem _ (List.mem_append_right _ h9)) tyX4 tyX4_ok nmX4 hown hE hP hD hS 0 rfl rfl 2 (by decide) (hts (.fieldLink RX4 23 "ShadowTable$Script" "position" "I") (List.mem_of_getElem? (i := 2) rfl)) rfl rfl (by decide +kernel) rfl rfl (Nat.le_of_ble_eq_true rfl) [(h0, .inr (4, [.ref h1, .int τ.2.1, .int (τ.2.2.1 + (1 : Int32)), .int τ.2.2.2.1, .int (fX4_here τ), .int τ.2.2.2.2.2.1, .int τ.2.2.2.2.2.2])), (h1, .inl (cI, 80, .inl τ.1))] rfl dX4_readOrder_240 (fun H locs hP hD hS => ?_)
        refine lv_iconst (v := (1 : Int32)) hx hb dX4_readOrder_243 (by decide +kernel) ?_
        exact hend _ _ _ _ _ _ dX4_readOrder_244 rfl (fX4_readOrder_p4 τ c_12_0 c_12_1 c_12_2) hP hS
      · refine (Decidable.em ((fX4_here τ) = (108 : Int32))).elim (fun c_12_3 => ?_) (fun c_12_3 => ?_)
        · refine lv_tableIn (off := 221) (tgt := 233) hx hb dX4_readOrder_12 (by rw [c_12_3]; decide +kernel) (by rw [c_12_3]; decide +kernel) (by rw [c_12_3]; decide +kernel) (by decide) ?_
          refine lv_aload_n hx hb dX4_readOrder_233 rfl (lv_at hl 0 rfl) ?_
          refine lv_dup hx hb dX4_readOrder_234 rfl ?_
          refine va_get (D := D) (ci := 4) (v := .int τ.2.2.1) (C := RX4) (T := TX4) (N := 7) hx hb hts (fun _ h9 => List.mem_cons_of_mem _ (List.mem_append_right _ h9)) hown hE.1 hP 0 rfl rfl 2 (by decide) (hts (.fieldLink RX4 23 "ShadowTable$Script" "position" "I") (List.mem_of_getElem? (i := 2) rfl)) (fun _ h9 => h9) rfl dX4_readOrder_235 ?_
          refine lv_iconst (v := (1 : Int32)) hx hb dX4_readOrder_238 (by decide +kernel) ?_
          refine lv_iadd hx hb dX4_readOrder_239 ?_
          refine xpf (ty := .int) (v := .int (τ.2.2.1 + (1 : Int32))) (C := RX4) (T := TX4) (N := 7) hx hb hts (fun _ h9 => List.mem_cons_of_mem _ (List.mem_append_right _ h9)) tyX4 tyX4_ok nmX4 hown hE hP hD hS 0 rfl rfl 2 (by decide) (hts (.fieldLink RX4 23 "ShadowTable$Script" "position" "I") (List.mem_of_getElem? (i := 2) rfl)) rfl rfl (by decide +kernel) rfl rfl (Nat.le_of_ble_eq_true rfl) [(h0, .inr (4, [.ref h1, .int τ.2.1, .int (τ.2.2.1 + (1 : Int32)), .int τ.2.2.2.1, .int (fX4_here τ), .int τ.2.2.2.2.2.1, .int τ.2.2.2.2.2.2])), (h1, .inl (cI, 80, .inl τ.1))] rfl dX4_readOrder_240 (fun H locs hP hD hS => ?_)
          refine lv_iconst (v := (1 : Int32)) hx hb dX4_readOrder_243 (by decide +kernel) ?_
          exact hend _ _ _ _ _ _ dX4_readOrder_244 rfl (fX4_readOrder_p5 τ c_12_0 c_12_1 c_12_2 c_12_3) hP hS
        · refine (Decidable.em ((fX4_here τ) = (112 : Int32))).elim (fun c_12_4 => ?_) (fun c_12_4 => ?_)
          · refine lv_tableIn (off := 96) (tgt := 108) hx hb dX4_readOrder_12 (by rw [c_12_4]; decide +kernel) (by rw [c_12_4]; decide +kernel) (by rw [c_12_4]; decide +kernel) (by decide) ?_
            refine lv_aload_n hx hb dX4_readOrder_108 rfl (lv_at hl 0 rfl) ?_
            refine lv_dup hx hb dX4_readOrder_109 rfl ?_
            refine va_get (D := D) (ci := 4) (v := .int τ.2.2.1) (C := RX4) (T := TX4) (N := 7) hx hb hts (fun _ h9 => List.mem_cons_of_mem _ (List.mem_append_right _ h9)) hown hE.1 hP 0 rfl rfl 2 (by decide) (hts (.fieldLink RX4 23 "ShadowTable$Script" "position" "I") (List.mem_of_getElem? (i := 2) rfl)) (fun _ h9 => h9) rfl dX4_readOrder_110 ?_
            refine lv_iconst (v := (1 : Int32)) hx hb dX4_readOrder_113 (by decide +kernel) ?_
            refine lv_iadd hx hb dX4_readOrder_114 ?_
            refine xpf (ty := .int) (v := .int (τ.2.2.1 + (1 : Int32))) (C := RX4) (T := TX4) (N := 7) hx hb hts (fun _ h9 => List.mem_cons_of_mem _ (List.mem_append_right _ h9)) tyX4 tyX4_ok nmX4 hown hE hP hD hS 0 rfl rfl 2 (by decide) (hts (.fieldLink RX4 23 "ShadowTable$Script" "position" "I") (List.mem_of_getElem? (i := 2) rfl)) rfl rfl (by decide +kernel) rfl rfl (Nat.le_of_ble_eq_true rfl) [(h0, .inr (4, [.ref h1, .int τ.2.1, .int (τ.2.2.1 + (1 : Int32)), .int τ.2.2.2.1, .int (fX4_here τ), .int τ.2.2.2.2.2.1, .int τ.2.2.2.2.2.2])), (h1, .inl (cI, 80, .inl τ.1))] rfl dX4_readOrder_115 (fun H locs hP hD hS => ?_)
            refine lv_aload_n hx hb dX4_readOrder_118 rfl (lv_at hl 0 rfl) ?_
            refine lv_iconst (v := (0 : Int32)) hx hb dX4_readOrder_119 (by decide +kernel) ?_
            refine lv_bipush (v := (31 : Int32)) hx hb dX4_readOrder_120 (by decide +kernel) ?_
            refine cIV ⟨hx, hb, hml, hown, hts⟩ (kX4_readFirst l D cI cS h0 h1 (0 : Int32) (31 : Int32) (τ.1, τ.2.1, (τ.2.2.1 + (1 : Int32)), τ.2.2.2.1, (fX4_here τ), τ.2.2.2.2.2.1, τ.2.2.2.2.2.2) hs) (cwV 2 hts gX4_readOrder_X4_readFirst rfl rfl rfl (by decide +kernel) ⟨Nat.le_of_ble_eq_true rfl, Nat.le_of_ble_eq_true rfl⟩) hE hP hD hS 0 rfl rfl [0, 1] rfl (by decide) (fun _ => rfl) rfl hl.1 rfl (Nat.le_of_ble_eq_true rfl) ⟨Nat.zero_le _, Nat.zero_le _⟩ dX4_readOrder_122 (fun r_122 u_122 H locs e_122 hP hD hS => ?_)
            have hP : va_P D vwCl [(h0, .inr (4, [.ref h1, .int u_122.2.1, .int u_122.2.2.1, .int u_122.2.2.2.1, .int u_122.2.2.2.2.1, .int u_122.2.2.2.2.2.1, .int u_122.2.2.2.2.2.2])), (h1, .inl (cI, 80, .inl u_122.1))] H := hP
            have hD : va_D A [(h0, .inr (4, [.ref h1, .int u_122.2.1, .int u_122.2.2.1, .int u_122.2.2.2.1, .int u_122.2.2.2.2.1, .int u_122.2.2.2.2.2.1, .int u_122.2.2.2.2.2.2])), (h1, .inl (cI, 80, .inl u_122.1))] := hD
            refine lv_if_eq (tgt := 151) hx hb dX4_readOrder_125 (by decide) (fun c_125 => ?_) (fun c_125 => ?_)
            · refine lv_iconst (v := (0 : Int32)) hx hb dX4_readOrder_151 (by decide +kernel) ?_
              exact hend _ _ _ _ _ _ dX4_readOrder_152 rfl (fX4_readOrder_p6 τ c_12_0 c_12_1 c_12_2 c_12_3 c_12_4 r_122 u_122 e_122 c_125) hP hS
            · refine lv_aload_n hx hb dX4_readOrder_128 rfl (lv_at hl 0 rfl) ?_
              refine lv_bipush (v := (61 : Int32)) hx hb dX4_readOrder_129 (by decide +kernel) ?_
              refine cIV ⟨hx, hb, hml, hown, hts⟩ (kX4_skip l D cI cS h0 h1 (61 : Int32) u_122 (zz_WC_rf e_122 hs)) (cwV 1 hts gX4_readOrder_X4_skip rfl rfl rfl (by decide +kernel) ⟨Nat.le_of_ble_eq_true rfl, Nat.le_of_ble_eq_true rfl⟩) hE hP hD hS 0 rfl rfl [0, 1] rfl (by decide) (fun _ => rfl) rfl hl.1 rfl (Nat.le_of_ble_eq_true rfl) ⟨Nat.zero_le _, Nat.zero_le _⟩ dX4_readOrder_131 (fun r_131 u_131 H locs e_131 hP hD hS => ?_)
              have hP : va_P D vwCl [(h0, .inr (4, [.ref h1, .int u_131.2.1, .int u_131.2.2.1, .int u_131.2.2.2.1, .int u_131.2.2.2.2.1, .int u_131.2.2.2.2.2.1, .int u_131.2.2.2.2.2.2])), (h1, .inl (cI, 80, .inl u_131.1))] H := hP
              have hD : va_D A [(h0, .inr (4, [.ref h1, .int u_131.2.1, .int u_131.2.2.1, .int u_131.2.2.2.1, .int u_131.2.2.2.2.1, .int u_131.2.2.2.2.2.1, .int u_131.2.2.2.2.2.2])), (h1, .inl (cI, 80, .inl u_131.1))] := hD
              refine lv_if_eq (tgt := 151) hx hb dX4_readOrder_134 (by decide) (fun c_134 => ?_) (fun c_134 => ?_)
              · refine lv_iconst (v := (0 : Int32)) hx hb dX4_readOrder_151 (by decide +kernel) ?_
                exact hend _ _ _ _ _ _ dX4_readOrder_152 rfl (fX4_readOrder_p7 τ c_12_0 c_12_1 c_12_2 c_12_3 c_12_4 r_122 u_122 e_122 c_125 r_131 u_131 e_131 c_134) hP hS
              · refine lv_aload_n hx hb dX4_readOrder_137 rfl (lv_at hl 0 rfl) ?_
                refine lv_iconst (v := (0 : Int32)) hx hb dX4_readOrder_138 (by decide +kernel) ?_
                refine lv_bipush (v := (99 : Int32)) hx hb dX4_readOrder_139 (by decide +kernel) ?_
                refine cIV ⟨hx, hb, hml, hown, hts⟩ (kX4_readSecond l D cI cS h0 h1 (0 : Int32) (99 : Int32) u_131 (zz_WC_sk e_131 (zz_WC_rf e_122 hs))) (cwV 2 hts gX4_readOrder_X4_readSecond rfl rfl rfl (by decide +kernel) ⟨Nat.le_of_ble_eq_true rfl, Nat.le_of_ble_eq_true rfl⟩) hE hP hD hS 0 rfl rfl [0, 1] rfl (by decide) (fun _ => rfl) rfl hl.1 rfl (Nat.le_of_ble_eq_true rfl) ⟨Nat.zero_le _, Nat.zero_le _⟩ dX4_readOrder_141 (fun r_141 u_141 H locs e_141 hP hD hS => ?_)
                have hP : va_P D vwCl [(h0, .inr (4, [.ref h1, .int u_141.2.1, .int u_141.2.2.1, .int u_141.2.2.2.1, .int u_141.2.2.2.2.1, .int u_141.2.2.2.2.2.1, .int u_141.2.2.2.2.2.2])), (h1, .inl (cI, 80, .inl u_141.1))] H := hP
                have hD : va_D A [(h0, .inr (4, [.ref h1, .int u_141.2.1, .int u_141.2.2.1, .int u_141.2.2.2.1, .int u_141.2.2.2.2.1, .int u_141.2.2.2.2.2.1, .int u_141.2.2.2.2.2.2])), (h1, .inl (cI, 80, .inl u_141.1))] := hD
                refine lv_if_eq (tgt := 151) hx hb dX4_readOrder_144 (by decide) (fun c_144 => ?_) (fun c_144 => ?_)
                · refine lv_iconst (v := (0 : Int32)) hx hb dX4_readOrder_151 (by decide +kernel) ?_
                  exact hend _ _ _ _ _ _ dX4_readOrder_152 rfl (fX4_readOrder_p8 τ c_12_0 c_12_1 c_12_2 c_12_3 c_12_4 r_122 u_122 e_122 c_125 r_131 u_131 e_131 c_134 r_141 u_141 e_141 c_144) hP hS
                · refine lv_iconst (v := (1 : Int32)) hx hb dX4_readOrder_147 (by decide +kernel) ?_
                  refine lv_goto (tgt := 152) hx hb dX4_readOrder_148 (by decide) ?_
                  exact hend _ _ _ _ _ _ dX4_readOrder_152 rfl (fX4_readOrder_p9 τ c_12_0 c_12_1 c_12_2 c_12_3 c_12_4 r_122 u_122 e_122 c_125 r_131 u_131 e_131 c_134 r_141 u_141 e_141 c_144) hP hS
          · refine (Decidable.em ((fX4_here τ) = (115 : Int32))).elim (fun c_12_5 => ?_) (fun c_12_5 => ?_)
            · refine lv_tableIn (off := 221) (tgt := 233) hx hb dX4_readOrder_12 (by rw [c_12_5]; decide +kernel) (by rw [c_12_5]; decide +kernel) (by rw [c_12_5]; decide +kernel) (by decide) ?_
              refine lv_aload_n hx hb dX4_readOrder_233 rfl (lv_at hl 0 rfl) ?_
              refine lv_dup hx hb dX4_readOrder_234 rfl ?_
              refine va_get (D := D) (ci := 4) (v := .int τ.2.2.1) (C := RX4) (T := TX4) (N := 7) hx hb hts (fun _ h9 => List.mem_cons_of_mem _ (List.mem_append_right _ h9)) hown hE.1 hP 0 rfl rfl 2 (by decide) (hts (.fieldLink RX4 23 "ShadowTable$Script" "position" "I") (List.mem_of_getElem? (i := 2) rfl)) (fun _ h9 => h9) rfl dX4_readOrder_235 ?_
              refine lv_iconst (v := (1 : Int32)) hx hb dX4_readOrder_238 (by decide +kernel) ?_
              refine lv_iadd hx hb dX4_readOrder_239 ?_
              refine xpf (ty := .int) (v := .int (τ.2.2.1 + (1 : Int32))) (C := RX4) (T := TX4) (N := 7) hx hb hts (fun _ h9 => List.mem_cons_of_mem _ (List.mem_append_right _ h9)) tyX4 tyX4_ok nmX4 hown hE hP hD hS 0 rfl rfl 2 (by decide) (hts (.fieldLink RX4 23 "ShadowTable$Script" "position" "I") (List.mem_of_getElem? (i := 2) rfl)) rfl rfl (by decide +kernel) rfl rfl (Nat.le_of_ble_eq_true rfl) [(h0, .inr (4, [.ref h1, .int τ.2.1, .int (τ.2.2.1 + (1 : Int32)), .int τ.2.2.2.1, .int (fX4_here τ), .int τ.2.2.2.2.2.1, .int τ.2.2.2.2.2.2])), (h1, .inl (cI, 80, .inl τ.1))] rfl dX4_readOrder_240 (fun H locs hP hD hS => ?_)
              refine lv_iconst (v := (1 : Int32)) hx hb dX4_readOrder_243 (by decide +kernel) ?_
              exact hend _ _ _ _ _ _ dX4_readOrder_244 rfl (fX4_readOrder_p10 τ c_12_0 c_12_1 c_12_2 c_12_3 c_12_4 c_12_5) hP hS
            · refine (Decidable.em ((fX4_here τ) = (116 : Int32))).elim (fun c_12_6 => ?_) (fun c_12_6 => ?_)
              · refine lv_tableIn (off := 194) (tgt := 206) hx hb dX4_readOrder_12 (by rw [c_12_6]; decide +kernel) (by rw [c_12_6]; decide +kernel) (by rw [c_12_6]; decide +kernel) (by decide) ?_
                refine lv_aload_n hx hb dX4_readOrder_206 rfl (lv_at hl 0 rfl) ?_
                refine lv_dup hx hb dX4_readOrder_207 rfl ?_
                refine va_get (D := D) (ci := 4) (v := .int τ.2.2.1) (C := RX4) (T := TX4) (N := 7) hx hb hts (fun _ h9 => List.mem_cons_of_mem _ (List.mem_append_right _ h9)) hown hE.1 hP 0 rfl rfl 2 (by decide) (hts (.fieldLink RX4 23 "ShadowTable$Script" "position" "I") (List.mem_of_getElem? (i := 2) rfl)) (fun _ h9 => h9) rfl dX4_readOrder_208 ?_
                refine lv_iconst (v := (1 : Int32)) hx hb dX4_readOrder_211 (by decide +kernel) ?_
                refine lv_iadd hx hb dX4_readOrder_212 ?_
                refine xpf (ty := .int) (v := .int (τ.2.2.1 + (1 : Int32))) (C := RX4) (T := TX4) (N := 7) hx hb hts (fun _ h9 => List.mem_cons_of_mem _ (List.mem_append_right _ h9)) tyX4 tyX4_ok nmX4 hown hE hP hD hS 0 rfl rfl 2 (by decide) (hts (.fieldLink RX4 23 "ShadowTable$Script" "position" "I") (List.mem_of_getElem? (i := 2) rfl)) rfl rfl (by decide +kernel) rfl rfl (Nat.le_of_ble_eq_true rfl) [(h0, .inr (4, [.ref h1, .int τ.2.1, .int (τ.2.2.1 + (1 : Int32)), .int τ.2.2.2.1, .int (fX4_here τ), .int τ.2.2.2.2.2.1, .int τ.2.2.2.2.2.2])), (h1, .inl (cI, 80, .inl τ.1))] rfl dX4_readOrder_213 (fun H locs hP hD hS => ?_)
                refine lv_aload_n hx hb dX4_readOrder_216 rfl (lv_at hl 0 rfl) ?_
                refine lv_iconst (v := (1 : Int32)) hx hb dX4_readOrder_217 (by decide +kernel) ?_
                refine lv_bipush (v := (99 : Int32)) hx hb dX4_readOrder_218 (by decide +kernel) ?_
                refine cIV ⟨hx, hb, hml, hown, hts⟩ (kX4_readFirst l D cI cS h0 h1 (1 : Int32) (99 : Int32) (τ.1, τ.2.1, (τ.2.2.1 + (1 : Int32)), τ.2.2.2.1, (fX4_here τ), τ.2.2.2.2.2.1, τ.2.2.2.2.2.2) hs) (cwV 2 hts gX4_readOrder_X4_readFirst rfl rfl rfl (by decide +kernel) ⟨Nat.le_of_ble_eq_true rfl, Nat.le_of_ble_eq_true rfl⟩) hE hP hD hS 0 rfl rfl [0, 1] rfl (by decide) (fun _ => rfl) rfl hl.1 rfl (Nat.le_of_ble_eq_true rfl) ⟨Nat.zero_le _, Nat.zero_le _⟩ dX4_readOrder_220 (fun r_220 u_220 H locs e_220 hP hD hS => ?_)
                have hP : va_P D vwCl [(h0, .inr (4, [.ref h1, .int u_220.2.1, .int u_220.2.2.1, .int u_220.2.2.2.1, .int u_220.2.2.2.2.1, .int u_220.2.2.2.2.2.1, .int u_220.2.2.2.2.2.2])), (h1, .inl (cI, 80, .inl u_220.1))] H := hP
                have hD : va_D A [(h0, .inr (4, [.ref h1, .int u_220.2.1, .int u_220.2.2.1, .int u_220.2.2.2.1, .int u_220.2.2.2.2.1, .int u_220.2.2.2.2.2.1, .int u_220.2.2.2.2.2.2])), (h1, .inl (cI, 80, .inl u_220.1))] := hD
                refine lv_if_ne (tgt := 231) hx hb dX4_readOrder_223 (by decide) (fun c_223 => ?_) (fun c_223 => ?_)
                · refine lv_iconst (v := (1 : Int32)) hx hb dX4_readOrder_231 (by decide +kernel) ?_
                  exact hend _ _ _ _ _ _ dX4_readOrder_232 rfl (fX4_readOrder_p11 τ c_12_0 c_12_1 c_12_2 c_12_3 c_12_4 c_12_5 c_12_6 r_220 u_220 e_220 c_223) hP hS
                · refine lv_aload_n hx hb dX4_readOrder_226 rfl (lv_at hl 0 rfl) ?_
                  refine lv_iconst (v := (1 : Int32)) hx hb dX4_readOrder_227 (by decide +kernel) ?_
                  refine xpf (ty := .int) (v := .int (1 : Int32)) (C := RX4) (T := TX4) (N := 7) hx hb hts (fun _ h9 => List.mem_cons_of_mem _ (List.mem_append_right _ h9)) tyX4 tyX4_ok nmX4 hown hE hP hD hS 0 rfl rfl 5 (by decide) (hts (.fieldLink RX4 51 "ShadowTable$Script" "first" "I") (List.mem_of_getElem? (i := 3) rfl)) rfl rfl (by decide +kernel) rfl rfl (Nat.le_of_ble_eq_true rfl) [(h0, .inr (4, [.ref h1, .int u_220.2.1, .int u_220.2.2.1, .int u_220.2.2.2.1, .int u_220.2.2.2.2.1, .int (1 : Int32), .int u_220.2.2.2.2.2.2])), (h1, .inl (cI, 80, .inl u_220.1))] rfl dX4_readOrder_228 (fun H locs hP hD hS => ?_)
                  refine lv_iconst (v := (1 : Int32)) hx hb dX4_readOrder_231 (by decide +kernel) ?_
                  exact hend _ _ _ _ _ _ dX4_readOrder_232 rfl (fX4_readOrder_p12 τ c_12_0 c_12_1 c_12_2 c_12_3 c_12_4 c_12_5 c_12_6 r_220 u_220 e_220 c_223) hP hS
              · refine (Decidable.em ((fX4_here τ) = (117 : Int32))).elim (fun c_12_7 => ?_) (fun c_12_7 => ?_)
                · refine lv_tableIn (off := 221) (tgt := 233) hx hb dX4_readOrder_12 (by rw [c_12_7]; decide +kernel) (by rw [c_12_7]; decide +kernel) (by rw [c_12_7]; decide +kernel) (by decide) ?_
                  refine lv_aload_n hx hb dX4_readOrder_233 rfl (lv_at hl 0 rfl) ?_
                  refine lv_dup hx hb dX4_readOrder_234 rfl ?_
                  refine va_get (D := D) (ci := 4) (v := .int τ.2.2.1) (C := RX4) (T := TX4) (N := 7) hx hb hts (fun _ h9 => List.mem_cons_of_mem _ (List.mem_append_right _ h9)) hown hE.1 hP 0 rfl rfl 2 (by decide) (hts (.fieldLink RX4 23 "ShadowTable$Script" "position" "I") (List.mem_of_getElem? (i := 2) rfl)) (fun _ h9 => h9) rfl dX4_readOrder_235 ?_
                  refine lv_iconst (v := (1 : Int32)) hx hb dX4_readOrder_238 (by decide +kernel) ?_
                  refine lv_iadd hx hb dX4_readOrder_239 ?_
                  refine xpf (ty := .int) (v := .int (τ.2.2.1 + (1 : Int32))) (C := RX4) (T := TX4) (N := 7) hx hb hts (fun _ h9 => List.mem_cons_of_mem _ (List.mem_append_right _ h9)) tyX4 tyX4_ok nmX4 hown hE hP hD hS 0 rfl rfl 2 (by decide) (hts (.fieldLink RX4 23 "ShadowTable$Script" "position" "I") (List.mem_of_getElem? (i := 2) rfl)) rfl rfl (by decide +kernel) rfl rfl (Nat.le_of_ble_eq_true rfl) [(h0, .inr (4, [.ref h1, .int τ.2.1, .int (τ.2.2.1 + (1 : Int32)), .int τ.2.2.2.1, .int (fX4_here τ), .int τ.2.2.2.2.2.1, .int τ.2.2.2.2.2.2])), (h1, .inl (cI, 80, .inl τ.1))] rfl dX4_readOrder_240 (fun H locs hP hD hS => ?_)
                  refine lv_iconst (v := (1 : Int32)) hx hb dX4_readOrder_243 (by decide +kernel) ?_
                  exact hend _ _ _ _ _ _ dX4_readOrder_244 rfl (fX4_readOrder_p13 τ c_12_0 c_12_1 c_12_2 c_12_3 c_12_4 c_12_5 c_12_6 c_12_7) hP hS
                · refine xtabD (tgt := 245) hx hb dX4_readOrder_12 (xno_cons (a := 98) c_12_0 (by decide) (xno_cons (a := 101) c_12_1 (by decide) (xno_cons (a := 103) c_12_2 (by decide) (xno_cons (a := 108) c_12_3 (by decide) (xno_cons (a := 112) c_12_4 (by decide) (xno_cons (a := 115) c_12_5 (by decide) (xno_cons (a := 116) c_12_6 (by decide) (xno_cons (a := 117) c_12_7 (by decide) xno_nil)))))))) (by decide +kernel) (by decide) ?_
                  refine lv_iconst (v := (0 : Int32)) hx hb dX4_readOrder_245 (by decide +kernel) ?_
                  exact hend _ _ _ _ _ _ dX4_readOrder_246 rfl (fX4_readOrder_p14 τ c_12_0 c_12_1 c_12_2 c_12_3 c_12_4 c_12_5 c_12_6 c_12_7) hP hS

theorem WC_ro (τ : ScT) (hs : WC τ) : WC (fX4_readOrder τ).2 := by
  have hT : WC (τ.1, τ.2.1, (τ.2.2.1 + (1 : Int32)), τ.2.2.2.1, (fX4_here τ), τ.2.2.2.2.2.1, τ.2.2.2.2.2.2) := hs
  unfold fX4_readOrder
  by_cases c0 : (fX4_here τ) = (98 : Int32)
  · rw [if_pos c0]
    generalize e1 : fX4_readFirst _ _ _ = q1
    obtain ⟨r1, u1⟩ := q1
    have h1 : WC u1 := zz_WC_rf e1 hT
    dsimp only
    by_cases d1 : r1 = (0 : Int32)
    · rw [if_pos d1]; exact h1
    · rw [if_neg d1]
      generalize e2 : fX4_readSecond _ _ _ = q2
      obtain ⟨r2, u2⟩ := q2
      have h2 : WC u2 := zz_WC_rs e2 h1
      dsimp only
      by_cases d2 : r2 = (0 : Int32)
      · rw [if_pos d2]; exact h2
      · rw [if_neg d2]; exact h2
  · rw [if_neg c0]
    by_cases c1 : (fX4_here τ) = (101 : Int32)
    · rw [if_pos c1]
      generalize e1 : fX4_readFirst _ _ _ = q1
      obtain ⟨r1, u1⟩ := q1
      have h1 : WC u1 := zz_WC_rf e1 hT
      exact h1
    · rw [if_neg c1]
      by_cases c2 : (fX4_here τ) = (103 : Int32)
      · rw [if_pos c2]; exact hT
      · rw [if_neg c2]
        by_cases c3 : (fX4_here τ) = (108 : Int32)
        · rw [if_pos c3]; exact hT
        · rw [if_neg c3]
          by_cases c4 : (fX4_here τ) = (112 : Int32)
          · rw [if_pos c4]
            generalize e1 : fX4_readFirst _ _ _ = q1
            obtain ⟨r1, u1⟩ := q1
            have h1 : WC u1 := zz_WC_rf e1 hT
            dsimp only
            by_cases d1 : r1 = (0 : Int32)
            · rw [if_pos d1]; exact h1
            · rw [if_neg d1]
              generalize e2 : fX4_skip _ _ = q2
              obtain ⟨r2, u2⟩ := q2
              have h2 : WC u2 := zz_WC_sk e2 h1
              dsimp only
              by_cases d2 : r2 = (0 : Int32)
              · rw [if_pos d2]; exact h2
              · rw [if_neg d2]
                generalize e3 : fX4_readSecond _ _ _ = q3
                obtain ⟨r3, u3⟩ := q3
                have h3 : WC u3 := zz_WC_rs e3 h2
                dsimp only
                by_cases d3 : r3 = (0 : Int32)
                · rw [if_pos d3]; exact h3
                · rw [if_neg d3]; exact h3
          · rw [if_neg c4]
            by_cases c5 : (fX4_here τ) = (115 : Int32)
            · rw [if_pos c5]; exact hT
            · rw [if_neg c5]
              by_cases c6 : (fX4_here τ) = (116 : Int32)
              · rw [if_pos c6]
                generalize e1 : fX4_readFirst _ _ _ = q1
                obtain ⟨r1, u1⟩ := q1
                have h1 : WC u1 := zz_WC_rf e1 hT
                dsimp only
                by_cases d1 : r1 = (0 : Int32)
                · rw [if_pos d1]; exact h1
                · rw [if_neg d1]; exact h1
              · rw [if_neg c6]
                by_cases c7 : (fX4_here τ) = (117 : Int32)
                · rw [if_pos c7]; exact hT
                · rw [if_neg c7]; exact hs
theorem zz_WC_ro {r : Int32} {τ u : ScT} (e : fX4_readOrder τ = (r, u)) (hs : WC τ) : WC u := by
  have h := WC_ro τ hs
  rw [e] at h
  exact h

def fX4_findFault_6 : Nat → Nat → ScT → Int32 × ScT
  | 0, k, σ => (0, σ)
  | n + 1, k, σ => (if (80 : Int32) ≤ (nI k) then (σ.2.2.1, σ) else (match (fX4_readOrder σ) with | (r_13, u_13) => (if r_13 = (0 : Int32) then (u_13.2.2.1, u_13) else (if u_13.2.2.1 < u_13.2.1 then (match (fX4_skip (44 : Int32) u_13) with | (r_41, u_41) => (if r_41 = (0 : Int32) then (u_41.2.2.1, u_41) else fX4_findFault_6 n (k + 1) u_41)) else ((-5 : Int32), u_13)))))
def fX4_findFault (τ : ScT) : Int32 × ScT := (let u_1 := (fX4_goToStart τ); fX4_findFault_6 81 0 u_1)
theorem fX4_findFault_6_p0 (n : Nat) (k : Nat) (σ : ScT) (c_9 : (80 : Int32) ≤ (nI k)) : fX4_findFault_6 (n + 1) k σ = (σ.2.2.1, σ) := by
  simp only [fX4_findFault_6, if_pos c_9]
theorem fX4_findFault_6_p1 (n : Nat) (k : Nat) (σ : ScT) (c_9 : ¬ (80 : Int32) ≤ (nI k)) (r_13 : Int32) (u_13 : ScT) (e_13 : (fX4_readOrder σ) = (r_13, u_13)) (c_16 : ¬ r_13 = (0 : Int32)) (c_32 : u_13.2.2.1 < u_13.2.1) (r_41 : Int32) (u_41 : ScT) (e_41 : (fX4_skip (44 : Int32) u_13) = (r_41, u_41)) (c_44 : ¬ r_41 = (0 : Int32)) : fX4_findFault_6 (n + 1) k σ = fX4_findFault_6 n (k + 1) u_41 := by
  simp only [fX4_findFault_6, if_neg c_9, e_13, if_neg c_16, if_pos c_32, e_41, if_neg c_44]
theorem fX4_findFault_6_p2 (n : Nat) (k : Nat) (σ : ScT) (c_9 : ¬ (80 : Int32) ≤ (nI k)) (r_13 : Int32) (u_13 : ScT) (e_13 : (fX4_readOrder σ) = (r_13, u_13)) (c_16 : ¬ r_13 = (0 : Int32)) (c_32 : u_13.2.2.1 < u_13.2.1) (r_41 : Int32) (u_41 : ScT) (e_41 : (fX4_skip (44 : Int32) u_13) = (r_41, u_41)) (c_44 : r_41 = (0 : Int32)) : fX4_findFault_6 (n + 1) k σ = (u_41.2.2.1, u_41) := by
  simp only [fX4_findFault_6, if_neg c_9, e_13, if_neg c_16, if_pos c_32, e_41, if_pos c_44]
theorem fX4_findFault_6_p3 (n : Nat) (k : Nat) (σ : ScT) (c_9 : ¬ (80 : Int32) ≤ (nI k)) (r_13 : Int32) (u_13 : ScT) (e_13 : (fX4_readOrder σ) = (r_13, u_13)) (c_16 : ¬ r_13 = (0 : Int32)) (c_32 : ¬ u_13.2.2.1 < u_13.2.1) : fX4_findFault_6 (n + 1) k σ = ((-5 : Int32), u_13) := by
  simp only [fX4_findFault_6, if_neg c_9, e_13, if_neg c_16, if_neg c_32]
theorem fX4_findFault_6_p4 (n : Nat) (k : Nat) (σ : ScT) (c_9 : ¬ (80 : Int32) ≤ (nI k)) (r_13 : Int32) (u_13 : ScT) (e_13 : (fX4_readOrder σ) = (r_13, u_13)) (c_16 : r_13 = (0 : Int32)) : fX4_findFault_6 (n + 1) k σ = (u_13.2.2.1, u_13) := by
  simp only [fX4_findFault_6, if_neg c_9, e_13, if_pos c_16]
theorem fX4_findFault_p5 (τ : ScT) (u_1 : ScT) (e_1 : (fX4_goToStart τ) = u_1) : (fX4_findFault τ) = fX4_findFault_6 81 0 u_1 := by
  simp only [fX4_findFault, e_1]
set_option maxHeartbeats 4000000 in
set_option maxRecDepth 100000 in
theorem kX4_findFault (l : Launch) (D : va_G) (cI cS : ClassId) (h0 h1 : Nat) (τ : ScT) (hs : WC τ) : KI l yX4_findFault wsX4_findFault { frames := 5, cells := 0, slots := 0, locals := 109 } D (tysA cI cS) [.ref h0] [(h0, .inr (4, [.ref h1, .int τ.2.1, .int τ.2.2.1, .int τ.2.2.2.1, .int τ.2.2.2.2.1, .int τ.2.2.2.2.2.1, .int τ.2.2.2.2.2.2])), (h1, .inl (cI, 80, .inl τ.1))] (fX4_findFault τ) (fun u => [(h0, .inr (4, [.ref h1, .int u.2.1, .int u.2.2.1, .int u.2.2.2.1, .int u.2.2.2.2.1, .int u.2.2.2.2.2.1, .int u.2.2.2.2.2.2])), (h1, .inl (cI, 80, .inl u.1))]) := by
  refine KI.of (cc := cX4_findFault) (maxL := 2) (ty := .int) (by decide) rfl (Nat.le_of_ble_eq_true rfl) rfl (fun p e s m args below meth c ls Q A hx hb hml hown hts hE hP hD hS hl hend => ?_)
  have hown : s.vm.findClass RX4 = some m.cls := hown
  have hl : lv_has ls 2 [(0, .ref h0)] := hl
  have loop_6 : ∀ (n : Nat) (k : Nat) (σ : ScT), WC σ → k ≤ 80 → 80 - k < n → (fX4_findFault τ) = fX4_findFault_6 n k σ → ∀ (H : Heap) (locs : List Loc), va_P D vwCl [(h0, .inr (4, [.ref h1, .int σ.2.1, .int σ.2.2.1, .int σ.2.2.2.1, .int σ.2.2.2.2.1, .int σ.2.2.2.2.2.1, .int σ.2.2.2.2.2.2])), (h1, .inl (cI, 80, .inl σ.1))] H → va_D A [(h0, .inr (4, [.ref h1, .int σ.2.1, .int σ.2.2.1, .int σ.2.2.2.1, .int σ.2.2.2.2.1, .int σ.2.2.2.2.2.1, .int σ.2.2.2.2.2.2])), (h1, .inl (cI, 80, .inl σ.1))] → va_S A s.heap H locs → ∀ (ls : Array Slot), lv_has ls 2 [(0, .ref h0), (1, .int (nI k))] → W p l e { frames := 5, cells := 0, slots := 0, locals := 109 } s m args below meth c H locs 0 0 Q (F0 m 6 ls []) := by
    intro n
    induction n with
    | zero =>
      intro k σ hs hk hn
      exact absurd hn (by omega)
    | succ n ih =>
      intro k σ hs hk hn hF H locs hP hD hS ls hl
      refine lv_iload_n hx hb dX4_findFault_6 rfl (lv_at hl 1 rfl) ?_
      refine lv_bipush (v := (80 : Int32)) hx hb dX4_findFault_7 (by decide +kernel) ?_
      refine lv_icmp_ge (tgt := 58) hx hb dX4_findFault_9 (by decide) (fun c_9 => ?_) (fun c_9 => ?_)
      · have d_9 : 80 ≤ k := (nI_leI (a := 80) (b := k) (by omega) (by omega)).mp c_9
        refine lv_aload_n hx hb dX4_findFault_58 rfl (lv_at hl 0 rfl) ?_
        refine va_get (D := D) (ci := 4) (v := .int σ.2.2.1) (C := RX4) (T := TX4) (N := 7) hx hb hts (fun _ h9 => List.mem_cons_of_mem _ (List.mem_append_right _ h9)) hown hE.1 hP 0 rfl rfl 2 (by decide) (hts (.fieldLink RX4 23 "ShadowTable$Script" "position" "I") (List.mem_of_getElem? (i := 1) rfl)) (fun _ h9 => h9) rfl dX4_findFault_59 ?_
        exact hend _ _ _ _ _ _ dX4_findFault_62 rfl (hF.trans (fX4_findFault_6_p0 n k σ c_9)) hP hS
      · have d_9 : k < 80 := Nat.lt_of_not_le (fun q => c_9 ((nI_leI (a := 80) (b := k) (by omega) (by omega)).mpr q))
        refine lv_aload_n hx hb dX4_findFault_12 rfl (lv_at hl 0 rfl) ?_
        refine cIV ⟨hx, hb, hml, hown, hts⟩ (kX4_readOrder l D cI cS h0 h1 σ hs) (cwV 0 hts gX4_findFault_X4_readOrder rfl rfl rfl (by decide +kernel) ⟨Nat.le_of_ble_eq_true rfl, Nat.le_of_ble_eq_true rfl⟩) hE hP hD hS 0 rfl rfl [0, 1] rfl (by decide) (fun _ => rfl) rfl hl.1 rfl (Nat.le_of_ble_eq_true rfl) ⟨Nat.zero_le _, Nat.zero_le _⟩ dX4_findFault_13 (fun r_13 u_13 H locs e_13 hP hD hS => ?_)
        have hP : va_P D vwCl [(h0, .inr (4, [.ref h1, .int u_13.2.1, .int u_13.2.2.1, .int u_13.2.2.2.1, .int u_13.2.2.2.2.1, .int u_13.2.2.2.2.2.1, .int u_13.2.2.2.2.2.2])), (h1, .inl (cI, 80, .inl u_13.1))] H := hP
        have hD : va_D A [(h0, .inr (4, [.ref h1, .int u_13.2.1, .int u_13.2.2.1, .int u_13.2.2.2.1, .int u_13.2.2.2.2.1, .int u_13.2.2.2.2.2.1, .int u_13.2.2.2.2.2.2])), (h1, .inl (cI, 80, .inl u_13.1))] := hD
        refine lv_if_ne (tgt := 24) hx hb dX4_findFault_16 (by decide) (fun c_16 => ?_) (fun c_16 => ?_)
        · refine lv_aload_n hx hb dX4_findFault_24 rfl (lv_at hl 0 rfl) ?_
          refine va_get (D := D) (ci := 4) (v := .int u_13.2.2.1) (C := RX4) (T := TX4) (N := 7) hx hb hts (fun _ h9 => List.mem_cons_of_mem _ (List.mem_append_right _ h9)) hown hE.1 hP 0 rfl rfl 2 (by decide) (hts (.fieldLink RX4 23 "ShadowTable$Script" "position" "I") (List.mem_of_getElem? (i := 1) rfl)) (fun _ h9 => h9) rfl dX4_findFault_25 ?_
          refine lv_aload_n hx hb dX4_findFault_28 rfl (lv_at hl 0 rfl) ?_
          refine va_get (D := D) (ci := 4) (v := .int u_13.2.1) (C := RX4) (T := TX4) (N := 7) hx hb hts (fun _ h9 => List.mem_cons_of_mem _ (List.mem_append_right _ h9)) hown hE.1 hP 0 rfl rfl 1 (by decide) (hts (.fieldLink RX4 19 "ShadowTable$Script" "length" "I") (List.mem_of_getElem? (i := 2) rfl)) (fun _ h9 => h9) rfl dX4_findFault_29 ?_
          refine lv_icmp_lt (tgt := 38) hx hb dX4_findFault_32 (by decide) (fun c_32 => ?_) (fun c_32 => ?_)
          · refine lv_aload_n hx hb dX4_findFault_38 rfl (lv_at hl 0 rfl) ?_
            refine lv_bipush (v := (44 : Int32)) hx hb dX4_findFault_39 (by decide +kernel) ?_
            refine cIV ⟨hx, hb, hml, hown, hts⟩ (kX4_skip l D cI cS h0 h1 (44 : Int32) u_13 (zz_WC_ro e_13 hs)) (cwV 1 hts gX4_findFault_X4_skip rfl rfl rfl (by decide +kernel) ⟨Nat.le_of_ble_eq_true rfl, Nat.le_of_ble_eq_true rfl⟩) hE hP hD hS 0 rfl rfl [0, 1] rfl (by decide) (fun _ => rfl) rfl hl.1 rfl (Nat.le_of_ble_eq_true rfl) ⟨Nat.zero_le _, Nat.zero_le _⟩ dX4_findFault_41 (fun r_41 u_41 H locs e_41 hP hD hS => ?_)
            have hP : va_P D vwCl [(h0, .inr (4, [.ref h1, .int u_41.2.1, .int u_41.2.2.1, .int u_41.2.2.2.1, .int u_41.2.2.2.2.1, .int u_41.2.2.2.2.2.1, .int u_41.2.2.2.2.2.2])), (h1, .inl (cI, 80, .inl u_41.1))] H := hP
            have hD : va_D A [(h0, .inr (4, [.ref h1, .int u_41.2.1, .int u_41.2.2.1, .int u_41.2.2.2.1, .int u_41.2.2.2.2.1, .int u_41.2.2.2.2.2.1, .int u_41.2.2.2.2.2.2])), (h1, .inl (cI, 80, .inl u_41.1))] := hD
            refine lv_if_ne (tgt := 52) hx hb dX4_findFault_44 (by decide) (fun c_44 => ?_) (fun c_44 => ?_)
            · refine lv_iinc (v := (nI (k + 1))) (lv' := [(1, .int (nI (k + 1))), (0, .ref h0)]) hx hb dX4_findFault_52 hl (k := 1) rfl (nI_1 _) (by decide) rfl (fun ls hl => ?_)
              refine lv_goto (tgt := 6) hx hb dX4_findFault_55 (by decide) ?_
              exact ih (k + 1) u_41 (zz_WC_sk e_41 (zz_WC_ro e_13 hs)) (by omega) (by omega) (hF.trans (fX4_findFault_6_p1 n k σ c_9 r_13 u_13 e_13 c_16 c_32 r_41 u_41 e_41 c_44)) _ _ hP hD hS _ (lv_sub hl [1, 0] rfl)
            · refine lv_aload_n hx hb dX4_findFault_47 rfl (lv_at hl 0 rfl) ?_
              refine va_get (D := D) (ci := 4) (v := .int u_41.2.2.1) (C := RX4) (T := TX4) (N := 7) hx hb hts (fun _ h9 => List.mem_cons_of_mem _ (List.mem_append_right _ h9)) hown hE.1 hP 0 rfl rfl 2 (by decide) (hts (.fieldLink RX4 23 "ShadowTable$Script" "position" "I") (List.mem_of_getElem? (i := 1) rfl)) (fun _ h9 => h9) rfl dX4_findFault_48 ?_
              exact hend _ _ _ _ _ _ dX4_findFault_51 rfl (hF.trans (fX4_findFault_6_p2 n k σ c_9 r_13 u_13 e_13 c_16 c_32 r_41 u_41 e_41 c_44)) hP hS
          · refine lv_bipush (v := (-5 : Int32)) hx hb dX4_findFault_35 (by decide +kernel) ?_
            exact hend _ _ _ _ _ _ dX4_findFault_37 rfl (hF.trans (fX4_findFault_6_p3 n k σ c_9 r_13 u_13 e_13 c_16 c_32)) hP hS
        · refine lv_aload_n hx hb dX4_findFault_19 rfl (lv_at hl 0 rfl) ?_
          refine va_get (D := D) (ci := 4) (v := .int u_13.2.2.1) (C := RX4) (T := TX4) (N := 7) hx hb hts (fun _ h9 => List.mem_cons_of_mem _ (List.mem_append_right _ h9)) hown hE.1 hP 0 rfl rfl 2 (by decide) (hts (.fieldLink RX4 23 "ShadowTable$Script" "position" "I") (List.mem_of_getElem? (i := 1) rfl)) (fun _ h9 => h9) rfl dX4_findFault_20 ?_
          exact hend _ _ _ _ _ _ dX4_findFault_23 rfl (hF.trans (fX4_findFault_6_p4 n k σ c_9 r_13 u_13 e_13 c_16)) hP hS
  refine lv_aload_n hx hb dX4_findFault_0 rfl (lv_at hl 0 rfl) ?_
  refine cVV ⟨hx, hb, hml, hown, hts⟩ (kX4_goToStart l D cI cS h0 h1 τ) (cwV 0 hts gX4_findFault_X4_goToStart rfl rfl rfl (by decide +kernel) ⟨Nat.le_of_ble_eq_true rfl, Nat.le_of_ble_eq_true rfl⟩) hE hP hD hS 0 rfl rfl [0, 1] rfl (by decide) (fun _ => rfl) rfl hl.1 rfl (Nat.le_of_ble_eq_true rfl) ⟨Nat.zero_le _, Nat.zero_le _⟩ dX4_findFault_1 (fun u_1 H locs e_1 hP hD hS => ?_)
  have hP : va_P D vwCl [(h0, .inr (4, [.ref h1, .int u_1.2.1, .int u_1.2.2.1, .int u_1.2.2.2.1, .int u_1.2.2.2.2.1, .int u_1.2.2.2.2.2.1, .int u_1.2.2.2.2.2.2])), (h1, .inl (cI, 80, .inl u_1.1))] H := hP
  have hD : va_D A [(h0, .inr (4, [.ref h1, .int u_1.2.1, .int u_1.2.2.1, .int u_1.2.2.2.1, .int u_1.2.2.2.2.1, .int u_1.2.2.2.2.2.1, .int u_1.2.2.2.2.2.2])), (h1, .inl (cI, 80, .inl u_1.1))] := hD
  refine lv_iconst (v := (0 : Int32)) hx hb dX4_findFault_4 (by decide +kernel) ?_
  refine lv_istore_n (lv' := [(1, .int (0 : Int32)), (0, .ref h0)]) hx hb dX4_findFault_5 rfl hl (by decide) rfl (fun ls hl => ?_)
  exact loop_6 81 0 u_1 (zz_WC_go e_1 hs) (by omega) (by omega) (fX4_findFault_p5 τ u_1 e_1) _ _ hP hD hS _ (lv_sub hl [1, 0] rfl)
