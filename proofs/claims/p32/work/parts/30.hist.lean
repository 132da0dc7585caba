abbrev HiT : Type := (Nat → StT) × Int32 × Int32
abbrev HsT : Type := Int32 × Int32
abbrev TPT : Type := StT × HiT
abbrev TST : Type := StT × StT × Int32
abbrev TRT : Type := StT × StT × HiT × Int32
abbrev TTT : Type := StT × StT
abbrev TXT : Type := StT × HiT × ScT
abbrev TOT : Type := StT × ScT
section XAL
variable {p : Program} {l : Launch} {e : Env} {R : Room} {s : State} {m : MethodId} {args : Array Value} {below : List Frame} {meth : Method} {c : Code} {H : Heap} {locs : List Loc} {cells slots : Nat} {Q : State → Prop}
variable {cc : ByteArray} {pc : Nat} {ls : Array Slot} {rest : List Value} {D : va_G} {tys : List (ClassId × FieldType)} {W0 : va_W}
theorem xald {a v : Nat} (hexec : p.tables.exec = Jvm.exec) (hb : c.code = cc) (hE : EV D tys s) (hP : va_P D vwCl W0 H) (q0 : Nat) {cA : ClassId} {n : Nat} {f : Nat → Option Nat} (ha : W0[q0]? = some (a, .inl (cA, n, .inr (.inr (.inr (.inr f)))))) (ht : tys[1]? = some (cA, .object RX5)) {i : Int32} (hin : vp_in i n) (hv : f i.toNatClampNeg = some v) (hdg : decode cc pc = .ok (.aaload, 1))
    (kk : W p l e R s m args below meth c H locs cells slots Q (F0 m (pc + 1) ls (.ref v :: rest))) : W p l e R s m args below meth c H locs cells slots Q (F0 m pc ls (.int i :: .ref a :: rest)) := by
  refine va_aldq hexec hb hE.1 hP q0 1 ha ht hin hdg ?_
  rw [hv]
  exact kk
end XAL
/-- a history: its start and count in their ranges, and each state's boolean -/
def WH (τ : HiT) : Prop := Bd τ.2.1 5 ∧ Bd τ.2.2 5 ∧ ∀ i : Nat, BL (τ.1 i).2.2.1
theorem va_up_id {α : Type} (f : Nat → α) (j : Nat) : va_up f j (f j) = f := by
  funext k
  unfold va_up
  by_cases h : k = j
  · rw [if_pos h, h]
  · rw [if_neg h]
theorem take_eq (τ υ : StT) : fX5_take τ υ = υ := rfl
theorem zz_WS_take {τ υ u : StT} (e : fX5_take τ υ = u) (hw : WS υ) : WS u := by
  rw [take_eq] at e
  rw [← e]
  exact hw
theorem in6_no {a b c : Int32} (h : ¬ fX6_isIn a b c = (0 : Int32)) : ¬ a < b ∧ ¬ c < a := by
  unfold fX6_isIn at h
  by_cases h1 : a < b
  · rw [if_pos h1] at h; exact absurd rfl h
  · rw [if_neg h1] at h
    by_cases h2 : c < a
    · rw [if_pos h2] at h; exact absurd rfl h
    · exact ⟨h1, h2⟩
theorem in6_B {x b c : Int32} {N : Nat} (hb : 0 ≤ b.toInt) (hN : c.toInt = (N : Int)) (hM : N < 2 ^ 31) (h : ¬ fX6_isIn x b c = (0 : Int32)) : Bd x N := by
  obtain ⟨h1, h2⟩ := in6_no h
  rw [Int32.lt_iff_toInt_lt] at h1 h2
  exact Bd.ge (by omega) (by omega) hM
theorem zz_set6 {x : Int32} (h : ¬ fX6_isSetting x = (0 : Int32)) : vp_in x 4 := by
  obtain ⟨j, hj, rfl⟩ := (in6_B (N := 3) (by decide) (by decide) (by omega) h).num
  exact vp_in_nI (by omega) (by omega)
theorem zz_tot6 {x : Int32} (h : ¬ fX6_isIn x (0 : Int32) (7 : Int32) = (0 : Int32)) : vp_in x 8 := by
  obtain ⟨j, hj, rfl⟩ := (in6_B (N := 7) (by decide) (by decide) (by omega) h).num
  exact vp_in_nI (by omega) (by omega)
def fX1_slotOf (p0 : Int32) (τ : HsT) : Int32 := ((τ.1 + p0) - (τ.1 + p0) / (6 : Int32) * (6 : Int32))
theorem fX1_slotOf_p0 (p0 : Int32) (τ : HsT) : (fX1_slotOf p0 τ) = ((τ.1 + p0) - (τ.1 + p0) / (6 : Int32) * (6 : Int32)) := by
  simp only [fX1_slotOf]
set_option maxHeartbeats 4000000 in
set_option maxRecDepth 100000 in
theorem kX1_slotOf (l : Launch) (D : va_G) (cI cS : ClassId) (h0 : Nat) (w0 : Nat) (p0 : Int32) (τ : HsT) : KR l yX1_slotOf wsX1_slotOf { frames := 0, cells := 0, slots := 0, locals := 0 } D (tysA cI cS) [.ref h0, .int p0] [(h0, .inr (1, [.ref w0, .int τ.1, .int τ.2]))] (fX1_slotOf p0 τ) := by
  refine KR.of (cc := cX1_slotOf) (maxL := 2) (ty := .int) (by decide) rfl (Nat.le_of_ble_eq_true rfl) rfl (fun p e s m args below meth c ls Q hx hb hml hown hts hE hP hl hend => ?_)
  have hown : s.vm.findClass RX1 = some m.cls := hown
  have hl : lv_has ls 2 [(0, .ref h0), (1, .int p0)] := hl
  refine lv_aload_n hx hb dX1_slotOf_0 rfl (lv_at hl 0 rfl) ?_
  refine va_get (D := D) (ci := 1) (v := .int τ.1) (C := RX1) (T := TX1) (N := 3) hx hb hts (fun _ h9 => List.mem_cons_of_mem _ (List.mem_append_right _ h9)) hown hE.1 hP 0 rfl rfl 1 (by decide) (hts (.fieldLink RX1 30 "ShadowTable$History" "start" "I") (List.mem_of_getElem? (i := 1) rfl)) (fun _ h9 => h9) rfl dX1_slotOf_1 ?_
  refine lv_iload_n hx hb dX1_slotOf_4 rfl (lv_at hl 1 rfl) ?_
  refine lv_iadd hx hb dX1_slotOf_5 ?_
  refine lv_bipush (v := (6 : Int32)) hx hb dX1_slotOf_6 (by decide +kernel) ?_
  refine lv_irem hx hb dX1_slotOf_8 (by decide) ?_
  exact hend _ _ _ dX1_slotOf_9 rfl (fX1_slotOf_p0 p0 τ)

theorem hslot_eq {τ : HsT} {i j : Nat} (h1 : τ.1 = nI i) (hi : i < 1000) (hj : j < 1000) : fX1_slotOf (nI j) τ = nI ((i + j) % 6) := by
  unfold fX1_slotOf
  rw [h1, nI_add, show (6 : Int32) = nI 6 from rfl, pk_rem (by omega) (by omega) (by omega)]
theorem zz_sl {τ : HsT} {x : Int32} (h1 : Bd τ.1 5) (hx : Bd x 5) : Bd (fX1_slotOf x τ) 5 := by
  obtain ⟨i, hi, e⟩ := h1.num
  obtain ⟨j, hj, rfl⟩ := hx.num
  rw [hslot_eq e (by omega) (by omega)]
  exact Bd.of (by omega) (by omega)
theorem zz_slD {a x y : Int32} (h1 : Bd a 5) (hx : Bd x 5) (c : ¬ x = (0 : Int32)) : Bd (fX1_slotOf (x - (1 : Int32)) (a, y)) 5 := by
  obtain ⟨j, hj, rfl⟩ := hx.num
  cases j with
  | zero => exact absurd rfl c
  | succ j => rw [nI_pred]; exact zz_sl h1 (Bd.of (by omega) (by omega))

def fX1_keepPrepared (τ : HsT) : HsT := (if (5 : Int32) ≤ τ.2 then ((fX1_slotOf (1 : Int32) τ), τ.2) else (τ.1, (τ.2 + (1 : Int32))))
theorem fX1_keepPrepared_p0 (τ : HsT) (c_5 : (5 : Int32) ≤ τ.2) : (fX1_keepPrepared τ) = ((fX1_slotOf (1 : Int32) τ), τ.2) := by
  simp only [fX1_keepPrepared, if_pos c_5]
theorem fX1_keepPrepared_p1 (τ : HsT) (c_5 : ¬ (5 : Int32) ≤ τ.2) : (fX1_keepPrepared τ) = (τ.1, (τ.2 + (1 : Int32))) := by
  simp only [fX1_keepPrepared, if_neg c_5]
set_option maxHeartbeats 4000000 in
set_option maxRecDepth 100000 in
theorem kX1_keepPrepared (l : Launch) (D : va_G) (cI cS : ClassId) (h0 : Nat) (w0 : Nat) (τ : HsT) : KV l yX1_keepPrepared wsX1_keepPrepared { frames := 1, cells := 0, slots := 0, locals := 21 } D (tysA cI cS) [.ref h0] [(h0, .inr (1, [.ref w0, .int τ.1, .int τ.2]))] (fX1_keepPrepared τ) (fun u => [(h0, .inr (1, [.ref w0, .int u.1, .int u.2]))]) := by
  refine KV.of (cc := cX1_keepPrepared) (maxL := 1) (by decide) rfl (Nat.le_of_ble_eq_true rfl) rfl (fun p e s m args below meth c ls Q A hx hb hml hown hts hE hP hD hS hl hend => ?_)
  have hown : s.vm.findClass RX1 = some m.cls := hown
  have hl : lv_has ls 1 [(0, .ref h0)] := hl
  refine lv_aload_n hx hb dX1_keepPrepared_0 rfl (lv_at hl 0 rfl) ?_
  refine va_get (D := D) (ci := 1) (v := .int τ.2) (C := RX1) (T := TX1) (N := 3) hx hb hts (fun _ h9 => List.mem_cons_of_mem _ (List.mem_append_right _ h9)) hown hE.1 hP 0 rfl rfl 2 (by decide) (hts (.fieldLink RX1 18 "ShadowTable$History" "count" "I") (List.mem_of_getElem? (i := 1) rfl)) (fun _ h9 => h9) rfl dX1_keepPrepared_1 ?_
  refine lv_iconst (v := (5 : Int32)) hx hb dX1_keepPrepared_4 (by decide +kernel) ?_
  refine lv_icmp_ge (tgt := 21) hx hb dX1_keepPrepared_5 (by decide) (fun c_5 => ?_) (fun c_5 => ?_)
  · refine lv_aload_n hx hb dX1_keepPrepared_21 rfl (lv_at hl 0 rfl) ?_
    refine lv_aload_n hx hb dX1_keepPrepared_22 rfl (lv_at hl 0 rfl) ?_
    refine lv_iconst (v := (1 : Int32)) hx hb dX1_keepPrepared_23 (by decide +kernel) ?_
    refine cRV ⟨hx, hb, hml, hown, hts⟩ (kX1_slotOf l D cI cS h0 w0 (1 : Int32) τ) (cwV 1 hts gX1_keepPrepared_X1_slotOf rfl rfl rfl (by decide +kernel) ⟨Nat.le_of_ble_eq_true rfl, Nat.le_of_ble_eq_true rfl⟩) hE hP 0 rfl rfl [0] rfl rfl hl.1 rfl (Nat.le_of_ble_eq_true rfl) ⟨Nat.zero_le _, Nat.zero_le _⟩ dX1_keepPrepared_24 ?_
    refine xpf (ty := .int) (v := .int (fX1_slotOf (1 : Int32) τ)) (C := RX1) (T := TX1) (N := 3) hx hb hts (fun _ h9 => List.mem_cons_of_mem _ (List.mem_append_right _ h9)) tyX1 tyX1_ok nmX1 hown hE hP hD hS 0 rfl rfl 1 (by decide) (hts (.fieldLink RX1 30 "ShadowTable$History" "start" "I") (List.mem_of_getElem? (i := 2) rfl)) rfl rfl (by decide +kernel) rfl rfl (Nat.le_of_ble_eq_true rfl) [(h0, .inr (1, [.ref w0, .int (fX1_slotOf (1 : Int32) τ), .int τ.2]))] rfl dX1_keepPrepared_27 (fun H locs hP hD hS => ?_)
    exact hend _ _ _ _ _ dX1_keepPrepared_30 (fX1_keepPrepared_p0 τ c_5) hP hS
  · refine lv_aload_n hx hb dX1_keepPrepared_8 rfl (lv_at hl 0 rfl) ?_
    refine lv_dup hx hb dX1_keepPrepared_9 rfl ?_
    refine va_get (D := D) (ci := 1) (v := .int τ.2) (C := RX1) (T := TX1) (N := 3) hx hb hts (fun _ h9 => List.mem_cons_of_mem _ (List.mem_append_right _ h9)) hown hE.1 hP 0 rfl rfl 2 (by decide) (hts (.fieldLink RX1 18 "ShadowTable$History" "count" "I") (List.mem_of_getElem? (i := 1) rfl)) (fun _ h9 => h9) rfl dX1_keepPrepared_10 ?_
    refine lv_iconst (v := (1 : Int32)) hx hb dX1_keepPrepared_13 (by decide +kernel) ?_
    refine lv_iadd hx hb dX1_keepPrepared_14 ?_
    refine xpf (ty := .int) (v := .int (τ.2 + (1 : Int32))) (C := RX1) (T := TX1) (N := 3) hx hb hts (fun _ h9 => List.mem_cons_of_mem _ (List.mem_append_right _ h9)) tyX1 tyX1_ok nmX1 hown hE hP hD hS 0 rfl rfl 2 (by decide) (hts (.fieldLink RX1 18 "ShadowTable$History" "count" "I") (List.mem_of_getElem? (i := 1) rfl)) rfl rfl (by decide +kernel) rfl rfl (Nat.le_of_ble_eq_true rfl) [(h0, .inr (1, [.ref w0, .int τ.1, .int (τ.2 + (1 : Int32))]))] rfl dX1_keepPrepared_15 (fun H locs hP hD hS => ?_)
    refine lv_goto (tgt := 30) hx hb dX1_keepPrepared_18 (by decide) ?_
    exact hend _ _ _ _ _ dX1_keepPrepared_30 (fX1_keepPrepared_p1 τ c_5) hP hS
/-- the blocks of the objects -/
def wSt (cI : ClassId) (a : Nat → Nat) (τ : StT) : va_W := [(a 0, .inr (5, [.ref (a 1), .ref (a 3), .int τ.2.2.1, .ref (a 5), .ref (a 11), .ref (a 12)])), (a 1, .inr (3, [.ref (a 2)])), (a 2, .inl (cI, 32, .inl τ.1)), (a 3, .inr (3, [.ref (a 4)])), (a 4, .inl (cI, 32, .inl τ.2.1)), (a 5, .inr (0, [.ref (a 6), .ref (a 8), .int τ.2.2.2.1.2.2.1, .int τ.2.2.2.1.2.2.2.1, .int τ.2.2.2.1.2.2.2.2.1, .int τ.2.2.2.1.2.2.2.2.2.1, .int τ.2.2.2.1.2.2.2.2.2.2])), (a 6, .inr (3, [.ref (a 7)])), (a 7, .inl (cI, 32, .inl τ.2.2.2.1.1)), (a 8, .inr (2, [.ref (a 9), .ref (a 10), .int τ.2.2.2.1.2.1.2.2.1, .int τ.2.2.2.1.2.1.2.2.2])), (a 9, .inl (cI, 24, .inl τ.2.2.2.1.2.1.1)), (a 10, .inl (cI, 24, .inl τ.2.2.2.1.2.1.2.1)), (a 11, .inl (cI, 4, .inl τ.2.2.2.2.1)), (a 12, .inl (cI, 8, .inl τ.2.2.2.2.2))]
def wHh (a : Nat → Nat) (τ : HsT) : va_W := [(a 0, .inr (1, [.ref (a 1), .int τ.1, .int τ.2]))]
def sl6 (b : Nat → Nat → Nat) : Nat → Option Nat := fun i => if i < 6 then some (b i 0) else none
def wHa (cS : ClassId) (a : Nat → Nat) (b : Nat → Nat → Nat) : va_W := [(a 1, .inl (cS, 6, .inr (.inr (.inr (.inr (sl6 b))))))]
def wHi (cI cS : ClassId) (a : Nat → Nat) (b : Nat → Nat → Nat) (τ : HiT) (t : List va_W) : List va_W := wHh a τ.2 :: wHa cS a b :: wSt cI (b 0) (τ.1 0) :: wSt cI (b 1) (τ.1 1) :: wSt cI (b 2) (τ.1 2) :: wSt cI (b 3) (τ.1 3) :: wSt cI (b 4) (τ.1 4) :: wSt cI (b 5) (τ.1 5) :: t
theorem sl6_at {b : Nat → Nat → Nat} {j : Nat} (h : j ≤ 5) : sl6 b j = some (b j 0) := if_pos (by omega)
theorem wHi_at {cI cS : ClassId} {a : Nat → Nat} {b : Nat → Nat → Nat} {τ : HiT} {t : List va_W} : ∀ {j : Nat}, j ≤ 5 → (wHi cI cS a b τ t)[2 + j]? = some (wSt cI (b j) (τ.1 j))
  | 0, _ => rfl
  | 1, _ => rfl
  | 2, _ => rfl
  | 3, _ => rfl
  | 4, _ => rfl
  | 5, _ => rfl
  | j + 6, h => absurd h (by omega)
theorem wHi_set {cI cS : ClassId} {a : Nat → Nat} {b : Nat → Nat → Nat} {τ : HiT} {t : List va_W} {u : StT} : ∀ {j : Nat}, j ≤ 5 → (wHi cI cS a b τ t).set (2 + j) (wSt cI (b j) u) = wHi cI cS a b (va_up τ.1 j u, τ.2) t
  | 0, _ => rfl
  | 1, _ => rfl
  | 2, _ => rfl
  | 3, _ => rfl
  | 4, _ => rfl
  | 5, _ => rfl
  | j + 6, h => absurd h (by omega)
theorem bX5_take (l : Launch) (D : va_G) (cI cS : ClassId) (a d : Nat → Nat) (τ : StT) (υ : StT) (hbo : BL υ.2.2.1) : KV l yX5_take wsX5_take { frames := 3, cells := 0, slots := 0, locals := 66 } D (tysA cI cS) [.ref (a 0), .ref (d 0)] (fl [wSt cI a τ, wSt cI d υ]) (fX5_take τ υ) (fun u => fl [wSt cI a u, wSt cI d υ]) :=
  kX5_take l D cI cS (a 0) (a 1) (a 2) (a 3) (a 4) (a 5) (a 6) (a 7) (a 8) (a 9) (a 10) (a 11) (a 12) (d 0) (d 1) (d 2) (d 3) (d 4) (d 5) (d 6) (d 7) (d 8) (d 9) (d 10) (d 11) (d 12) τ υ hbo
def fX1_prepare (τ : HiT) (υ : StT) : HiT := (va_up τ.1 (fX1_slotOf τ.2.2 τ.2).toNatClampNeg υ, τ.2)
set_option maxHeartbeats 4000000 in
set_option maxRecDepth 100000 in
theorem kX1_prepare (l : Launch) (D : va_G) (cI cS : ClassId) (a d : Nat → Nat) (b : Nat → Nat → Nat) (τ : HiT) (υ : StT) (hh : WH τ) (hbo : BL υ.2.2.1) : KV l yX1_prepare wsX1_prepare { frames := 4, cells := 0, slots := 0, locals := 87 } D (tysA cI cS) [.ref (a 0), .ref (d 0)] (fl (wHi cI cS a b τ [wSt cI d υ])) (fX1_prepare τ υ) (fun u => fl (wHi cI cS a b u [wSt cI d υ])) := by
  refine KV.of (cc := cX1_prepare) (maxL := 2) (by decide) rfl (Nat.le_of_ble_eq_true rfl) rfl (fun p e s m args below meth c ls Q A hx hb hml hown hts hE hP hD hS hl hend => ?_)
  have hown : s.vm.findClass RX1 = some m.cls := hown
  have hl : lv_has ls 2 [(0, .ref (a 0)), (1, .ref (d 0))] := hl
  obtain ⟨j, hj, ej⟩ := (zz_sl hh.1 hh.2.1).num
  refine lv_aload_n hx hb dX1_prepare_0 rfl (lv_at hl 0 rfl) ?_
  refine va_get (D := D) (ci := 1) (v := .ref (a 1)) (C := RX1) (T := TX1) (N := 3) hx hb hts (fun _ h9 => List.mem_cons_of_mem _ (List.mem_append_left _ (List.mem_append_left _ (List.mem_append_left _ (List.mem_append_left _ (List.mem_append_right _ h9)))))) hown hE.1 hP 0 rfl rfl 0 (by decide) (hts (.fieldLink RX1 13 "ShadowTable$History" "slots" "[LShadowTable$State;") (List.mem_of_getElem? (i := 1) rfl)) (fun _ h9 => h9) rfl dX1_prepare_1 ?_
  refine lv_aload_n hx hb dX1_prepare_4 rfl (lv_at hl 0 rfl) ?_
  refine lv_aload_n hx hb dX1_prepare_5 rfl (lv_at hl 0 rfl) ?_
  refine va_get (D := D) (ci := 1) (v := .int τ.2.2) (C := RX1) (T := TX1) (N := 3) hx hb hts (fun _ h9 => List.mem_cons_of_mem _ (List.mem_append_left _ (List.mem_append_left _ (List.mem_append_left _ (List.mem_append_left _ (List.mem_append_right _ h9)))))) hown hE.1 hP 0 rfl rfl 2 (by decide) (hts (.fieldLink RX1 18 "ShadowTable$History" "count" "I") (List.mem_of_getElem? (i := 2) rfl)) (fun _ h9 => h9) rfl dX1_prepare_6 ?_
  refine bRV (wc := [wHh a τ.2]) ⟨hx, hb, hml, hown, hts⟩ (kX1_slotOf l D cI cS (a 0) (a 1) τ.2.2 τ.2) (cwV 1 hts gX1_prepare_X1_slotOf rfl rfl rfl (by decide +kernel) ⟨Nat.le_of_ble_eq_true rfl, Nat.le_of_ble_eq_true rfl⟩) hE hP rfl rfl [0] rfl rfl rfl hl.1 rfl (Nat.le_of_ble_eq_true rfl) ⟨Nat.zero_le _, Nat.zero_le _⟩ dX1_prepare_9 ?_
  refine xald (v := b j 0) hx hb hE hP 1 rfl rfl (by rw [ej]; exact vp_in_nI (by omega) (by omega)) (by rw [ej, nI_clamp (by omega)]; exact sl6_at hj) dX1_prepare_12 ?_
  refine lv_aload_n hx hb dX1_prepare_13 rfl (lv_at hl 1 rfl) ?_
  refine bVV (wc := [wSt cI (b j) (τ.1 j), wSt cI d υ]) (w1 := fun u => [wSt cI (b j) u, wSt cI d υ]) ⟨hx, hb, hml, hown, hts⟩ (bX5_take l D cI cS (b j) d (τ.1 j) υ hbo) (cwV 1 hts gX1_prepare_X5_take rfl rfl rfl (by decide +kernel) ⟨Nat.le_of_ble_eq_true rfl, Nat.le_of_ble_eq_true rfl⟩) hE hP hD hS rfl rfl [2 + j, 8] (by rw [List.map_cons, wHi_at hj]; rfl) (by simp [va_nd]; omega) (fun _ => rfl) (fun _ => rfl) rfl hl.1 rfl (Nat.le_of_ble_eq_true rfl) ⟨Nat.zero_le _, Nat.zero_le _⟩ dX1_prepare_14 (fun u H locs e_14 hP hD hS => ?_)
  rw [take_eq] at e_14
  subst e_14
  have hP : va_P D vwCl (fl (((wHi cI cS a b τ [wSt cI d υ]).set (2 + j) (wSt cI (b j) υ)).set 8 (wSt cI d υ))) H := hP
  rw [wHi_set hj] at hP
  exact hend _ _ _ _ _ dX1_prepare_17 (show fX1_prepare τ υ = (va_up τ.1 j υ, τ.2) by unfold fX1_prepare; rw [ej, nI_clamp (by omega)]) hP hS
def fX1_takeBack (τ : HiT) (υ : StT) : Int32 × HiT × StT := if τ.2.2 = (0 : Int32) then ((-5 : Int32), τ, υ) else (τ.2.2 - (1 : Int32), (τ.1, τ.2.1, τ.2.2 - (1 : Int32)), τ.1 (fX1_slotOf (τ.2.2 - (1 : Int32)) (τ.2.1, τ.2.2 - (1 : Int32))).toNatClampNeg)
set_option maxHeartbeats 4000000 in
set_option maxRecDepth 100000 in
theorem kX1_takeBack (l : Launch) (D : va_G) (cI cS : ClassId) (a d : Nat → Nat) (b : Nat → Nat → Nat) (τ : HiT) (υ : StT) (hh : WH τ) : KI l yX1_takeBack wsX1_takeBack { frames := 4, cells := 0, slots := 0, locals := 87 } D (tysA cI cS) [.ref (a 0), .ref (d 0)] (fl (wHi cI cS a b τ [wSt cI d υ])) (fX1_takeBack τ υ) (fun u => fl (wHi cI cS a b u.1 [wSt cI d u.2])) := by
  refine KI.of (cc := cX1_takeBack) (maxL := 2) (ty := .int) (by decide) rfl (Nat.le_of_ble_eq_true rfl) rfl (fun p e s m args below meth c ls Q A hx hb hml hown hts hE hP hD hS hl hend => ?_)
  have hown : s.vm.findClass RX1 = some m.cls := hown
  have hl : lv_has ls 2 [(0, .ref (a 0)), (1, .ref (d 0))] := hl
  refine lv_aload_n hx hb dX1_takeBack_0 rfl (lv_at hl 0 rfl) ?_
  refine va_get (D := D) (ci := 1) (v := .int τ.2.2) (C := RX1) (T := TX1) (N := 3) hx hb hts (fun _ h9 => List.mem_cons_of_mem _ (List.mem_append_left _ (List.mem_append_left _ (List.mem_append_left _ (List.mem_append_left _ (List.mem_append_right _ h9)))))) hown hE.1 hP 0 rfl rfl 2 (by decide) (hts (.fieldLink RX1 18 "ShadowTable$History" "count" "I") (List.mem_of_getElem? (i := 1) rfl)) (fun _ h9 => h9) rfl dX1_takeBack_1 ?_
  refine lv_if_ne (tgt := 10) hx hb dX1_takeBack_4 (by decide) (fun c_4 => ?_) (fun c_4 => ?_)
  · obtain ⟨j, hj, ej⟩ := (zz_slD (y := τ.2.2 - (1 : Int32)) hh.1 hh.2.1 c_4).num
    refine lv_aload_n hx hb dX1_takeBack_10 rfl (lv_at hl 0 rfl) ?_
    refine lv_dup hx hb dX1_takeBack_11 rfl ?_
    refine va_get (D := D) (ci := 1) (v := .int τ.2.2) (C := RX1) (T := TX1) (N := 3) hx hb hts (fun _ h9 => List.mem_cons_of_mem _ (List.mem_append_left _ (List.mem_append_left _ (List.mem_append_left _ (List.mem_append_left _ (List.mem_append_right _ h9)))))) hown hE.1 hP 0 rfl rfl 2 (by decide) (hts (.fieldLink RX1 18 "ShadowTable$History" "count" "I") (List.mem_of_getElem? (i := 1) rfl)) (fun _ h9 => h9) rfl dX1_takeBack_12 ?_
    refine lv_iconst (v := (1 : Int32)) hx hb dX1_takeBack_15 (by decide +kernel) ?_
    refine lv_isub hx hb dX1_takeBack_16 ?_
    refine xpf (ty := .int) (v := .int (τ.2.2 - (1 : Int32))) (C := RX1) (T := TX1) (N := 3) hx hb hts (fun _ h9 => List.mem_cons_of_mem _ (List.mem_append_left _ (List.mem_append_left _ (List.mem_append_left _ (List.mem_append_left _ (List.mem_append_right _ h9)))))) tyX1 tyX1_ok nmX1 hown hE hP hD hS 0 rfl rfl 2 (by decide) (hts (.fieldLink RX1 18 "ShadowTable$History" "count" "I") (List.mem_of_getElem? (i := 1) rfl)) rfl rfl (by decide +kernel) rfl rfl (Nat.le_of_ble_eq_true rfl) (fl (wHi cI cS a b (τ.1, τ.2.1, τ.2.2 - (1 : Int32)) [wSt cI d υ])) rfl dX1_takeBack_17 (fun H locs hP hD hS => ?_)
    refine lv_aload_n hx hb dX1_takeBack_20 rfl (lv_at hl 1 rfl) ?_
    refine lv_aload_n hx hb dX1_takeBack_21 rfl (lv_at hl 0 rfl) ?_
    refine va_get (D := D) (ci := 1) (v := .ref (a 1)) (C := RX1) (T := TX1) (N := 3) hx hb hts (fun _ h9 => List.mem_cons_of_mem _ (List.mem_append_left _ (List.mem_append_left _ (List.mem_append_left _ (List.mem_append_left _ (List.mem_append_right _ h9)))))) hown hE.1 hP 0 rfl rfl 0 (by decide) (hts (.fieldLink RX1 13 "ShadowTable$History" "slots" "[LShadowTable$State;") (List.mem_of_getElem? (i := 2) rfl)) (fun _ h9 => h9) rfl dX1_takeBack_22 ?_
    refine lv_aload_n hx hb dX1_takeBack_25 rfl (lv_at hl 0 rfl) ?_
    refine lv_aload_n hx hb dX1_takeBack_26 rfl (lv_at hl 0 rfl) ?_
    refine va_get (D := D) (ci := 1) (v := .int (τ.2.2 - (1 : Int32))) (C := RX1) (T := TX1) (N := 3) hx hb hts (fun _ h9 => List.mem_cons_of_mem _ (List.mem_append_left _ (List.mem_append_left _ (List.mem_append_left _ (List.mem_append_left _ (List.mem_append_right _ h9)))))) hown hE.1 hP 0 rfl rfl 2 (by decide) (hts (.fieldLink RX1 18 "ShadowTable$History" "count" "I") (List.mem_of_getElem? (i := 1) rfl)) (fun _ h9 => h9) rfl dX1_takeBack_27 ?_
    refine bRV (wc := [wHh a (τ.2.1, τ.2.2 - (1 : Int32))]) ⟨hx, hb, hml, hown, hts⟩ (kX1_slotOf l D cI cS (a 0) (a 1) (τ.2.2 - (1 : Int32)) (τ.2.1, τ.2.2 - (1 : Int32))) (cwV 1 hts gX1_takeBack_X1_slotOf rfl rfl rfl (by decide +kernel) ⟨Nat.le_of_ble_eq_true rfl, Nat.le_of_ble_eq_true rfl⟩) hE hP rfl rfl [0] rfl rfl rfl hl.1 rfl (Nat.le_of_ble_eq_true rfl) ⟨Nat.zero_le _, Nat.zero_le _⟩ dX1_takeBack_30 ?_
    refine xald (v := b j 0) hx hb hE hP 1 rfl rfl (by rw [ej]; exact vp_in_nI (by omega) (by omega)) (by rw [ej, nI_clamp (by omega)]; exact sl6_at hj) dX1_takeBack_33 ?_
    refine bVV (wc := [wSt cI d υ, wSt cI (b j) (τ.1 j)]) (w1 := fun u => [wSt cI d u, wSt cI (b j) (τ.1 j)]) ⟨hx, hb, hml, hown, hts⟩ (bX5_take l D cI cS d (b j) υ (τ.1 j) (hh.2.2 _)) (cwV 1 hts gX1_takeBack_X5_take rfl rfl rfl (by decide +kernel) ⟨Nat.le_of_ble_eq_true rfl, Nat.le_of_ble_eq_true rfl⟩) hE hP hD hS rfl rfl [8, 2 + j] (by rw [List.map_cons, List.map_cons, wHi_at hj]; rfl) (by simp [va_nd]; omega) (fun _ => rfl) (fun _ => rfl) rfl hl.1 rfl (Nat.le_of_ble_eq_true rfl) ⟨Nat.zero_le _, Nat.zero_le _⟩ dX1_takeBack_34 (fun u H locs e_34 hP hD hS => ?_)
    rw [take_eq] at e_34
    subst e_34
    have hP : va_P D vwCl (fl ((wHi cI cS a b (τ.1, τ.2.1, τ.2.2 - (1 : Int32)) [wSt cI d (τ.1 j)]).set (2 + j) (wSt cI (b j) (τ.1 j)))) H := hP
    rw [wHi_set hj, va_up_id] at hP
    refine lv_aload_n hx hb dX1_takeBack_37 rfl (lv_at hl 0 rfl) ?_
    refine va_get (D := D) (ci := 1) (v := .int (τ.2.2 - (1 : Int32))) (C := RX1) (T := TX1) (N := 3) hx hb hts (fun _ h9 => List.mem_cons_of_mem _ (List.mem_append_left _ (List.mem_append_left _ (List.mem_append_left _ (List.mem_append_left _ (List.mem_append_right _ h9)))))) hown hE.1 hP 0 rfl rfl 2 (by decide) (hts (.fieldLink RX1 18 "ShadowTable$History" "count" "I") (List.mem_of_getElem? (i := 1) rfl)) (fun _ h9 => h9) rfl dX1_takeBack_38 ?_
    exact hend _ _ _ _ _ _ dX1_takeBack_41 rfl (show fX1_takeBack τ υ = (τ.2.2 - (1 : Int32), (τ.1, τ.2.1, τ.2.2 - (1 : Int32)), τ.1 j) by unfold fX1_takeBack; rw [if_neg c_4, ej, nI_clamp (by omega)]) hP hS
  · refine lv_bipush (v := (-5 : Int32)) hx hb dX1_takeBack_7 (by decide +kernel) ?_
    exact hend _ _ _ _ _ _ dX1_takeBack_9 rfl (show fX1_takeBack τ υ = ((-5 : Int32), τ, υ) by unfold fX1_takeBack; rw [if_pos c_4]) hP hS
