/-- the settings' bounds -/
def leastF : Nat → Int32 := fun j => if j = 0 then (1 : Int32) else if j = 1 then (0 : Int32) else if j = 2 then (1 : Int32) else (0 : Int32)
def mostF : Nat → Int32 := fun j => if j = 0 then (8 : Int32) else if j = 1 then (24 : Int32) else if j = 2 then (20 : Int32) else (1 : Int32)
/-- the static arrays of the bounds, outside of A -/
def SX (A : Nat → Prop) (U : State) (H : Heap) : Prop := ∃ t1 t2 : Nat, va_Z RX6 "LEAST_OF_SETTING" "[I" (.ref t1) A U H ∧ va_Z RX6 "MOST_OF_SETTING" "[I" (.ref t2) A U H ∧ va_T .int t1 4 (fun j => .int (leastF j)) A U H ∧ va_T .int t2 4 (fun j => .int (mostF j)) A U H
theorem SX.moved {A : Nat → Prop} {u U : State} {H : Heap} (hvm : u.vm.Alike U.vm) (h : SX A u H) : SX A U H := by
  obtain ⟨t1, t2, h1, h2, h3, h4⟩ := h
  exact ⟨t1, t2, h1.moved hvm, h2.moved hvm, h3.moved hvm, h4.moved hvm⟩
theorem SX.kept {A : Nat → Prop} {U : State} {H H1 : Heap} (h : SX A U H) (hq : ∀ a : Nat, a < H.size → ¬ A a → H1[a]? = H[a]?) : SX A U H1 := by
  obtain ⟨t1, t2, h1, h2, h3, h4⟩ := h
  exact ⟨t1, t2, h1.kept hq, h2.kept hq, h3.kept hq, h4.kept hq⟩
theorem SX.narrow {A B : Nat → Prop} {U : State} {H : Heap} (h : SX A U H) (hAB : ∀ q, B q → A q) : SX B U H := by
  obtain ⟨t1, t2, h1, h2, h3, h4⟩ := h
  exact ⟨t1, t2, h1.narrow hAB, h2.narrow hAB, h3.narrow hAB, h4.narrow hAB⟩
theorem SX.call {A : Nat → Prop} {U : State} {g : JFrame} {mk : MethodId} {a : Array Value} (h : SX A U U.heap) : SX A (U.calling g mk a) (U.calling g mk a).heap := SX.moved (u := U) (U := U.calling g mk a) (Vm.Alike.refl U.vm) h
abbrev PcS (D : va_G) (tys : List (ClassId × FieldType)) (av : List Value) (w : va_W) : Array Value → State → Prop := va_Pc av (fun U => va_P D vwCl w U.heap ∧ EV D tys U ∧ va_D (fun _ => True) w ∧ SX (inA w) U U.heap)
theorem blS {D : va_G} {tys : List (ClassId × FieldType)} {av : List Value} {w : va_W} : FrameBlind (PcS D tys av w) := fun _ _ _ _ h => ⟨h.1, h.2.1, EV.call h.2.2.1, h.2.2.2.1, SX.call h.2.2.2.2⟩
def KS (l : Launch) (y : MethodName) (ws : List Cond) (rm : Room) (D : va_G) (tys : List (ClassId × FieldType)) (av : List Value) (w : va_W) {S : Type} (F : Int32 × S) (w1 : S → va_W) : Prop := Met l y ws rm (PcS D tys av w) (va_Qi (fun (r : Int32) (u : S) => F = (r, u)) (fun u t => va_P D vwCl (w1 u) t.heap) (inA w)) 0 0 (inA w)
theorem KS.of {l : Launch} {y : MethodName} {ws ws' : List Cond} {rm : Room} {D : va_G} {tys : List (ClassId × FieldType)} {av : List Value} {w : va_W} {cc : ByteArray} {maxL : Nat} {ty : FieldType} {lv : List (Nat × Value)} {S : Type} {F : Int32 × S} {w1 : S → va_W} (hy : plainName y.cls = true) (hw : ws = Cond.code y cc maxL (some ty) :: ws') (hle : (lg_sl av).length ≤ maxL) (hlv : lv_args 0 av = lv)
    (body : ∀ (p : Program) (e : Env) (s : State) (m : MethodId) (args : Array Value) (below : List Frame) (meth : Method) (c : Code) (ls : Array Slot) (Q : State → Prop) (A : Nat → Prop), p.tables.exec = Jvm.exec → c.code = cc → c.maxLocals = maxL → s.vm.findClass y.cls = some m.cls → (∀ w ∈ ws, w.before args s = true) → EV D tys s → va_P D vwCl w s.heap → va_D A w → va_S A s.heap s.heap [] → SX A s s.heap → lv_has ls maxL lv →
      (∀ (pc : Nat) (ls : Array Slot) (v : Int32) (u : S) (H : Heap) (locs : List Loc), decode cc pc = .ok (.ireturn, 1) → narrow ty (.int v) = .int v → F = (v, u) → va_P D vwCl (w1 u) H → va_S A s.heap H locs → W p l e rm s m args below meth c H locs 0 0 Q (F0 m pc ls [.int v])) →
      W p l e rm s m args below meth c s.heap [] 0 0 Q (F0 m 0 ls [])) : KS l y ws rm D tys av w F w1 := by
  refine Met.ofW (cc := cc) (maxL := maxL) (ret := some ty) hy hw ?_
  intro p e s m args below meth c s₁ B hml hv
  obtain ⟨rfl, hP, hE, hD, hX⟩ := hv
  have hl := lv_entry av (n := maxL) hle
  rw [hlv] at hl
  rw [lg_entry_eq]
  refine body p e s m _ below meth c _ _ (inA w) B.exec B.bytes hml (findClass_of_methodNamed B.named) (atoms_spec (ws := ws) B.pre) hE hP hD.ids va_S.rf hX hl (fun pc ls v u H locs hdg hn e1 hP1 hS => ?_)
  exact W.zret B.exec B.bytes B.returns hn (fun t ht _ => ⟨⟨v, u, rfl, e1, by show va_P D vwCl (w1 u) t.heap; rw [ht]; exact hP1⟩, hS.F ht⟩) hS.2.2 hdg B.notSynchronized
section KSCALL
variable {p : Program} {l : Launch} {e : Env} {R : Room} {s : State} {m : MethodId} {args : Array Value} {below : List Frame} {meth : Method} {c : Code} {H : Heap} {locs : List Loc} {cells slots : Nat} {Q : State → Prop}
variable {y : MethodName} {bytes cc : ByteArray} {maxL nL n index pc : Nat} {ret : Option FieldType} {ws : List Cond} {rm : Room} {Ts : List Cond} {own C host : String} {b : Nat} {As rest st0 : List Value} {ls : Array Slot}
variable {D : va_G} {tys : List (ClassId × FieldType)} {W0 wc : List va_W} {A0 : Nat → Prop} {T : u_T} {N ci : Nat} {fs : List Value}
theorem bISV {S : Type} {F : Int32 × S} {w1 : S → List va_W} (S0 : CallFix p m c cc nL s args Ts own) (hM : KS l y ws rm D tys (.ref b :: As) (fl wc) F (fun u => fl (w1 u))) (cw : CallW R s args own C index y bytes maxL ret ws rm 0 0 n) (hE : EV D tys s) (hP : va_P D vwCl (fl W0) H) (hD : va_D A0 (fl W0)) (hS : va_S A0 s.heap H locs) (hX : SX A0 s s.heap) (hc : vwCl[ci]? = some (C, T, N)) (he : (fl wc)[0]? = some (b, .inr (ci, fs)))
    (is : List Nat) (hC : is.map (fun i => W0[i]?) = wc.map some) (hnd : va_nd is = true) (hl : ∀ u, (w1 u).length = is.length) (ha : ∀ u, (fl (w1 u)).map Prod.fst = (fl wc).map Prod.fst) (hn : As.length = n) (hls : ls.size = nL) (hst : st0 = As.reverse ++ .ref b :: rest) (hW : (rest.map fun v => v.category).sum ≤ 8) (hf : cells ≤ R.cells ∧ slots ≤ R.slots) (hdg : decode cc pc = .ok (.invokevirtual index, 3))
    (kk : ∀ (r : Int32) (u : S) (H1 : Heap) (locs1 : List Loc), F = (r, u) → va_P D vwCl (fl (mgB W0 is (w1 u))) H1 → va_D A0 (fl (mgB W0 is (w1 u))) → va_S A0 s.heap H1 locs1 → W p l e R s m args below meth c H1 locs1 cells slots Q (F0 m (pc + 3) ls (.int r :: rest))) : W p l e R s m args below meth c H locs cells slots Q (F0 m pc ls st0) := by
  have hPs := fl_sub hP hnd hC
  have hDs := fl_subD hD hnd hC
  have hXs := (hX.kept hS.2.1).narrow (B := inA (fl wc)) (fun q h => fl_in hD hnd hC q h)
  refine va_calli (va_runV (rest := rest) S0 hM cw ⟨blS, va_recv hE.1 hPs hc he, fun U hU hW' => ⟨rfl, by rw [hU]; exact hPs, EV.warm hW' hE, hDs.weaken (fun _ _ _ _ => trivial), by rw [hU]; exact hXs.moved hW'.alike⟩⟩ rfl hn hls hst (lv_room (m := m) (pc := pc) (ls := ls) (rest := st0) hW) hdg hf) hS (fun q _ h => fl_in hD hnd hC q h) (fun q h => fl_in hD hnd hC q h) (fun r u t H1 locs1 ht hvm hw hB hz1 hk1 hS1 => ?_)
  obtain ⟨hP2, hD2⟩ := fl_join hP hD hnd hC (hl u) (ha u) (fun q h => h) hk1 (ht ▸ hB)
  exact kk r u H1 locs1 hw hP2 hD2 hS1
end KSCALL
def fX5_changeSetting (p0 : Int32) (p1 : Int32) (τ : StT) : Int32 × StT := (if (fX6_isSetting p0) = (0 : Int32) then ((-1 : Int32), τ) else (if (fX6_isIn p1 (leastF p0.toNatClampNeg) (mostF p0.toNatClampNeg)) = (0 : Int32) then ((-2 : Int32), τ) else ((τ.2.2.2.2.1 p0.toNatClampNeg), (τ.1, τ.2.1, τ.2.2.1, τ.2.2.2.1, (upd τ.2.2.2.2.1 p0.toNatClampNeg p1), τ.2.2.2.2.2))))
theorem fX5_changeSetting_p0 (p0 : Int32) (p1 : Int32) (τ : StT) (c_4 : ¬ (fX6_isSetting p0) = (0 : Int32)) (c_23 : ¬ (fX6_isIn p1 (leastF p0.toNatClampNeg) (mostF p0.toNatClampNeg)) = (0 : Int32)) : (fX5_changeSetting p0 p1 τ) = ((τ.2.2.2.2.1 p0.toNatClampNeg), (τ.1, τ.2.1, τ.2.2.1, τ.2.2.2.1, (upd τ.2.2.2.2.1 p0.toNatClampNeg p1), τ.2.2.2.2.2)) := by
  simp only [fX5_changeSetting, if_neg c_4, if_neg c_23]
theorem fX5_changeSetting_p1 (p0 : Int32) (p1 : Int32) (τ : StT) (c_4 : ¬ (fX6_isSetting p0) = (0 : Int32)) (c_23 : (fX6_isIn p1 (leastF p0.toNatClampNeg) (mostF p0.toNatClampNeg)) = (0 : Int32)) : (fX5_changeSetting p0 p1 τ) = ((-2 : Int32), τ) := by
  simp only [fX5_changeSetting, if_neg c_4, if_pos c_23]
theorem fX5_changeSetting_p2 (p0 : Int32) (p1 : Int32) (τ : StT) (c_4 : (fX6_isSetting p0) = (0 : Int32)) : (fX5_changeSetting p0 p1 τ) = ((-1 : Int32), τ) := by
  simp only [fX5_changeSetting, if_pos c_4]
set_option maxHeartbeats 4000000 in
set_option maxRecDepth 100000 in
theorem kX5_changeSetting (l : Launch) (D : va_G) (cI cS : ClassId) (h0 h1 h2 h3 h4 h5 h6 h7 h8 h9 h10 h11 h12 : Nat) (p0 : Int32) (p1 : Int32) (τ : StT) : KS l yX5_changeSetting wsX5_changeSetting { frames := 2, cells := 0, slots := 0, locals := 42 } D (tysA cI cS) [.ref h0, .int p0, .int p1] [(h0, .inr (5, [.ref h1, .ref h3, .int τ.2.2.1, .ref h5, .ref h11, .ref h12])), (h1, .inr (3, [.ref h2])), (h2, .inl (cI, 32, .inl τ.1)), (h3, .inr (3, [.ref h4])), (h4, .inl (cI, 32, .inl τ.2.1)), (h5, .inr (0, [.ref h6, .ref h8, .int τ.2.2.2.1.2.2.1, .int τ.2.2.2.1.2.2.2.1, .int τ.2.2.2.1.2.2.2.2.1, .int τ.2.2.2.1.2.2.2.2.2.1, .int τ.2.2.2.1.2.2.2.2.2.2])), (h6, .inr (3, [.ref h7])), (h7, .inl (cI, 32, .inl τ.2.2.2.1.1)), (h8, .inr (2, [.ref h9, .ref h10, .int τ.2.2.2.1.2.1.2.2.1, .int τ.2.2.2.1.2.1.2.2.2])), (h9, .inl (cI, 24, .inl τ.2.2.2.1.2.1.1)), (h10, .inl (cI, 24, .inl τ.2.2.2.1.2.1.2.1)), (h11, .inl (cI, 4, .inl τ.2.2.2.2.1)), (h12, .inl (cI, 8, .inl τ.2.2.2.2.2))] (fX5_changeSetting p0 p1 τ) (fun u => [(h0, .inr (5, [.ref h1, .ref h3, .int u.2.2.1, .ref h5, .ref h11, .ref h12])), (h1, .inr (3, [.ref h2])), (h2, .inl (cI, 32, .inl u.1)), (h3, .inr (3, [.ref h4])), (h4, .inl (cI, 32, .inl u.2.1)), (h5, .inr (0, [.ref h6, .ref h8, .int u.2.2.2.1.2.2.1, .int u.2.2.2.1.2.2.2.1, .int u.2.2.2.1.2.2.2.2.1, .int u.2.2.2.1.2.2.2.2.2.1, .int u.2.2.2.1.2.2.2.2.2.2])), (h6, .inr (3, [.ref h7])), (h7, .inl (cI, 32, .inl u.2.2.2.1.1)), (h8, .inr (2, [.ref h9, .ref h10, .int u.2.2.2.1.2.1.2.2.1, .int u.2.2.2.1.2.1.2.2.2])), (h9, .inl (cI, 24, .inl u.2.2.2.1.2.1.1)), (h10, .inl (cI, 24, .inl u.2.2.2.1.2.1.2.1)), (h11, .inl (cI, 4, .inl u.2.2.2.2.1)), (h12, .inl (cI, 8, .inl u.2.2.2.2.2))]) := by
  refine KS.of (cc := cX5_changeSetting) (maxL := 4) (ty := .int) (by decide) rfl (Nat.le_of_ble_eq_true rfl) rfl (fun p e s m args below meth c ls Q A hx hb hml hown hts hE hP hD hS hX hl hend => ?_)
  obtain ⟨t1, t2, hZ1, hZ2, hT1, hT2⟩ := id hX
  have hown : s.vm.findClass RX5 = some m.cls := hown
  have hl : lv_has ls 4 [(0, .ref h0), (1, .int p0), (2, .int p1)] := hl
  refine lv_iload_n hx hb dX5_changeSetting_0 rfl (lv_at hl 1 rfl) ?_
  refine cRSN ⟨hx, hb, hml, hown, hts⟩ (kX6_isSetting l D cI cS p0) ⟨(va_cnB 1 hts gX5_changeSetting_X6_isSetting_n154 rfl rfl rfl (hE.2.m 12 rfl) (hts (.initialized RX6) (List.mem_of_getElem? (i := 3) rfl)) (by decide +kernel) ⟨Nat.le_of_ble_eq_true rfl, Nat.le_of_ble_eq_true rfl⟩), (hts (.static yX6_isSetting) (List.mem_of_getElem? (i := 2) rfl)), trivial⟩ hE hP [] rfl rfl hl.1 rfl (Nat.le_of_ble_eq_true rfl) ⟨Nat.zero_le _, Nat.zero_le _⟩ dX5_changeSetting_1 ?_
  refine lv_if_ne (tgt := 9) hx hb dX5_changeSetting_4 (by decide) (fun c_4 => ?_) (fun c_4 => ?_)
  · refine lv_iload_n hx hb dX5_changeSetting_9 rfl (lv_at hl 2 rfl) ?_
    refine va_getsN hx hb hZ1 hS hown (hE.2.f 20 rfl) (fun _ h => h) dX5_changeSetting_10 ?_
    refine lv_iload_n hx hb dX5_changeSetting_13 rfl (lv_at hl 1 rfl) ?_
    refine va_ti hx hb hT1 hS (zz_set6 c_4) (v := .int (leastF p0.toNatClampNeg)) rfl dX5_changeSetting_14 ?_
    refine va_getsN hx hb hZ2 hS hown (hE.2.f 21 rfl) (fun _ h => h) dX5_changeSetting_15 ?_
    refine lv_iload_n hx hb dX5_changeSetting_18 rfl (lv_at hl 1 rfl) ?_
    refine va_ti hx hb hT2 hS (zz_set6 c_4) (v := .int (mostF p0.toNatClampNeg)) rfl dX5_changeSetting_19 ?_
    refine cRSN ⟨hx, hb, hml, hown, hts⟩ (kX6_isIn l D cI cS p1 (leastF p0.toNatClampNeg) (mostF p0.toNatClampNeg)) ⟨(va_cnB 3 hts gX5_changeSetting_X6_isIn_n163 rfl rfl rfl (hE.2.m 13 rfl) (hts (.initialized RX6) (List.mem_of_getElem? (i := 3) rfl)) (by decide +kernel) ⟨Nat.le_of_ble_eq_true rfl, Nat.le_of_ble_eq_true rfl⟩), (hts (.static yX6_isIn) (List.mem_of_getElem? (i := 6) rfl)), trivial⟩ hE hP [] rfl rfl hl.1 rfl (Nat.le_of_ble_eq_true rfl) ⟨Nat.zero_le _, Nat.zero_le _⟩ dX5_changeSetting_20 ?_
    refine lv_if_ne (tgt := 29) hx hb dX5_changeSetting_23 (by decide) (fun c_23 => ?_) (fun c_23 => ?_)
    · refine lv_aload_n hx hb dX5_changeSetting_29 rfl (lv_at hl 0 rfl) ?_
      refine va_get (D := D) (ci := 5) (v := .ref h11) (C := RX5) (T := TX5) (N := 6) hx hb hts (fun _ h9 => List.mem_cons_of_mem _ (List.mem_append_right _ h9)) hown hE.1 hP 0 rfl rfl 4 (by decide) (hts (.fieldLink RX5 28 "ShadowTable$State" "settings" "[I") (List.mem_of_getElem? (i := 1) rfl)) (fun _ h9 => h9) rfl dX5_changeSetting_30 ?_
      refine lv_iload_n hx hb dX5_changeSetting_33 rfl (lv_at hl 1 rfl) ?_
      refine xld (v := (τ.2.2.2.2.1 p0.toNatClampNeg)) (j := p0.toNatClampNeg) hx hb hE hP 11 rfl rfl rfl (zz_set6 c_4) rfl dX5_changeSetting_34 ?_
      refine lv_istore_n (lv' := [(3, .int (τ.2.2.2.2.1 p0.toNatClampNeg)), (0, .ref h0), (1, .int p0), (2, .int p1)]) hx hb dX5_changeSetting_35 rfl hl (by decide) rfl (fun ls hl => ?_)
      refine lv_aload_n hx hb dX5_changeSetting_36 rfl (lv_at hl 1 rfl) ?_
      refine va_get (D := D) (ci := 5) (v := .ref h11) (C := RX5) (T := TX5) (N := 6) hx hb hts (fun _ h9 => List.mem_cons_of_mem _ (List.mem_append_right _ h9)) hown hE.1 hP 0 rfl rfl 4 (by decide) (hts (.fieldLink RX5 28 "ShadowTable$State" "settings" "[I") (List.mem_of_getElem? (i := 1) rfl)) (fun _ h9 => h9) rfl dX5_changeSetting_37 ?_
      refine lv_iload_n hx hb dX5_changeSetting_40 rfl (lv_at hl 2 rfl) ?_
      refine lv_iload_n hx hb dX5_changeSetting_41 rfl (lv_at hl 3 rfl) ?_
      refine xst (j := p0.toNatClampNeg) hx hb hE hP hD hS 11 rfl rfl rfl (zz_set6 c_4) [(h0, .inr (5, [.ref h1, .ref h3, .int τ.2.2.1, .ref h5, .ref h11, .ref h12])), (h1, .inr (3, [.ref h2])), (h2, .inl (cI, 32, .inl τ.1)), (h3, .inr (3, [.ref h4])), (h4, .inl (cI, 32, .inl τ.2.1)), (h5, .inr (0, [.ref h6, .ref h8, .int τ.2.2.2.1.2.2.1, .int τ.2.2.2.1.2.2.2.1, .int τ.2.2.2.1.2.2.2.2.1, .int τ.2.2.2.1.2.2.2.2.2.1, .int τ.2.2.2.1.2.2.2.2.2.2])), (h6, .inr (3, [.ref h7])), (h7, .inl (cI, 32, .inl τ.2.2.2.1.1)), (h8, .inr (2, [.ref h9, .ref h10, .int τ.2.2.2.1.2.1.2.2.1, .int τ.2.2.2.1.2.1.2.2.2])), (h9, .inl (cI, 24, .inl τ.2.2.2.1.2.1.1)), (h10, .inl (cI, 24, .inl τ.2.2.2.1.2.1.2.1)), (h11, .inl (cI, 4, .inl (upd τ.2.2.2.2.1 p0.toNatClampNeg p1))), (h12, .inl (cI, 8, .inl τ.2.2.2.2.2))] rfl dX5_changeSetting_42 (fun H locs hP hD hS => ?_)
      refine lv_iload_n hx hb dX5_changeSetting_43 rfl (lv_at hl 0 rfl) ?_
      exact hend _ _ _ _ _ _ dX5_changeSetting_44 rfl (fX5_changeSetting_p0 p0 p1 τ c_4 c_23) hP hS
    · refine lv_bipush (v := (-2 : Int32)) hx hb dX5_changeSetting_26 (by decide +kernel) ?_
      exact hend _ _ _ _ _ _ dX5_changeSetting_28 rfl (fX5_changeSetting_p1 p0 p1 τ c_4 c_23) hP hS
  · refine lv_iconst (v := (-1 : Int32)) hx hb dX5_changeSetting_7 (by decide +kernel) ?_
    exact hend _ _ _ _ _ _ dX5_changeSetting_8 rfl (fX5_changeSetting_p2 p0 p1 τ c_4) hP hS

def fX6_set (p0 : Int32) (p1 : Int32) (τ : TPT) : Int32 × TPT := (let u_8 := (fX1_prepare τ.2 τ.1); (match (fX5_changeSetting p0 p1 τ.1) with | (r_18, u_18) => (match (fX6_recorded r_18 u_8.2) with | (r_21, u_21) => (r_21, (u_18, (u_8.1, u_21.1, u_21.2))))))
theorem fX6_set_p0 (p0 : Int32) (p1 : Int32) (τ : TPT) (u_8 : HiT) (e_8 : (fX1_prepare τ.2 τ.1) = u_8) (r_18 : Int32) (u_18 : StT) (e_18 : (fX5_changeSetting p0 p1 τ.1) = (r_18, u_18)) (r_21 : Int32) (u_21 : HsT) (e_21 : (fX6_recorded r_18 u_8.2) = (r_21, u_21)) : (fX6_set p0 p1 τ) = (r_21, (u_18, (u_8.1, u_21.1, u_21.2))) := by
  simp only [fX6_set, e_8, e_18, e_21]
set_option maxHeartbeats 4000000 in
set_option maxRecDepth 100000 in
theorem kX6_set (l : Launch) (D : va_G) (cI cS : ClassId) (h0 : Nat) (a0 : Nat → Nat) (a3 : Nat → Nat) (b3 : Nat → Nat → Nat) (w1 : Nat) (w2 : Nat) (w4 : Nat) (w5 : Int32) (p0 : Int32) (p1 : Int32) (τ : TPT) (hw : WS τ.1) (hh : WH τ.2) : KS l yX6_set wsX6_set { frames := 5, cells := 0, slots := 0, locals := 108 } D (tysA cI cS) [.ref h0, .int p0, .int p1] (fl ([(h0, .inr (6, [.ref (a0 0), .ref w1, .ref w2, .ref (a3 0), .ref w4, .int w5]))] :: wSt cI a0 τ.1 :: wHi cI cS a3 b3 τ.2 ([]))) (fX6_set p0 p1 τ) (fun u => (fl ([(h0, .inr (6, [.ref (a0 0), .ref w1, .ref w2, .ref (a3 0), .ref w4, .int w5]))] :: wSt cI a0 u.1 :: wHi cI cS a3 b3 u.2 ([])))) := by
  refine KS.of (cc := cX6_set) (maxL := 3) (ty := .int) (by decide) rfl (Nat.le_of_ble_eq_true rfl) rfl (fun p e s m args below meth c ls Q A hx hb hml hown hts hE hP hD hS hX hl hend => ?_)
  obtain ⟨t1, t2, hZ1, hZ2, hT1, hT2⟩ := id hX
  have hown : s.vm.findClass RX6 = some m.cls := hown
  have hl : lv_has ls 3 [(0, .ref h0), (1, .int p0), (2, .int p1)] := hl
  refine lv_aload_n hx hb dX6_set_0 rfl (lv_at hl 0 rfl) ?_
  refine va_get (D := D) (ci := 6) (v := .ref (a3 0)) (C := RX6) (T := TX6) (N := 6) hx hb hts (fun _ h9 => List.mem_cons_of_mem _ (List.mem_append_left _ (List.mem_append_left _ (List.mem_append_left _ (List.mem_append_left _ (List.mem_append_left _ (List.mem_append_right _ h9))))))) hown hE.1 hP 0 rfl rfl 3 (by decide) (hts (.fieldLink RX6 25 "ShadowTable" "history" "LShadowTable$History;") (List.mem_of_getElem? (i := 1) rfl)) (fun _ h9 => h9) rfl dX6_set_1 ?_
  refine lv_aload_n hx hb dX6_set_4 rfl (lv_at hl 0 rfl) ?_
  refine va_get (D := D) (ci := 6) (v := .ref (a0 0)) (C := RX6) (T := TX6) (N := 6) hx hb hts (fun _ h9 => List.mem_cons_of_mem _ (List.mem_append_left _ (List.mem_append_left _ (List.mem_append_left _ (List.mem_append_left _ (List.mem_append_left _ (List.mem_append_right _ h9))))))) hown hE.1 hP 0 rfl rfl 0 (by decide) (hts (.fieldLink RX6 10 "ShadowTable" "state" "LShadowTable$State;") (List.mem_of_getElem? (i := 2) rfl)) (fun _ h9 => h9) rfl dX6_set_5 ?_
  refine bVV (wc := (wHi cI cS a3 b3 τ.2 [wSt cI a0 τ.1])) (w1 := fun (u : HiT) => (wHi cI cS a3 b3 u [wSt cI a0 τ.1])) ⟨hx, hb, hml, hown, hts⟩ (kX1_prepare l D cI cS a3 a0 b3 τ.2 τ.1 hh hw.2.2) (cwV 1 hts gX6_set_X1_prepare rfl rfl rfl (by decide +kernel) ⟨Nat.le_of_ble_eq_true rfl, Nat.le_of_ble_eq_true rfl⟩) hE hP hD hS rfl rfl [2, 3, 4, 5, 6, 7, 8, 9, 1] rfl rfl (fun _ => rfl) (fun _ => rfl) rfl hl.1 rfl (Nat.le_of_ble_eq_true rfl) ⟨Nat.zero_le _, Nat.zero_le _⟩ dX6_set_8 (fun u_8 H locs e_8 hP hD hS => ?_)
  have hP : va_P D vwCl (fl ([(h0, .inr (6, [.ref (a0 0), .ref w1, .ref w2, .ref (a3 0), .ref w4, .int w5]))] :: wSt cI a0 τ.1 :: wHi cI cS a3 b3 u_8 ([]))) H := hP
  have hD : va_D A (fl ([(h0, .inr (6, [.ref (a0 0), .ref w1, .ref w2, .ref (a3 0), .ref w4, .int w5]))] :: wSt cI a0 τ.1 :: wHi cI cS a3 b3 u_8 ([]))) := hD
  refine lv_aload_n hx hb dX6_set_11 rfl (lv_at hl 0 rfl) ?_
  refine lv_aload_n hx hb dX6_set_12 rfl (lv_at hl 0 rfl) ?_
  refine va_get (D := D) (ci := 6) (v := .ref (a0 0)) (C := RX6) (T := TX6) (N := 6) hx hb hts (fun _ h9 => List.mem_cons_of_mem _ (List.mem_append_left _ (List.mem_append_left _ (List.mem_append_left _ (List.mem_append_left _ (List.mem_append_left _ (List.mem_append_right _ h9))))))) hown hE.1 hP 0 rfl rfl 0 (by decide) (hts (.fieldLink RX6 10 "ShadowTable" "state" "LShadowTable$State;") (List.mem_of_getElem? (i := 2) rfl)) (fun _ h9 => h9) rfl dX6_set_13 ?_
  refine lv_iload_n hx hb dX6_set_16 rfl (lv_at hl 1 rfl) ?_
  refine lv_iload_n hx hb dX6_set_17 rfl (lv_at hl 2 rfl) ?_
  refine bISV (wc := [wSt cI a0 τ.1]) (w1 := fun (u : StT) => [wSt cI a0 u]) ⟨hx, hb, hml, hown, hts⟩ (kX5_changeSetting l D cI cS (a0 0) (a0 1) (a0 2) (a0 3) (a0 4) (a0 5) (a0 6) (a0 7) (a0 8) (a0 9) (a0 10) (a0 11) (a0 12) p0 p1 τ.1) (cwV 2 hts gX6_set_X5_changeSetting rfl rfl rfl (by decide +kernel) ⟨Nat.le_of_ble_eq_true rfl, Nat.le_of_ble_eq_true rfl⟩) hE hP hD hS hX rfl rfl [1] rfl rfl (fun _ => rfl) (fun _ => rfl) rfl hl.1 rfl (Nat.le_of_ble_eq_true rfl) ⟨Nat.zero_le _, Nat.zero_le _⟩ dX6_set_18 (fun r_18 u_18 H locs e_18 hP hD hS => ?_)
  have hP : va_P D vwCl (fl ([(h0, .inr (6, [.ref (a0 0), .ref w1, .ref w2, .ref (a3 0), .ref w4, .int w5]))] :: wSt cI a0 u_18 :: wHi cI cS a3 b3 u_8 ([]))) H := hP
  have hD : va_D A (fl ([(h0, .inr (6, [.ref (a0 0), .ref w1, .ref w2, .ref (a3 0), .ref w4, .int w5]))] :: wSt cI a0 u_18 :: wHi cI cS a3 b3 u_8 ([]))) := hD
  refine bIV (wc := ([(h0, .inr (6, [.ref (a0 0), .ref w1, .ref w2, .ref (a3 0), .ref w4, .int w5]))] :: wHh a3 u_8.2 :: [])) (w1 := fun (u : HsT) => ([(h0, .inr (6, [.ref (a0 0), .ref w1, .ref w2, .ref (a3 0), .ref w4, .int w5]))] :: wHh a3 u :: [])) ⟨hx, hb, hml, hown, hts⟩ (kX6_recorded l D cI cS h0 a3 (a0 0) w1 w2 w4 w5 r_18 u_8.2) (cwV 1 hts gX6_set_X6_recorded rfl rfl rfl (by decide +kernel) ⟨Nat.le_of_ble_eq_true rfl, Nat.le_of_ble_eq_true rfl⟩) hE hP hD hS rfl rfl [0, 2] rfl rfl (fun _ => rfl) (fun _ => rfl) rfl hl.1 rfl (Nat.le_of_ble_eq_true rfl) ⟨Nat.zero_le _, Nat.zero_le _⟩ dX6_set_21 (fun r_21 u_21 H locs e_21 hP hD hS => ?_)
  have hP : va_P D vwCl (fl ([(h0, .inr (6, [.ref (a0 0), .ref w1, .ref w2, .ref (a3 0), .ref w4, .int w5]))] :: wSt cI a0 u_18 :: wHi cI cS a3 b3 (u_8.1, u_21.1, u_21.2) ([]))) H := hP
  have hD : va_D A (fl ([(h0, .inr (6, [.ref (a0 0), .ref w1, .ref w2, .ref (a3 0), .ref w4, .int w5]))] :: wSt cI a0 u_18 :: wHi cI cS a3 b3 (u_8.1, u_21.1, u_21.2) ([]))) := hD
  exact hend _ _ _ _ _ _ dX6_set_24 rfl (fX6_set_p0 p0 p1 τ u_8 e_8 r_18 u_18 e_18 r_21 u_21 e_21) hP hS
