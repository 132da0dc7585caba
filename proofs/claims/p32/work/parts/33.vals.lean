def QcVal (v : Value) : Array Value → State → Outcome → State → Prop := fun _ st o t => o = .returned (some v) ∧ t.heap = st.heap
/-- a method that only reads, and answers a value -/
def KA (l : Launch) (y : MethodName) (ws : List Cond) (rm : Room) (D : va_G) (tys : List (ClassId × FieldType)) (av : List Value) (w : va_W) (v : Value) : Prop := Met l y ws rm (PcR D tys av w) (QcVal v) 0 0 (fun _ => False)
theorem KA.of {l : Launch} {y : MethodName} {ws ws' : List Cond} {rm : Room} {D : va_G} {tys : List (ClassId × FieldType)} {av : List Value} {w : va_W} {cc : ByteArray} {maxL : Nat} {ty : FieldType} {lv : List (Nat × Value)} {r : Value} (hy : plainName y.cls = true) (hw : ws = Cond.code y cc maxL (some ty) :: ws') (hle : (lg_sl av).length ≤ maxL) (hlv : lv_args 0 av = lv)
    (body : ∀ (p : Program) (e : Env) (s : State) (m : MethodId) (args : Array Value) (below : List Frame) (meth : Method) (c : Code) (ls : Array Slot) (Q : State → Prop), p.tables.exec = Jvm.exec → c.code = cc → c.maxLocals = maxL → s.vm.findClass y.cls = some m.cls → (∀ w ∈ ws, w.before args s = true) → EV D tys s → va_P D vwCl w s.heap → lv_has ls maxL lv →
      (∀ (pc : Nat) (ls : Array Slot) (v : Value), decode cc pc = .ok (.areturn, 1) → (∃ n, ty = .object n) → (v = .null ∨ ∃ a, v = .ref a) → r = v → W p l e rm s m args below meth c s.heap [] 0 0 Q (F0 m pc ls [v])) →
      (∀ (pc : Nat) (ls : Array Slot) (x : UInt64), decode cc pc = .ok (.dreturn, 1) → ty = .double → r = .double x → W p l e rm s m args below meth c s.heap [] 0 0 Q (F0 m pc ls [.double x])) →
      W p l e rm s m args below meth c s.heap [] 0 0 Q (F0 m 0 ls [])) : KA l y ws rm D tys av w r := by
  refine Met.ofW (cc := cc) (maxL := maxL) (ret := some ty) hy hw ?_
  intro p e s m args below meth c s₁ B hml hv
  obtain ⟨rfl, hP, hE⟩ := hv
  have hl := lv_entry av (n := maxL) hle
  rw [hlv] at hl
  rw [lg_entry_eq]
  refine body p e s m _ below meth c _ _ B.exec B.bytes hml (findClass_of_methodNamed B.named) (atoms_spec (ws := ws) B.pre) hE hP hl (fun pc ls v hdg ho hn e1 => ?_) (fun pc ls x hdg ho e1 => ?_)
  · exact W.aret B.exec B.bytes B.returns (Or.inl ho) hn (fun t ht _ => ⟨by rw [e1], ht⟩) (fun q hq => absurd hq List.not_mem_nil) hdg B.notSynchronized
  · exact W.dret B.exec B.bytes (by rw [B.returns, ho]) (fun t ht _ => ⟨by rw [e1], ht⟩) (fun q hq => absurd hq List.not_mem_nil) hdg B.notSynchronized
section KACALL
variable {p : Program} {l : Launch} {e : Env} {R : Room} {s : State} {m : MethodId} {args : Array Value} {below : List Frame} {meth : Method} {c : Code} {H : Heap} {locs : List Loc} {cells slots : Nat} {Q : State → Prop}
variable {y : MethodName} {bytes cc : ByteArray} {maxL nL n index pc : Nat} {ret : Option FieldType} {ws : List Cond} {rm : Room} {Ts : List Cond} {own C host : String} {b : Nat} {As rest st0 : List Value} {ls : Array Slot}
variable {D : va_G} {tys : List (ClassId × FieldType)} {W0 wc : va_W} {A0 : Nat → Prop} {H0 : Heap} {T : u_T} {N ci : Nat} {fs : List Value} {is : List Nat}
theorem cAV {r : Value} (S : CallFix p m c cc nL s args Ts own) (hM : KA l y ws rm D tys (.ref b :: As) wc r) (cw : CallW R s args own C index y bytes maxL ret ws rm 0 0 n) (hE : EV D tys s) (hP : va_P D vwCl W0 H) (q0 : Nat) (hc : vwCl[ci]? = some (C, T, N)) (he : W0[q0]? = some (b, .inr (ci, fs)))
    (is : List Nat) (hC : is.map (fun i => W0[i]?) = wc.map some) (hn : As.length = n) (hls : ls.size = nL) (hst : st0 = As.reverse ++ .ref b :: rest) (hW : (rest.map fun v => v.category).sum ≤ 8) (hf : cells ≤ R.cells ∧ slots ≤ R.slots) (hdg : decode cc pc = .ok (.invokevirtual index, 3))
    (kk : W p l e R s m args below meth c H locs cells slots Q (F0 m (pc + 3) ls (r :: rest))) : W p l e R s m args below meth c H locs cells slots Q (F0 m pc ls st0) := by
  have hr := W.runV (l := l) (e := e) (below := below) (meth := meth) (H := H) (locs := locs) (cells := cells) (slots := slots) (g := F0 m pc ls st0) (rest := rest) S hM cw ⟨blR, va_recv hE.1 hP hc he, fun U hU hW' => ⟨rfl, by rw [hU]; exact mg_sub hP hC, EV.warm hW' hE⟩⟩ rfl hn hls hst (lv_room (m := m) (pc := pc) (ls := ls) (rest := st0) hW) hdg hf
  intro T0 hT X
  obtain ⟨v, st₀, t, T', L, h0, X', hL, e1, ⟨hv, hh⟩, st⟩ := hr T0 hT X
  cases hv
  obtain ⟨t2, a1, b1⟩ := kk T' (by rw [e1, hh, h0]) (Stand.forget X' (fun q h => (hL q h).elim))
  exact ⟨t2, st t2 a1, b1⟩
end KACALL
theorem prog_all : ∀ j : Fin 33, FP.ddiv (FP.i2d (nI j.1)) (4629700416936869888 : UInt64) &&& 0x7fffffffffffffff ≤ 0x7ff0000000000000 := by decide +kernel
theorem zz_prog {x : Int32} (h : Bd x 32) : vf_n64 (FP.ddiv (FP.i2d x) (4629700416936869888 : UInt64)) := by
  obtain ⟨j, hj, rfl⟩ := h.num
  exact prog_all ⟨j, by omega⟩
def fX5_rowsOf (p0 : Int32) (τ : StT) (h1 : Nat) (h3 : Nat) (h6 : Nat) : Value := (if p0 = (0 : Int32) then (Value.ref h1) else (if p0 = (1 : Int32) then (if (fX5_hasCopy τ) = (0 : Int32) then Value.null else (Value.ref h6)) else (if τ.2.2.1 = (0 : Int32) then Value.null else (Value.ref h3))))
theorem fX5_rowsOf_p0 (p0 : Int32) (τ : StT) (h1 : Nat) (h3 : Nat) (h6 : Nat) (c_1_0 : p0 = (0 : Int32)) : (fX5_rowsOf p0 τ h1 h3 h6) = (Value.ref h1) := by
  simp only [fX5_rowsOf, if_pos c_1_0]
theorem fX5_rowsOf_p1 (p0 : Int32) (τ : StT) (h1 : Nat) (h3 : Nat) (h6 : Nat) (c_1_0 : ¬ p0 = (0 : Int32)) (c_1_1 : p0 = (1 : Int32)) (c_37 : (fX5_hasCopy τ) = (0 : Int32)) : (fX5_rowsOf p0 τ h1 h3 h6) = Value.null := by
  simp only [fX5_rowsOf, if_neg c_1_0, if_pos c_1_1, if_pos c_37]
theorem fX5_rowsOf_p2 (p0 : Int32) (τ : StT) (h1 : Nat) (h3 : Nat) (h6 : Nat) (c_1_0 : ¬ p0 = (0 : Int32)) (c_1_1 : p0 = (1 : Int32)) (c_37 : ¬ (fX5_hasCopy τ) = (0 : Int32)) : (fX5_rowsOf p0 τ h1 h3 h6) = (Value.ref h6) := by
  simp only [fX5_rowsOf, if_neg c_1_0, if_pos c_1_1, if_neg c_37]
theorem fX5_rowsOf_p3 (p0 : Int32) (τ : StT) (h1 : Nat) (h3 : Nat) (h6 : Nat) (c_1_0 : ¬ p0 = (0 : Int32)) (c_1_1 : ¬ p0 = (1 : Int32)) (c_56 : τ.2.2.1 = (0 : Int32)) : (fX5_rowsOf p0 τ h1 h3 h6) = Value.null := by
  simp only [fX5_rowsOf, if_neg c_1_0, if_neg c_1_1, if_pos c_56]
theorem fX5_rowsOf_p4 (p0 : Int32) (τ : StT) (h1 : Nat) (h3 : Nat) (h6 : Nat) (c_1_0 : ¬ p0 = (0 : Int32)) (c_1_1 : ¬ p0 = (1 : Int32)) (c_56 : ¬ τ.2.2.1 = (0 : Int32)) : (fX5_rowsOf p0 τ h1 h3 h6) = (Value.ref h3) := by
  simp only [fX5_rowsOf, if_neg c_1_0, if_neg c_1_1, if_neg c_56]
set_option maxHeartbeats 4000000 in
set_option maxRecDepth 100000 in
theorem kX5_rowsOf (l : Launch) (D : va_G) (cI cS : ClassId) (h0 h1 h2 h3 h4 h5 h6 h7 h8 h9 h10 h11 h12 : Nat) (p0 : Int32) (τ : StT) : KA l yX5_rowsOf wsX5_rowsOf { frames := 1, cells := 0, slots := 0, locals := 20 } D (tysA cI cS) [.ref h0, .int p0] [(h0, .inr (5, [.ref h1, .ref h3, .int τ.2.2.1, .ref h5, .ref h11, .ref h12])), (h1, .inr (3, [.ref h2])), (h2, .inl (cI, 32, .inl τ.1)), (h3, .inr (3, [.ref h4])), (h4, .inl (cI, 32, .inl τ.2.1)), (h5, .inr (0, [.ref h6, .ref h8, .int τ.2.2.2.1.2.2.1, .int τ.2.2.2.1.2.2.2.1, .int τ.2.2.2.1.2.2.2.2.1, .int τ.2.2.2.1.2.2.2.2.2.1, .int τ.2.2.2.1.2.2.2.2.2.2])), (h6, .inr (3, [.ref h7])), (h7, .inl (cI, 32, .inl τ.2.2.2.1.1)), (h8, .inr (2, [.ref h9, .ref h10, .int τ.2.2.2.1.2.1.2.2.1, .int τ.2.2.2.1.2.1.2.2.2])), (h9, .inl (cI, 24, .inl τ.2.2.2.1.2.1.1)), (h10, .inl (cI, 24, .inl τ.2.2.2.1.2.1.2.1)), (h11, .inl (cI, 4, .inl τ.2.2.2.2.1)), (h12, .inl (cI, 8, .inl τ.2.2.2.2.2))] (fX5_rowsOf p0 τ h1 h3 h6) := by
  refine KA.of (cc := cX5_rowsOf) (maxL := 2) (ty := (.object "ShadowTable$Rows")) (by decide) rfl (Nat.le_of_ble_eq_true rfl) rfl (fun p e s m args below meth c ls Q hx hb hml hown hts hE hP hl hend hendD => ?_)
  have hown : s.vm.findClass RX5 = some m.cls := hown
  have hl : lv_has ls 2 [(0, .ref h0), (1, .int p0)] := hl
  refine lv_iload_n hx hb dX5_rowsOf_0 rfl (lv_at hl 1 rfl) ?_
  refine (Decidable.em (p0 = (0 : Int32))).elim (fun c_1_0 => ?_) (fun c_1_0 => ?_)
  · refine lv_lookup (off := 27) (tgt := 28) hx hb dX5_rowsOf_1 (by decide +kernel) (by rw [c_1_0]; decide +kernel) (by decide) ?_
    refine lv_aload_n hx hb dX5_rowsOf_28 rfl (lv_at hl 0 rfl) ?_
    refine va_get (D := D) (ci := 5) (v := .ref h1) (C := RX5) (T := TX5) (N := 6) hx hb hts (fun _ h9 => List.mem_cons_of_mem _ (List.mem_append_left _ (List.mem_append_right _ h9))) hown hE.1 hP 0 rfl rfl 0 (by decide) (hts (.fieldLink RX5 12 "ShadowTable$State" "live" "LShadowTable$Rows;") (List.mem_of_getElem? (i := 1) rfl)) (fun _ h9 => h9) rfl dX5_rowsOf_29 ?_
    exact hend _ _ _ dX5_rowsOf_32 ⟨_, rfl⟩ (Or.inr ⟨_, rfl⟩) (fX5_rowsOf_p0 p0 τ h1 h3 h6 c_1_0)
  · refine (Decidable.em (p0 = (1 : Int32))).elim (fun c_1_1 => ?_) (fun c_1_1 => ?_)
    · refine lv_lookup (off := 32) (tgt := 33) hx hb dX5_rowsOf_1 (by decide +kernel) (by rw [c_1_1]; decide +kernel) (by decide) ?_
      refine lv_aload_n hx hb dX5_rowsOf_33 rfl (lv_at hl 0 rfl) ?_
      refine cRV ⟨hx, hb, hml, hown, hts⟩ (kX5_hasCopy l D cI cS h0 h1 h2 h3 h4 h5 h6 h7 h8 h9 h10 h11 h12 τ) (cwV 0 hts gX5_rowsOf_X5_hasCopy rfl rfl rfl (by decide +kernel) ⟨Nat.le_of_ble_eq_true rfl, Nat.le_of_ble_eq_true rfl⟩) hE hP 0 rfl rfl [0, 1, 2, 3, 4, 5, 6, 7, 8, 9, 10, 11, 12] rfl rfl hl.1 rfl (Nat.le_of_ble_eq_true rfl) ⟨Nat.zero_le _, Nat.zero_le _⟩ dX5_rowsOf_34 ?_
      refine lv_if_eq (tgt := 50) hx hb dX5_rowsOf_37 (by decide) (fun c_37 => ?_) (fun c_37 => ?_)
      · refine lv_null hx hb dX5_rowsOf_50 ?_
        exact hend _ _ _ dX5_rowsOf_51 ⟨_, rfl⟩ (Or.inl rfl) (fX5_rowsOf_p1 p0 τ h1 h3 h6 c_1_0 c_1_1 c_37)
      · refine lv_aload_n hx hb dX5_rowsOf_40 rfl (lv_at hl 0 rfl) ?_
        refine va_get (D := D) (ci := 5) (v := .ref h5) (C := RX5) (T := TX5) (N := 6) hx hb hts (fun _ h9 => List.mem_cons_of_mem _ (List.mem_append_left _ (List.mem_append_right _ h9))) hown hE.1 hP 0 rfl rfl 3 (by decide) (hts (.fieldLink RX5 24 "ShadowTable$State" "copy" "LShadowTable$Copy;") (List.mem_of_getElem? (i := 2) rfl)) (fun _ h9 => h9) rfl dX5_rowsOf_41 ?_
        refine va_getN (D := D) (ci := 0) (v := .ref h6) (C := RX0) (T := TX0) (N := 7) hx hb hts (fun _ h9 => List.mem_cons_of_mem _ (List.mem_append_right _ h9)) hown hE.1 hP 5 rfl rfl 0 (by decide) (hE.2.f 2 rfl) (fun _ h9 => h9) rfl dX5_rowsOf_44 ?_
        refine lv_goto (tgt := 51) hx hb dX5_rowsOf_47 (by decide) ?_
        exact hend _ _ _ dX5_rowsOf_51 ⟨_, rfl⟩ (Or.inr ⟨_, rfl⟩) (fX5_rowsOf_p2 p0 τ h1 h3 h6 c_1_0 c_1_1 c_37)
    · refine lv_lookup (off := 51) (tgt := 52) hx hb dX5_rowsOf_1 (by decide +kernel) ((lv_osw c_1_0 (by decide)).trans ((lv_osw c_1_1 (by decide)).trans rfl)) (by decide) ?_
      refine lv_aload_n hx hb dX5_rowsOf_52 rfl (lv_at hl 0 rfl) ?_
      refine va_get (D := D) (ci := 5) (v := .int τ.2.2.1) (C := RX5) (T := TX5) (N := 6) hx hb hts (fun _ h9 => List.mem_cons_of_mem _ (List.mem_append_left _ (List.mem_append_right _ h9))) hown hE.1 hP 0 rfl rfl 2 (by decide) (hts (.fieldLink RX5 39 "ShadowTable$State" "hasOld" "Z") (List.mem_of_getElem? (i := 3) rfl)) (fun _ h9 => h9) rfl dX5_rowsOf_53 ?_
      refine lv_if_eq (tgt := 66) hx hb dX5_rowsOf_56 (by decide) (fun c_56 => ?_) (fun c_56 => ?_)
      · refine lv_null hx hb dX5_rowsOf_66 ?_
        exact hend _ _ _ dX5_rowsOf_67 ⟨_, rfl⟩ (Or.inl rfl) (fX5_rowsOf_p3 p0 τ h1 h3 h6 c_1_0 c_1_1 c_56)
      · refine lv_aload_n hx hb dX5_rowsOf_59 rfl (lv_at hl 0 rfl) ?_
        refine va_get (D := D) (ci := 5) (v := .ref h3) (C := RX5) (T := TX5) (N := 6) hx hb hts (fun _ h9 => List.mem_cons_of_mem _ (List.mem_append_left _ (List.mem_append_right _ h9))) hown hE.1 hP 0 rfl rfl 1 (by decide) (hts (.fieldLink RX5 18 "ShadowTable$State" "old" "LShadowTable$Rows;") (List.mem_of_getElem? (i := 4) rfl)) (fun _ h9 => h9) rfl dX5_rowsOf_60 ?_
        refine lv_goto (tgt := 67) hx hb dX5_rowsOf_63 (by decide) ?_
        exact hend _ _ _ dX5_rowsOf_67 ⟨_, rfl⟩ (Or.inr ⟨_, rfl⟩) (fX5_rowsOf_p4 p0 τ h1 h3 h6 c_1_0 c_1_1 c_56)

def fX6_value (p0 : Int32) (p1 : Int32) (τ : StT) : Int32 := (if (fX6_isKey p1) = (0 : Int32) then (-1 : Int32) else (if (fX6_isTable p0) = (0 : Int32) then (-2 : Int32) else (if p0 = (0 : Int32) then (fX3_at p1 τ.1) else (if p0 = (1 : Int32) then (if (fX5_hasCopy τ) = (0 : Int32) then (-5 : Int32) else (fX3_at p1 τ.2.2.2.1.1)) else (if τ.2.2.1 = (0 : Int32) then (-5 : Int32) else (fX3_at p1 τ.2.1))))))
theorem fX6_value_p0 (p0 : Int32) (p1 : Int32) (τ : StT) (c_4 : ¬ (fX6_isKey p1) = (0 : Int32)) (c_13 : ¬ (fX6_isTable p0) = (0 : Int32)) (c_24_0 : p0 = (0 : Int32)) : (fX6_value p0 p1 τ) = (fX3_at p1 τ.1) := by
  simp only [fX6_value, if_neg c_4, if_neg c_13, if_pos c_24_0]
theorem fX6_value_p1 (p0 : Int32) (p1 : Int32) (τ : StT) (c_4 : ¬ (fX6_isKey p1) = (0 : Int32)) (c_13 : ¬ (fX6_isTable p0) = (0 : Int32)) (c_24_0 : ¬ p0 = (0 : Int32)) (c_24_1 : p0 = (1 : Int32)) (c_24_2 : (fX5_hasCopy τ) = (0 : Int32)) : (fX6_value p0 p1 τ) = (-5 : Int32) := by
  simp only [fX6_value, if_neg c_4, if_neg c_13, if_neg c_24_0, if_pos c_24_1, if_pos c_24_2]
theorem fX6_value_p2 (p0 : Int32) (p1 : Int32) (τ : StT) (c_4 : ¬ (fX6_isKey p1) = (0 : Int32)) (c_13 : ¬ (fX6_isTable p0) = (0 : Int32)) (c_24_0 : ¬ p0 = (0 : Int32)) (c_24_1 : p0 = (1 : Int32)) (c_24_2 : ¬ (fX5_hasCopy τ) = (0 : Int32)) : (fX6_value p0 p1 τ) = (fX3_at p1 τ.2.2.2.1.1) := by
  simp only [fX6_value, if_neg c_4, if_neg c_13, if_neg c_24_0, if_pos c_24_1, if_neg c_24_2]
theorem fX6_value_p3 (p0 : Int32) (p1 : Int32) (τ : StT) (c_4 : ¬ (fX6_isKey p1) = (0 : Int32)) (c_13 : ¬ (fX6_isTable p0) = (0 : Int32)) (c_24_0 : ¬ p0 = (0 : Int32)) (c_24_1 : ¬ p0 = (1 : Int32)) (c_24_3 : τ.2.2.1 = (0 : Int32)) : (fX6_value p0 p1 τ) = (-5 : Int32) := by
  simp only [fX6_value, if_neg c_4, if_neg c_13, if_neg c_24_0, if_neg c_24_1, if_pos c_24_3]
theorem fX6_value_p4 (p0 : Int32) (p1 : Int32) (τ : StT) (c_4 : ¬ (fX6_isKey p1) = (0 : Int32)) (c_13 : ¬ (fX6_isTable p0) = (0 : Int32)) (c_24_0 : ¬ p0 = (0 : Int32)) (c_24_1 : ¬ p0 = (1 : Int32)) (c_24_3 : ¬ τ.2.2.1 = (0 : Int32)) : (fX6_value p0 p1 τ) = (fX3_at p1 τ.2.1) := by
  simp only [fX6_value, if_neg c_4, if_neg c_13, if_neg c_24_0, if_neg c_24_1, if_neg c_24_3]
theorem fX6_value_p5 (p0 : Int32) (p1 : Int32) (τ : StT) (c_4 : ¬ (fX6_isKey p1) = (0 : Int32)) (c_13 : (fX6_isTable p0) = (0 : Int32)) : (fX6_value p0 p1 τ) = (-2 : Int32) := by
  simp only [fX6_value, if_neg c_4, if_pos c_13]
theorem fX6_value_p6 (p0 : Int32) (p1 : Int32) (τ : StT) (c_4 : (fX6_isKey p1) = (0 : Int32)) : (fX6_value p0 p1 τ) = (-1 : Int32) := by
  simp only [fX6_value, if_pos c_4]
set_option maxHeartbeats 4000000 in
set_option maxRecDepth 100000 in
theorem kX6_value (l : Launch) (D : va_G) (cI cS : ClassId) (h0 : Nat) (a0 : Nat → Nat) (w1 : Nat) (w2 : Nat) (w3 : Nat) (w4 : Nat) (w5 : Int32) (p0 : Int32) (p1 : Int32) (τ : StT) : KR l yX6_value wsX6_value { frames := 2, cells := 0, slots := 0, locals := 42 } D (tysA cI cS) [.ref h0, .int p0, .int p1] (fl ([(h0, .inr (6, [.ref (a0 0), .ref w1, .ref w2, .ref w3, .ref w4, .int w5]))] :: wSt cI a0 τ :: [])) (fX6_value p0 p1 τ) := by
  refine KR.of (cc := cX6_value) (maxL := 4) (ty := .int) (by decide) rfl (Nat.le_of_ble_eq_true rfl) rfl (fun p e s m args below meth c ls Q hx hb hml hown hts hE hP hl hend => ?_)
  have hown : s.vm.findClass RX6 = some m.cls := hown
  have hl : lv_has ls 4 [(0, .ref h0), (1, .int p0), (2, .int p1)] := hl
  refine lv_iload_n hx hb dX6_value_0 rfl (lv_at hl 2 rfl) ?_
  refine cRS ⟨hx, hb, hml, hown, hts⟩ (kX6_isKey l D cI cS p1) (va_cwS 1 hts gX6_value_X6_isKey rfl rfl rfl (by decide +kernel) ⟨Nat.le_of_ble_eq_true rfl, Nat.le_of_ble_eq_true rfl⟩) hE hP [] rfl rfl hl.1 rfl (Nat.le_of_ble_eq_true rfl) ⟨Nat.zero_le _, Nat.zero_le _⟩ dX6_value_1 ?_
  refine lv_if_ne (tgt := 9) hx hb dX6_value_4 (by decide) (fun c_4 => ?_) (fun c_4 => ?_)
  · refine lv_iload_n hx hb dX6_value_9 rfl (lv_at hl 1 rfl) ?_
    refine cRS ⟨hx, hb, hml, hown, hts⟩ (kX6_isTable l D cI cS p0) (va_cwS 1 hts gX6_value_X6_isTable rfl rfl rfl (by decide +kernel) ⟨Nat.le_of_ble_eq_true rfl, Nat.le_of_ble_eq_true rfl⟩) hE hP [] rfl rfl hl.1 rfl (Nat.le_of_ble_eq_true rfl) ⟨Nat.zero_le _, Nat.zero_le _⟩ dX6_value_10 ?_
    refine lv_if_ne (tgt := 19) hx hb dX6_value_13 (by decide) (fun c_13 => ?_) (fun c_13 => ?_)
    · refine lv_aload_n hx hb dX6_value_19 rfl (lv_at hl 0 rfl) ?_
      refine va_get (D := D) (ci := 6) (v := .ref (a0 0)) (C := RX6) (T := TX6) (N := 6) hx hb hts (fun _ h9 => List.mem_cons_of_mem _ (List.mem_append_left _ (List.mem_append_left _ (List.mem_append_left _ (List.mem_append_right _ h9))))) hown hE.1 hP 0 rfl rfl 0 (by decide) (hts (.fieldLink RX6 10 "ShadowTable" "state" "LShadowTable$State;") (List.mem_of_getElem? (i := 1) rfl)) (fun _ h9 => h9) rfl dX6_value_20 ?_
      refine lv_iload_n hx hb dX6_value_23 rfl (lv_at hl 1 rfl) ?_
      refine cAV ⟨hx, hb, hml, hown, hts⟩ (kX5_rowsOf l D cI cS (a0 0) (a0 1) (a0 2) (a0 3) (a0 4) (a0 5) (a0 6) (a0 7) (a0 8) (a0 9) (a0 10) (a0 11) (a0 12) p0 τ) (cwV 1 hts gX6_value_X5_rowsOf rfl rfl rfl (by decide +kernel) ⟨Nat.le_of_ble_eq_true rfl, Nat.le_of_ble_eq_true rfl⟩) hE hP 1 rfl rfl [1, 2, 3, 4, 5, 6, 7, 8, 9, 10, 11, 12, 13] rfl rfl hl.1 rfl (Nat.le_of_ble_eq_true rfl) ⟨Nat.zero_le _, Nat.zero_le _⟩ dX6_value_24 ?_
      refine (Decidable.em (p0 = (0 : Int32))).elim (fun c_24_0 => ?_) (fun c_24_0 => ?_)
      · rw [fX5_rowsOf_p0 p0 τ (a0 1) (a0 3) (a0 6) c_24_0]
        refine lv_astore_n (lv' := [(3, .ref (a0 1)), (0, .ref h0), (1, .int p0), (2, .int p1)]) hx hb dX6_value_27 rfl hl (by decide) rfl (fun ls hl => ?_)
        refine lv_aload_n hx hb dX6_value_28 rfl (lv_at hl 0 rfl) ?_
        refine lv_ifnonnull (tgt := 37) hx hb dX6_value_29 (by decide) ?_
        refine lv_aload_n hx hb dX6_value_37 rfl (lv_at hl 0 rfl) ?_
        refine lv_iload_n hx hb dX6_value_38 rfl (lv_at hl 3 rfl) ?_
        refine cRV ⟨hx, hb, hml, hown, hts⟩ (kX3_at l D cI cS (a0 1) (a0 2) p1 τ.1) (cwV 1 hts gX6_value_X3_at rfl rfl rfl (by decide +kernel) ⟨Nat.le_of_ble_eq_true rfl, Nat.le_of_ble_eq_true rfl⟩) hE hP 2 rfl rfl [2, 3] rfl rfl hl.1 rfl (Nat.le_of_ble_eq_true rfl) ⟨Nat.zero_le _, Nat.zero_le _⟩ dX6_value_39 ?_
        exact hend _ _ _ dX6_value_42 rfl (fX6_value_p0 p0 p1 τ c_4 c_13 c_24_0)
      · refine (Decidable.em (p0 = (1 : Int32))).elim (fun c_24_1 => ?_) (fun c_24_1 => ?_)
        · refine (Decidable.em ((fX5_hasCopy τ) = (0 : Int32))).elim (fun c_24_2 => ?_) (fun c_24_2 => ?_)
          · rw [fX5_rowsOf_p1 p0 τ (a0 1) (a0 3) (a0 6) c_24_0 c_24_1 c_24_2]
            refine lv_astore_nN (lv' := [(3, .null), (0, .ref h0), (1, .int p0), (2, .int p1)]) hx hb dX6_value_27 rfl hl (by decide) rfl (fun ls hl => ?_)
            refine lv_aload_nN hx hb dX6_value_28 rfl (lv_at hl 0 rfl) ?_
            refine lv_ifnonnullN hx hb dX6_value_29 ?_
            refine lv_bipush (v := (-5 : Int32)) hx hb dX6_value_32 (by decide +kernel) ?_
            refine lv_goto (tgt := 42) hx hb dX6_value_34 (by decide) ?_
            exact hend _ _ _ dX6_value_42 rfl (fX6_value_p1 p0 p1 τ c_4 c_13 c_24_0 c_24_1 c_24_2)
          · rw [fX5_rowsOf_p2 p0 τ (a0 1) (a0 3) (a0 6) c_24_0 c_24_1 c_24_2]
            refine lv_astore_n (lv' := [(3, .ref (a0 6)), (0, .ref h0), (1, .int p0), (2, .int p1)]) hx hb dX6_value_27 rfl hl (by decide) rfl (fun ls hl => ?_)
            refine lv_aload_n hx hb dX6_value_28 rfl (lv_at hl 0 rfl) ?_
            refine lv_ifnonnull (tgt := 37) hx hb dX6_value_29 (by decide) ?_
            refine lv_aload_n hx hb dX6_value_37 rfl (lv_at hl 0 rfl) ?_
            refine lv_iload_n hx hb dX6_value_38 rfl (lv_at hl 3 rfl) ?_
            refine cRV ⟨hx, hb, hml, hown, hts⟩ (kX3_at l D cI cS (a0 6) (a0 7) p1 τ.2.2.2.1.1) (cwV 1 hts gX6_value_X3_at rfl rfl rfl (by decide +kernel) ⟨Nat.le_of_ble_eq_true rfl, Nat.le_of_ble_eq_true rfl⟩) hE hP 7 rfl rfl [7, 8] rfl rfl hl.1 rfl (Nat.le_of_ble_eq_true rfl) ⟨Nat.zero_le _, Nat.zero_le _⟩ dX6_value_39 ?_
            exact hend _ _ _ dX6_value_42 rfl (fX6_value_p2 p0 p1 τ c_4 c_13 c_24_0 c_24_1 c_24_2)
        · refine (Decidable.em (τ.2.2.1 = (0 : Int32))).elim (fun c_24_3 => ?_) (fun c_24_3 => ?_)
          · rw [fX5_rowsOf_p3 p0 τ (a0 1) (a0 3) (a0 6) c_24_0 c_24_1 c_24_3]
            refine lv_astore_nN (lv' := [(3, .null), (0, .ref h0), (1, .int p0), (2, .int p1)]) hx hb dX6_value_27 rfl hl (by decide) rfl (fun ls hl => ?_)
            refine lv_aload_nN hx hb dX6_value_28 rfl (lv_at hl 0 rfl) ?_
            refine lv_ifnonnullN hx hb dX6_value_29 ?_
            refine lv_bipush (v := (-5 : Int32)) hx hb dX6_value_32 (by decide +kernel) ?_
            refine lv_goto (tgt := 42) hx hb dX6_value_34 (by decide) ?_
            exact hend _ _ _ dX6_value_42 rfl (fX6_value_p3 p0 p1 τ c_4 c_13 c_24_0 c_24_1 c_24_3)
          · rw [fX5_rowsOf_p4 p0 τ (a0 1) (a0 3) (a0 6) c_24_0 c_24_1 c_24_3]
            refine lv_astore_n (lv' := [(3, .ref (a0 3)), (0, .ref h0), (1, .int p0), (2, .int p1)]) hx hb dX6_value_27 rfl hl (by decide) rfl (fun ls hl => ?_)
            refine lv_aload_n hx hb dX6_value_28 rfl (lv_at hl 0 rfl) ?_
            refine lv_ifnonnull (tgt := 37) hx hb dX6_value_29 (by decide) ?_
            refine lv_aload_n hx hb dX6_value_37 rfl (lv_at hl 0 rfl) ?_
            refine lv_iload_n hx hb dX6_value_38 rfl (lv_at hl 3 rfl) ?_
            refine cRV ⟨hx, hb, hml, hown, hts⟩ (kX3_at l D cI cS (a0 3) (a0 4) p1 τ.2.1) (cwV 1 hts gX6_value_X3_at rfl rfl rfl (by decide +kernel) ⟨Nat.le_of_ble_eq_true rfl, Nat.le_of_ble_eq_true rfl⟩) hE hP 4 rfl rfl [4, 5] rfl rfl hl.1 rfl (Nat.le_of_ble_eq_true rfl) ⟨Nat.zero_le _, Nat.zero_le _⟩ dX6_value_39 ?_
            exact hend _ _ _ dX6_value_42 rfl (fX6_value_p4 p0 p1 τ c_4 c_13 c_24_0 c_24_1 c_24_3)
    · refine lv_bipush (v := (-2 : Int32)) hx hb dX6_value_16 (by decide +kernel) ?_
      exact hend _ _ _ dX6_value_18 rfl (fX6_value_p5 p0 p1 τ c_4 c_13)
  · refine lv_iconst (v := (-1 : Int32)) hx hb dX6_value_7 (by decide +kernel) ?_
    exact hend _ _ _ dX6_value_8 rfl (fX6_value_p6 p0 p1 τ c_4)

def fX6_table (p0 : Int32) (p1 : Int32) (τ : StT) : Int32 := (if (fX6_isTable p0) = (0 : Int32) then (-2 : Int32) else (if (fX6_isIn p1 (0 : Int32) (3 : Int32)) = (0 : Int32) then (-2 : Int32) else (if p0 = (0 : Int32) then (fX3_tell p1 τ.1) else (if p0 = (1 : Int32) then (if (fX5_hasCopy τ) = (0 : Int32) then (-5 : Int32) else (fX3_tell p1 τ.2.2.2.1.1)) else (if τ.2.2.1 = (0 : Int32) then (-5 : Int32) else (fX3_tell p1 τ.2.1))))))
theorem fX6_table_p0 (p0 : Int32) (p1 : Int32) (τ : StT) (c_4 : (fX6_isTable p0) = (0 : Int32)) : (fX6_table p0 p1 τ) = (-2 : Int32) := by
  simp only [fX6_table, if_pos c_4]
theorem fX6_table_p1 (p0 : Int32) (p1 : Int32) (τ : StT) (c_4 : ¬ (fX6_isTable p0) = (0 : Int32)) (c_13 : ¬ (fX6_isIn p1 (0 : Int32) (3 : Int32)) = (0 : Int32)) (c_24_0 : p0 = (0 : Int32)) : (fX6_table p0 p1 τ) = (fX3_tell p1 τ.1) := by
  simp only [fX6_table, if_neg c_4, if_neg c_13, if_pos c_24_0]
theorem fX6_table_p2 (p0 : Int32) (p1 : Int32) (τ : StT) (c_4 : ¬ (fX6_isTable p0) = (0 : Int32)) (c_13 : ¬ (fX6_isIn p1 (0 : Int32) (3 : Int32)) = (0 : Int32)) (c_24_0 : ¬ p0 = (0 : Int32)) (c_24_1 : p0 = (1 : Int32)) (c_24_2 : (fX5_hasCopy τ) = (0 : Int32)) : (fX6_table p0 p1 τ) = (-5 : Int32) := by
  simp only [fX6_table, if_neg c_4, if_neg c_13, if_neg c_24_0, if_pos c_24_1, if_pos c_24_2]
theorem fX6_table_p3 (p0 : Int32) (p1 : Int32) (τ : StT) (c_4 : ¬ (fX6_isTable p0) = (0 : Int32)) (c_13 : ¬ (fX6_isIn p1 (0 : Int32) (3 : Int32)) = (0 : Int32)) (c_24_0 : ¬ p0 = (0 : Int32)) (c_24_1 : p0 = (1 : Int32)) (c_24_2 : ¬ (fX5_hasCopy τ) = (0 : Int32)) : (fX6_table p0 p1 τ) = (fX3_tell p1 τ.2.2.2.1.1) := by
  simp only [fX6_table, if_neg c_4, if_neg c_13, if_neg c_24_0, if_pos c_24_1, if_neg c_24_2]
theorem fX6_table_p4 (p0 : Int32) (p1 : Int32) (τ : StT) (c_4 : ¬ (fX6_isTable p0) = (0 : Int32)) (c_13 : ¬ (fX6_isIn p1 (0 : Int32) (3 : Int32)) = (0 : Int32)) (c_24_0 : ¬ p0 = (0 : Int32)) (c_24_1 : ¬ p0 = (1 : Int32)) (c_24_3 : τ.2.2.1 = (0 : Int32)) : (fX6_table p0 p1 τ) = (-5 : Int32) := by
  simp only [fX6_table, if_neg c_4, if_neg c_13, if_neg c_24_0, if_neg c_24_1, if_pos c_24_3]
theorem fX6_table_p5 (p0 : Int32) (p1 : Int32) (τ : StT) (c_4 : ¬ (fX6_isTable p0) = (0 : Int32)) (c_13 : ¬ (fX6_isIn p1 (0 : Int32) (3 : Int32)) = (0 : Int32)) (c_24_0 : ¬ p0 = (0 : Int32)) (c_24_1 : ¬ p0 = (1 : Int32)) (c_24_3 : ¬ τ.2.2.1 = (0 : Int32)) : (fX6_table p0 p1 τ) = (fX3_tell p1 τ.2.1) := by
  simp only [fX6_table, if_neg c_4, if_neg c_13, if_neg c_24_0, if_neg c_24_1, if_neg c_24_3]
theorem fX6_table_p6 (p0 : Int32) (p1 : Int32) (τ : StT) (c_4 : ¬ (fX6_isTable p0) = (0 : Int32)) (c_13 : (fX6_isIn p1 (0 : Int32) (3 : Int32)) = (0 : Int32)) : (fX6_table p0 p1 τ) = (-2 : Int32) := by
  simp only [fX6_table, if_neg c_4, if_pos c_13]
set_option maxHeartbeats 4000000 in
set_option maxRecDepth 100000 in
theorem kX6_table (l : Launch) (D : va_G) (cI cS : ClassId) (h0 : Nat) (a0 : Nat → Nat) (w1 : Nat) (w2 : Nat) (w3 : Nat) (w4 : Nat) (w5 : Int32) (p0 : Int32) (p1 : Int32) (τ : StT) : KR l yX6_table wsX6_table { frames := 2, cells := 0, slots := 0, locals := 43 } D (tysA cI cS) [.ref h0, .int p0, .int p1] (fl ([(h0, .inr (6, [.ref (a0 0), .ref w1, .ref w2, .ref w3, .ref w4, .int w5]))] :: wSt cI a0 τ :: [])) (fX6_table p0 p1 τ) := by
  refine KR.of (cc := cX6_table) (maxL := 4) (ty := .int) (by decide) rfl (Nat.le_of_ble_eq_true rfl) rfl (fun p e s m args below meth c ls Q hx hb hml hown hts hE hP hl hend => ?_)
  have hown : s.vm.findClass RX6 = some m.cls := hown
  have hl : lv_has ls 4 [(0, .ref h0), (1, .int p0), (2, .int p1)] := hl
  refine lv_iload_n hx hb dX6_table_0 rfl (lv_at hl 1 rfl) ?_
  refine cRS ⟨hx, hb, hml, hown, hts⟩ (kX6_isTable l D cI cS p0) (va_cwS 1 hts gX6_table_X6_isTable rfl rfl rfl (by decide +kernel) ⟨Nat.le_of_ble_eq_true rfl, Nat.le_of_ble_eq_true rfl⟩) hE hP [] rfl rfl hl.1 rfl (Nat.le_of_ble_eq_true rfl) ⟨Nat.zero_le _, Nat.zero_le _⟩ dX6_table_1 ?_
  refine lv_if_eq (tgt := 16) hx hb dX6_table_4 (by decide) (fun c_4 => ?_) (fun c_4 => ?_)
  · refine lv_bipush (v := (-2 : Int32)) hx hb dX6_table_16 (by decide +kernel) ?_
    exact hend _ _ _ dX6_table_18 rfl (fX6_table_p0 p0 p1 τ c_4)
  · refine lv_iload_n hx hb dX6_table_7 rfl (lv_at hl 2 rfl) ?_
    refine lv_iconst (v := (0 : Int32)) hx hb dX6_table_8 (by decide +kernel) ?_
    refine lv_iconst (v := (3 : Int32)) hx hb dX6_table_9 (by decide +kernel) ?_
    refine cRS ⟨hx, hb, hml, hown, hts⟩ (kX6_isIn l D cI cS p1 (0 : Int32) (3 : Int32)) (va_cwS 3 hts gX6_table_X6_isIn rfl rfl rfl (by decide +kernel) ⟨Nat.le_of_ble_eq_true rfl, Nat.le_of_ble_eq_true rfl⟩) hE hP [] rfl rfl hl.1 rfl (Nat.le_of_ble_eq_true rfl) ⟨Nat.zero_le _, Nat.zero_le _⟩ dX6_table_10 ?_
    refine lv_if_ne (tgt := 19) hx hb dX6_table_13 (by decide) (fun c_13 => ?_) (fun c_13 => ?_)
    · refine lv_aload_n hx hb dX6_table_19 rfl (lv_at hl 0 rfl) ?_
      refine va_get (D := D) (ci := 6) (v := .ref (a0 0)) (C := RX6) (T := TX6) (N := 6) hx hb hts (fun _ h9 => List.mem_cons_of_mem _ (List.mem_append_left _ (List.mem_append_left _ (List.mem_append_left _ (List.mem_append_right _ h9))))) hown hE.1 hP 0 rfl rfl 0 (by decide) (hts (.fieldLink RX6 10 "ShadowTable" "state" "LShadowTable$State;") (List.mem_of_getElem? (i := 1) rfl)) (fun _ h9 => h9) rfl dX6_table_20 ?_
      refine lv_iload_n hx hb dX6_table_23 rfl (lv_at hl 1 rfl) ?_
      refine cAV ⟨hx, hb, hml, hown, hts⟩ (kX5_rowsOf l D cI cS (a0 0) (a0 1) (a0 2) (a0 3) (a0 4) (a0 5) (a0 6) (a0 7) (a0 8) (a0 9) (a0 10) (a0 11) (a0 12) p0 τ) (cwV 1 hts gX6_table_X5_rowsOf rfl rfl rfl (by decide +kernel) ⟨Nat.le_of_ble_eq_true rfl, Nat.le_of_ble_eq_true rfl⟩) hE hP 1 rfl rfl [1, 2, 3, 4, 5, 6, 7, 8, 9, 10, 11, 12, 13] rfl rfl hl.1 rfl (Nat.le_of_ble_eq_true rfl) ⟨Nat.zero_le _, Nat.zero_le _⟩ dX6_table_24 ?_
      refine (Decidable.em (p0 = (0 : Int32))).elim (fun c_24_0 => ?_) (fun c_24_0 => ?_)
      · rw [fX5_rowsOf_p0 p0 τ (a0 1) (a0 3) (a0 6) c_24_0]
        refine lv_astore_n (lv' := [(3, .ref (a0 1)), (0, .ref h0), (1, .int p0), (2, .int p1)]) hx hb dX6_table_27 rfl hl (by decide) rfl (fun ls hl => ?_)
        refine lv_aload_n hx hb dX6_table_28 rfl (lv_at hl 0 rfl) ?_
        refine lv_ifnonnull (tgt := 37) hx hb dX6_table_29 (by decide) ?_
        refine lv_aload_n hx hb dX6_table_37 rfl (lv_at hl 0 rfl) ?_
        refine lv_iload_n hx hb dX6_table_38 rfl (lv_at hl 3 rfl) ?_
        refine cRV ⟨hx, hb, hml, hown, hts⟩ (kX3_tell l D cI cS (a0 1) (a0 2) p1 τ.1) (cwV 1 hts gX6_table_X3_tell rfl rfl rfl (by decide +kernel) ⟨Nat.le_of_ble_eq_true rfl, Nat.le_of_ble_eq_true rfl⟩) hE hP 2 rfl rfl [2, 3] rfl rfl hl.1 rfl (Nat.le_of_ble_eq_true rfl) ⟨Nat.zero_le _, Nat.zero_le _⟩ dX6_table_39 ?_
        exact hend _ _ _ dX6_table_42 rfl (fX6_table_p1 p0 p1 τ c_4 c_13 c_24_0)
      · refine (Decidable.em (p0 = (1 : Int32))).elim (fun c_24_1 => ?_) (fun c_24_1 => ?_)
        · refine (Decidable.em ((fX5_hasCopy τ) = (0 : Int32))).elim (fun c_24_2 => ?_) (fun c_24_2 => ?_)
          · rw [fX5_rowsOf_p1 p0 τ (a0 1) (a0 3) (a0 6) c_24_0 c_24_1 c_24_2]
            refine lv_astore_nN (lv' := [(3, .null), (0, .ref h0), (1, .int p0), (2, .int p1)]) hx hb dX6_table_27 rfl hl (by decide) rfl (fun ls hl => ?_)
            refine lv_aload_nN hx hb dX6_table_28 rfl (lv_at hl 0 rfl) ?_
            refine lv_ifnonnullN hx hb dX6_table_29 ?_
            refine lv_bipush (v := (-5 : Int32)) hx hb dX6_table_32 (by decide +kernel) ?_
            refine lv_goto (tgt := 42) hx hb dX6_table_34 (by decide) ?_
            exact hend _ _ _ dX6_table_42 rfl (fX6_table_p2 p0 p1 τ c_4 c_13 c_24_0 c_24_1 c_24_2)
          · rw [fX5_rowsOf_p2 p0 τ (a0 1) (a0 3) (a0 6) c_24_0 c_24_1 c_24_2]
            refine lv_astore_n (lv' := [(3, .ref (a0 6)), (0, .ref h0), (1, .int p0), (2, .int p1)]) hx hb dX6_table_27 rfl hl (by decide) rfl (fun ls hl => ?_)
            refine lv_aload_n hx hb dX6_table_28 rfl (lv_at hl 0 rfl) ?_
            refine lv_ifnonnull (tgt := 37) hx hb dX6_table_29 (by decide) ?_
            refine lv_aload_n hx hb dX6_table_37 rfl (lv_at hl 0 rfl) ?_
            refine lv_iload_n hx hb dX6_table_38 rfl (lv_at hl 3 rfl) ?_
            refine cRV ⟨hx, hb, hml, hown, hts⟩ (kX3_tell l D cI cS (a0 6) (a0 7) p1 τ.2.2.2.1.1) (cwV 1 hts gX6_table_X3_tell rfl rfl rfl (by decide +kernel) ⟨Nat.le_of_ble_eq_true rfl, Nat.le_of_ble_eq_true rfl⟩) hE hP 7 rfl rfl [7, 8] rfl rfl hl.1 rfl (Nat.le_of_ble_eq_true rfl) ⟨Nat.zero_le _, Nat.zero_le _⟩ dX6_table_39 ?_
            exact hend _ _ _ dX6_table_42 rfl (fX6_table_p3 p0 p1 τ c_4 c_13 c_24_0 c_24_1 c_24_2)
        · refine (Decidable.em (τ.2.2.1 = (0 : Int32))).elim (fun c_24_3 => ?_) (fun c_24_3 => ?_)
          · rw [fX5_rowsOf_p3 p0 τ (a0 1) (a0 3) (a0 6) c_24_0 c_24_1 c_24_3]
            refine lv_astore_nN (lv' := [(3, .null), (0, .ref h0), (1, .int p0), (2, .int p1)]) hx hb dX6_table_27 rfl hl (by decide) rfl (fun ls hl => ?_)
            refine lv_aload_nN hx hb dX6_table_28 rfl (lv_at hl 0 rfl) ?_
            refine lv_ifnonnullN hx hb dX6_table_29 ?_
            refine lv_bipush (v := (-5 : Int32)) hx hb dX6_table_32 (by decide +kernel) ?_
            refine lv_goto (tgt := 42) hx hb dX6_table_34 (by decide) ?_
            exact hend _ _ _ dX6_table_42 rfl (fX6_table_p4 p0 p1 τ c_4 c_13 c_24_0 c_24_1 c_24_3)
          · rw [fX5_rowsOf_p4 p0 τ (a0 1) (a0 3) (a0 6) c_24_0 c_24_1 c_24_3]
            refine lv_astore_n (lv' := [(3, .ref (a0 3)), (0, .ref h0), (1, .int p0), (2, .int p1)]) hx hb dX6_table_27 rfl hl (by decide) rfl (fun ls hl => ?_)
            refine lv_aload_n hx hb dX6_table_28 rfl (lv_at hl 0 rfl) ?_
            refine lv_ifnonnull (tgt := 37) hx hb dX6_table_29 (by decide) ?_
            refine lv_aload_n hx hb dX6_table_37 rfl (lv_at hl 0 rfl) ?_
            refine lv_iload_n hx hb dX6_table_38 rfl (lv_at hl 3 rfl) ?_
            refine cRV ⟨hx, hb, hml, hown, hts⟩ (kX3_tell l D cI cS (a0 3) (a0 4) p1 τ.2.1) (cwV 1 hts gX6_table_X3_tell rfl rfl rfl (by decide +kernel) ⟨Nat.le_of_ble_eq_true rfl, Nat.le_of_ble_eq_true rfl⟩) hE hP 4 rfl rfl [4, 5] rfl rfl hl.1 rfl (Nat.le_of_ble_eq_true rfl) ⟨Nat.zero_le _, Nat.zero_le _⟩ dX6_table_39 ?_
            exact hend _ _ _ dX6_table_42 rfl (fX6_table_p5 p0 p1 τ c_4 c_13 c_24_0 c_24_1 c_24_3)
    · refine lv_bipush (v := (-2 : Int32)) hx hb dX6_table_16 (by decide +kernel) ?_
      exact hend _ _ _ dX6_table_18 rfl (fX6_table_p6 p0 p1 τ c_4 c_13)

def fX6_progress (τ : StT) : Value := (if (fX5_hasCopy τ) = (0 : Int32) then (Value.double FP.dconst0) else (Value.double (FP.ddiv (FP.i2d τ.2.2.2.1.2.2.2.2.2.1) (4629700416936869888 : UInt64))))
theorem fX6_progress_p0 (τ : StT) (c_7 : (fX5_hasCopy τ) = (0 : Int32)) : (fX6_progress τ) = (Value.double FP.dconst0) := by
  simp only [fX6_progress, if_pos c_7]
theorem fX6_progress_p1 (τ : StT) (c_7 : ¬ (fX5_hasCopy τ) = (0 : Int32)) : (fX6_progress τ) = (Value.double (FP.ddiv (FP.i2d τ.2.2.2.1.2.2.2.2.2.1) (4629700416936869888 : UInt64))) := by
  simp only [fX6_progress, if_neg c_7]
set_option maxHeartbeats 4000000 in
set_option maxRecDepth 100000 in
theorem kX6_progress (l : Launch) (D : va_G) (cI cS : ClassId) (h0 : Nat) (a0 : Nat → Nat) (w1 : Nat) (w2 : Nat) (w3 : Nat) (w4 : Nat) (w5 : Int32) (τ : StT) (hw : WS τ) : KA l yX6_progress wsX6_progress { frames := 1, cells := 0, slots := 0, locals := 20 } D (tysA cI cS) [.ref h0] (fl ([(h0, .inr (6, [.ref (a0 0), .ref w1, .ref w2, .ref w3, .ref w4, .int w5]))] :: wSt cI a0 τ :: [])) (fX6_progress τ) := by
  refine KA.of (cc := cX6_progress) (maxL := 1) (ty := .double) (by decide) rfl (Nat.le_of_ble_eq_true rfl) rfl (fun p e s m args below meth c ls Q hx hb hml hown hts hE hP hl hend hendD => ?_)
  have hown : s.vm.findClass RX6 = some m.cls := hown
  have hl : lv_has ls 1 [(0, .ref h0)] := hl
  refine lv_aload_n hx hb dX6_progress_0 rfl (lv_at hl 0 rfl) ?_
  refine va_get (D := D) (ci := 6) (v := .ref (a0 0)) (C := RX6) (T := TX6) (N := 6) hx hb hts (fun _ h9 => List.mem_cons_of_mem _ (List.mem_append_left _ (List.mem_append_left _ (List.mem_append_right _ h9)))) hown hE.1 hP 0 rfl rfl 0 (by decide) (hts (.fieldLink RX6 10 "ShadowTable" "state" "LShadowTable$State;") (List.mem_of_getElem? (i := 1) rfl)) (fun _ h9 => h9) rfl dX6_progress_1 ?_
  refine cRV ⟨hx, hb, hml, hown, hts⟩ (kX5_hasCopy l D cI cS (a0 0) (a0 1) (a0 2) (a0 3) (a0 4) (a0 5) (a0 6) (a0 7) (a0 8) (a0 9) (a0 10) (a0 11) (a0 12) τ) (cwV 0 hts gX6_progress_X5_hasCopy rfl rfl rfl (by decide +kernel) ⟨Nat.le_of_ble_eq_true rfl, Nat.le_of_ble_eq_true rfl⟩) hE hP 1 rfl rfl [1, 2, 3, 4, 5, 6, 7, 8, 9, 10, 11, 12, 13] rfl rfl hl.1 rfl (Nat.le_of_ble_eq_true rfl) ⟨Nat.zero_le _, Nat.zero_le _⟩ dX6_progress_4 ?_
  refine lv_if_eq (tgt := 28) hx hb dX6_progress_7 (by decide) (fun c_7 => ?_) (fun c_7 => ?_)
  · refine lv_dconst0 hx hb dX6_progress_28 ?_
    exact hendD _ _ _ dX6_progress_29 rfl (fX6_progress_p0 τ c_7)
  · refine lv_aload_n hx hb dX6_progress_10 rfl (lv_at hl 0 rfl) ?_
    refine va_get (D := D) (ci := 6) (v := .ref (a0 0)) (C := RX6) (T := TX6) (N := 6) hx hb hts (fun _ h9 => List.mem_cons_of_mem _ (List.mem_append_left _ (List.mem_append_left _ (List.mem_append_right _ h9)))) hown hE.1 hP 0 rfl rfl 0 (by decide) (hts (.fieldLink RX6 10 "ShadowTable" "state" "LShadowTable$State;") (List.mem_of_getElem? (i := 1) rfl)) (fun _ h9 => h9) rfl dX6_progress_11 ?_
    refine va_getN (D := D) (ci := 5) (v := .ref (a0 5)) (C := RX5) (T := TX5) (N := 6) hx hb hts (fun _ h9 => List.mem_cons_of_mem _ (List.mem_append_left _ (List.mem_append_right _ h9))) hown hE.1 hP 1 rfl rfl 3 (by decide) (hE.2.f 13 rfl) (fun _ h9 => h9) rfl dX6_progress_14 ?_
    refine va_getN (D := D) (ci := 0) (v := .int τ.2.2.2.1.2.2.2.2.2.1) (C := RX0) (T := TX0) (N := 7) hx hb hts (fun _ h9 => List.mem_cons_of_mem _ (List.mem_append_right _ h9)) hown hE.1 hP 6 rfl rfl 5 (by decide) (hE.2.f 10 rfl) (fun _ h9 => h9) rfl dX6_progress_17 ?_
    refine lv_i2d hx hb dX6_progress_20 ?_
    refine lv_ldc2d hx hb hown (hts (.constantDouble RX6 205 (4629700416936869888)) (List.mem_of_getElem? (i := 2) rfl)) dX6_progress_21 ?_
    refine lv_ddiv hx hb dX6_progress_24 (zz_prog hw.2.1) ?_
    refine lv_goto (tgt := 29) hx hb dX6_progress_25 (by decide) ?_
    exact hendD _ _ _ dX6_progress_29 rfl (fX6_progress_p1 τ c_7)
