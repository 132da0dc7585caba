/-! the law's methods: their world, their contracts, their calls -/
abbrev TLT : Type := StT × StT × HiT
/-- the class's object: its state, its trial and its history as a tuple; t: what stands behind -/
def wO (cI cS : ClassId) (qx : Nat) (a0 a1 a2 a3 : Nat → Nat) (b3 : Nat → Nat → Nat) (a4 : Nat → Nat) (sn : StT) (sc : ScT) (has : Int32) (t : List va_W) (u : TLT) : List va_W := [(qx, .inr (6, [.ref (a0 0), .ref (a1 0), .ref (a2 0), .ref (a3 0), .ref (a4 0), .int has]))] :: wSt cI a0 u.1 :: wSt cI a1 sn :: wSt cI a2 u.2.1 :: wHi cI cS a3 b3 u.2.2 (wSc cI a4 sc :: t)
theorem KR.eq {l : Launch} {y : MethodName} {ws : List Cond} {rm : Room} {D : va_G} {tys : List (ClassId × FieldType)} {av : List Value} {w : va_W} {r r' : Int32} (h : KR l y ws rm D tys av w r) (e : r = r') : KR l y ws rm D tys av w r' := e ▸ h
theorem KA.eq {l : Launch} {y : MethodName} {ws : List Cond} {rm : Room} {D : va_G} {tys : List (ClassId × FieldType)} {av : List Value} {w : va_W} {r r' : Value} (h : KA l y ws rm D tys av w r) (e : r = r') : KA l y ws rm D tys av w r' := e ▸ h
/-- a reader that answers a long -/
def QcLong (r : Int64) : Array Value → State → Outcome → State → Prop := fun _ st o t => o = .returned (some (.long r)) ∧ t.heap = st.heap
def KL (l : Launch) (y : MethodName) (ws : List Cond) (rm : Room) (D : va_G) (tys : List (ClassId × FieldType)) (av : List Value) (w : va_W) (r : Int64) : Prop := Met l y ws rm (PcR D tys av w) (QcLong r) 0 0 (fun _ => False)
theorem KL.of {l : Launch} {y : MethodName} {ws ws' : List Cond} {rm : Room} {D : va_G} {tys : List (ClassId × FieldType)} {av : List Value} {w : va_W} {cc : ByteArray} {maxL : Nat} {lv : List (Nat × Value)} {r : Int64} (hy : plainName y.cls = true) (hw : ws = Cond.code y cc maxL (some .long) :: ws') (hle : (lg_sl av).length ≤ maxL) (hlv : lv_args 0 av = lv)
    (body : ∀ (p : Program) (e : Env) (s : State) (m : MethodId) (args : Array Value) (below : List Frame) (meth : Method) (c : Code) (ls : Array Slot) (Q : State → Prop), p.tables.exec = Jvm.exec → c.code = cc → c.maxLocals = maxL → s.vm.findClass y.cls = some m.cls → (∀ w ∈ ws, w.before args s = true) → EV D tys s → va_P D vwCl w s.heap → lv_has ls maxL lv →
      (∀ (pc : Nat) (ls : Array Slot) (v : Int64), decode cc pc = .ok (.lreturn, 1) → r = v → W p l e rm s m args below meth c s.heap [] 0 0 Q (F0 m pc ls [.long v])) →
      W p l e rm s m args below meth c s.heap [] 0 0 Q (F0 m 0 ls [])) : KL l y ws rm D tys av w r := by
  refine Met.ofW (cc := cc) (maxL := maxL) (ret := some .long) hy hw ?_
  intro p e s m args below meth c s₁ B hml hv
  obtain ⟨rfl, hP, hE⟩ := hv
  have hl := lv_entry av (n := maxL) hle
  rw [hlv] at hl
  rw [lg_entry_eq]
  refine body p e s m _ below meth c _ _ B.exec B.bytes hml (findClass_of_methodNamed B.named) (atoms_spec (ws := ws) B.pre) hE hP hl (fun pc ls v hdg e1 => ?_)
  exact W.lret B.exec B.bytes B.returns (fun t ht _ => ⟨by rw [e1], ht⟩) (fun q hq => absurd hq List.not_mem_nil) hdg B.notSynchronized
/-- a method of the law that acts on the object, and makes cells of its own -/
abbrev PcQ (D : va_G) (tys : List (ClassId × FieldType)) (av : List Value) (w : va_W) (sz : Nat) : Array Value → State → Prop := va_Pc av (fun U => U.heap.size = sz ∧ va_P D vwCl w U.heap ∧ EV D tys U ∧ va_D (fun _ => True) w ∧ SX (va_A w sz) U U.heap)
theorem blQ {D : va_G} {tys : List (ClassId × FieldType)} {av : List Value} {w : va_W} {sz : Nat} : FrameBlind (PcQ D tys av w sz) := fun _ _ _ _ h => ⟨h.1, h.2.1, h.2.2.1, EV.call h.2.2.2.1, h.2.2.2.2.1, SX.call h.2.2.2.2.2⟩
def KQ (l : Launch) (y : MethodName) (ws : List Cond) (rm : Room) (D : va_G) (tys : List (ClassId × FieldType)) (av : List Value) (w : va_W) (mc ms : Nat) {S : Type} (post : Int32 → S → Prop) (w1 : S → va_W) : Prop := ∀ sz : Nat, Met l y ws rm (PcQ D tys av w sz) (va_Qi post (fun u t => va_P D vwCl (w1 u) t.heap) (va_A w sz)) mc ms (va_A w sz)
theorem KQ.of {l : Launch} {y : MethodName} {ws ws' : List Cond} {rm : Room} {D : va_G} {tys : List (ClassId × FieldType)} {av : List Value} {w : va_W} {mc ms : Nat} {cc : ByteArray} {maxL : Nat} {ty : FieldType} {lv : List (Nat × Value)} {S : Type} {post : Int32 → S → Prop} {w1 : S → va_W} (hy : plainName y.cls = true) (hw : ws = Cond.code y cc maxL (some ty) :: ws') (hle : (lg_sl av).length ≤ maxL) (hlv : lv_args 0 av = lv)
    (body : ∀ (p : Program) (e : Env) (s : State) (m : MethodId) (args : Array Value) (below : List Frame) (meth : Method) (c : Code) (ls : Array Slot) (Q : State → Prop) (A : Nat → Prop), p.tables.exec = Jvm.exec → c.code = cc → c.maxLocals = maxL → s.vm.findClass y.cls = some m.cls → (∀ w ∈ ws, w.before args s = true) → EV D tys s → va_P D vwCl w s.heap → va_D A w → (∀ q : Nat, s.heap.size ≤ q → A q) → va_S A s.heap s.heap [] → SX A s s.heap → lv_has ls maxL lv →
      (∀ (pc : Nat) (ls : Array Slot) (v : Int32) (u : S) (H : Heap) (locs : List Loc) (cells slots : Nat), decode cc pc = .ok (.ireturn, 1) → narrow ty (.int v) = .int v → cells ≤ mc → slots ≤ ms → post v u → va_P D vwCl (w1 u) H → va_S A s.heap H locs → W p l e rm s m args below meth c H locs cells slots Q (F0 m pc ls [.int v])) →
      W p l e rm s m args below meth c s.heap [] 0 0 Q (F0 m 0 ls [])) : KQ l y ws rm D tys av w mc ms post w1 := by
  intro sz
  refine Met.ofW (cc := cc) (maxL := maxL) (ret := some ty) hy hw ?_
  intro p e s m args below meth c s₁ B hml hv
  obtain ⟨rfl, hsz, hP, hE, hD, hX⟩ := hv
  subst hsz
  have hl := lv_entry av (n := maxL) hle
  rw [hlv] at hl
  rw [lg_entry_eq]
  refine body p e s m _ below meth c _ _ (va_A w s.heap.size) B.exec B.bytes hml (findClass_of_methodNamed B.named) (atoms_spec (ws := ws) B.pre) hE hP ⟨hD.1, fun k q h => Or.inl ⟨k, q.2, h⟩⟩ (fun q h => Or.inr h) va_S.rf hX hl (fun pc ls v u H locs cells slots hdg hn hc hs e1 hP1 hS => ?_)
  refine W.widen hc hs ?_
  exact W.zret B.exec B.bytes B.returns hn (fun t ht _ => ⟨⟨v, u, rfl, e1, by show va_P D vwCl (w1 u) t.heap; rw [ht]; exact hP1⟩, hS.F ht⟩) hS.2.2 hdg B.notSynchronized
section QCALL
variable {p : Program} {l : Launch} {e : Env} {R : Room} {s : State} {m : MethodId} {args : Array Value} {below : List Frame} {meth : Method} {c : Code} {H : Heap} {locs : List Loc} {cells slots : Nat} {Q : State → Prop}
variable {y : MethodName} {bytes cc : ByteArray} {maxL nL n index pc mc ms : Nat} {ret : Option FieldType} {ws : List Cond} {rm : Room} {Ts : List Cond} {own : String} {As rest st0 : List Value} {ls : Array Slot}
variable {D : va_G} {tys : List (ClassId × FieldType)} {W0 wc : List va_W} {A0 : Nat → Prop}
theorem bRS {r : Int32} (S : CallFix p m c cc nL s args Ts own) (hM : KR l y ws rm D tys As (fl wc) r) (cw : CallB R s args own index y bytes maxL ret ws rm 0 0 n ∧ (Cond.static y).before args s = true) (hE : EV D tys s) (hP : va_P D vwCl (fl W0) H)
    (is : List Nat) (hC : is.map (fun i => W0[i]?) = wc.map some) (hnd : va_nd is = true) (hn : As.length = n) (hls : ls.size = nL) (hst : st0 = As.reverse ++ rest) (hW : (rest.map fun v => v.category).sum ≤ 8) (hf : cells ≤ R.cells ∧ slots ≤ R.slots) (hdg : decode cc pc = .ok (.invokestatic index, 3))
    (kk : W p l e R s m args below meth c H locs cells slots Q (F0 m (pc + 3) ls (.int r :: rest))) : W p l e R s m args below meth c H locs cells slots Q (F0 m pc ls st0) := by
  have hPs := fl_sub hP hnd hC
  have hr := W.runS (l := l) (e := e) (below := below) (meth := meth) (H := H) (locs := locs) (cells := cells) (slots := slots) (g := F0 m pc ls st0) (rest := rest) S hM cw ⟨blR, fun U hU hW' => ⟨rfl, by rw [hU]; exact hPs, EV.warm hW' hE⟩⟩ rfl hn hls hst (lv_room (m := m) (pc := pc) (ls := ls) (rest := st0) hW) hdg hf
  intro T0 hT X
  obtain ⟨v, st₀, t, T', L, h0, X', hL, e1, ⟨hv, hh⟩, st⟩ := hr T0 hT X
  cases hv
  obtain ⟨t2, a1, b1⟩ := kk T' (by rw [e1, hh, h0]) (Stand.forget X' (fun q h => (hL q h).elim))
  exact ⟨t2, st t2 a1, b1⟩
theorem bLS {r : Int64} (S : CallFix p m c cc nL s args Ts own) (hM : KL l y ws rm D tys As (fl wc) r) (cw : CallB R s args own index y bytes maxL ret ws rm 0 0 n ∧ (Cond.static y).before args s = true) (hE : EV D tys s) (hP : va_P D vwCl (fl W0) H)
    (is : List Nat) (hC : is.map (fun i => W0[i]?) = wc.map some) (hnd : va_nd is = true) (hn : As.length = n) (hls : ls.size = nL) (hst : st0 = As.reverse ++ rest) (hW : (rest.map fun v => v.category).sum ≤ 8) (hf : cells ≤ R.cells ∧ slots ≤ R.slots) (hdg : decode cc pc = .ok (.invokestatic index, 3))
    (kk : W p l e R s m args below meth c H locs cells slots Q (F0 m (pc + 3) ls (.long r :: rest))) : W p l e R s m args below meth c H locs cells slots Q (F0 m pc ls st0) := by
  have hPs := fl_sub hP hnd hC
  have hr := W.runS (l := l) (e := e) (below := below) (meth := meth) (H := H) (locs := locs) (cells := cells) (slots := slots) (g := F0 m pc ls st0) (rest := rest) S hM cw ⟨blR, fun U hU hW' => ⟨rfl, by rw [hU]; exact hPs, EV.warm hW' hE⟩⟩ rfl hn hls hst (lv_room (m := m) (pc := pc) (ls := ls) (rest := st0) hW) hdg hf
  intro T0 hT X
  obtain ⟨v, st₀, t, T', L, h0, X', hL, e1, ⟨hv, hh⟩, st⟩ := hr T0 hT X
  cases hv
  obtain ⟨t2, a1, b1⟩ := kk T' (by rw [e1, hh, h0]) (Stand.forget X' (fun q h => (hL q h).elim))
  exact ⟨t2, st t2 a1, b1⟩
/-- a call of a method of the law, on the whole world -/
theorem bQS {w : va_W} {S : Type} {post : Int32 → S → Prop} {w1 : S → va_W} (S0 : CallFix p m c cc nL s args Ts own) (hM : KQ l y ws rm D tys As w mc ms post w1) (cw : CallB R s args own index y bytes maxL ret ws rm mc ms n ∧ (Cond.static y).before args s = true) (hE : EV D tys s) (hP : va_P D vwCl w H) (hD : va_D A0 w) (hA : ∀ q : Nat, s.heap.size ≤ q → A0 q) (hS : va_S A0 s.heap H locs) (hX : SX A0 s s.heap)
    (ha : ∀ u, (w1 u).map Prod.fst = w.map Prod.fst) (hn : As.length = n) (hls : ls.size = nL) (hst : st0 = As.reverse ++ rest) (hW : (rest.map fun v => v.category).sum ≤ 8) (hf : cells + mc ≤ R.cells ∧ slots + ms ≤ R.slots) (hdg : decode cc pc = .ok (.invokestatic index, 3))
    (kk : ∀ (r : Int32) (u : S) (H1 : Heap) (locs1 : List Loc), post r u → va_P D vwCl (w1 u) H1 → va_D A0 (w1 u) → va_S A0 s.heap H1 locs1 → W p l e R s m args below meth c H1 locs1 (cells + mc) (slots + ms) Q (F0 m (pc + 3) ls (.int r :: rest))) : W p l e R s m args below meth c H locs cells slots Q (F0 m pc ls st0) := by
  have hF : ∀ q : Nat, va_A w H.size q → A0 q := fun q h => h.elim (fun ⟨k, e, h1⟩ => hD.2 k (q, e) h1) (fun h1 => hA q (Nat.le_trans hS.1 h1))
  have hXs := (hX.kept hS.2.1).narrow (B := va_A w H.size) hF
  refine va_calli (va_runS (rest := rest) S0 (hM H.size) cw ⟨blQ, fun U hU hW' => ⟨rfl, by rw [hU], by rw [hU]; exact hP, EV.warm hW' hE, hD.weaken (fun _ _ _ _ => trivial), by rw [hU]; exact hXs.moved hW'.alike⟩⟩ rfl hn hls hst (lv_room (m := m) (pc := pc) (ls := ls) (rest := st0) hW) hdg hf) hS (fun q _ h => hF q h) hF (fun r u t H1 locs1 ht hvm hw hB hz1 hk1 hS1 => ?_)
  exact kk r u H1 locs1 hw (ht ▸ hB) (vaD_addr (ha u) hD) hS1
end QCALL
/-! the law's numbers: a cell of the script, and a number below a bound -/
def lowF (v n : Int32) : Int32 := (v &&& (2147483647 : Int32)) - (v &&& (2147483647 : Int32)) / n * n
theorem low_is (v : Int32) {n : Int32} {N : Nat} (hn : n = nI N) (h0 : 0 < N) (hN : N < 2 ^ 31) : ∃ j : Nat, j < N ∧ lowF v n = nI j := by
  subst hn
  unfold lowF
  have ha : v &&& (2147483647 : Int32) = nI (v.toBitVec.toNat % 2 ^ 31) := pk_and v 31 (by decide)
  have hb : v.toBitVec.toNat % 2 ^ 31 < 2 ^ 31 := Nat.mod_lt _ (by decide)
  rw [ha]
  generalize v.toBitVec.toNat % 2 ^ 31 = a at hb
  exact ⟨a % N, Nat.mod_lt _ h0, pk_rem hb h0 hN⟩
set_option maxHeartbeats 4000000 in
theorem kL_low (l : Launch) (D : va_G) (cI cS : ClassId) (v n : Int32) (hn : ¬ n = (0 : Int32)) : KR l yL_low wsL_low { frames := 0, cells := 0, slots := 0, locals := 0 } D (tysA cI cS) [.int v, .int n] [] (lowF v n) := by
  refine KR.of (cc := cL_low) (maxL := 2) (ty := .int) (by decide) rfl (Nat.le_of_ble_eq_true rfl) rfl (fun p e s m args below meth c ls Q hx hb hml hown hts hE hP hl hend => ?_)
  have hown : s.vm.findClass RL = some m.cls := hown
  have hl : lv_has ls 2 [(0, .int v), (1, .int n)] := hl
  refine lv_iload_n hx hb dL_low_0 rfl (lv_at hl 0 rfl) ?_
  refine lv_ldc (own := RL) (index := 9) (v := (2147483647 : Int32)) hx hb hown (hts (.constant RL 9 (2147483647)) (List.mem_of_getElem? (i := 1) rfl)) dL_low_1 ?_
  refine lv_iand hx hb dL_low_3 ?_
  refine lv_iload_n hx hb dL_low_4 rfl (lv_at hl 1 rfl) ?_
  refine lv_irem hx hb dL_low_5 hn ?_
  exact hend _ _ _ dL_low_6 rfl rfl
def cellF (L : Nat) (xs : Nat → Int32) (k : Int32) : Int32 := if Int32.ofNat L ≤ k then (836224489 : Int32) * (k + (5 : Int32)) + (750383527 : Int32) else xs k.toNatClampNeg
abbrev PcX (b L : Nat) (xs : Nat → Int32) (av : List Value) : Array Value → State → Prop := va_Pc av (fun U => va_X b L xs U U.heap ∧ b < U.heap.size)
theorem blX {b L : Nat} {xs : Nat → Int32} {av : List Value} : FrameBlind (PcX b L xs av) := fun _ U _ _ h => ⟨h.1, va_X.moved (u := U) (Vm.Alike.refl U.vm) h.2.1, h.2.2⟩
set_option maxHeartbeats 4000000 in
theorem kL_cell (l : Launch) (b L : Nat) (xs : Nat → Int32) (hL : L < 1000) (k : Nat) (hk : k < 1000) : Met l yL_cell wsL_cell { frames := 0, cells := 0, slots := 0, locals := 0 } (PcX b L xs [.ref b, .int (nI k)]) (QcRead (cellF L xs (nI k))) 0 0 (fun _ => False) := by
  refine Met.ofW (cc := cL_cell) (maxL := 2) (ret := some .int) (by decide) rfl ?_
  intro p e s m args below meth c s₁ B hml hv
  obtain ⟨rfl, hX, hbl⟩ := hv
  have hx := B.exec
  have hb := B.bytes
  have hown : s.vm.findClass RL = some m.cls := findClass_of_methodNamed B.named
  have hts := atoms_spec (ws := wsL_cell) B.pre
  have hl := lv_entry ([.ref b, .int (nI k)]) (n := 2) (Nat.le_of_ble_eq_true rfl)
  rw [lg_entry_eq]
  generalize (lg_sl ([.ref b, .int (nI k)]) ++ List.replicate (2 - (lg_sl ([.ref b, .int (nI k)])).length) Slot.unset).toArray = ls at hl ⊢
  have hl : lv_has ls 2 [(0, .ref b), (1, .int (nI k))] := hl
  have hS : va_S (fun _ => False) s.heap s.heap [] := va_S.rf
  refine lv_iload_n hx hb dL_cell_0 rfl (lv_at hl 1 rfl) ?_
  refine lv_aload_n hx hb dL_cell_1 rfl (lv_at hl 0 rfl) ?_
  refine va_slen hx hb hX hbl (fun q => q) hS dL_cell_2 ?_
  refine lv_icmp_ge (tgt := 12) hx hb dL_cell_3 (by decide) (fun c_3 => ?_) (fun c_3 => ?_)
  · refine lv_ldc (own := RL) (index := 7) (v := (836224489 : Int32)) hx hb hown (hts (.constant RL 7 (836224489)) (List.mem_of_getElem? (i := 1) rfl)) dL_cell_12 ?_
    refine lv_iload_n hx hb dL_cell_14 rfl (lv_at hl 1 rfl) ?_
    refine lv_iconst (v := (5 : Int32)) hx hb dL_cell_15 (by decide +kernel) ?_
    refine lv_iadd hx hb dL_cell_16 ?_
    refine lv_imul hx hb dL_cell_17 ?_
    refine lv_ldc (own := RL) (index := 8) (v := (750383527 : Int32)) hx hb hown (hts (.constant RL 8 (750383527)) (List.mem_of_getElem? (i := 2) rfl)) dL_cell_18 ?_
    refine lv_iadd hx hb dL_cell_20 ?_
    exact W.iret B.exec B.bytes B.returns (fun t ht _ => ⟨by unfold cellF; rw [if_pos c_3], ht⟩) (fun q hq => absurd hq List.not_mem_nil) dL_cell_21 B.notSynchronized
  · refine lv_aload_n hx hb dL_cell_6 rfl (lv_at hl 0 rfl) ?_
    refine lv_iload_n hx hb dL_cell_7 rfl (lv_at hl 1 rfl) ?_
    refine va_sld hx hb hX hbl (fun q => q) hS (vp_in_nI (Nat.lt_of_not_le (fun q => c_3 (nI_le q (by omega)))) (by omega)) dL_cell_8 ?_
    refine lv_goto (tgt := 21) hx hb dL_cell_9 (by decide) ?_
    exact W.iret B.exec B.bytes B.returns (fun t ht _ => ⟨by unfold cellF; rw [if_neg c_3], ht⟩) (fun q hq => absurd hq List.not_mem_nil) dL_cell_21 B.notSynchronized
