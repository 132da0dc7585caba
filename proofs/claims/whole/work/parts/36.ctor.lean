/-! constructors: one object comes in as it was made, a world of it goes out, its new cells behind it -/
theorem nd_iff : ∀ (l : List Nat), va_nd l = true ↔ l.Nodup
  | [] => by simp [va_nd]
  | a :: l => by simp [va_nd, nd_iff l]
theorem rng_map (W0 : va_W) (x : Nat × va_E) : (List.range W0.length).map (fun i => (W0 ++ [x])[i]?) = W0.map some := by
  apply List.ext_getElem
  · simp
  · intro i h1 h2
    have h : i < W0.length := by simpa using h2
    rw [List.getElem_map, List.getElem_map, List.getElem_range, List.getElem?_append_left h]
    exact List.getElem?_eq_getElem h
theorem ty_int {D : va_G} {cl : List vw_C} {cI cS cA : ClassId} {U : State} (h : va_K D cl (tysA cI cS ++ [(cA, .int)]) U) : cA = cI := by
  have h1 : U.vm.findClass ("[" ++ (FieldType.int).toString) = some cI := (h.2 0 _ rfl).2
  have h2 : U.vm.findClass ("[" ++ (FieldType.int).toString) = some cA := (h.2 2 _ rfl).2
  rw [h1] at h2
  exact (Option.some.inj h2).symm
def KC (l : Launch) (y : MethodName) (ws : List Cond) (rm : Room) (D : va_G) (tys : List (ClassId × FieldType)) (h0 k : Nat) (fs : List Value) (mc ms : Nat) {S : Type} (hd : S → Nat) (w1 : S → va_W) : Prop := ∀ sz : Nat, Met l y ws rm (va_Pc [.ref h0] (fun U => U.heap.size = sz ∧ va_P D vwCl [(h0, .inr (k, fs))] U.heap ∧ EV D tys U)) (va_Qv (fun (u : S) => hd u = h0) (fun u t => va_P D vwCl (w1 u) t.heap ∧ va_D (va_A [(h0, .inr (k, fs))] sz) (w1 u)) (va_A [(h0, .inr (k, fs))] sz)) mc ms (va_A [(h0, .inr (k, fs))] sz)
theorem KC.of {l : Launch} {y : MethodName} {ws ws' : List Cond} {rm : Room} {D : va_G} {tys : List (ClassId × FieldType)} {h0 k : Nat} {fs : List Value} {mc ms : Nat} {cc : ByteArray} {maxL : Nat} {S : Type} {hd : S → Nat} {w1 : S → va_W} (hy : plainName y.cls = true) (hi : y.name = "<init>") (hw : ws = Cond.code y cc maxL none :: ws') (hle : 1 ≤ maxL)
    (body : ∀ (p : Program) (e : Env) (s : State) (m : MethodId) (args : Array Value) (below : List Frame) (meth : Method) (c : Code) (ls : Array Slot) (Q : State → Prop) (A : Nat → Prop), p.tables.exec = Jvm.exec → c.code = cc → c.maxLocals = maxL → s.vm.findClass y.cls = some m.cls → (∀ w ∈ ws, w.before args s = true) → meth.name = "<init>" → EV D tys s → va_P D vwCl [(h0, .inr (k, fs))] s.heap → va_D A [(h0, .inr (k, fs))] → (∀ q : Nat, s.heap.size ≤ q → A q) → va_S A s.heap s.heap [] → lv_has ls maxL [(0, .ref h0)] →
      (∀ (pc : Nat) (ls : Array Slot) (u : S) (H : Heap) (locs : List Loc), decode cc pc = .ok (.return_, 1) → hd u = h0 → va_P D vwCl (w1 u) H → va_D A (w1 u) → va_S A s.heap H locs → W p l e rm s m args below meth c H locs mc ms Q (F0 m pc ls [])) →
      W p l e rm s m args below meth c s.heap [] 0 0 Q (F0 m 0 ls [])) : KC l y ws rm D tys h0 k fs mc ms hd w1 := by
  intro sz
  refine Met.ofW (cc := cc) (maxL := maxL) (ret := none) hy hw ?_
  intro p e s m args below meth c s₁ B hml hv
  obtain ⟨rfl, hsz, hP, hE⟩ := hv
  subst hsz
  have hl := lv_entry ([.ref h0]) (n := maxL) hle
  rw [lg_entry_eq]
  refine body p e s m _ below meth c _ _ (va_A [(h0, .inr (k, fs))] s.heap.size) B.exec B.bytes hml (findClass_of_methodNamed B.named) (atoms_spec (ws := ws) B.pre) ((name_of_methodNamed B.named B.method).1.trans hi) hE hP ?_ (fun q h => Or.inr h) va_S.rf hl (fun pc ls u H locs hdg e1 hP1 hD1 hS => ?_)
  · refine ⟨fun i j x z hi hj _ => ?_, fun i x hi => Or.inl ⟨i, x.2, hi⟩⟩
    have a1 := (List.getElem?_eq_some_iff.mp hi).1
    have a2 := (List.getElem?_eq_some_iff.mp hj).1
    simp only [List.length_singleton] at a1 a2
    omega
  · exact W.vret B.exec B.bytes B.returns (fun t ht _ => ⟨⟨u, rfl, e1, by rw [ht]; exact hP1, hD1⟩, hS.F ht⟩) hS.2.2 hdg B.notSynchronized
section KCCALL
variable {p : Program} {l : Launch} {e : Env} {R : Room} {s : State} {m : MethodId} {args : Array Value} {below : List Frame} {meth : Method} {c : Code} {H : Heap} {locs : List Loc} {cells slots : Nat} {Q : State → Prop}
variable {y : MethodName} {bytes cc : ByteArray} {maxL nL index pc mc ms q k : Nat} {ws : List Cond} {rm : Room} {Ts : List Cond} {own : String} {rest st0 fs : List Value} {ls : Array Slot}
variable {D : va_G} {tys : List (ClassId × FieldType)} {W0 : va_W} {A0 : Nat → Prop} {H0 : Heap}
theorem join_last {A : Nat → Prop} {H1 : Heap} {w1 : va_W} (hP : va_P D vwCl (W0 ++ [(q, .inr (k, fs))]) H) (hD : va_D A (W0 ++ [(q, .inr (k, fs))])) (hk : ∀ b : Nat, b < H.size → ¬ va_A [(q, .inr (k, fs))] H.size b → H1[b]? = H[b]?) (hF : ∀ b, va_A [(q, .inr (k, fs))] H.size b → A b) (hP1 : va_P D vwCl w1 H1) (hD1 : va_D (va_A [(q, .inr (k, fs))] H.size) w1) : va_P D vwCl (W0 ++ w1) H1 ∧ va_D A (W0 ++ w1) := by
  refine va_join (wc := [(q, .inr (k, fs))]) hP hD [W0.length] (List.range W0.length) ?_ (rng_map W0 _) ((nd_iff _).mpr List.nodup_range) (fun i hi hj => ?_) hk hF hP1 hD1
  · rw [List.map_cons, List.getElem?_append_right (Nat.le_refl _), Nat.sub_self]; rfl
  · have h1 := List.mem_range.mp hi
    have h2 := List.mem_singleton.mp hj
    omega
theorem cCI {S : Type} {hd : S → Nat} {w1 : S → va_W} (S0 : CallFix p m c cc nL s args Ts own) (hM : KC l y ws rm D tys q k fs mc ms hd w1) (cw : CallB R s args own index y bytes maxL none ws rm mc ms 0 ∧ y.name = "<init>" ∧ (Cond.instanceMethod y).before args s = true) (hE : EV D tys s) (hP : va_P D vwCl (W0 ++ [(q, .inr (k, fs))]) H) (hD : va_D A0 (W0 ++ [(q, .inr (k, fs))])) (hS : va_S A0 H0 H locs) (hA : ∀ b, H0.size ≤ b → A0 b)
    (hls : ls.size = nL) (hst : st0 = .ref q :: rest) (hW : (rest.map fun v => v.category).sum ≤ 8) (hf : cells + mc ≤ R.cells ∧ slots + ms ≤ R.slots) (hdg : decode cc pc = .ok (.invokespecial index, 3))
    (kk : ∀ (u : S) (H1 : Heap) (locs1 : List Loc), hd u = q → va_P D vwCl (W0 ++ w1 u) H1 → va_D A0 (W0 ++ w1 u) → va_S A0 H0 H1 locs1 → W p l e R s m args below meth c H1 locs1 (cells + mc) (slots + ms) Q (F0 m (pc + 3) ls rest)) : W p l e R s m args below meth c H locs cells slots Q (F0 m pc ls st0) := by
  have hC : [W0.length].map (fun i => (W0 ++ [(q, .inr (k, fs))])[i]?) = [(q, (.inr (k, fs) : va_E))].map some := by
    rw [List.map_cons, List.getElem?_append_right (Nat.le_refl _), Nat.sub_self]; rfl
  have hPc := mg_sub hP hC
  have hFc := va_free (wc := [(q, .inr (k, fs))]) hD hS hA [W0.length] hC
  refine va_callv (va_runI (As := []) (rest := rest) S0 (hM H.size) cw ⟨fun _ _ _ _ h => ⟨h.1, h.2.1, h.2.2.1, EV.call h.2.2.2⟩, fun U hU hW' => ⟨rfl, by rw [hU], by rw [hU]; exact hPc, EV.warm hW' hE⟩⟩ rfl rfl hls hst (lv_room (m := m) (pc := pc) (ls := ls) (rest := st0) hW) hdg hf) hS (fun b _ h => hFc b h) hFc (fun u t H1 locs1 ht hvm h5 hB hz1 hk1 hS1 => ?_)
  obtain ⟨hP1, hD1⟩ := hB
  rw [ht] at hP1
  obtain ⟨hP2, hD2⟩ := join_last hP hD hk1 hFc hP1 hD1
  exact kk u H1 locs1 h5 hP2 hD2 hS1
theorem cCIN {host : String} {S : Type} {hd : S → Nat} {w1 : S → va_W} (S0 : CallFix p m c cc nL s args Ts own) (hM : KC l y ws rm D tys q k fs mc ms hd w1) (cw : va_CN R s args own index y host bytes maxL none ws rm mc ms 0 ∧ y.name = "<init>" ∧ (Cond.instanceMethod y).before args s = true) (hE : EV D tys s) (hP : va_P D vwCl (W0 ++ [(q, .inr (k, fs))]) H) (hD : va_D A0 (W0 ++ [(q, .inr (k, fs))])) (hS : va_S A0 H0 H locs) (hA : ∀ b, H0.size ≤ b → A0 b)
    (hls : ls.size = nL) (hst : st0 = .ref q :: rest) (hW : (rest.map fun v => v.category).sum ≤ 8) (hf : cells + mc ≤ R.cells ∧ slots + ms ≤ R.slots) (hdg : decode cc pc = .ok (.invokespecial index, 3))
    (kk : ∀ (u : S) (H1 : Heap) (locs1 : List Loc), hd u = q → va_P D vwCl (W0 ++ w1 u) H1 → va_D A0 (W0 ++ w1 u) → va_S A0 H0 H1 locs1 → W p l e R s m args below meth c H1 locs1 (cells + mc) (slots + ms) Q (F0 m (pc + 3) ls rest)) : W p l e R s m args below meth c H locs cells slots Q (F0 m pc ls st0) := by
  have hC : [W0.length].map (fun i => (W0 ++ [(q, .inr (k, fs))])[i]?) = [(q, (.inr (k, fs) : va_E))].map some := by
    rw [List.map_cons, List.getElem?_append_right (Nat.le_refl _), Nat.sub_self]; rfl
  have hPc := mg_sub hP hC
  have hFc := va_free (wc := [(q, .inr (k, fs))]) hD hS hA [W0.length] hC
  refine va_callv (va_runIN (As := []) (rest := rest) S0 (hM H.size) cw ⟨fun _ _ _ _ h => ⟨h.1, h.2.1, h.2.2.1, EV.call h.2.2.2⟩, fun U hU hW' => ⟨rfl, by rw [hU], by rw [hU]; exact hPc, EV.warm hW' hE⟩⟩ rfl rfl hls hst (lv_room (m := m) (pc := pc) (ls := ls) (rest := st0) hW) hdg hf) hS (fun b _ h => hFc b h) hFc (fun u t H1 locs1 ht hvm h5 hB hz1 hk1 hS1 => ?_)
  obtain ⟨hP1, hD1⟩ := hB
  rw [ht] at hP1
  obtain ⟨hP2, hD2⟩ := join_last hP hD hk1 hFc hP1 hD1
  exact kk u H1 locs1 h5 hP2 hD2 hS1
end KCCALL
/-- addresses in a row -/
def lsa (l : List Nat) : Nat → Nat := fun i => (l[i]?).getD 0
set_option maxHeartbeats 4000000 in
set_option maxRecDepth 100000 in
theorem kX3_init (l : Launch) (D : va_G) (cI cS : ClassId) (h0 : Nat) : KC l yX3_init wsX3_init { frames := 1, cells := 1, slots := 32, locals := 23 } D (tysA cI cS) h0 3 [.null] 1 32 (fun u : Nat → Nat => u 0) (fun u => [((u 0), .inr (3, [.ref (u 1)])), ((u 1), .inl (cI, 32, .inl u_18))]) := by
  refine KC.of (cc := cX3_init) (maxL := 1) (by decide) rfl rfl (Nat.le_of_ble_eq_true rfl) (fun p e s m args below meth c ls Q A hx hb hml hown hts hin hE hP hD hA hS hl hend => ?_)
  have hown : s.vm.findClass RX3 = some m.cls := hown
  have hl : lv_has ls 1 [(0, .ref h0)] := hl
  refine lv_aload_n hx hb dX3_init_0 rfl (lv_at hl 0 rfl) ?_
  refine W.objInit hx hb hown (hts (.methodLink RX3 3 objectInit) (List.mem_of_getElem? (i := 1) rfl)) (hts (.instanceMethod objectInit) (List.mem_of_getElem? (i := 2) rfl)) (hts (.code objectInit ⟨#[0xb1]⟩ 1 none) (List.mem_of_getElem? (i := 3) rfl)) rfl (by rw [hml]; exact hl.1) rfl dX3_init_1 (Nat.le_of_ble_eq_true rfl) (Nat.le_of_ble_eq_true rfl) ?_
  refine W.eq (g2 := F0 m 4 ls []) rfl ?_
  refine lv_aload_n hx hb dX3_init_4 rfl (lv_at hl 0 rfl) ?_
  refine lv_bipush (v := (32 : Int32)) hx hb dX3_init_5 (by decide +kernel) ?_
  refine va_newa (atype := .int) (a0 := (32, .inl (fun _ => (0 : Int32)))) (N' := 32) hx hb (hts (.arrayClass .int) (List.mem_of_getElem? (i := 4) rfl)) rfl hE.1 hP hD hS hA (fun _ => rfl) (by decide) cl_32 (by decide) (by decide) (by decide) dX3_init_7 (fun q7 cA H hK hP hD hS => ?_)
  have hc := ty_int hK
  rw [hc] at hP hD
  have hP : va_P D vwCl [(h0, .inr (3, [.null])), (q7, .inl (cI, 32, .inl (fun _ => (0 : Int32))))] H := hP
  have hD : va_D A [(h0, .inr (3, [.null])), (q7, .inl (cI, 32, .inl (fun _ => (0 : Int32))))] := hD
  refine va_putF (D := D) (ci := 3) (v := .ref q7) (ty := (.array .int)) (C := RX3) (T := TX3) (N := 1) hx hb hts (fun _ h9 => List.mem_cons_of_mem _ (List.mem_append_right _ h9)) tyX3 tyX3_ok nmX3 hown hE.1 hP hD hS 0 rfl rfl 0 (by decide) (hts (.fieldLink RX3 9 "ShadowTable$Rows" "values" "[I") (List.mem_of_getElem? (i := 5) rfl)) (fun _ h9 => h9) rfl hin rfl (by decide +kernel) rfl rfl (Nat.le_of_ble_eq_true rfl) dX3_init_9 (fun H locs hP hD hS => ?_)
  have hP : va_P D vwCl [(h0, .inr (3, [.ref q7])), (q7, .inl (cI, 32, .inl (fun _ => (0 : Int32))))] H := hP
  have hD : va_D A [(h0, .inr (3, [.ref q7])), (q7, .inl (cI, 32, .inl (fun _ => (0 : Int32))))] := hD
  refine lv_aload_n hx hb dX3_init_12 rfl (lv_at hl 0 rfl) ?_
  refine va_get (D := D) (ci := 3) (v := .ref q7) (C := RX3) (T := TX3) (N := 1) hx hb hts (fun _ h9 => List.mem_cons_of_mem _ (List.mem_append_right _ h9)) hown hE.1 hP 0 rfl rfl 0 (by decide) (hts (.fieldLink RX3 9 "ShadowTable$Rows" "values" "[I") (List.mem_of_getElem? (i := 5) rfl)) (fun _ h9 => h9) rfl dX3_init_13 ?_
  refine lv_bipush (v := (-5 : Int32)) hx hb dX3_init_16 (by decide +kernel) ?_
  refine cVS ⟨hx, hb, hml, hown, hts⟩ (kJ7_fill_53178 l D cI cS q7 (-5 : Int32) (fun _ => (0 : Int32))) (va_cwS 2 hts gX3_init_J7_fill_53178 rfl rfl rfl (by decide +kernel) ⟨Nat.le_of_ble_eq_true rfl, Nat.le_of_ble_eq_true rfl⟩) hE hP hD hS [1] rfl (by decide) (fun _ => rfl) rfl hl.1 rfl (Nat.le_of_ble_eq_true rfl) ⟨Nat.zero_le _, Nat.zero_le _⟩ dX3_init_18 (fun u_18 H locs e_18 hP hD hS => ?_)
  have hP : va_P D vwCl [(h0, .inr (3, [.ref q7])), (q7, .inl (cI, 32, .inl u_18))] H := hP
  have hD : va_D A [(h0, .inr (3, [.ref q7])), (q7, .inl (cI, 32, .inl u_18))] := hD
  exact hend _ _ (lsa [h0, q7]) _ _ dX3_init_21 rfl hP hD hS

set_option maxHeartbeats 4000000 in
set_option maxRecDepth 100000 in
theorem kX2_init (l : Launch) (D : va_G) (cI cS : ClassId) (h0 : Nat) : KC l yX2_init wsX2_init { frames := 1, cells := 2, slots := 48, locals := 20 } D (tysA cI cS) h0 2 [.null, .null, .int (0 : Int32), .int (0 : Int32)] 2 48 (fun u : Nat → Nat => u 0) (fun u => [((u 0), .inr (2, [.ref (u 1), .ref (u 2), .int (0 : Int32), .int (0 : Int32)])), ((u 1), .inl (cI, 24, .inl (fun _ => (0 : Int32)))), ((u 2), .inl (cI, 24, .inl (fun _ => (0 : Int32))))]) := by
  refine KC.of (cc := cX2_init) (maxL := 1) (by decide) rfl rfl (Nat.le_of_ble_eq_true rfl) (fun p e s m args below meth c ls Q A hx hb hml hown hts hin hE hP hD hA hS hl hend => ?_)
  have hown : s.vm.findClass RX2 = some m.cls := hown
  have hl : lv_has ls 1 [(0, .ref h0)] := hl
  refine lv_aload_n hx hb dX2_init_0 rfl (lv_at hl 0 rfl) ?_
  refine W.objInit hx hb hown (hts (.methodLink RX2 3 objectInit) (List.mem_of_getElem? (i := 1) rfl)) (hts (.instanceMethod objectInit) (List.mem_of_getElem? (i := 2) rfl)) (hts (.code objectInit ⟨#[0xb1]⟩ 1 none) (List.mem_of_getElem? (i := 3) rfl)) rfl (by rw [hml]; exact hl.1) rfl dX2_init_1 (Nat.le_of_ble_eq_true rfl) (Nat.le_of_ble_eq_true rfl) ?_
  refine W.eq (g2 := F0 m 4 ls []) rfl ?_
  refine lv_aload_n hx hb dX2_init_4 rfl (lv_at hl 0 rfl) ?_
  refine lv_bipush (v := (24 : Int32)) hx hb dX2_init_5 (by decide +kernel) ?_
  refine va_newa (atype := .int) (a0 := (24, .inl (fun _ => (0 : Int32)))) (N' := 24) hx hb (hts (.arrayClass .int) (List.mem_of_getElem? (i := 4) rfl)) rfl hE.1 hP hD hS hA (fun _ => rfl) (by decide) cl_24 (by decide) (by decide) (by decide) dX2_init_7 (fun q7 cA H hK hP hD hS => ?_)
  have hc := ty_int hK
  rw [hc] at hP hD
  have hP : va_P D vwCl [(h0, .inr (2, [.null, .null, .int (0 : Int32), .int (0 : Int32)])), (q7, .inl (cI, 24, .inl (fun _ => (0 : Int32))))] H := hP
  have hD : va_D A [(h0, .inr (2, [.null, .null, .int (0 : Int32), .int (0 : Int32)])), (q7, .inl (cI, 24, .inl (fun _ => (0 : Int32))))] := hD
  refine va_putF (D := D) (ci := 2) (v := .ref q7) (ty := (.array .int)) (C := RX2) (T := TX2) (N := 4) hx hb hts (fun _ h9 => List.mem_cons_of_mem _ (List.mem_append_right _ h9)) tyX2 tyX2_ok nmX2 hown hE.1 hP hD hS 0 rfl rfl 0 (by decide) (hts (.fieldLink RX2 9 "ShadowTable$Log" "keys" "[I") (List.mem_of_getElem? (i := 5) rfl)) (fun _ h9 => h9) rfl hin rfl (by decide +kernel) rfl rfl (Nat.le_of_ble_eq_true rfl) dX2_init_9 (fun H locs hP hD hS => ?_)
  have hP : va_P D vwCl [(h0, .inr (2, [.ref q7, .null, .int (0 : Int32), .int (0 : Int32)])), (q7, .inl (cI, 24, .inl (fun _ => (0 : Int32))))] H := hP
  have hD : va_D A [(h0, .inr (2, [.ref q7, .null, .int (0 : Int32), .int (0 : Int32)])), (q7, .inl (cI, 24, .inl (fun _ => (0 : Int32))))] := hD
  refine lv_aload_n hx hb dX2_init_12 rfl (lv_at hl 0 rfl) ?_
  refine lv_bipush (v := (24 : Int32)) hx hb dX2_init_13 (by decide +kernel) ?_
  refine va_newa (atype := .int) (a0 := (24, .inl (fun _ => (0 : Int32)))) (N' := 24) hx hb (hts (.arrayClass .int) (List.mem_of_getElem? (i := 4) rfl)) rfl hE.1 hP hD hS hA (fun _ => rfl) (by decide) cl_24 (by decide) (by decide) (by decide) dX2_init_15 (fun q15 cA H hK hP hD hS => ?_)
  have hc := ty_int hK
  rw [hc] at hP hD
  have hP : va_P D vwCl [(h0, .inr (2, [.ref q7, .null, .int (0 : Int32), .int (0 : Int32)])), (q7, .inl (cI, 24, .inl (fun _ => (0 : Int32)))), (q15, .inl (cI, 24, .inl (fun _ => (0 : Int32))))] H := hP
  have hD : va_D A [(h0, .inr (2, [.ref q7, .null, .int (0 : Int32), .int (0 : Int32)])), (q7, .inl (cI, 24, .inl (fun _ => (0 : Int32)))), (q15, .inl (cI, 24, .inl (fun _ => (0 : Int32))))] := hD
  refine va_putF (D := D) (ci := 2) (v := .ref q15) (ty := (.array .int)) (C := RX2) (T := TX2) (N := 4) hx hb hts (fun _ h9 => List.mem_cons_of_mem _ (List.mem_append_right _ h9)) tyX2 tyX2_ok nmX2 hown hE.1 hP hD hS 0 rfl rfl 1 (by decide) (hts (.fieldLink RX2 15 "ShadowTable$Log" "values" "[I") (List.mem_of_getElem? (i := 6) rfl)) (fun _ h9 => h9) rfl hin rfl (by decide +kernel) rfl rfl (Nat.le_of_ble_eq_true rfl) dX2_init_17 (fun H locs hP hD hS => ?_)
  have hP : va_P D vwCl [(h0, .inr (2, [.ref q7, .ref q15, .int (0 : Int32), .int (0 : Int32)])), (q7, .inl (cI, 24, .inl (fun _ => (0 : Int32)))), (q15, .inl (cI, 24, .inl (fun _ => (0 : Int32))))] H := hP
  have hD : va_D A [(h0, .inr (2, [.ref q7, .ref q15, .int (0 : Int32), .int (0 : Int32)])), (q7, .inl (cI, 24, .inl (fun _ => (0 : Int32)))), (q15, .inl (cI, 24, .inl (fun _ => (0 : Int32))))] := hD
  exact hend _ _ (lsa [h0, q7, q15]) _ _ dX2_init_20 rfl hP hD hS
