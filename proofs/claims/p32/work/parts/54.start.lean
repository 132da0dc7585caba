/-! what the tables and the start say -/
abbrev Anew (s : State) : Nat → Prop := fun q => s.heap.size ≤ q
theorem start_F {A : Array Value} {s : State} (hts0 : ∀ w ∈ lw_tbl, w.before A s = true) : ∀ q ∈ nwF, va_Nw (.fieldLinkNest q.1 q.2.1 q.2.2.1 q.2.2.2.1 q.2.2.2.2 RX6) s :=
  List.forall_mem_cons.mpr ⟨va_Nw.of rfl (hts0 (.fieldLinkNest RX0 64 RX2 "size" "I" RX6) (lwm_1 (List.mem_of_getElem? (i := 56) (by decide +kernel)))), List.forall_mem_cons.mpr ⟨va_Nw.of rfl (hts0 (.fieldLinkNest RX5 123 RX2 "size" "I" RX6) (lwm_1 (List.mem_of_getElem? (i := 57) (by decide +kernel)))), List.forall_mem_cons.mpr ⟨va_Nw.of rfl (hts0 (.fieldLinkNest RX5 129 RX0 "shadow" "LShadowTable$Rows;" RX6) (lwm_1 (List.mem_of_getElem? (i := 68) (by decide +kernel)))), List.forall_mem_cons.mpr ⟨va_Nw.of rfl (hts0 (.fieldLinkNest RX5 75 RX0 "log" "LShadowTable$Log;" RX6) (lwm_1 (List.mem_of_getElem? (i := 70) (by decide +kernel)))), List.forall_mem_cons.mpr ⟨va_Nw.of rfl (hts0 (.fieldLinkNest RX6 152 RX0 "log" "LShadowTable$Log;" RX6) (lwm_1 (List.mem_of_getElem? (i := 71) (by decide +kernel)))), List.forall_mem_cons.mpr ⟨va_Nw.of rfl (hts0 (.fieldLinkNest RX5 59 RX0 "phase" "I" RX6) (lwm_1 (List.mem_of_getElem? (i := 73) (by decide +kernel)))), List.forall_mem_cons.mpr ⟨va_Nw.of rfl (hts0 (.fieldLinkNest RX5 132 RX0 "kind" "I" RX6) (lwm_1 (List.mem_of_getElem? (i := 75) (by decide +kernel)))), List.forall_mem_cons.mpr ⟨va_Nw.of rfl (hts0 (.fieldLinkNest RX5 148 RX0 "lot" "I" RX6) (lwm_1 (List.mem_of_getElem? (i := 77) (by decide +kernel)))), List.forall_mem_cons.mpr ⟨va_Nw.of rfl (hts0 (.fieldLinkNest RX6 199 RX0 "lot" "I" RX6) (lwm_1 (List.mem_of_getElem? (i := 78) (by decide +kernel)))), List.forall_mem_cons.mpr ⟨va_Nw.of rfl (hts0 (.fieldLinkNest RX5 145 RX0 "cursor" "I" RX6) (lwm_1 (List.mem_of_getElem? (i := 80) (by decide +kernel)))), List.forall_mem_cons.mpr ⟨va_Nw.of rfl (hts0 (.fieldLinkNest RX6 202 RX0 "cursor" "I" RX6) (lwm_1 (List.mem_of_getElem? (i := 81) (by decide +kernel)))), List.forall_mem_cons.mpr ⟨va_Nw.of rfl (hts0 (.fieldLinkNest RX5 120 RX0 "age" "I" RX6) (lwm_1 (List.mem_of_getElem? (i := 83) (by decide +kernel)))), List.forall_mem_cons.mpr ⟨va_Nw.of rfl (hts0 (.fieldLinkNest RX0 64 RX2 "size" "I" RX6) (lwm_1 (List.mem_of_getElem? (i := 56) (by decide +kernel)))), List.forall_mem_cons.mpr ⟨va_Nw.of rfl (hts0 (.fieldLinkNest RX6 142 RX5 "copy" "LShadowTable$Copy;" RX6) (lwm_1 (List.mem_of_getElem? (i := 103) (by decide +kernel)))), List.forall_mem_cons.mpr ⟨va_Nw.of rfl (hts0 (.fieldLinkNest RX6 180 RX5 "settings" "[I" RX6) (lwm_1 (List.mem_of_getElem? (i := 105) (by decide +kernel)))), List.forall_mem_cons.mpr ⟨va_Nw.of rfl (hts0 (.fieldLinkNest RX6 184 RX5 "totals" "[I" RX6) (lwm_1 (List.mem_of_getElem? (i := 107) (by decide +kernel)))), List.forall_mem_cons.mpr ⟨va_Nw.of rfl (hts0 (.fieldLinkNest RX0 64 RX2 "size" "I" RX6) (lwm_1 (List.mem_of_getElem? (i := 56) (by decide +kernel)))), List.forall_mem_cons.mpr ⟨va_Nw.of rfl (hts0 (.fieldLinkNest RX0 64 RX2 "size" "I" RX6) (lwm_1 (List.mem_of_getElem? (i := 56) (by decide +kernel)))), List.forall_mem_cons.mpr ⟨va_Nw.of rfl (hts0 (.fieldLinkNest RX0 64 RX2 "size" "I" RX6) (lwm_1 (List.mem_of_getElem? (i := 56) (by decide +kernel)))), List.forall_mem_cons.mpr ⟨va_Nw.of rfl (hts0 (.fieldLinkNest RX0 64 RX2 "size" "I" RX6) (lwm_1 (List.mem_of_getElem? (i := 56) (by decide +kernel)))), List.forall_mem_cons.mpr ⟨va_Nw.of rfl (hts0 (.fieldLinkNest RX5 157 RX6 "LEAST_OF_SETTING" "[I" RX6) (lwm_3 (List.mem_of_getElem? (i := 51) (by decide +kernel)))), List.forall_mem_cons.mpr ⟨va_Nw.of rfl (hts0 (.fieldLinkNest RX5 160 RX6 "MOST_OF_SETTING" "[I" RX6) (lwm_3 (List.mem_of_getElem? (i := 53) (by decide +kernel)))), fun _ h => absurd h List.not_mem_nil⟩⟩⟩⟩⟩⟩⟩⟩⟩⟩⟩⟩⟩⟩⟩⟩⟩⟩⟩⟩⟩⟩
theorem start_M {A : Array Value} {s : State} (hts0 : ∀ w ∈ lw_tbl, w.before A s = true) : ∀ q ∈ nwM, va_Nw (.methodLinkNest q.1 q.2.1 q.2.2 RX6) s :=
  List.forall_mem_cons.mpr ⟨va_Nw.of rfl (hts0 (.methodLinkNest RX6 9 yX5_init RX6) (lwm_1 (List.mem_of_getElem? (i := 20) (by decide +kernel)))), List.forall_mem_cons.mpr ⟨va_Nw.of rfl (hts0 (.methodLinkNest RX5 23 yX0_init RX6) (lwm_1 (List.mem_of_getElem? (i := 40) (by decide +kernel)))), List.forall_mem_cons.mpr ⟨va_Nw.of rfl (hts0 (.methodLinkNest RX0 20 yX2_init RX6) (lwm_1 (List.mem_of_getElem? (i := 48) (by decide +kernel)))), List.forall_mem_cons.mpr ⟨va_Nw.of rfl (hts0 (.methodLinkNest RX1 17 yX5_init RX6) (lwm_1 (List.mem_of_getElem? (i := 129) (by decide +kernel)))), List.forall_mem_cons.mpr ⟨va_Nw.of rfl (hts0 (.methodLinkNest RX6 31 yX4_init RX6) (lwm_1 (List.mem_of_getElem? (i := 142) (by decide +kernel)))), List.forall_mem_cons.mpr ⟨va_Nw.of rfl (hts0 (.methodLinkNest RX5 52 yX6_isKey RX6) (lwm_2 (List.mem_of_getElem? (i := 205) (by decide +kernel)))), List.forall_mem_cons.mpr ⟨va_Nw.of rfl (hts0 (.methodLinkNest RX5 56 yX6_isValue RX6) (lwm_2 (List.mem_of_getElem? (i := 226) (by decide +kernel)))), List.forall_mem_cons.mpr ⟨va_Nw.of rfl (hts0 (.methodLinkNest RX5 92 yX6_isKind RX6) (lwm_2 (List.mem_of_getElem? (i := 235) (by decide +kernel)))), List.forall_mem_cons.mpr ⟨va_Nw.of rfl (hts0 (.methodLinkNest RX5 95 yX6_isLot RX6) (lwm_2 (List.mem_of_getElem? (i := 236) (by decide +kernel)))), List.forall_mem_cons.mpr ⟨va_Nw.of rfl (hts0 (.methodLinkNest RX5 105 yX6_isTicks RX6) (lwm_2 (List.mem_of_getElem? (i := 167) (by decide +kernel)))), List.forall_mem_cons.mpr ⟨va_Nw.of rfl (hts0 (.methodLinkNest RX5 138 yX6_changedValue RX6) (lwm_2 (List.mem_of_getElem? (i := 31) (by decide +kernel)))), List.forall_mem_cons.mpr ⟨va_Nw.of rfl (hts0 (.methodLinkNest RX0 52 yX6_changedValue RX6) (lwm_2 (List.mem_of_getElem? (i := 119) (by decide +kernel)))), List.forall_mem_cons.mpr ⟨va_Nw.of rfl (hts0 (.methodLinkNest RX5 154 yX6_isSetting RX6) (lwm_3 (List.mem_of_getElem? (i := 50) (by decide +kernel)))), List.forall_mem_cons.mpr ⟨va_Nw.of rfl (hts0 (.methodLinkNest RX5 163 yX6_isIn RX6) (lwm_3 (List.mem_of_getElem? (i := 55) (by decide +kernel)))), List.forall_mem_cons.mpr ⟨va_Nw.of rfl (hts0 (.methodLinkNest RX6 9 yX5_init RX6) (lwm_1 (List.mem_of_getElem? (i := 20) (by decide +kernel)))), fun _ h => absurd h List.not_mem_nil⟩⟩⟩⟩⟩⟩⟩⟩⟩⟩⟩⟩⟩⟩⟩
theorem start_AO {A : Array Value} {s : State} (hts0 : ∀ w ∈ lw_tbl, w.before A s = true) : va_AO RX5 s := va_AO.of (hts0 (.arrayOver (.object RX5)) (lwm_1 (List.mem_of_getElem? (i := 128) (by decide +kernel))))
theorem start_cI {A : Array Value} {s : State} (hts0 : ∀ w ∈ lw_tbl, w.before A s = true) : ∃ cI : ClassId, ArrOfT s cI .int ∧ va_RA s cI .int := by
  obtain ⟨cA, kA, comp, h1, h2, h3⟩ := Cond.arrayClass_spec (hts0 (.arrayClass .int) (lwm_1 (List.mem_of_getElem? (i := 37) (by decide +kernel))))
  exact ⟨cA, fun n z => ⟨fun k h => (by cases h), kA, h2, comp, h3⟩, h1⟩
theorem start_cS {s : State} (hO : va_AO RX5 s) : ∃ cS : ClassId, ArrOfT s cS (.object RX5) ∧ va_RA s cS (.object RX5) := by
  obtain ⟨comp, cA, kA, f1, f2, f3, f4, f5⟩ := Cond.arrayOver_spec hO
  exact ⟨cA, fun n z => ⟨fun k h => (by cases h), kA, f3, comp, f4⟩, kA, comp, f3, f4, f1, f5⟩
set_option maxHeartbeats 4000000 in
theorem start_K {A : Array Value} {s : State} (hts0 : ∀ w ∈ lw_tbl, w.before A s = true) : ∃ D : va_G, ∀ (k : Nat) (q : vw_C), vwCl[k]? = some q → u_Kn s q.1 q.2.1 q.2.2 (D.1 k) (D.2 k) := by
  obtain ⟨c0, i0, h0⟩ := u_known (C := RX0) (T := TX0) (N := 7) (n := 7) hts0 inX0 (hts0 (.instantiable RX0 7) (lwm_1 (List.mem_of_getElem? (i := 39) (by decide +kernel))))
  obtain ⟨c1, i1, h1⟩ := u_known (C := RX1) (T := TX1) (N := 3) (n := 3) hts0 inX1 (hts0 (.instantiable RX1 3) (lwm_1 (List.mem_of_getElem? (i := 122) (by decide +kernel))))
  obtain ⟨c2, i2, h2⟩ := u_known (C := RX2) (T := TX2) (N := 4) (n := 4) hts0 inX2 (hts0 (.instantiable RX2 4) (lwm_1 (List.mem_of_getElem? (i := 47) (by decide +kernel))))
  obtain ⟨c3, i3, h3⟩ := u_known (C := RX3) (T := TX3) (N := 1) (n := 1) hts0 inX3 (hts0 (.instantiable RX3 1) (lwm_1 (List.mem_of_getElem? (i := 25) (by decide +kernel))))
  obtain ⟨c4, i4, h4⟩ := u_known (C := RX4) (T := TX4) (N := 7) (n := 7) hts0 inX4 (hts0 (.instantiable RX4 7) (lwm_1 (List.mem_of_getElem? (i := 141) (by decide +kernel))))
  obtain ⟨c5, i5, h5⟩ := u_known (C := RX5) (T := TX5) (N := 6) (n := 6) hts0 inX5 (hts0 (.instantiable RX5 6) (lwm_1 (List.mem_of_getElem? (i := 19) (by decide +kernel))))
  obtain ⟨c6, i6, h6⟩ := u_known (C := RX6) (T := TX6) (N := 6) (n := 6) hts0 inX6 (hts0 (.instantiable RX6 6) (lwm_1 (List.mem_of_getElem? (i := 11) (by decide +kernel))))
  refine ⟨(fun k => ([c0, c1, c2, c3, c4, c5, c6][k]?).getD c0, fun k => ([i0, i1, i2, i3, i4, i5, i6][k]?).getD i0), ?_⟩
  intro k q hq
  match k, hq with
  | 0, hq => cases hq; exact h0
  | 1, hq => cases hq; exact h1
  | 2, hq => cases hq; exact h2
  | 3, hq => cases hq; exact h3
  | 4, hq => cases hq; exact h4
  | 5, hq => cases hq; exact h5
  | 6, hq => cases hq; exact h6
  | k + 7, hq => simp [vwCl] at hq
set_option maxHeartbeats 4000000 in
theorem start_SX {b : Nat} {s : State} (hts0 : ∀ w ∈ lw_tbl, w.before #[Value.ref b] s = true) (hgv : (Jvm.Cond.and given_1 narrow_1).before #[Value.ref b] s = true) : SX (Anew s) s s.heap := by
  have hs := flat_of_before _ hgv
  have hA : ∀ a : Nat, a < s.heap.size → ¬ Anew s a := fun a h => Nat.not_le.mpr h
  obtain ⟨t1, e1, T1⟩ := va_Tof (tm := (Jvm.Term.static "ShadowTable" "LEAST_OF_SETTING" "[I")) (ty := .int) (N := 4) (f := fun j => .int (leastF j)) (by omega) (hs (Jvm.Cond.arrayOf (Jvm.Term.static "ShadowTable" "LEAST_OF_SETTING" "[I") Jvm.ClassFile.FieldType.int) (by decide +kernel)) (va_eqt (hs (Jvm.Cond.eq (Jvm.Term.length (Jvm.Term.static "ShadowTable" "LEAST_OF_SETTING" "[I")) (Jvm.Term.int (4 : Int32))) (by decide +kernel))) (fun j hj => match j, hj with
    | 0, _ => va_eqt (z := (1 : Int32)) (hs (Jvm.Cond.eq (Jvm.Term.elem (Jvm.Term.static "ShadowTable" "LEAST_OF_SETTING" "[I") (Jvm.Term.int (0 : Int32))) (Jvm.Term.int (1 : Int32))) (by decide +kernel))
    | 1, _ => va_eqt (z := (0 : Int32)) (hs (Jvm.Cond.eq (Jvm.Term.elem (Jvm.Term.static "ShadowTable" "LEAST_OF_SETTING" "[I") (Jvm.Term.int (1 : Int32))) (Jvm.Term.int (0 : Int32))) (by decide +kernel))
    | 2, _ => va_eqt (z := (1 : Int32)) (hs (Jvm.Cond.eq (Jvm.Term.elem (Jvm.Term.static "ShadowTable" "LEAST_OF_SETTING" "[I") (Jvm.Term.int (2 : Int32))) (Jvm.Term.int (1 : Int32))) (by decide +kernel))
    | 3, _ => va_eqt (z := (0 : Int32)) (hs (Jvm.Cond.eq (Jvm.Term.elem (Jvm.Term.static "ShadowTable" "LEAST_OF_SETTING" "[I") (Jvm.Term.int (3 : Int32))) (Jvm.Term.int (0 : Int32))) (by decide +kernel))
    | j + 4, h => absurd h (by omega)) hA
  have Z1 := va_Zof (C := RX6) (n := "LEAST_OF_SETTING") (d := "[I") (v := .ref t1) (hts0 (.laysStatic RX6 "LEAST_OF_SETTING" "[I") (lwm_3 (List.mem_of_getElem? (i := 52) (by decide +kernel)))) (hts0 (.initialized RX6) (lwm_1 (List.mem_of_getElem? (i := 1) (by decide +kernel)))) e1 hA
  obtain ⟨t2, e2, T2⟩ := va_Tof (tm := (Jvm.Term.static "ShadowTable" "MOST_OF_SETTING" "[I")) (ty := .int) (N := 4) (f := fun j => .int (mostF j)) (by omega) (hs (Jvm.Cond.arrayOf (Jvm.Term.static "ShadowTable" "MOST_OF_SETTING" "[I") Jvm.ClassFile.FieldType.int) (by decide +kernel)) (va_eqt (hs (Jvm.Cond.eq (Jvm.Term.length (Jvm.Term.static "ShadowTable" "MOST_OF_SETTING" "[I")) (Jvm.Term.int (4 : Int32))) (by decide +kernel))) (fun j hj => match j, hj with
    | 0, _ => va_eqt (z := (8 : Int32)) (hs (Jvm.Cond.eq (Jvm.Term.elem (Jvm.Term.static "ShadowTable" "MOST_OF_SETTING" "[I") (Jvm.Term.int (0 : Int32))) (Jvm.Term.int (8 : Int32))) (by decide +kernel))
    | 1, _ => va_eqt (z := (24 : Int32)) (hs (Jvm.Cond.eq (Jvm.Term.elem (Jvm.Term.static "ShadowTable" "MOST_OF_SETTING" "[I") (Jvm.Term.int (1 : Int32))) (Jvm.Term.int (24 : Int32))) (by decide +kernel))
    | 2, _ => va_eqt (z := (20 : Int32)) (hs (Jvm.Cond.eq (Jvm.Term.elem (Jvm.Term.static "ShadowTable" "MOST_OF_SETTING" "[I") (Jvm.Term.int (2 : Int32))) (Jvm.Term.int (20 : Int32))) (by decide +kernel))
    | 3, _ => va_eqt (z := (1 : Int32)) (hs (Jvm.Cond.eq (Jvm.Term.elem (Jvm.Term.static "ShadowTable" "MOST_OF_SETTING" "[I") (Jvm.Term.int (3 : Int32))) (Jvm.Term.int (1 : Int32))) (by decide +kernel))
    | j + 4, h => absurd h (by omega)) hA
  have Z2 := va_Zof (C := RX6) (n := "MOST_OF_SETTING") (d := "[I") (v := .ref t2) (hts0 (.laysStatic RX6 "MOST_OF_SETTING" "[I") (lwm_3 (List.mem_of_getElem? (i := 54) (by decide +kernel)))) (hts0 (.initialized RX6) (lwm_1 (List.mem_of_getElem? (i := 1) (by decide +kernel)))) e2 hA
  exact ⟨t1, t2, Z1, Z2, T1, T2⟩
theorem iN_is {k : Nat} (hk : k < 32) : iN k = (-5 : Int32) := fill_is 33 0 _ (by omega) (by omega) k (by omega) hk
theorem start_IV : IV 0 iSt := by
  refine ⟨⟨⟨Bd.of (j := 0) (by omega) (by omega), Bd.of (j := 0) (by omega) (by omega)⟩, Bd.of (j := 0) (by omega) (by omega), Or.inl rfl, fun k hk => Or.inl (iN_is hk), fun k hk => Or.inl (iN_is hk), Bd.of (j := 0) (by omega) (by omega), Bd.of (j := 0) (by omega) (by omega), fun q => absurd rfl q, ⟨⟨2, by omega, rfl⟩, Bd.of (j := 6) (by omega) (by omega), ⟨4, by omega, rfl⟩, Bd.of (j := 0) (by omega) (by omega)⟩, ⟨by decide, ⟨0, by omega, rfl, ⟨fun _ => rfl, fun _ => rfl⟩⟩, 0, by omega, rfl⟩⟩, fun q => absurd q (show ¬ (0 : Int32) = (1 : Int32) by decide), fun q => absurd rfl q⟩
theorem start_WH : WH iHi := ⟨Bd.of (j := 0) (by omega) (by omega), Bd.of (j := 0) (by omega) (by omega), fun _ => Or.inl rfl⟩
theorem start_t1 : fX6_table (2 : Int32) (1 : Int32) iSt = (-5 : Int32) := tbl_2n (by decide) rfl
theorem start_t2 : fX6_table (0 : Int32) (2 : Int32) iSt = (-5 : Int32) := by
  unfold fX6_table
  rw [if_neg (by decide), if_neg (by decide), if_pos rfl]
  decide +kernel
section XCALL
variable {p : Program} {l : Launch} {e : Env} {R : Room} {s : State} {m : MethodId} {args : Array Value} {below : List Frame} {meth : Method} {c : Code} {H : Heap} {locs : List Loc} {cells slots : Nat} {Q : State → Prop}
variable {y : MethodName} {bytes cc : ByteArray} {maxL nL n index pc : Nat} {ret : Option FieldType} {ws : List Cond} {rm : Room} {Ts : List Cond} {own : String} {As rest st0 : List Value} {ls : Array Slot} {A0 : Nat → Prop}
/-- a call that reads the script alone -/
theorem bXS {b L : Nat} {xs : Nat → Int32} {r : Int32} (S : CallFix p m c cc nL s args Ts own) (hM : Met l y ws rm (PcX b L xs As) (QcRead r) 0 0 (fun _ => False)) (cw : CallB R s args own index y bytes maxL ret ws rm 0 0 n ∧ (Cond.static y).before args s = true) (hX : va_X b L xs s s.heap) (hbl : b < s.heap.size) (hbA : ¬ A0 b) (hS : va_S A0 s.heap H locs)
    (hn : As.length = n) (hls : ls.size = nL) (hst : st0 = As.reverse ++ rest) (hW : (rest.map fun v => v.category).sum ≤ 8) (hf : cells ≤ R.cells ∧ slots ≤ R.slots) (hdg : decode cc pc = .ok (.invokestatic index, 3))
    (kk : W p l e R s m args below meth c H locs cells slots Q (F0 m (pc + 3) ls (.int r :: rest))) : W p l e R s m args below meth c H locs cells slots Q (F0 m pc ls st0) := by
  have hr := W.runS (l := l) (e := e) (below := below) (meth := meth) (H := H) (locs := locs) (cells := cells) (slots := slots) (g := F0 m pc ls st0) (rest := rest) S hM cw ⟨blX, fun U hU hW' => ⟨rfl, by rw [hU]; exact (hX.moved hW'.alike).kept (hS.2.1 b hbl hbA), by rw [hU]; exact Nat.lt_of_lt_of_le hbl hS.1⟩⟩ rfl hn hls hst (lv_room (m := m) (pc := pc) (ls := ls) (rest := st0) hW) hdg hf
  intro T0 hT X
  obtain ⟨v, st₀, t, T', L, h0, X', hL, e1, ⟨hv, hh⟩, st⟩ := hr T0 hT X
  cases hv
  obtain ⟨t2, a1, b1⟩ := kk T' (by rw [e1, hh, h0]) (Stand.forget X' (fun q h => (hL q h).elim))
  exact ⟨t2, st t2 a1, b1⟩
end XCALL
set_option maxHeartbeats 8000000 in
set_option maxRecDepth 100000 in
theorem law_walk {p : Program} {l : Launch} {e : Env} {s : State} {m : MethodId} {below : List Frame} {meth : Method} {c : Code} {b L : Nat} {xs : Nat → Int32} {D : va_G} {cI cS : ClassId} {qx : Nat} {a0 a1 a2 a3 : Nat → Nat} {b3 : Nat → Nat → Nat} {a4 : Nat → Nat} {sn : StT} {sc : ScT} {has : Int32} (hL : L ≤ 260) (C0 : lw_At p s m meth c b L xs) (hE : EV D (tysA cI cS) s) (hX0 : SX (Anew s) s s.heap) (st tr : StT) (hi : HiT) (hI : IV 0 st) (hh : WH hi) (t1 : fX6_table (2 : Int32) (1 : Int32) st = (-5 : Int32)) (t2 : fX6_table (0 : Int32) (2 : Int32) st = (-5 : Int32)) (H : Heap) (locs : List Loc) (ls : Array Slot) (hP : va_P D vwCl (fl (wO cI cS qx a0 a1 a2 a3 b3 a4 sn sc has [] (st, tr, hi))) H) (hD : va_D (Anew s) (fl (wO cI cS qx a0 a1 a2 a3 b3 a4 sn sc has [] (st, tr, hi)))) (hS : va_S (Anew s) s.heap H locs) (hl : lv_has ls 3 [(1, .ref qx), (0, .ref b)]) : W p l e room_1 s m #[Value.ref b] below meth c H locs 122 1686 (lw_Z below #[Value.ref b] s) (F0 m 8 ls []) := by
  obtain ⟨hx, hb, hr, hml, hown, hts0, hXs, hbl, hlocks, hgv⟩ := C0
  have hown : s.vm.findClass RL = some m.cls := hown
  have hts : ∀ w ∈ wsL_law, w.before #[Value.ref b] s = true := fun w h => hts0 w (wsL_law_in w h)
  have hA : ∀ q : Nat, s.heap.size ≤ q → Anew s q := fun _ h => h
  have hbA : ¬ Anew s b := Nat.not_le.mpr hbl
  have loop_41 : ∀ (n k : Nat) (st1 tr1 : StT) (hi1 : HiT) (H : Heap) (locs : List Loc), k + n = 50 → IV (10 * k) st1 → WH hi1 → va_P D vwCl (fl (wO cI cS qx a0 a1 a2 a3 b3 a4 sn sc has [] (st1, tr1, hi1))) H → va_D (Anew s) (fl (wO cI cS qx a0 a1 a2 a3 b3 a4 sn sc has [] (st1, tr1, hi1))) → va_S (Anew s) s.heap H locs → ∀ ls : Array Slot, lv_has ls 3 [(0, .ref b), (1, .ref qx), (2, .int ((nI k)))] → W p l e room_1 s m #[Value.ref b] below meth c H locs (122 + 2 * k) (1686 + 64 * k) (lw_Z below #[Value.ref b] s) (F0 m 41 ls []) := by
    intro n
    induction n with
    | zero =>
      intro k st1 tr1 hi1 H locs hk hI1 hh1 hP hD hS ls hl
      refine lv_iload_n hx hb dL_law_41 rfl (lv_at hl 2 rfl) ?_
      refine lv_bipush (v := (50 : Int32)) hx hb dL_law_42 (by decide +kernel) ?_
      refine lv_icmp_ge (tgt := 85) hx hb dL_law_44 (by decide) (fun _ => ?_) (fun c => absurd (show (50 : Int32) ≤ (nI k) from nI_le (a := 50) (by omega) (by omega)) c)
      refine lv_aload_n hx hb dL_law_85 rfl (lv_at hl 1 rfl) ?_
      refine lv_bipush (v := (9 : Int32)) hx hb dL_law_86 (by decide +kernel) ?_
      rw [show (9 : Int32) = nI 9 from rfl]
      refine bQS ⟨hx, hb, hml, hown, hts⟩ (kL_readySo l D cI cS qx a0 a1 a2 a3 b3 a4 sn sc has st1 tr1 hi1 hI1 hh1 9 (by omega) (by omega)) (va_cwS 2 hts gL_law_L_readySo rfl rfl rfl (by decide +kernel) ⟨Nat.le_of_ble_eq_true rfl, Nat.le_of_ble_eq_true rfl⟩) hE hP hD hA hS hX0 (fun _ => rfl) rfl hl.1 rfl (Nat.le_of_ble_eq_true rfl) ⟨(show _ ≤ 600000 from by omega), (show _ ≤ 7302249 from by omega)⟩ dL_law_88 (fun r_88 u_88 H locs e_88 hP hD hS => ?_)
      obtain ⟨q1, q3⟩ := e_88
      subst q1
      refine va_forget (fun q hq => hS.2.2 q hq) ?_
      refine W.widen (k := 600000) (n := 7302249) (by omega) (by omega) ?_
      refine W.base ?_
      exact lw_ret (Drawn.sameBut.refl s.drawn lw_cs) hx hb hr hlocks dL_law_91
    | succ n ih =>
      intro k st1 tr1 hi1 H locs hk hI1 hh1 hP hD hS ls hl
      refine lv_iload_n hx hb dL_law_41 rfl (lv_at hl 2 rfl) ?_
      refine lv_bipush (v := (50 : Int32)) hx hb dL_law_42 (by decide +kernel) ?_
      refine lv_icmp_ge (tgt := 85) hx hb dL_law_44 (by decide) (fun c => absurd c (show ¬ (50 : Int32) ≤ (nI k) from nI_ge (b := 50) (by omega) (by omega))) (fun _ => ?_)
      refine lv_aload_n hx hb dL_law_47 rfl (lv_at hl 1 rfl) ?_
      refine lv_aload_n hx hb dL_law_48 rfl (lv_at hl 0 rfl) ?_
      refine lv_iconst (v := (2 : Int32)) hx hb dL_law_49 (by decide +kernel) ?_
      refine lv_iload_n hx hb dL_law_50 rfl (lv_at hl 2 rfl) ?_
      refine lv_imul hx hb dL_law_51 ?_
      rw [show (2 : Int32) * (nI k) = nI (2 * k) from pk_mul 2 k]
      refine bXS (r := (cellF L xs (nI (2 * k)))) ⟨hx, hb, hml, hown, hts⟩ (kL_cell l b L xs (by omega) (2 * k) (by omega)) (va_cwS 2 hts gL_law_L_cell rfl rfl rfl (by decide +kernel) ⟨Nat.le_of_ble_eq_true rfl, Nat.le_of_ble_eq_true rfl⟩) hXs hbl hbA hS rfl hl.1 rfl (Nat.le_of_ble_eq_true rfl) ⟨(show _ ≤ 600000 from by omega), (show _ ≤ 7302249 from by omega)⟩ dL_law_52 ?_
      refine lv_aload_n hx hb dL_law_55 rfl (lv_at hl 0 rfl) ?_
      refine lv_iconst (v := (2 : Int32)) hx hb dL_law_56 (by decide +kernel) ?_
      refine lv_iload_n hx hb dL_law_57 rfl (lv_at hl 2 rfl) ?_
      refine lv_imul hx hb dL_law_58 ?_
      refine lv_iconst (v := (1 : Int32)) hx hb dL_law_59 (by decide +kernel) ?_
      refine lv_iadd hx hb dL_law_60 ?_
      rw [show (2 : Int32) * (nI k) + (1 : Int32) = nI (2 * k + 1) from by rw [show (2 : Int32) * (nI k) = nI (2 * k) from pk_mul 2 k]; exact nI_1 _]
      refine bXS (r := (cellF L xs (nI (2 * k + 1)))) ⟨hx, hb, hml, hown, hts⟩ (kL_cell l b L xs (by omega) (2 * k + 1) (by omega)) (va_cwS 2 hts gL_law_L_cell rfl rfl rfl (by decide +kernel) ⟨Nat.le_of_ble_eq_true rfl, Nat.le_of_ble_eq_true rfl⟩) hXs hbl hbA hS rfl hl.1 rfl (Nat.le_of_ble_eq_true rfl) ⟨(show _ ≤ 600000 from by omega), (show _ ≤ 7302249 from by omega)⟩ dL_law_61 ?_
      refine bQS ⟨hx, hb, hml, hown, hts⟩ (kL_act l D cI cS qx a0 a1 a2 a3 b3 a4 sn sc has st1 tr1 hi1 hI1 hh1 (by omega) (cellF L xs (nI (2 * k))) (cellF L xs (nI (2 * k + 1)))) (va_cwS 3 hts gL_law_L_act rfl rfl rfl (by decide +kernel) ⟨Nat.le_of_ble_eq_true rfl, Nat.le_of_ble_eq_true rfl⟩) hE hP hD hA hS hX0 (fun _ => rfl) rfl hl.1 rfl (Nat.le_of_ble_eq_true rfl) ⟨(show _ ≤ 600000 from by omega), (show _ ≤ 7302249 from by omega)⟩ dL_law_64 (fun r_64 u_64 H locs e_64 hP hD hS => ?_)
      obtain ⟨q1, q2, q3⟩ := e_64
      subst q1
      have hP : va_P D vwCl (fl (wO cI cS qx a0 a1 a2 a3 b3 a4 sn sc has ([]) (u_64.1, u_64.2.1, u_64.2.2))) H := hP
      have hD : va_D (Anew s) (fl (wO cI cS qx a0 a1 a2 a3 b3 a4 sn sc has ([]) (u_64.1, u_64.2.1, u_64.2.2))) := hD
      refine lv_if_eq (tgt := 77) hx hb dL_law_67 (by decide) (fun c => absurd c (show ¬ (1 : Int32) = (0 : Int32) by decide)) (fun _ => ?_)
      refine lv_aload_n hx hb dL_law_70 rfl (lv_at hl 1 rfl) ?_
      refine bQS ⟨hx, hb, hml, hown, hts⟩ (kL_holds l D cI cS qx a0 a1 a2 a3 b3 a4 sn sc has u_64.1 u_64.2.1 u_64.2.2 q2 (by omega)) (va_cwS 1 hts gL_law_L_holds rfl rfl rfl (by decide +kernel) ⟨Nat.le_of_ble_eq_true rfl, Nat.le_of_ble_eq_true rfl⟩) hE hP hD hA hS hX0 (fun _ => rfl) rfl hl.1 rfl (Nat.le_of_ble_eq_true rfl) ⟨(show _ ≤ 600000 from by omega), (show _ ≤ 7302249 from by omega)⟩ dL_law_71 (fun r_71 u_71 H locs e_71 hP hD hS => ?_)
      subst e_71
      have hP : va_P D vwCl (fl (wO cI cS qx a0 a1 a2 a3 b3 a4 sn sc has ([]) (u_64.1, u_71, u_64.2.2))) H := hP
      have hD : va_D (Anew s) (fl (wO cI cS qx a0 a1 a2 a3 b3 a4 sn sc has ([]) (u_64.1, u_71, u_64.2.2))) := hD
      refine lv_if_ne (tgt := 79) hx hb dL_law_74 (by decide) (fun _ => ?_) (fun c => absurd c (show ¬ (1 : Int32) = (0 : Int32) by decide))
      refine lv_iinc (v := (nI (k + 1))) (lv' := [(2, .int ((nI (k + 1)))), (0, .ref b), (1, .ref qx)]) hx hb dL_law_79 hl (k := 2) rfl (nI_1 _) (by decide) rfl (fun ls hl => ?_)
      refine lv_goto (tgt := 41) hx hb dL_law_82 (by decide) ?_
      exact ih (k + 1) u_64.1 u_71 u_64.2.2 _ _ (by omega) q2 q3 hP hD hS _ (lv_sub hl [1, 2, 0] rfl)
  refine lv_aload_n hx hb dL_law_8 rfl (lv_at hl 0 rfl) ?_
  refine bQS ⟨hx, hb, hml, hown, hts⟩ (kL_holds l D cI cS qx a0 a1 a2 a3 b3 a4 sn sc has st tr hi hI (by omega)) (va_cwS 1 hts gL_law_L_holds rfl rfl rfl (by decide +kernel) ⟨Nat.le_of_ble_eq_true rfl, Nat.le_of_ble_eq_true rfl⟩) hE hP hD hA hS hX0 (fun _ => rfl) rfl hl.1 rfl (Nat.le_of_ble_eq_true rfl) ⟨Nat.le_of_ble_eq_true rfl, Nat.le_of_ble_eq_true rfl⟩ dL_law_9 (fun r_9 u_9 H locs e_9 hP hD hS => ?_)
  subst e_9
  have hP : va_P D vwCl (fl (wO cI cS qx a0 a1 a2 a3 b3 a4 sn sc has ([]) (st, u_9, hi))) H := hP
  have hD : va_D (Anew s) (fl (wO cI cS qx a0 a1 a2 a3 b3 a4 sn sc has ([]) (st, u_9, hi))) := hD
  refine lv_if_eq (tgt := 37) hx hb dL_law_12 (by decide) (fun c => absurd c (show ¬ (1 : Int32) = (0 : Int32) by decide)) (fun _ => ?_)
  refine lv_aload_n hx hb dL_law_15 rfl (lv_at hl 0 rfl) ?_
  refine lv_iconst (v := (2 : Int32)) hx hb dL_law_16 (by decide +kernel) ?_
  refine lv_iconst (v := (1 : Int32)) hx hb dL_law_17 (by decide +kernel) ?_
  refine bRV (W0 := wO cI cS qx a0 a1 a2 a3 b3 a4 sn sc has ([]) (st, u_9, hi)) (wc := [(qx, .inr (6, [.ref (a0 0), .ref (a1 0), .ref (a2 0), .ref (a3 0), .ref (a4 0), .int has]))] :: wSt cI a0 st :: []) (r := (-5 : Int32)) ⟨hx, hb, hml, hown, hts⟩ (KR.eq (kX6_table l D cI cS qx a0 (a1 0) (a2 0) (a3 0) (a4 0) has (2 : Int32) (1 : Int32) st) t1) (cwV 2 hts gL_law_X6_table rfl rfl rfl (by decide +kernel) ⟨Nat.le_of_ble_eq_true rfl, Nat.le_of_ble_eq_true rfl⟩) hE hP rfl rfl [0, 1] rfl rfl rfl hl.1 rfl (Nat.le_of_ble_eq_true rfl) ⟨Nat.le_of_ble_eq_true rfl, Nat.le_of_ble_eq_true rfl⟩ dL_law_18 ?_
  refine lv_bipush (v := (-5 : Int32)) hx hb dL_law_21 (by decide +kernel) ?_
  refine lv_icmp_ne (tgt := 37) hx hb dL_law_23 (by decide) (fun c => absurd (show (-5 : Int32) = (-5 : Int32) by decide) c) (fun _ => ?_)
  refine lv_aload_n hx hb dL_law_26 rfl (lv_at hl 0 rfl) ?_
  refine lv_iconst (v := (0 : Int32)) hx hb dL_law_27 (by decide +kernel) ?_
  refine lv_iconst (v := (2 : Int32)) hx hb dL_law_28 (by decide +kernel) ?_
  refine bRV (W0 := wO cI cS qx a0 a1 a2 a3 b3 a4 sn sc has ([]) (st, u_9, hi)) (wc := [(qx, .inr (6, [.ref (a0 0), .ref (a1 0), .ref (a2 0), .ref (a3 0), .ref (a4 0), .int has]))] :: wSt cI a0 st :: []) (r := (-5 : Int32)) ⟨hx, hb, hml, hown, hts⟩ (KR.eq (kX6_table l D cI cS qx a0 (a1 0) (a2 0) (a3 0) (a4 0) has (0 : Int32) (2 : Int32) st) t2) (cwV 2 hts gL_law_X6_table rfl rfl rfl (by decide +kernel) ⟨Nat.le_of_ble_eq_true rfl, Nat.le_of_ble_eq_true rfl⟩) hE hP rfl rfl [0, 1] rfl rfl rfl hl.1 rfl (Nat.le_of_ble_eq_true rfl) ⟨Nat.le_of_ble_eq_true rfl, Nat.le_of_ble_eq_true rfl⟩ dL_law_29 ?_
  refine lv_bipush (v := (-5 : Int32)) hx hb dL_law_32 (by decide +kernel) ?_
  refine lv_icmp_eq (tgt := 39) hx hb dL_law_34 (by decide) (fun _ => ?_) (fun c => absurd (show (-5 : Int32) = (-5 : Int32) by decide) c)
  refine lv_iconst (v := (0 : Int32)) hx hb dL_law_39 (by decide +kernel) ?_
  refine lv_istore_n (lv' := [(2, .int ((0 : Int32))), (1, .ref qx), (0, .ref b)]) hx hb dL_law_40 rfl hl (by decide) rfl (fun ls hl => ?_)
  exact loop_41 50 0 st u_9 hi _ _ (by omega) hI hh hP hD hS _ (lv_sub hl [2, 1, 0] rfl)
set_option maxHeartbeats 8000000 in
set_option maxRecDepth 100000 in
/-- YOUR PART: from the entry, for every script of at most 260 ints, the law comes to its end with true -/
theorem whole_start {p : Program} {e : Env} {s : State} {m : MethodId} {below : List Frame} {meth : Method} {c : Code} (l : Launch) (hflags : l.flags = flags0) {b L : Nat} {xs : Nat → Int32} (hL : L ≤ 260) (C0 : lw_At p s m meth c b L xs) : W p l e room_1 s m #[Value.ref b] below meth c s.heap [] 0 0 (lw_Z below #[Value.ref b] s) (entryFrame m ([Value.ref b] : List Value).toArray 3) := by
  have C1 := C0
  obtain ⟨hx, hb, hr, hml, hown, hts0, hX, hbl, hlocks, hgv⟩ := C0
  have hts : ∀ w ∈ wsL_law, w.before #[Value.ref b] s = true := fun w h => hts0 w (wsL_law_in w h)
  have hA : ∀ q : Nat, s.heap.size ≤ q → Anew s q := fun _ h => h
  have hO := start_AO hts0
  have hSX := start_SX hts0 hgv
  obtain ⟨D, hKn⟩ := start_K hts0
  obtain ⟨cI, hI1, hI2⟩ := start_cI hts0
  obtain ⟨cS, hS1, hS2⟩ := start_cS hO
  have hK : va_K D vwCl (tysA cI cS) s := by
    refine ⟨hKn, fun k q hq => ?_⟩
    match k, hq with
    | 0, hq => cases hq; exact ⟨hI1, hI2⟩
    | 1, hq => cases hq; exact ⟨hS1, hS2⟩
    | k + 2, hq => simp at hq
  have hE : EV D (tysA cI cS) s := ⟨hK, start_F hts0, start_M hts0⟩
  have hS : va_S (Anew s) s.heap s.heap [] := va_S.rf
  have hP : va_P D vwCl [] s.heap := fun k q h => by simp at h
  have hD : va_D (Anew s) [] := ⟨fun i j p q h => by simp at h, fun k q h => by simp at h⟩
  have hl := lv_entry ([.ref b]) (n := 3) (Nat.le_of_ble_eq_true rfl)
  rw [lg_entry_eq]
  generalize (lg_sl ([.ref b]) ++ List.replicate (3 - (lg_sl ([.ref b])).length) Slot.unset).toArray = ls at hl ⊢
  have hl : lv_has ls 3 [(0, .ref b)] := hl
  have hownL : s.vm.findClass RL = some m.cls := hown
  refine va_new (ci := 6) (fs := [.null, .null, .null, .null, .null, .int (0 : Int32)]) (C := RX6) (T := TX6) (N := 6) hx hb hts inlX6 tyX6 tyX6_ok hownL (hts (.classLink RL 11 RX6) (List.mem_of_getElem? (i := 0) (by rfl))) (hts (.instantiable RX6 6) (List.mem_of_getElem? (i := 1) (by rfl))) (hts (.initialized RX6) (List.mem_of_getElem? (i := 2) (by rfl))) hE.1 hP hD hS hA rfl (fun j hj => match j, hj with | 0, _ => rfl | 1, _ => rfl | 2, _ => rfl | 3, _ => rfl | 4, _ => rfl | 5, _ => rfl | (j + 6), h => absurd h (by omega)) (Nat.le_of_ble_eq_true rfl) (Nat.le_of_ble_eq_true rfl) dL_law_0 (fun q0 H hP hD hS => ?_)
  refine lv_dup hx hb dL_law_3 rfl ?_
  refine cCI (W0 := []) ⟨hx, hb, hml, hownL, hts⟩ (kX6_init l D cI cS q0) (cwI 0 hts gL_law_X6_init rfl rfl rfl (hts (.initialized RX6) (List.mem_of_getElem? (i := 2) (by rfl))) (hts (.methodLink RL 115 yX6_init) (List.mem_of_getElem? (i := 3) (by rfl))) (hts (.instanceMethod yX6_init) (List.mem_of_getElem? (i := 4) (by rfl))) rfl (by decide +kernel) ⟨Nat.le_of_ble_eq_true rfl, Nat.le_of_ble_eq_true rfl⟩) hE hO hP hD hS hA hl.1 rfl (Nat.le_of_ble_eq_true rfl) ⟨Nat.le_of_ble_eq_true rfl, Nat.le_of_ble_eq_true rfl⟩ dL_law_4 (fun u H locs hq hP2 hD2 hS => ?_)
  have hq : u.1 = q0 := hq
  subst hq
  have hP : va_P D vwCl ([(u.1, .inr (6, [.ref (u.2.1 0), .ref (u.2.2.1 0), .ref (u.2.2.2.1 0), .ref (u.2.2.2.2.1 0), .ref (u.2.2.2.2.2.2 0), .int (0 : Int32)]))] ++ wSt cI u.2.1 iSt ++ wSt cI u.2.2.1 iSt ++ wSt cI u.2.2.2.1 iSt ++ fl (wHi cI cS u.2.2.2.2.1 u.2.2.2.2.2.1 iHi []) ++ wSc cI u.2.2.2.2.2.2 iSc) H := hP2
  have hD : va_D (Anew s) ([(u.1, .inr (6, [.ref (u.2.1 0), .ref (u.2.2.1 0), .ref (u.2.2.2.1 0), .ref (u.2.2.2.2.1 0), .ref (u.2.2.2.2.2.2 0), .int (0 : Int32)]))] ++ wSt cI u.2.1 iSt ++ wSt cI u.2.2.1 iSt ++ wSt cI u.2.2.2.1 iSt ++ fl (wHi cI cS u.2.2.2.2.1 u.2.2.2.2.2.1 iHi []) ++ wSc cI u.2.2.2.2.2.2 iSc) := hD2
  have eW : fl (wO cI cS u.1 u.2.1 u.2.2.1 u.2.2.2.1 u.2.2.2.2.1 u.2.2.2.2.2.1 u.2.2.2.2.2.2 iSt iSc (0 : Int32) [] (iSt, iSt, iHi)) = ([(u.1, .inr (6, [.ref (u.2.1 0), .ref (u.2.2.1 0), .ref (u.2.2.2.1 0), .ref (u.2.2.2.2.1 0), .ref (u.2.2.2.2.2.2 0), .int (0 : Int32)]))] ++ wSt cI u.2.1 iSt ++ wSt cI u.2.2.1 iSt ++ wSt cI u.2.2.2.1 iSt ++ fl (wHi cI cS u.2.2.2.2.1 u.2.2.2.2.2.1 iHi []) ++ wSc cI u.2.2.2.2.2.2 iSc) := by
    simp only [fl, wO, wHi, List.append_assoc, List.append_nil, List.cons_append, List.nil_append]
  rw [← eW] at hP hD
  refine lv_astore_n (lv' := [(1, .ref u.1), (0, .ref b)]) hx hb dL_law_7 rfl hl (by decide) rfl (fun ls hl => ?_)
  exact law_walk hL C1 hE hSX iSt iSt iHi start_IV start_WH start_t1 start_t2 H _ ls hP hD hS hl
