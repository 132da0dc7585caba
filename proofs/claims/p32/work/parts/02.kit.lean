/-! short forms of contracts, and calls that keep the order of the world's cells -/
/-- the cells at the places of a list, replaced one by one -/
def mg : va_W → List Nat → va_W → va_W
  | ws, [], _ => ws
  | ws, _ :: _, [] => ws
  | ws, i :: is, c :: cs => mg (ws.set i c) is cs
theorem mg_get : ∀ (is : List Nat) (w1 ws : va_W) (k : Nat) (q : Nat × va_E), is.length = w1.length → (mg ws is w1)[k]? = some q → (∃ j : Nat, is[j]? = some k ∧ w1[j]? = some q) ∨ (k ∉ is ∧ ws[k]? = some q)
  | [], w1, ws, k, q, _, h => Or.inr ⟨by simp, by simpa [mg] using h⟩
  | i :: is, [], ws, k, q, hl, h => by simp at hl
  | i :: is, c :: cs, ws, k, q, hl, h => by
    have hl' : is.length = cs.length := by simpa using hl
    have h' : (mg (ws.set i c) is cs)[k]? = some q := by simpa [mg] using h
    rcases mg_get is cs (ws.set i c) k q hl' h' with ⟨j, h1, h2⟩ | ⟨h1, h2⟩
    · exact Or.inl ⟨j + 1, by simpa using h1, by simpa using h2⟩
    · by_cases hk : k = i
      · subst hk
        rw [List.getElem?_set] at h2
        rw [if_pos rfl] at h2
        split at h2
        · exact Or.inl ⟨0, rfl, by simpa using h2⟩
        · cases h2
      · rw [List.getElem?_set_ne (Ne.symm hk)] at h2
        refine Or.inr ⟨?_, h2⟩
        intro hm
        rcases List.mem_cons.mp hm with h3 | h3
        · exact hk h3
        · exact h1 h3
/-- the places of a part of a world -/
theorem mg_at {ws wc : va_W} {is : List Nat} (hC : is.map (fun i => ws[i]?) = wc.map some) : ∀ (j : Nat) (q : Nat × va_E), wc[j]? = some q → ∃ i, is[j]? = some i ∧ ws[i]? = some q := by
  intro j q hq
  have h1 : (is.map (fun i => ws[i]?))[j]? = some (some q) := by rw [hC, List.getElem?_map, hq]; rfl
  rw [List.getElem?_map] at h1
  cases hi : is[j]? with
  | none => rw [hi] at h1; cases h1
  | some i => rw [hi] at h1; exact ⟨i, rfl, Option.some.inj h1⟩
/-- a part of a world holds -/
theorem mg_sub {D : va_G} {cl : List vw_C} {ws wc : va_W} {H : Heap} (hP : va_P D cl ws H) {is : List Nat} (hC : is.map (fun i => ws[i]?) = wc.map some) : va_P D cl wc H := by
  intro j q hq
  obtain ⟨i, -, h2⟩ := mg_at hC j q hq
  exact hP i q h2
theorem mg_in {A0 : Nat → Prop} {ws wc : va_W} (hD : va_D A0 ws) {is : List Nat} (hC : is.map (fun i => ws[i]?) = wc.map some) : ∀ q, q ∈ wc.map Prod.fst → A0 q := by
  intro q hq
  obtain ⟨q0, h1, h2⟩ := List.mem_map.mp hq
  obtain ⟨j, h3⟩ := List.getElem?_of_mem h1
  obtain ⟨i, -, h4⟩ := mg_at hC j q0 h3
  rw [← h2]
  exact hD.2 i q0 h4
/-- behind a call that makes no cell: the callee's cells as it left them, the caller's others as they were, all in their old order -/
theorem mg_join {A0 A1 : Nat → Prop} {D : va_G} {cl : List vw_C} {ws wc w1 : va_W} {H H1 : Heap} (hP : va_P D cl ws H) (hD : va_D A0 ws) {is : List Nat} (hC : is.map (fun i => ws[i]?) = wc.map some) (ha : w1.map Prod.fst = wc.map Prod.fst)
    (hA1 : ∀ q, A1 q → q ∈ wc.map Prod.fst) (hk : ∀ q : Nat, q < H.size → ¬ A1 q → H1[q]? = H[q]?) (hP1 : va_P D cl w1 H1) : va_P D cl (mg ws is w1) H1 ∧ va_D A0 (mg ws is w1) := by
  have hlen : is.length = wc.length := by have := congrArg List.length hC; simpa using this
  have hlen1 : w1.length = wc.length := by have := congrArg List.length ha; simpa using this
  have hl : is.length = w1.length := by rw [hlen, hlen1]
  have adr : ∀ (j : Nat) (q : Nat × va_E), w1[j]? = some q → ∃ q0, wc[j]? = some q0 ∧ q0.1 = q.1 := by
    intro j q hq
    have h1 : (w1.map Prod.fst)[j]? = some q.1 := by rw [List.getElem?_map, hq]; rfl
    rw [ha, List.getElem?_map] at h1
    cases hi : wc[j]? with
    | none => rw [hi] at h1; cases h1
    | some q0 => rw [hi] at h1; exact ⟨q0, rfl, Option.some.inj h1⟩
  have adr2 : ∀ (k : Nat) (q : Nat × va_E), (mg ws is w1)[k]? = some q → ∃ q0, ws[k]? = some q0 ∧ q0.1 = q.1 := by
    intro k q hq
    rcases mg_get is w1 ws k q hl hq with ⟨j, h1, h2⟩ | ⟨h1, h2⟩
    · obtain ⟨q0, h3, h4⟩ := adr j q h2
      obtain ⟨i, h5, h6⟩ := mg_at hC j q0 h3
      rw [h1] at h5
      cases h5
      exact ⟨q0, h6, h4⟩
    · exact ⟨q, h2, rfl⟩
  refine ⟨fun k q hq => ?_, fun i j x y hi hj hxy => ?_, fun k q hq => ?_⟩
  · rcases mg_get is w1 ws k q hl hq with ⟨j, h1, h2⟩ | ⟨h1, h2⟩
    · exact hP1 j q h2
    · have h3 := hP k q h2
      refine h3.kept (hk q.1 h3.lt (fun h4 => ?_))
      obtain ⟨q0, h6, h7⟩ := List.mem_map.mp (hA1 _ h4)
      obtain ⟨j, h8⟩ := List.getElem?_of_mem h6
      obtain ⟨i, h9, h10⟩ := mg_at hC j q0 h8
      have h11 := hD.1 i k q0 q h10 h2 h7
      subst h11
      exact h1 (List.mem_of_getElem? h9)
  · obtain ⟨x0, h1, h2⟩ := adr2 i x hi
    obtain ⟨y0, h3, h4⟩ := adr2 j y hj
    exact hD.1 i j x0 y0 h1 h3 (by rw [h2, h4, hxy])
  · obtain ⟨q0, h1, h2⟩ := adr2 k q hq
    rw [← h2]
    exact hD.2 k q0 h1
/-! what a walk of the class needs of the tables beside its words: links of private members among nest mates -/
def nwF : List (String × Nat × String × String × String) := [(RX0, 64, RX2, "size", "I"), (RX5, 123, RX2, "size", "I"), (RX5, 129, RX0, "shadow", "LShadowTable$Rows;"), (RX5, 75, RX0, "log", "LShadowTable$Log;"), (RX6, 152, RX0, "log", "LShadowTable$Log;"), (RX5, 59, RX0, "phase", "I"), (RX5, 132, RX0, "kind", "I"), (RX5, 148, RX0, "lot", "I"), (RX6, 199, RX0, "lot", "I"), (RX5, 145, RX0, "cursor", "I"), (RX6, 202, RX0, "cursor", "I"), (RX5, 120, RX0, "age", "I"), (RX0, 64, RX2, "size", "I"), (RX6, 142, RX5, "copy", "LShadowTable$Copy;"), (RX6, 180, RX5, "settings", "[I"), (RX6, 184, RX5, "totals", "[I"), (RX0, 64, RX2, "size", "I"), (RX0, 64, RX2, "size", "I"), (RX0, 64, RX2, "size", "I"), (RX0, 64, RX2, "size", "I"), (RX5, 157, RX6, "LEAST_OF_SETTING", "[I"), (RX5, 160, RX6, "MOST_OF_SETTING", "[I")]
def nwM : List (String × Nat × MethodName) := [(RX6, 9, yX5_init), (RX5, 23, yX0_init), (RX0, 20, yX2_init), (RX1, 17, yX5_init), (RX6, 31, yX4_init), (RX5, 52, yX6_isKey), (RX5, 56, yX6_isValue), (RX5, 92, yX6_isKind), (RX5, 95, yX6_isLot), (RX5, 105, yX6_isTicks), (RX5, 138, yX6_changedValue), (RX0, 52, yX6_changedValue), (RX5, 154, yX6_isSetting), (RX5, 163, yX6_isIn), (RX6, 9, yX5_init)]
def NW (U : State) : Prop := (∀ q ∈ nwF, va_Nw (.fieldLinkNest q.1 q.2.1 q.2.2.1 q.2.2.2.1 q.2.2.2.2 RX6) U) ∧ ∀ q ∈ nwM, va_Nw (.methodLinkNest q.1 q.2.1 q.2.2 RX6) U
theorem NW.warm {s U : State} (hW : s.WarmedH U.vm) (h : NW s) : NW U := ⟨fun q hq => va_Nw.warmF hW (h.1 q hq), fun q hq => va_Nw.warmM hW (h.2 q hq)⟩
theorem NW.same {u U : State} (e : u.vm = U.vm) (h : NW u) : NW U := ⟨fun q hq => va_Nw.same rfl e (h.1 q hq), fun q hq => va_Nw.same rfl e (h.2 q hq)⟩
theorem NW.f {U : State} (h : NW U) (k : Nat) {q : String × Nat × String × String × String} (hk : nwF[k]? = some q) {A : Array Value} : (Cond.fieldLinkNest q.1 q.2.1 q.2.2.1 q.2.2.2.1 q.2.2.2.2 RX6).before A U = true := va_Nw.use rfl (h.1 q (List.mem_of_getElem? hk))
theorem NW.m {U : State} (h : NW U) (k : Nat) {q : String × Nat × MethodName} (hk : nwM[k]? = some q) : va_Nw (.methodLinkNest q.1 q.2.1 q.2.2 RX6) U := h.2 q (List.mem_of_getElem? hk)
/-- the tables: classes and array classes, and the nest mates' links -/
def EV (D : va_G) (tys : List (ClassId × FieldType)) (U : State) : Prop := va_K D vwCl tys U ∧ NW U
theorem EV.warm {D : va_G} {tys : List (ClassId × FieldType)} {s U : State} (hW : s.WarmedH U.vm) (h : EV D tys s) : EV D tys U := ⟨va_K.moved hW.alike h.1, NW.warm hW h.2⟩
theorem EV.call {D : va_G} {tys : List (ClassId × FieldType)} {U : State} {g : JFrame} {mk : MethodId} {a : Array Value} (h : EV D tys U) : EV D tys (U.calling g mk a) := ⟨va_K.moved (u := U) (U := U.calling g mk a) (Vm.Alike.refl U.vm) h.1, NW.same (u := U) (U := U.calling g mk a) rfl h.2⟩
/-- the array classes of all worlds: of ints, of states -/
abbrev tysA (cI cS : ClassId) : List (ClassId × FieldType) := [(cI, .int), (cS, .object RX5)]
/-- starts -/
abbrev PcR (D : va_G) (tys : List (ClassId × FieldType)) (av : List Value) (w : va_W) : Array Value → State → Prop := va_Pc av (fun U => va_P D vwCl w U.heap ∧ EV D tys U)
abbrev PcW (D : va_G) (tys : List (ClassId × FieldType)) (av : List Value) (w : va_W) : Array Value → State → Prop := va_Pc av (fun U => va_P D vwCl w U.heap ∧ EV D tys U ∧ va_D (fun _ => True) w)
theorem blR {D : va_G} {tys : List (ClassId × FieldType)} {av : List Value} {w : va_W} : FrameBlind (PcR D tys av w) := fun _ _ _ _ h => ⟨h.1, h.2.1, EV.call h.2.2⟩
theorem blW {D : va_G} {tys : List (ClassId × FieldType)} {av : List Value} {w : va_W} : FrameBlind (PcW D tys av w) := fun _ _ _ _ h => ⟨h.1, h.2.1, EV.call h.2.2.1, h.2.2.2⟩
abbrev inA (w : va_W) : Nat → Prop := fun q => q ∈ w.map Prod.fst
/-- a method that only reads, and answers an int -/
def KR (l : Launch) (y : MethodName) (ws : List Cond) (rm : Room) (D : va_G) (tys : List (ClassId × FieldType)) (av : List Value) (w : va_W) (r : Int32) : Prop := Met l y ws rm (PcR D tys av w) (QcRead r) 0 0 (fun _ => False)
/-- a method that writes into its cells alone, and answers an int, or nothing -/
def KI (l : Launch) (y : MethodName) (ws : List Cond) (rm : Room) (D : va_G) (tys : List (ClassId × FieldType)) (av : List Value) (w : va_W) {S : Type} (F : Int32 × S) (w1 : S → va_W) : Prop := Met l y ws rm (PcW D tys av w) (va_Qi (fun (r : Int32) (u : S) => F = (r, u)) (fun u t => va_P D vwCl (w1 u) t.heap) (inA w)) 0 0 (inA w)
def KV (l : Launch) (y : MethodName) (ws : List Cond) (rm : Room) (D : va_G) (tys : List (ClassId × FieldType)) (av : List Value) (w : va_W) {S : Type} (F : S) (w1 : S → va_W) : Prop := Met l y ws rm (PcW D tys av w) (va_Qv (fun (u : S) => F = u) (fun u t => va_P D vwCl (w1 u) t.heap) (inA w)) 0 0 (inA w)
theorem va_D.ids {A : Nat → Prop} {w : va_W} (h : va_D A w) : va_D (inA w) w := ⟨h.1, fun _ q hk => List.mem_map.mpr ⟨q, List.mem_of_getElem? hk, rfl⟩⟩
section KOF
variable {l : Launch} {y : MethodName} {ws ws' : List Cond} {rm : Room} {D : va_G} {tys : List (ClassId × FieldType)} {av : List Value} {w : va_W} {cc : ByteArray} {maxL : Nat} {ty : FieldType} {lv : List (Nat × Value)}
theorem KR.of {r : Int32} (hy : plainName y.cls = true) (hw : ws = Cond.code y cc maxL (some ty) :: ws') (hle : (lg_sl av).length ≤ maxL) (hlv : lv_args 0 av = lv)
    (body : ∀ (p : Program) (e : Env) (s : State) (m : MethodId) (args : Array Value) (below : List Frame) (meth : Method) (c : Code) (ls : Array Slot) (Q : State → Prop), p.tables.exec = Jvm.exec → c.code = cc → c.maxLocals = maxL → s.vm.findClass y.cls = some m.cls → (∀ w ∈ ws, w.before args s = true) → EV D tys s → va_P D vwCl w s.heap → lv_has ls maxL lv →
      (∀ (pc : Nat) (ls : Array Slot) (v : Int32), decode cc pc = .ok (.ireturn, 1) → narrow ty (.int v) = .int v → r = v → W p l e rm s m args below meth c s.heap [] 0 0 Q (F0 m pc ls [.int v])) →
      W p l e rm s m args below meth c s.heap [] 0 0 Q (F0 m 0 ls [])) : KR l y ws rm D tys av w r := by
  refine Met.ofW (cc := cc) (maxL := maxL) (ret := some ty) hy hw ?_
  intro p e s m args below meth c s₁ B hml hv
  obtain ⟨rfl, hP, hE⟩ := hv
  have hl := lv_entry av (n := maxL) hle
  rw [hlv] at hl
  rw [lg_entry_eq]
  refine body p e s m _ below meth c _ _ B.exec B.bytes hml (findClass_of_methodNamed B.named) (atoms_spec (ws := ws) B.pre) hE hP hl (fun pc ls v hdg hn e1 => ?_)
  exact W.zret B.exec B.bytes B.returns hn (fun t ht _ => ⟨by rw [e1], ht⟩) (fun q hq => absurd hq List.not_mem_nil) hdg B.notSynchronized
theorem KI.of {S : Type} {F : Int32 × S} {w1 : S → va_W} (hy : plainName y.cls = true) (hw : ws = Cond.code y cc maxL (some ty) :: ws') (hle : (lg_sl av).length ≤ maxL) (hlv : lv_args 0 av = lv)
    (body : ∀ (p : Program) (e : Env) (s : State) (m : MethodId) (args : Array Value) (below : List Frame) (meth : Method) (c : Code) (ls : Array Slot) (Q : State → Prop) (A : Nat → Prop), p.tables.exec = Jvm.exec → c.code = cc → c.maxLocals = maxL → s.vm.findClass y.cls = some m.cls → (∀ w ∈ ws, w.before args s = true) → EV D tys s → va_P D vwCl w s.heap → va_D A w → va_S A s.heap s.heap [] → lv_has ls maxL lv →
      (∀ (pc : Nat) (ls : Array Slot) (v : Int32) (u : S) (H : Heap) (locs : List Loc), decode cc pc = .ok (.ireturn, 1) → narrow ty (.int v) = .int v → F = (v, u) → va_P D vwCl (w1 u) H → va_S A s.heap H locs → W p l e rm s m args below meth c H locs 0 0 Q (F0 m pc ls [.int v])) →
      W p l e rm s m args below meth c s.heap [] 0 0 Q (F0 m 0 ls [])) : KI l y ws rm D tys av w F w1 := by
  refine Met.ofW (cc := cc) (maxL := maxL) (ret := some ty) hy hw ?_
  intro p e s m args below meth c s₁ B hml hv
  obtain ⟨rfl, hP, hE, hD⟩ := hv
  have hl := lv_entry av (n := maxL) hle
  rw [hlv] at hl
  rw [lg_entry_eq]
  refine body p e s m _ below meth c _ _ (inA w) B.exec B.bytes hml (findClass_of_methodNamed B.named) (atoms_spec (ws := ws) B.pre) hE hP hD.ids va_S.rf hl (fun pc ls v u H locs hdg hn e1 hP1 hS => ?_)
  exact W.zret B.exec B.bytes B.returns hn (fun t ht _ => ⟨⟨v, u, rfl, e1, by show va_P D vwCl (w1 u) t.heap; rw [ht]; exact hP1⟩, hS.F ht⟩) hS.2.2 hdg B.notSynchronized
theorem KV.of {S : Type} {F : S} {w1 : S → va_W} (hy : plainName y.cls = true) (hw : ws = Cond.code y cc maxL none :: ws') (hle : (lg_sl av).length ≤ maxL) (hlv : lv_args 0 av = lv)
    (body : ∀ (p : Program) (e : Env) (s : State) (m : MethodId) (args : Array Value) (below : List Frame) (meth : Method) (c : Code) (ls : Array Slot) (Q : State → Prop) (A : Nat → Prop), p.tables.exec = Jvm.exec → c.code = cc → c.maxLocals = maxL → s.vm.findClass y.cls = some m.cls → (∀ w ∈ ws, w.before args s = true) → EV D tys s → va_P D vwCl w s.heap → va_D A w → va_S A s.heap s.heap [] → lv_has ls maxL lv →
      (∀ (pc : Nat) (ls : Array Slot) (u : S) (H : Heap) (locs : List Loc), decode cc pc = .ok (.return_, 1) → F = u → va_P D vwCl (w1 u) H → va_S A s.heap H locs → W p l e rm s m args below meth c H locs 0 0 Q (F0 m pc ls [])) →
      W p l e rm s m args below meth c s.heap [] 0 0 Q (F0 m 0 ls [])) : KV l y ws rm D tys av w F w1 := by
  refine Met.ofW (cc := cc) (maxL := maxL) (ret := none) hy hw ?_
  intro p e s m args below meth c s₁ B hml hv
  obtain ⟨rfl, hP, hE, hD⟩ := hv
  have hl := lv_entry av (n := maxL) hle
  rw [hlv] at hl
  rw [lg_entry_eq]
  refine body p e s m _ below meth c _ _ (inA w) B.exec B.bytes hml (findClass_of_methodNamed B.named) (atoms_spec (ws := ws) B.pre) hE hP hD.ids va_S.rf hl (fun pc ls u H locs hdg e1 hP1 hS => ?_)
  exact W.vret B.exec B.bytes B.returns (fun t ht _ => ⟨⟨u, rfl, e1, by show va_P D vwCl (w1 u) t.heap; rw [ht]; exact hP1⟩, hS.F ht⟩) hS.2.2 hdg B.notSynchronized
end KOF
section KCALL
variable {p : Program} {l : Launch} {e : Env} {R : Room} {s : State} {m : MethodId} {args : Array Value} {below : List Frame} {meth : Method} {c : Code} {H : Heap} {locs : List Loc} {cells slots : Nat} {Q : State → Prop}
variable {y : MethodName} {bytes cc : ByteArray} {maxL nL n index pc : Nat} {ret : Option FieldType} {ws : List Cond} {rm : Room} {Ts : List Cond} {own C host : String} {b : Nat} {As rest st0 : List Value} {ls : Array Slot}
variable {D : va_G} {tys : List (ClassId × FieldType)} {W0 wc : va_W} {A0 : Nat → Prop} {H0 : Heap} {T : u_T} {N ci : Nat} {fs : List Value} {is : List Nat}
/-- calls of a method that only reads -/
theorem cRV {r : Int32} (S : CallFix p m c cc nL s args Ts own) (hM : KR l y ws rm D tys (.ref b :: As) wc r) (cw : CallW R s args own C index y bytes maxL ret ws rm 0 0 n) (hE : EV D tys s) (hP : va_P D vwCl W0 H) (q0 : Nat) (hc : vwCl[ci]? = some (C, T, N)) (he : W0[q0]? = some (b, .inr (ci, fs)))
    (is : List Nat) (hC : is.map (fun i => W0[i]?) = wc.map some) (hn : As.length = n) (hls : ls.size = nL) (hst : st0 = As.reverse ++ .ref b :: rest) (hW : (rest.map fun v => v.category).sum ≤ 8) (hf : cells ≤ R.cells ∧ slots ≤ R.slots) (hdg : decode cc pc = .ok (.invokevirtual index, 3))
    (kk : W p l e R s m args below meth c H locs cells slots Q (F0 m (pc + 3) ls (.int r :: rest))) : W p l e R s m args below meth c H locs cells slots Q (F0 m pc ls st0) := by
  have hr := W.runV (l := l) (e := e) (below := below) (meth := meth) (H := H) (locs := locs) (cells := cells) (slots := slots) (g := F0 m pc ls st0) (rest := rest) S hM cw ⟨blR, va_recv hE.1 hP hc he, fun U hU hW' => ⟨rfl, by rw [hU]; exact mg_sub hP hC, EV.warm hW' hE⟩⟩ rfl hn hls hst (lv_room (m := m) (pc := pc) (ls := ls) (rest := st0) hW) hdg hf
  intro T0 hT X
  obtain ⟨v, st₀, t, T', L, h0, X', hL, e1, ⟨hv, hh⟩, st⟩ := hr T0 hT X
  cases hv
  obtain ⟨t2, a1, b1⟩ := kk T' (by rw [e1, hh, h0]) (Stand.forget X' (fun q h => (hL q h).elim))
  exact ⟨t2, st t2 a1, b1⟩
theorem cRS {r : Int32} (S : CallFix p m c cc nL s args Ts own) (hM : KR l y ws rm D tys As wc r) (cw : CallB R s args own index y bytes maxL ret ws rm 0 0 n ∧ (Cond.static y).before args s = true) (hE : EV D tys s) (hP : va_P D vwCl W0 H)
    (is : List Nat) (hC : is.map (fun i => W0[i]?) = wc.map some) (hn : As.length = n) (hls : ls.size = nL) (hst : st0 = As.reverse ++ rest) (hW : (rest.map fun v => v.category).sum ≤ 8) (hf : cells ≤ R.cells ∧ slots ≤ R.slots) (hdg : decode cc pc = .ok (.invokestatic index, 3))
    (kk : W p l e R s m args below meth c H locs cells slots Q (F0 m (pc + 3) ls (.int r :: rest))) : W p l e R s m args below meth c H locs cells slots Q (F0 m pc ls st0) := by
  have hr := W.runS (l := l) (e := e) (below := below) (meth := meth) (H := H) (locs := locs) (cells := cells) (slots := slots) (g := F0 m pc ls st0) (rest := rest) S hM cw ⟨blR, fun U hU hW' => ⟨rfl, by rw [hU]; exact mg_sub hP hC, EV.warm hW' hE⟩⟩ rfl hn hls hst (lv_room (m := m) (pc := pc) (ls := ls) (rest := st0) hW) hdg hf
  intro T0 hT X
  obtain ⟨v, st₀, t, T', L, h0, X', hL, e1, ⟨hv, hh⟩, st⟩ := hr T0 hT X
  cases hv
  obtain ⟨t2, a1, b1⟩ := kk T' (by rw [e1, hh, h0]) (Stand.forget X' (fun q h => (hL q h).elim))
  exact ⟨t2, st t2 a1, b1⟩
theorem cRSN {r : Int32} (S : CallFix p m c cc nL s args Ts own) (hM : KR l y ws rm D tys As wc r) (cw : va_CN R s args own index y host bytes maxL ret ws rm 0 0 n ∧ (Cond.static y).before args s = true ∧ True) (hE : EV D tys s) (hP : va_P D vwCl W0 H)
    (is : List Nat) (hC : is.map (fun i => W0[i]?) = wc.map some) (hn : As.length = n) (hls : ls.size = nL) (hst : st0 = As.reverse ++ rest) (hW : (rest.map fun v => v.category).sum ≤ 8) (hf : cells ≤ R.cells ∧ slots ≤ R.slots) (hdg : decode cc pc = .ok (.invokestatic index, 3))
    (kk : W p l e R s m args below meth c H locs cells slots Q (F0 m (pc + 3) ls (.int r :: rest))) : W p l e R s m args below meth c H locs cells slots Q (F0 m pc ls st0) := by
  have hr := va_runSN (l := l) (e := e) (below := below) (meth := meth) (H := H) (locs := locs) (cells := cells) (slots := slots) (g := F0 m pc ls st0) (rest := rest) S hM cw ⟨blR, fun U hU hW' => ⟨rfl, by rw [hU]; exact mg_sub hP hC, EV.warm hW' hE⟩⟩ rfl hn hls hst (lv_room (m := m) (pc := pc) (ls := ls) (rest := st0) hW) hdg hf
  intro T0 hT X
  obtain ⟨v, st₀, t, T', L, h0, X', hL, e1, -, ⟨hv, hh⟩, st⟩ := hr T0 hT X
  cases hv
  obtain ⟨t2, a1, b1⟩ := kk T' (by rw [e1, hh, h0]) (Stand.forget X' (fun q h => (hL q h).elim))
  exact ⟨t2, st t2 a1, b1⟩
/-- calls of a method that writes -/
theorem cIV {S : Type} {F : Int32 × S} {w1 : S → va_W} (S0 : CallFix p m c cc nL s args Ts own) (hM : KI l y ws rm D tys (.ref b :: As) wc F w1) (cw : CallW R s args own C index y bytes maxL ret ws rm 0 0 n) (hE : EV D tys s) (hP : va_P D vwCl W0 H) (hD : va_D A0 W0) (hS : va_S A0 H0 H locs) (q0 : Nat) (hc : vwCl[ci]? = some (C, T, N)) (he : W0[q0]? = some (b, .inr (ci, fs)))
    (is : List Nat) (hC : is.map (fun i => W0[i]?) = wc.map some) (hnd : va_nd is = true) (ha : ∀ u, (w1 u).map Prod.fst = wc.map Prod.fst) (hn : As.length = n) (hls : ls.size = nL) (hst : st0 = As.reverse ++ .ref b :: rest) (hW : (rest.map fun v => v.category).sum ≤ 8) (hf : cells ≤ R.cells ∧ slots ≤ R.slots) (hdg : decode cc pc = .ok (.invokevirtual index, 3))
    (kk : ∀ (r : Int32) (u : S) (H1 : Heap) (locs1 : List Loc), F = (r, u) → va_P D vwCl (mg W0 is (w1 u)) H1 → va_D A0 (mg W0 is (w1 u)) → va_S A0 H0 H1 locs1 → W p l e R s m args below meth c H1 locs1 cells slots Q (F0 m (pc + 3) ls (.int r :: rest))) : W p l e R s m args below meth c H locs cells slots Q (F0 m pc ls st0) := by
  refine va_calli (va_runV (rest := rest) S0 hM cw ⟨blW, va_recv hE.1 hP hc he, fun U hU hW' => ⟨rfl, by rw [hU]; exact mg_sub hP hC, EV.warm hW' hE, (hD.sub is hnd hC).weaken (fun _ _ _ _ => trivial)⟩⟩ rfl hn hls hst (lv_room (m := m) (pc := pc) (ls := ls) (rest := st0) hW) hdg hf) hS (fun q _ h => mg_in hD hC q h) (fun q h => mg_in hD hC q h) (fun r u t H1 locs1 ht hvm hw hB hz1 hk1 hS1 => ?_)
  obtain ⟨hP2, hD2⟩ := mg_join hP hD hC (ha u) (fun q h => h) hk1 (ht ▸ hB)
  exact kk r u H1 locs1 hw hP2 hD2 hS1
theorem cVV {S : Type} {F : S} {w1 : S → va_W} (S0 : CallFix p m c cc nL s args Ts own) (hM : KV l y ws rm D tys (.ref b :: As) wc F w1) (cw : CallW R s args own C index y bytes maxL ret ws rm 0 0 n) (hE : EV D tys s) (hP : va_P D vwCl W0 H) (hD : va_D A0 W0) (hS : va_S A0 H0 H locs) (q0 : Nat) (hc : vwCl[ci]? = some (C, T, N)) (he : W0[q0]? = some (b, .inr (ci, fs)))
    (is : List Nat) (hC : is.map (fun i => W0[i]?) = wc.map some) (hnd : va_nd is = true) (ha : ∀ u, (w1 u).map Prod.fst = wc.map Prod.fst) (hn : As.length = n) (hls : ls.size = nL) (hst : st0 = As.reverse ++ .ref b :: rest) (hW : (rest.map fun v => v.category).sum ≤ 8) (hf : cells ≤ R.cells ∧ slots ≤ R.slots) (hdg : decode cc pc = .ok (.invokevirtual index, 3))
    (kk : ∀ (u : S) (H1 : Heap) (locs1 : List Loc), F = u → va_P D vwCl (mg W0 is (w1 u)) H1 → va_D A0 (mg W0 is (w1 u)) → va_S A0 H0 H1 locs1 → W p l e R s m args below meth c H1 locs1 cells slots Q (F0 m (pc + 3) ls rest)) : W p l e R s m args below meth c H locs cells slots Q (F0 m pc ls st0) := by
  refine va_callv (va_runV (rest := rest) S0 hM cw ⟨blW, va_recv hE.1 hP hc he, fun U hU hW' => ⟨rfl, by rw [hU]; exact mg_sub hP hC, EV.warm hW' hE, (hD.sub is hnd hC).weaken (fun _ _ _ _ => trivial)⟩⟩ rfl hn hls hst (lv_room (m := m) (pc := pc) (ls := ls) (rest := st0) hW) hdg hf) hS (fun q _ h => mg_in hD hC q h) (fun q h => mg_in hD hC q h) (fun u t H1 locs1 ht hvm hw hB hz1 hk1 hS1 => ?_)
  obtain ⟨hP2, hD2⟩ := mg_join hP hD hC (ha u) (fun q h => h) hk1 (ht ▸ hB)
  exact kk u H1 locs1 hw hP2 hD2 hS1
theorem cVS {S : Type} {F : S} {w1 : S → va_W} (S0 : CallFix p m c cc nL s args Ts own) (hM : KV l y ws rm D tys As wc F w1) (cw : CallB R s args own index y bytes maxL ret ws rm 0 0 n ∧ (Cond.static y).before args s = true) (hE : EV D tys s) (hP : va_P D vwCl W0 H) (hD : va_D A0 W0) (hS : va_S A0 H0 H locs)
    (is : List Nat) (hC : is.map (fun i => W0[i]?) = wc.map some) (hnd : va_nd is = true) (ha : ∀ u, (w1 u).map Prod.fst = wc.map Prod.fst) (hn : As.length = n) (hls : ls.size = nL) (hst : st0 = As.reverse ++ rest) (hW : (rest.map fun v => v.category).sum ≤ 8) (hf : cells ≤ R.cells ∧ slots ≤ R.slots) (hdg : decode cc pc = .ok (.invokestatic index, 3))
    (kk : ∀ (u : S) (H1 : Heap) (locs1 : List Loc), F = u → va_P D vwCl (mg W0 is (w1 u)) H1 → va_D A0 (mg W0 is (w1 u)) → va_S A0 H0 H1 locs1 → W p l e R s m args below meth c H1 locs1 cells slots Q (F0 m (pc + 3) ls rest)) : W p l e R s m args below meth c H locs cells slots Q (F0 m pc ls st0) := by
  refine va_callv (va_runS (rest := rest) S0 hM cw ⟨blW, fun U hU hW' => ⟨rfl, by rw [hU]; exact mg_sub hP hC, EV.warm hW' hE, (hD.sub is hnd hC).weaken (fun _ _ _ _ => trivial)⟩⟩ rfl hn hls hst (lv_room (m := m) (pc := pc) (ls := ls) (rest := st0) hW) hdg hf) hS (fun q _ h => mg_in hD hC q h) (fun q h => mg_in hD hC q h) (fun u t H1 locs1 ht hvm hw hB hz1 hk1 hS1 => ?_)
  obtain ⟨hP2, hD2⟩ := mg_join hP hD hC (ha u) (fun q h => h) hk1 (ht ▸ hB)
  exact kk u H1 locs1 hw hP2 hD2 hS1
/-! arrays of ints: the index as a number, the world's new list as it is written -/
theorem xld {a : Nat} (hexec : p.tables.exec = Jvm.exec) (hb : c.code = cc) (hE : EV D tys s) (hP : va_P D vwCl W0 H) (q0 : Nat) {cA : ClassId} {n : Nat} {f : Nat → Int32} (ha : W0[q0]? = some (a, .inl (cA, n, .inl f))) (ht : tys[0]? = some (cA, .int)) {i v : Int32} {j : Nat} (hj : i.toNatClampNeg = j) (hin : vp_in i n) (hv : f j = v) (hdg : decode cc pc = .ok (.iaload, 1))
    (kk : W p l e R s m args below meth c H locs cells slots Q (F0 m (pc + 1) ls (.int v :: rest))) : W p l e R s m args below meth c H locs cells slots Q (F0 m pc ls (.int i :: .ref a :: rest)) := by
  subst hj; subst hv
  exact va_iald hexec hb hE.1 hP q0 0 ha ht hin hdg kk
theorem xst {a : Nat} (hexec : p.tables.exec = Jvm.exec) (hb : c.code = cc) (hE : EV D tys s) (hP : va_P D vwCl W0 H) (hD : va_D A0 W0) (hS : va_S A0 H0 H locs) (q0 : Nat) {cA : ClassId} {n : Nat} {f : Nat → Int32} (ha : W0[q0]? = some (a, .inl (cA, n, .inl f))) (ht : tys[0]? = some (cA, .int)) {i x : Int32} {j : Nat} (hj : i.toNatClampNeg = j) (hin : vp_in i n) (W1 : va_W) (h1 : W0.set q0 (a, .inl (cA, n, .inl (upd f j x))) = W1) (hdg : decode cc pc = .ok (.iastore, 1))
    (kk : ∀ (H1 : Heap) (locs1 : List Loc), va_P D vwCl W1 H1 → va_D A0 W1 → va_S A0 H0 H1 locs1 → W p l e R s m args below meth c H1 locs1 cells slots Q (F0 m (pc + 1) ls rest)) : W p l e R s m args below meth c H locs cells slots Q (F0 m pc ls (.int x :: .int i :: .ref a :: rest)) := by
  subst hj; subst h1
  exact va_iast hexec hb hE.1 hP hD hS q0 0 ha ht hin hdg kk
theorem xpf {own ref C : String} {T : u_T} {N a : Nat} (hexec : p.tables.exec = Jvm.exec) (hb : c.code = cc) (hts : ∀ w ∈ Ts, w.before args s = true) (hin : ∀ w ∈ u_ws C T N, w ∈ Ts) (ty0 : Nat → FieldType) (hty : ∀ k, k < N → parseFieldDescriptor (T k).2.2.1 = some (ty0 k)) (hnm : ∀ a, a < N → ∀ b, b < N → a ≠ b → (T a).2.1 ≠ (T b).2.1) (hown : s.vm.findClass own = some m.cls) (hE : EV D tys s) (hP : va_P D vwCl W0 H) (hD : va_D A0 W0) (hS0 : va_S A0 H0 H locs) (q0 : Nat) (he : W0[q0]? = some (a, .inr (ci, fs))) (hc : vwCl[ci]? = some (C, T, N)) (k : Nat) (hk : k < N) (hlink : (Cond.fieldLink own index ref (T k).2.1 (T k).2.2.1).before args s = true) (hsame : (T k).1 = ref) (hfin : (T k).2.2.2 = false) {ty : FieldType} {v : Value} (hd : parseFieldDescriptor (T k).2.2.1 = some ty) (hn : narrow ty v = v) (hfit : fits ty v = true) (hl : k < fs.length)
    (W1 : va_W) (h1 : W0.set q0 (a, .inr (ci, fs.set k v)) = W1) (hdg : decode cc pc = .ok (.putfield index, 3)) (kk : ∀ (H1 : Heap) (locs1 : List Loc), va_P D vwCl W1 H1 → va_D A0 W1 → va_S A0 H0 H1 locs1 → W p l e R s m args below meth c H1 locs1 cells slots Q (F0 m (pc + 3) ls rest)) : W p l e R s m args below meth c H locs cells slots Q (F0 m pc ls (v :: .ref a :: rest)) := by
  subst h1
  exact va_put hexec hb hts hin ty0 hty hnm hown hE.1 hP hD hS0 q0 he hc k hk hlink (fun _ h9 => by rw [← hsame]; exact h9) hfin hd hn hfit hl hdg kk
theorem xpfN {own ref C : String} {T : u_T} {N a : Nat} (hexec : p.tables.exec = Jvm.exec) (hb : c.code = cc) (hts : ∀ w ∈ Ts, w.before args s = true) (hin : ∀ w ∈ u_ws C T N, w ∈ Ts) (ty0 : Nat → FieldType) (hty : ∀ k, k < N → parseFieldDescriptor (T k).2.2.1 = some (ty0 k)) (hnm : ∀ a, a < N → ∀ b, b < N → a ≠ b → (T a).2.1 ≠ (T b).2.1) (hown : s.vm.findClass own = some m.cls) (hE : EV D tys s) (hP : va_P D vwCl W0 H) (hD : va_D A0 W0) (hS0 : va_S A0 H0 H locs) (q0 : Nat) (he : W0[q0]? = some (a, .inr (ci, fs))) (hc : vwCl[ci]? = some (C, T, N)) (k : Nat) (hk : k < N) (hlink : (Cond.fieldLinkNest own index ref (T k).2.1 (T k).2.2.1 host).before args s = true) (hsame : (T k).1 = ref) (hfin : (T k).2.2.2 = false) {ty : FieldType} {v : Value} (hd : parseFieldDescriptor (T k).2.2.1 = some ty) (hn : narrow ty v = v) (hfit : fits ty v = true) (hl : k < fs.length)
    (W1 : va_W) (h1 : W0.set q0 (a, .inr (ci, fs.set k v)) = W1) (hdg : decode cc pc = .ok (.putfield index, 3)) (kk : ∀ (H1 : Heap) (locs1 : List Loc), va_P D vwCl W1 H1 → va_D A0 W1 → va_S A0 H0 H1 locs1 → W p l e R s m args below meth c H1 locs1 cells slots Q (F0 m (pc + 3) ls rest)) : W p l e R s m args below meth c H locs cells slots Q (F0 m pc ls (v :: .ref a :: rest)) := by
  subst h1
  exact va_putN hexec hb hts hin ty0 hty hnm hown hE.1 hP hD hS0 q0 he hc k hk hlink (fun _ h9 => by rw [← hsame]; exact h9) hfin hd hn hfit hl hdg kk
end KCALL
