/-! numbers as indices, switches, copies of whole arrays; the types of the class's states -/
abbrev FnI : Type := Nat → Int32
abbrev LogT : Type := FnI × FnI × Int32 × Int32
abbrev CopyT : Type := FnI × LogT × Int32 × Int32 × Int32 × Int32 × Int32
abbrev StT : Type := FnI × FnI × Int32 × CopyT × FnI × FnI
abbrev ScT : Type := FnI × Int32 × Int32 × Int32 × Int32 × Int32 × Int32
theorem xin {x : Int32} {j n : Nat} (hj : x.toInt = (j : Int)) (h : j < n) : vp_in x n := vp_in_iff.mpr ⟨by omega, by omega⟩
theorem cl_0 : (0 : Int32).toNatClampNeg = 0 := by decide +kernel
theorem in_0 {n : Nat} (h : 0 < n) : vp_in (0 : Int32) n := xin (j := 0) (by decide +kernel) h
theorem cl_1 : (1 : Int32).toNatClampNeg = 1 := by decide +kernel
theorem in_1 {n : Nat} (h : 1 < n) : vp_in (1 : Int32) n := xin (j := 1) (by decide +kernel) h
theorem cl_2 : (2 : Int32).toNatClampNeg = 2 := by decide +kernel
theorem in_2 {n : Nat} (h : 2 < n) : vp_in (2 : Int32) n := xin (j := 2) (by decide +kernel) h
theorem cl_3 : (3 : Int32).toNatClampNeg = 3 := by decide +kernel
theorem in_3 {n : Nat} (h : 3 < n) : vp_in (3 : Int32) n := xin (j := 3) (by decide +kernel) h
theorem cl_4 : (4 : Int32).toNatClampNeg = 4 := by decide +kernel
theorem in_4 {n : Nat} (h : 4 < n) : vp_in (4 : Int32) n := xin (j := 4) (by decide +kernel) h
theorem cl_5 : (5 : Int32).toNatClampNeg = 5 := by decide +kernel
theorem in_5 {n : Nat} (h : 5 < n) : vp_in (5 : Int32) n := xin (j := 5) (by decide +kernel) h
theorem cl_6 : (6 : Int32).toNatClampNeg = 6 := by decide +kernel
theorem in_6 {n : Nat} (h : 6 < n) : vp_in (6 : Int32) n := xin (j := 6) (by decide +kernel) h
theorem cl_7 : (7 : Int32).toNatClampNeg = 7 := by decide +kernel
theorem in_7 {n : Nat} (h : 7 < n) : vp_in (7 : Int32) n := xin (j := 7) (by decide +kernel) h
theorem cl_8 : (8 : Int32).toNatClampNeg = 8 := by decide +kernel
theorem in_8 {n : Nat} (h : 8 < n) : vp_in (8 : Int32) n := xin (j := 8) (by decide +kernel) h
theorem cl_9 : (9 : Int32).toNatClampNeg = 9 := by decide +kernel
theorem in_9 {n : Nat} (h : 9 < n) : vp_in (9 : Int32) n := xin (j := 9) (by decide +kernel) h
theorem cl_10 : (10 : Int32).toNatClampNeg = 10 := by decide +kernel
theorem in_10 {n : Nat} (h : 10 < n) : vp_in (10 : Int32) n := xin (j := 10) (by decide +kernel) h
theorem cl_11 : (11 : Int32).toNatClampNeg = 11 := by decide +kernel
theorem in_11 {n : Nat} (h : 11 < n) : vp_in (11 : Int32) n := xin (j := 11) (by decide +kernel) h
theorem cl_12 : (12 : Int32).toNatClampNeg = 12 := by decide +kernel
theorem in_12 {n : Nat} (h : 12 < n) : vp_in (12 : Int32) n := xin (j := 12) (by decide +kernel) h
theorem cl_13 : (13 : Int32).toNatClampNeg = 13 := by decide +kernel
theorem in_13 {n : Nat} (h : 13 < n) : vp_in (13 : Int32) n := xin (j := 13) (by decide +kernel) h
theorem cl_14 : (14 : Int32).toNatClampNeg = 14 := by decide +kernel
theorem in_14 {n : Nat} (h : 14 < n) : vp_in (14 : Int32) n := xin (j := 14) (by decide +kernel) h
theorem cl_15 : (15 : Int32).toNatClampNeg = 15 := by decide +kernel
theorem in_15 {n : Nat} (h : 15 < n) : vp_in (15 : Int32) n := xin (j := 15) (by decide +kernel) h
theorem cl_16 : (16 : Int32).toNatClampNeg = 16 := by decide +kernel
theorem in_16 {n : Nat} (h : 16 < n) : vp_in (16 : Int32) n := xin (j := 16) (by decide +kernel) h
theorem cl_17 : (17 : Int32).toNatClampNeg = 17 := by decide +kernel
theorem in_17 {n : Nat} (h : 17 < n) : vp_in (17 : Int32) n := xin (j := 17) (by decide +kernel) h
theorem cl_18 : (18 : Int32).toNatClampNeg = 18 := by decide +kernel
theorem in_18 {n : Nat} (h : 18 < n) : vp_in (18 : Int32) n := xin (j := 18) (by decide +kernel) h
theorem cl_19 : (19 : Int32).toNatClampNeg = 19 := by decide +kernel
theorem in_19 {n : Nat} (h : 19 < n) : vp_in (19 : Int32) n := xin (j := 19) (by decide +kernel) h
theorem cl_20 : (20 : Int32).toNatClampNeg = 20 := by decide +kernel
theorem in_20 {n : Nat} (h : 20 < n) : vp_in (20 : Int32) n := xin (j := 20) (by decide +kernel) h
theorem cl_21 : (21 : Int32).toNatClampNeg = 21 := by decide +kernel
theorem in_21 {n : Nat} (h : 21 < n) : vp_in (21 : Int32) n := xin (j := 21) (by decide +kernel) h
theorem cl_22 : (22 : Int32).toNatClampNeg = 22 := by decide +kernel
theorem in_22 {n : Nat} (h : 22 < n) : vp_in (22 : Int32) n := xin (j := 22) (by decide +kernel) h
theorem cl_23 : (23 : Int32).toNatClampNeg = 23 := by decide +kernel
theorem in_23 {n : Nat} (h : 23 < n) : vp_in (23 : Int32) n := xin (j := 23) (by decide +kernel) h
theorem cl_24 : (24 : Int32).toNatClampNeg = 24 := by decide +kernel
theorem in_24 {n : Nat} (h : 24 < n) : vp_in (24 : Int32) n := xin (j := 24) (by decide +kernel) h
theorem cl_25 : (25 : Int32).toNatClampNeg = 25 := by decide +kernel
theorem in_25 {n : Nat} (h : 25 < n) : vp_in (25 : Int32) n := xin (j := 25) (by decide +kernel) h
theorem cl_26 : (26 : Int32).toNatClampNeg = 26 := by decide +kernel
theorem in_26 {n : Nat} (h : 26 < n) : vp_in (26 : Int32) n := xin (j := 26) (by decide +kernel) h
theorem cl_27 : (27 : Int32).toNatClampNeg = 27 := by decide +kernel
theorem in_27 {n : Nat} (h : 27 < n) : vp_in (27 : Int32) n := xin (j := 27) (by decide +kernel) h
theorem cl_28 : (28 : Int32).toNatClampNeg = 28 := by decide +kernel
theorem in_28 {n : Nat} (h : 28 < n) : vp_in (28 : Int32) n := xin (j := 28) (by decide +kernel) h
theorem cl_29 : (29 : Int32).toNatClampNeg = 29 := by decide +kernel
theorem in_29 {n : Nat} (h : 29 < n) : vp_in (29 : Int32) n := xin (j := 29) (by decide +kernel) h
theorem cl_30 : (30 : Int32).toNatClampNeg = 30 := by decide +kernel
theorem in_30 {n : Nat} (h : 30 < n) : vp_in (30 : Int32) n := xin (j := 30) (by decide +kernel) h
theorem cl_31 : (31 : Int32).toNatClampNeg = 31 := by decide +kernel
theorem in_31 {n : Nat} (h : 31 < n) : vp_in (31 : Int32) n := xin (j := 31) (by decide +kernel) h
theorem cl_32 : (32 : Int32).toNatClampNeg = 32 := by decide +kernel
theorem in_32 {n : Nat} (h : 32 < n) : vp_in (32 : Int32) n := xin (j := 32) (by decide +kernel) h
theorem cl_33 : (33 : Int32).toNatClampNeg = 33 := by decide +kernel
theorem in_33 {n : Nat} (h : 33 < n) : vp_in (33 : Int32) n := xin (j := 33) (by decide +kernel) h
theorem cl_34 : (34 : Int32).toNatClampNeg = 34 := by decide +kernel
theorem in_34 {n : Nat} (h : 34 < n) : vp_in (34 : Int32) n := xin (j := 34) (by decide +kernel) h
theorem cl_35 : (35 : Int32).toNatClampNeg = 35 := by decide +kernel
theorem in_35 {n : Nat} (h : 35 < n) : vp_in (35 : Int32) n := xin (j := 35) (by decide +kernel) h
theorem cl_36 : (36 : Int32).toNatClampNeg = 36 := by decide +kernel
theorem in_36 {n : Nat} (h : 36 < n) : vp_in (36 : Int32) n := xin (j := 36) (by decide +kernel) h
theorem cl_37 : (37 : Int32).toNatClampNeg = 37 := by decide +kernel
theorem in_37 {n : Nat} (h : 37 < n) : vp_in (37 : Int32) n := xin (j := 37) (by decide +kernel) h
theorem cl_38 : (38 : Int32).toNatClampNeg = 38 := by decide +kernel
theorem in_38 {n : Nat} (h : 38 < n) : vp_in (38 : Int32) n := xin (j := 38) (by decide +kernel) h
theorem cl_39 : (39 : Int32).toNatClampNeg = 39 := by decide +kernel
theorem in_39 {n : Nat} (h : 39 < n) : vp_in (39 : Int32) n := xin (j := 39) (by decide +kernel) h
theorem cl_40 : (40 : Int32).toNatClampNeg = 40 := by decide +kernel
theorem in_40 {n : Nat} (h : 40 < n) : vp_in (40 : Int32) n := xin (j := 40) (by decide +kernel) h
theorem cl_51 : (51 : Int32).toNatClampNeg = 51 := by decide +kernel
theorem in_51 {n : Nat} (h : 51 < n) : vp_in (51 : Int32) n := xin (j := 51) (by decide +kernel) h
theorem cl_83 : (83 : Int32).toNatClampNeg = 83 := by decide +kernel
theorem in_83 {n : Nat} (h : 83 < n) : vp_in (83 : Int32) n := xin (j := 83) (by decide +kernel) h
theorem cl_115 : (115 : Int32).toNatClampNeg = 115 := by decide +kernel
theorem in_115 {n : Nat} (h : 115 < n) : vp_in (115 : Int32) n := xin (j := 115) (by decide +kernel) h
theorem cl_116 : (116 : Int32).toNatClampNeg = 116 := by decide +kernel
theorem in_116 {n : Nat} (h : 116 < n) : vp_in (116 : Int32) n := xin (j := 116) (by decide +kernel) h
theorem cl_163 : (163 : Int32).toNatClampNeg = 163 := by decide +kernel
theorem in_163 {n : Nat} (h : 163 < n) : vp_in (163 : Int32) n := xin (j := 163) (by decide +kernel) h
theorem xin_ge {x L : Int32} {n : Nat} (h0 : ¬ x < (0 : Int32)) (h1 : ¬ L ≤ x) (hL : L.toInt = (n : Int)) : vp_in x n := by
  rw [Int32.lt_iff_toInt_lt] at h0
  rw [Int32.le_iff_toInt_le] at h1
  have h2 : (0 : Int32).toInt = 0 := by decide
  exact vp_in_iff.mpr ⟨by omega, by omega⟩
section XSW
variable {p : Program} {l : Launch} {e : Env} {R : Room} {s : State} {m : MethodId} {args : Array Value} {below : List Frame} {meth : Method} {c : Code} {H : Heap} {locs : List Loc} {cells slots : Nat} {Q : State → Prop}
variable {cc : ByteArray} {pc : Nat} {ls : Array Slot} {rest : List Value}
theorem xno_nil {x : Int32} : ∀ v ∈ ([] : List Int), ¬ x.toInt = v := fun _ h => absurd h List.not_mem_nil
theorem xno_cons {x k : Int32} {a : Int} {l : List Int} (h : ¬ x = k) (hk : k.toInt = a) (t : ∀ v ∈ l, ¬ x.toInt = v) : ∀ v ∈ a :: l, ¬ x.toInt = v := by
  intro v hv
  rcases List.mem_cons.mp hv with h1 | h1
  · rw [h1]; exact lv_neT h hk
  · exact t v h1
theorem xtabD (hexec : p.tables.exec = Jvm.exec) (hb : c.code = cc) {dflt lo hi : Int} {offs : Array Int} {len : Nat} {x : Int32} {tgt : Nat} (hdg : decode cc pc = .ok (.tableswitch dflt lo hi offs, len)) {cs : List Int} (hno : ∀ v ∈ cs, ¬ x.toInt = v) (hd : ∀ j : Nat, j < (hi - lo + 1).toNat → (lo + (j : Int)) ∈ cs ∨ offs[j]? = some dflt) (ht : (pc : Int) + dflt = (tgt : Int))
    (k : W p l e R s m args below meth c H locs cells slots Q (F0 m tgt ls rest)) : W p l e R s m args below meth c H locs cells slots Q (F0 m pc ls (.int x :: rest)) := by
  by_cases h1 : x.toInt < lo
  · exact lv_tableOut hexec hb hdg (Or.inl h1) ht k
  by_cases h2 : hi < x.toInt
  · exact lv_tableOut hexec hb hdg (Or.inr h2) ht k
  have h3 : (x.toInt - lo).toNat < (hi - lo + 1).toNat := by omega
  have h4 : lo + ((x.toInt - lo).toNat : Int) = x.toInt := by omega
  rcases hd _ h3 with h5 | h5
  · rw [h4] at h5; exact absurd rfl (hno _ h5)
  · exact lv_tableIn hexec hb hdg h1 h2 h5 ht k
theorem arrV_ext {cA : ClassId} {n : Nat} {f g : Nat → Value} (h : ∀ j, j < n → f j = g j) : arrV cA n f = arrV cA n g := by
  have e : (Array.ofFn (n := n) fun j => f j.val) = Array.ofFn (n := n) fun j => g j.val := by
    congr 1
    funext j
    exact h j.val j.isLt
  simp only [arrV, e]
/-- what an array of ints holds behind its length is nothing -/
theorem va_P_ext {D : va_G} {cl : List vw_C} {W0 : va_W} {H : Heap} (hP : va_P D cl W0 H) (q0 : Nat) {a : Nat} {cA : ClassId} {n : Nat} {f g : Nat → Int32} (ha : W0[q0]? = some (a, .inl (cA, n, .inl f))) (h : ∀ j, j < n → f j = g j) : va_P D cl (W0.set q0 (a, .inl (cA, n, .inl g))) H := by
  intro k q hk
  by_cases e : q0 = k
  · subst e
    have hl : q0 < W0.length := (List.getElem?_eq_some_iff.mp ha).1
    rw [List.getElem?_set_self hl] at hk
    cases hk
    have h1 := hP q0 _ ha
    show H[a]? = some (vp_cell cA (n, .inl g))
    have h2 : H[a]? = some (vp_cell cA (n, .inl f)) := h1
    rw [h2]
    rw [vp_cell_i, vp_cell_i, arrV_ext (f := fun j => .int (f j)) (g := fun j => .int (g j)) (fun j hj => by rw [h j hj])]
  · rw [List.getElem?_set_ne e] at hk
    exact hP k q hk
variable {D : va_G} {tys : List (ClassId × FieldType)} {W0 : va_W} {A0 : Nat → Prop} {H0 : Heap} {a : Nat}
theorem xcpy {own : String} {index : Nat} (hexec : p.tables.exec = Jvm.exec) (hb : c.code = cc) (hml : c.maxLocals = ls.size) (hown : s.vm.findClass own = some m.cls) (hlink : (Cond.methodLink own index arraycopyName).before args s = true) (hnat : (Cond.native arraycopyName).before args s = true) (hstat : (Cond.static arraycopyName).before args s = true) (hini : (Cond.initialized "java/lang/System").before args s = true)
    (hE : EV D tys s) (hP : va_P D vwCl W0 H) (hD : va_D A0 W0) (hS : va_S A0 H0 H locs) (q0 q1 : Nat) {a0 : Nat} {cA : ClassId} {N : Nat} {f g : Nat → Int32} {n : Int32} (ha0 : W0[q0]? = some (a0, .inl (cA, N, .inl f))) (ha1 : W0[q1]? = some (a, .inl (cA, N, .inl g))) (ht : tys[0]? = some (cA, .int)) (hn : n.toNatClampNeg = N) (hn0 : ¬ n < 0)
    (hframes : 1 ≤ R.frames) (hlocals : (rest.map fun v => v.category).sum + (nativeFrameWords "java/lang/System" "arraycopy" 5 + 11) ≤ R.locals) (W1 : va_W) (h1 : W0.set q1 (a, .inl (cA, N, .inl f)) = W1) (hdg : decode cc pc = .ok (.invokestatic index, 3))
    (kk : ∀ (H1 : Heap) (locs1 : List Loc), va_P D vwCl W1 H1 → va_D A0 W1 → va_S A0 H0 H1 locs1 → W p l e R s m args below meth c H1 locs1 cells slots Q (F0 m (pc + 3) ls rest)) : W p l e R s m args below meth c H locs cells slots Q (F0 m pc ls (.int n :: .int 0 :: .ref a :: .int 0 :: .ref a0 :: rest)) := by
  have z : (0 : Int32).toNatClampNeg = 0 := by decide
  refine va_copyi hexec hb hml hown hlink hnat hstat hini hE.1 hP hD hS q0 q1 0 0 ha0 ha1 ht ht rfl (by decide) (by decide) hn0 (by rw [z, hn]; omega) (by rw [z, hn]; omega) (fun _ _ => rfl) hframes hlocals hdg (fun H1 locs1 hP1 hD1 hS1 => ?_)
  rw [z, hn] at hP1 hD1
  have hl : q1 < W0.length := (List.getElem?_eq_some_iff.mp ha1).1
  have hP2 := va_P_ext hP1 q1 (List.getElem?_set_self hl) (g := f) (fun j hj => by rw [pk_cpy_in (Nat.zero_le j) (by omega)]; congr 1; omega)
  have hD2 := hD.set (e := .inl (cA, N, .inl f)) ha1
  rw [List.set_set] at hP2
  rw [h1] at hP2 hD2
  exact kk H1 locs1 hP2 hD2 hS1
end XSW
