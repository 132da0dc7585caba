/-! worlds in blocks: a list of parts, each part moved as one -/
def fl : List va_W → va_W
  | [] => []
  | b :: bs => b ++ fl bs
def clr : List va_W → List Nat → List va_W
  | Bs, [] => Bs
  | Bs, i :: is => clr (Bs.set i []) is
def mgB : List va_W → List Nat → List va_W → List va_W
  | Bs, [], _ => Bs
  | Bs, _ :: _, [] => Bs
  | Bs, i :: is, c :: cs => mgB (Bs.set i c) is cs
theorem fl_set : ∀ (Bs : List va_W) (i : Nat) (c : va_W), i < Bs.length → (fl (Bs.set i c)).Perm (c ++ fl (Bs.set i []))
  | [], i, c, h => absurd h (Nat.not_lt_zero i)
  | b :: bs, 0, c, _ => List.Perm.refl (c ++ fl bs)
  | b :: bs, i + 1, c, h => by
    show (b ++ fl (bs.set i c)).Perm (c ++ (b ++ fl (bs.set i [])))
    exact ((fl_set bs i c (Nat.lt_of_succ_lt_succ h)).append_left b).trans (List.perm_append_comm_assoc b c _)
theorem clr_len : ∀ (is : List Nat) (Bs : List va_W), (clr Bs is).length = Bs.length
  | [], _ => rfl
  | i :: is, Bs => by
    show (clr (Bs.set i []) is).length = _
    rw [clr_len is, List.length_set]
theorem clr_set : ∀ (is : List Nat) (Bs : List va_W) (i : Nat) (c : va_W), i ∉ is → clr (Bs.set i c) is = (clr Bs is).set i c
  | [], _, _, _, _ => rfl
  | j :: is, Bs, i, c, h => by
    have h1 : i ≠ j := fun e => h (e ▸ List.mem_cons_self)
    have h2 : i ∉ is := fun q => h (List.mem_cons_of_mem _ q)
    show clr ((Bs.set i c).set j []) is = (clr (Bs.set j []) is).set i c
    rw [List.set_comm _ _ h1]
    exact clr_set is _ i c h2
theorem nd_cons {i : Nat} {is : List Nat} (h : va_nd (i :: is) = true) : i ∉ is ∧ va_nd is = true := by
  simpa only [va_nd, Bool.and_eq_true, decide_eq_true_eq] using h
theorem fl_sel : ∀ (is : List Nat) (Bs sel : List va_W), va_nd is = true → is.map (fun i => Bs[i]?) = sel.map some → (fl Bs).Perm (fl sel ++ fl (clr Bs is))
  | [], Bs, sel, _, h => by
    cases sel with
    | nil => exact List.Perm.refl (fl Bs)
    | cons b sel => simp at h
  | i :: is, Bs, [], _, h => by simp at h
  | i :: is, Bs, b :: sel, hn, h => by
    obtain ⟨hn1, hn2⟩ := nd_cons hn
    rw [List.map_cons, List.map_cons] at h
    have h0 : Bs[i]? = some b := (List.cons.inj h).1
    have h1 : is.map (fun i => Bs[i]?) = sel.map some := (List.cons.inj h).2
    obtain ⟨hi, hb⟩ := List.getElem?_eq_some_iff.mp h0
    have e : Bs.set i b = Bs := by rw [← hb]; exact List.set_getElem_self hi
    have h2 : is.map (fun k => (Bs.set i [])[k]?) = sel.map some := by
      rw [← h1]
      exact List.map_congr_left (fun k hk => List.getElem?_set_ne (fun q : i = k => hn1 (q.symm ▸ hk)))
    have p1 := fl_set Bs i b hi
    rw [e] at p1
    refine p1.trans ?_
    show (b ++ fl (Bs.set i [])).Perm ((b ++ fl sel) ++ fl (clr (Bs.set i []) is))
    rw [List.append_assoc]
    exact (fl_sel is _ sel hn2 h2).append_left b
theorem mgB_perm : ∀ (is : List Nat) (Bs cs : List va_W), va_nd is = true → cs.length = is.length → (∀ i ∈ is, i < Bs.length) → (fl (mgB Bs is cs)).Perm (fl cs ++ fl (clr Bs is))
  | [], Bs, [], _, _, _ => List.Perm.refl (fl Bs)
  | [], Bs, c :: cs, _, h, _ => by simp at h
  | i :: is, Bs, [], _, h, _ => by simp at h
  | i :: is, Bs, c :: cs, hn, h, hi => by
    obtain ⟨hn1, hn2⟩ := nd_cons hn
    have h1 := mgB_perm is (Bs.set i c) cs hn2 (by simpa using h) (fun k hk => by rw [List.length_set]; exact hi k (List.mem_cons_of_mem _ hk))
    rw [clr_set is Bs i c hn1] at h1
    have h2 := fl_set (clr Bs is) i c (by rw [clr_len]; exact hi i List.mem_cons_self)
    rw [← clr_set is Bs i [] hn1] at h2
    show (fl (mgB (Bs.set i c) is cs)).Perm ((c ++ fl cs) ++ fl (clr (Bs.set i []) is))
    rw [List.append_assoc]
    exact (h1.trans (h2.append_left (fl cs))).trans (List.perm_append_comm_assoc (fl cs) c _)
theorem vaP_iff {D : va_G} {cl : List vw_C} {w : va_W} {H : Heap} : va_P D cl w H ↔ ∀ q ∈ w, va_at D cl q H := by
  constructor
  · intro h q hq
    obtain ⟨k, hk⟩ := List.getElem?_of_mem hq
    exact h k q hk
  · intro h k q hk
    exact h q (List.mem_of_getElem? hk)
theorem vaP_perm {D : va_G} {cl : List vw_C} {w w' : va_W} {H : Heap} (p : w.Perm w') (h : va_P D cl w H) : va_P D cl w' H :=
  vaP_iff.mpr (fun q hq => vaP_iff.mp h q (p.mem_iff.mpr hq))
theorem vaD_iff {A : Nat → Prop} {w : va_W} : va_D A w ↔ w.Pairwise (fun x y => x.1 ≠ y.1) ∧ ∀ q ∈ w, A q.1 := by
  constructor
  · intro h
    refine ⟨List.pairwise_iff_getElem.mpr (fun i j hi hj hij e => ?_), fun q hq => ?_⟩
    · have := h.1 i j _ _ (List.getElem?_eq_getElem hi) (List.getElem?_eq_getElem hj) e
      omega
    · obtain ⟨k, hk⟩ := List.getElem?_of_mem hq
      exact h.2 k q hk
  · intro h
    have hp := List.pairwise_iff_getElem.mp h.1
    refine ⟨fun i j x y hi hj e => ?_, fun k q hk => h.2 q (List.mem_of_getElem? hk)⟩
    obtain ⟨hi1, hi2⟩ := List.getElem?_eq_some_iff.mp hi
    obtain ⟨hj1, hj2⟩ := List.getElem?_eq_some_iff.mp hj
    rcases Nat.lt_trichotomy i j with g | g | g
    · exact absurd (by rw [hi2, hj2]; exact e) (hp i j hi1 hj1 g)
    · exact g
    · exact absurd (by rw [hi2, hj2]; exact e.symm) (hp j i hj1 hi1 g)
theorem vaD_perm {A : Nat → Prop} {w w' : va_W} (p : w.Perm w') (h : va_D A w) : va_D A w' := by
  obtain ⟨h1, h2⟩ := vaD_iff.mp h
  exact vaD_iff.mpr ⟨(p.pairwise_iff (fun q => Ne.symm q)).mp h1, fun q hq => h2 q (p.mem_iff.mpr hq)⟩
theorem vaD_addr {A : Nat → Prop} {w w' : va_W} (e : w'.map Prod.fst = w.map Prod.fst) (h : va_D A w) : va_D A w' := by
  have adr : ∀ (j : Nat) (q : Nat × va_E), w'[j]? = some q → ∃ q0, w[j]? = some q0 ∧ q0.1 = q.1 := by
    intro j q hq
    have h1 : (w'.map Prod.fst)[j]? = some q.1 := by rw [List.getElem?_map, hq]; rfl
    rw [e, List.getElem?_map] at h1
    cases hi : w[j]? with
    | none => rw [hi] at h1; cases h1
    | some q0 => rw [hi] at h1; exact ⟨q0, rfl, Option.some.inj h1⟩
  refine ⟨fun i j x y hi hj hxy => ?_, fun k q hq => ?_⟩
  · obtain ⟨x0, h1, h2⟩ := adr i x hi
    obtain ⟨y0, h3, h4⟩ := adr j y hj
    exact h.1 i j x0 y0 h1 h3 (by rw [h2, h4, hxy])
  · obtain ⟨q0, h1, h2⟩ := adr k q hq
    rw [← h2]
    exact h.2 k q0 h1
/-- a choice of blocks is a world -/
theorem fl_sub {D : va_G} {cl : List vw_C} {Bs wc : List va_W} {H : Heap} {is : List Nat} (hP : va_P D cl (fl Bs) H) (hn : va_nd is = true) (hC : is.map (fun i => Bs[i]?) = wc.map some) : va_P D cl (fl wc) H :=
  vaP_iff.mpr (fun q hq => vaP_iff.mp hP q ((fl_sel is Bs wc hn hC).mem_iff.mpr (List.mem_append_left _ hq)))
theorem fl_subD {A : Nat → Prop} {Bs wc : List va_W} {is : List Nat} (hD : va_D A (fl Bs)) (hn : va_nd is = true) (hC : is.map (fun i => Bs[i]?) = wc.map some) : va_D A (fl wc) := by
  obtain ⟨h1, h2⟩ := vaD_iff.mp (vaD_perm (fl_sel is Bs wc hn hC) hD)
  exact vaD_iff.mpr ⟨(List.pairwise_append.mp h1).1, fun q hq => h2 q (List.mem_append_left _ hq)⟩
theorem fl_in {A : Nat → Prop} {Bs wc : List va_W} {is : List Nat} (hD : va_D A (fl Bs)) (hn : va_nd is = true) (hC : is.map (fun i => Bs[i]?) = wc.map some) : ∀ q, q ∈ (fl wc).map Prod.fst → A q := by
  intro q hq
  obtain ⟨q0, h1, h2⟩ := List.mem_map.mp hq
  rw [← h2]
  exact (vaD_iff.mp (fl_subD hD hn hC)).2 q0 h1
theorem fl_join {A0 A1 : Nat → Prop} {D : va_G} {cl : List vw_C} {Bs wc cs : List va_W} {H H1 : Heap} (hP : va_P D cl (fl Bs) H) (hD : va_D A0 (fl Bs)) {is : List Nat} (hn : va_nd is = true) (hC : is.map (fun i => Bs[i]?) = wc.map some) (hl : cs.length = is.length) (ha : (fl cs).map Prod.fst = (fl wc).map Prod.fst)
    (hA1 : ∀ q, A1 q → q ∈ (fl wc).map Prod.fst) (hk : ∀ q : Nat, q < H.size → ¬ A1 q → H1[q]? = H[q]?) (hP1 : va_P D cl (fl cs) H1) : va_P D cl (fl (mgB Bs is cs)) H1 ∧ va_D A0 (fl (mgB Bs is cs)) := by
  have p := fl_sel is Bs wc hn hC
  have hP' := vaP_iff.mp (vaP_perm p hP)
  have hD' := vaD_perm p hD
  have hlt : ∀ i ∈ is, i < Bs.length := by
    intro i hi
    have h1 : Bs[i]? ∈ is.map (fun i => Bs[i]?) := List.mem_map.mpr ⟨i, hi, rfl⟩
    rw [hC] at h1
    obtain ⟨b, -, h2⟩ := List.mem_map.mp h1
    exact (List.getElem?_eq_some_iff.mp h2.symm).1
  have p2 := (mgB_perm is Bs cs hn hl hlt).symm
  have hap := (List.pairwise_append.mp (vaD_iff.mp hD').1).2.2
  refine ⟨vaP_perm p2 (vaP_iff.mpr (fun q hq => ?_)), vaD_perm p2 (vaD_addr ?_ hD')⟩
  · rcases List.mem_append.mp hq with h | h
    · exact vaP_iff.mp hP1 q h
    · have h3 := hP' q (List.mem_append_right _ h)
      refine h3.kept (hk q.1 h3.lt (fun h4 => ?_))
      obtain ⟨q0, h6, h7⟩ := List.mem_map.mp (hA1 _ h4)
      exact hap q0 h6 q h h7
  · rw [List.map_append, List.map_append, ha]
section BCALL
variable {p : Program} {l : Launch} {e : Env} {R : Room} {s : State} {m : MethodId} {args : Array Value} {below : List Frame} {meth : Method} {c : Code} {H : Heap} {locs : List Loc} {cells slots : Nat} {Q : State → Prop}
variable {y : MethodName} {bytes cc : ByteArray} {maxL nL n index pc : Nat} {ret : Option FieldType} {ws : List Cond} {rm : Room} {Ts : List Cond} {own C host : String} {b : Nat} {As rest st0 : List Value} {ls : Array Slot}
variable {D : va_G} {tys : List (ClassId × FieldType)} {W0 wc : List va_W} {A0 : Nat → Prop} {H0 : Heap} {T : u_T} {N ci : Nat} {fs : List Value}
theorem bRV {r : Int32} (S : CallFix p m c cc nL s args Ts own) (hM : KR l y ws rm D tys (.ref b :: As) (fl wc) r) (cw : CallW R s args own C index y bytes maxL ret ws rm 0 0 n) (hE : EV D tys s) (hP : va_P D vwCl (fl W0) H) (hc : vwCl[ci]? = some (C, T, N)) (he : (fl wc)[0]? = some (b, .inr (ci, fs)))
    (is : List Nat) (hC : is.map (fun i => W0[i]?) = wc.map some) (hnd : va_nd is = true) (hn : As.length = n) (hls : ls.size = nL) (hst : st0 = As.reverse ++ .ref b :: rest) (hW : (rest.map fun v => v.category).sum ≤ 8) (hf : cells ≤ R.cells ∧ slots ≤ R.slots) (hdg : decode cc pc = .ok (.invokevirtual index, 3))
    (kk : W p l e R s m args below meth c H locs cells slots Q (F0 m (pc + 3) ls (.int r :: rest))) : W p l e R s m args below meth c H locs cells slots Q (F0 m pc ls st0) := by
  have hPs := fl_sub hP hnd hC
  have hr := W.runV (l := l) (e := e) (below := below) (meth := meth) (H := H) (locs := locs) (cells := cells) (slots := slots) (g := F0 m pc ls st0) (rest := rest) S hM cw ⟨blR, va_recv hE.1 hPs hc he, fun U hU hW' => ⟨rfl, by rw [hU]; exact hPs, EV.warm hW' hE⟩⟩ rfl hn hls hst (lv_room (m := m) (pc := pc) (ls := ls) (rest := st0) hW) hdg hf
  intro T0 hT X
  obtain ⟨v, st₀, t, T', L, h0, X', hL, e1, ⟨hv, hh⟩, st⟩ := hr T0 hT X
  cases hv
  obtain ⟨t2, a1, b1⟩ := kk T' (by rw [e1, hh, h0]) (Stand.forget X' (fun q h => (hL q h).elim))
  exact ⟨t2, st t2 a1, b1⟩
theorem bIV {S : Type} {F : Int32 × S} {w1 : S → List va_W} (S0 : CallFix p m c cc nL s args Ts own) (hM : KI l y ws rm D tys (.ref b :: As) (fl wc) F (fun u => fl (w1 u))) (cw : CallW R s args own C index y bytes maxL ret ws rm 0 0 n) (hE : EV D tys s) (hP : va_P D vwCl (fl W0) H) (hD : va_D A0 (fl W0)) (hS : va_S A0 H0 H locs) (hc : vwCl[ci]? = some (C, T, N)) (he : (fl wc)[0]? = some (b, .inr (ci, fs)))
    (is : List Nat) (hC : is.map (fun i => W0[i]?) = wc.map some) (hnd : va_nd is = true) (hl : ∀ u, (w1 u).length = is.length) (ha : ∀ u, (fl (w1 u)).map Prod.fst = (fl wc).map Prod.fst) (hn : As.length = n) (hls : ls.size = nL) (hst : st0 = As.reverse ++ .ref b :: rest) (hW : (rest.map fun v => v.category).sum ≤ 8) (hf : cells ≤ R.cells ∧ slots ≤ R.slots) (hdg : decode cc pc = .ok (.invokevirtual index, 3))
    (kk : ∀ (r : Int32) (u : S) (H1 : Heap) (locs1 : List Loc), F = (r, u) → va_P D vwCl (fl (mgB W0 is (w1 u))) H1 → va_D A0 (fl (mgB W0 is (w1 u))) → va_S A0 H0 H1 locs1 → W p l e R s m args below meth c H1 locs1 cells slots Q (F0 m (pc + 3) ls (.int r :: rest))) : W p l e R s m args below meth c H locs cells slots Q (F0 m pc ls st0) := by
  have hPs := fl_sub hP hnd hC
  have hDs := fl_subD hD hnd hC
  refine va_calli (va_runV (rest := rest) S0 hM cw ⟨blW, va_recv hE.1 hPs hc he, fun U hU hW' => ⟨rfl, by rw [hU]; exact hPs, EV.warm hW' hE, hDs.weaken (fun _ _ _ _ => trivial)⟩⟩ rfl hn hls hst (lv_room (m := m) (pc := pc) (ls := ls) (rest := st0) hW) hdg hf) hS (fun q _ h => fl_in hD hnd hC q h) (fun q h => fl_in hD hnd hC q h) (fun r u t H1 locs1 ht hvm hw hB hz1 hk1 hS1 => ?_)
  obtain ⟨hP2, hD2⟩ := fl_join hP hD hnd hC (hl u) (ha u) (fun q h => h) hk1 (ht ▸ hB)
  exact kk r u H1 locs1 hw hP2 hD2 hS1
theorem bVV {S : Type} {F : S} {w1 : S → List va_W} (S0 : CallFix p m c cc nL s args Ts own) (hM : KV l y ws rm D tys (.ref b :: As) (fl wc) F (fun u => fl (w1 u))) (cw : CallW R s args own C index y bytes maxL ret ws rm 0 0 n) (hE : EV D tys s) (hP : va_P D vwCl (fl W0) H) (hD : va_D A0 (fl W0)) (hS : va_S A0 H0 H locs) (hc : vwCl[ci]? = some (C, T, N)) (he : (fl wc)[0]? = some (b, .inr (ci, fs)))
    (is : List Nat) (hC : is.map (fun i => W0[i]?) = wc.map some) (hnd : va_nd is = true) (hl : ∀ u, (w1 u).length = is.length) (ha : ∀ u, (fl (w1 u)).map Prod.fst = (fl wc).map Prod.fst) (hn : As.length = n) (hls : ls.size = nL) (hst : st0 = As.reverse ++ .ref b :: rest) (hW : (rest.map fun v => v.category).sum ≤ 8) (hf : cells ≤ R.cells ∧ slots ≤ R.slots) (hdg : decode cc pc = .ok (.invokevirtual index, 3))
    (kk : ∀ (u : S) (H1 : Heap) (locs1 : List Loc), F = u → va_P D vwCl (fl (mgB W0 is (w1 u))) H1 → va_D A0 (fl (mgB W0 is (w1 u))) → va_S A0 H0 H1 locs1 → W p l e R s m args below meth c H1 locs1 cells slots Q (F0 m (pc + 3) ls rest)) : W p l e R s m args below meth c H locs cells slots Q (F0 m pc ls st0) := by
  have hPs := fl_sub hP hnd hC
  have hDs := fl_subD hD hnd hC
  refine va_callv (va_runV (rest := rest) S0 hM cw ⟨blW, va_recv hE.1 hPs hc he, fun U hU hW' => ⟨rfl, by rw [hU]; exact hPs, EV.warm hW' hE, hDs.weaken (fun _ _ _ _ => trivial)⟩⟩ rfl hn hls hst (lv_room (m := m) (pc := pc) (ls := ls) (rest := st0) hW) hdg hf) hS (fun q _ h => fl_in hD hnd hC q h) (fun q h => fl_in hD hnd hC q h) (fun u t H1 locs1 ht hvm hw hB hz1 hk1 hS1 => ?_)
  obtain ⟨hP2, hD2⟩ := fl_join hP hD hnd hC (hl u) (ha u) (fun q h => h) hk1 (ht ▸ hB)
  exact kk u H1 locs1 hw hP2 hD2 hS1
end BCALL
