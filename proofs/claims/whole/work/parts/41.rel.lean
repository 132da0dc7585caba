/-! the relation of the class's state and the reference's row of numbers -/
/-- the log of the class, and where the reference has it -/
def RG (ks vs : FnI) (st n : Nat) (s : FnI) : Prop := ∀ i : Nat, i < n → ks ((st + i) % 24) = s (115 + 2 * i) ∧ vs ((st + i) % 24) = fX7_outside (s (115 + 2 * i + 1)) ∧ RV (s (115 + 2 * i + 1))
/-- bounds of the reference's numbers -/
def RB (s : FnI) : Prop := Bd (s 0) 3 ∧ Bd (s 5) 21 ∧ (s 0 = (3 : Int32) → Bd (s 5) 20) ∧ (∀ k : Nat, k < 4 → Bd (s (7 + k)) 24) ∧ Bd (s 9) 20
def RC (lv od : FnI) (ho : Int32) (sh ks vs : FnI) (st sz ph kd lt cu ag : Int32) (se to s : FnI) : Prop :=
  RT lv s 19 ∧ RT sh s 51 ∧ RT od s 83 ∧ (ho = s 6 ∧ ph = s 0 ∧ kd = s 1 ∧ lt = s 2 ∧ cu = s 3 ∧ ag = s 5) ∧ (∀ k : Nat, k < 4 → se k = s (7 + k)) ∧ (∀ k : Nat, k < 8 → to k = s (11 + k)) ∧ RB s ∧ (s 0 = (0 : Int32) → s 4 = (0 : Int32)) ∧ (¬ s 0 = (0 : Int32) → sz = s 4 ∧ RG ks vs st.toNatClampNeg (s 4).toNatClampNeg s)
def RS (τ : StT) (s : FnI) : Prop := WS τ ∧ WM s ∧ RC τ.1 τ.2.1 τ.2.2.1 τ.2.2.2.1.1 τ.2.2.2.1.2.1.1 τ.2.2.2.1.2.1.2.1 τ.2.2.2.1.2.1.2.2.1 τ.2.2.2.1.2.1.2.2.2 τ.2.2.2.1.2.2.1 τ.2.2.2.1.2.2.2.1 τ.2.2.2.1.2.2.2.2.1 τ.2.2.2.1.2.2.2.2.2.1 τ.2.2.2.1.2.2.2.2.2.2 τ.2.2.2.2.1 τ.2.2.2.2.2 s
theorem RT.frame {f s u : FnI} {b : Nat} (h : RT f s b) (e : ∀ k : Nat, k < 32 → u (b + k) = s (b + k)) : RT f u b := fun k hk => by rw [e k hk]; exact h k hk
theorem RG.frame {ks vs s u : FnI} {st n : Nat} (h : RG ks vs st n s) (hn : n ≤ 24) (e : ∀ j : Nat, 115 ≤ j → j < 163 → u j = s j) : RG ks vs st n u := fun i hi => by
  rw [e _ (by omega) (by omega), e _ (by omega) (by omega)]
  exact h i hi
theorem RT.put {f s : FnI} {b k : Nat} {v : Int32} (h : RT f s b) (hv : RV v) : RT (upd f k (fX7_outside v)) (upd s (b + k) v) b := fun j hj => by
  by_cases q : j = k
  · subst q
    rw [pk_us, pk_us]
    exact ⟨rfl, hv⟩
  · rw [pk_un q, pk_un (by omega)]
    exact h j hj
theorem RT.up {f s : FnI} {b j : Nat} {v : Int32} (h : RT f s b) (hj : j < b ∨ b + 32 ≤ j) : RT f (upd s j v) b := h.frame (fun k hk => pk_un (by omega))
theorem RG.up {ks vs s : FnI} {st n j : Nat} {v : Int32} (h : RG ks vs st n s) (hj : j < 115) : RG ks vs st n (upd s j v) := fun i hi => by
  rw [pk_un (by omega), pk_un (by omega)]
  exact h i hi
/-- the numbers alone have changed -/
theorem RC.scal {lv od sh ks vs se to s : FnI} {ho st sz ph kd lt cu ag : Int32} (R : RC lv od ho sh ks vs st sz ph kd lt cu ag se to s) (hm : WM s) {to' u : FnI} (he : ∀ j : Nat, 19 ≤ j → j < 163 → u j = s j) (h6 : u 6 = s 6) (hset : ∀ k : Nat, k < 4 → u (7 + k) = s (7 + k)) (hto : ∀ k : Nat, k < 8 → to' k = u (11 + k)) (hb : RB u) (hz : u 0 = (0 : Int32) → u 4 = (0 : Int32)) (hn : ¬ u 0 = (0 : Int32) → ¬ s 0 = (0 : Int32) ∧ u 4 = s 4) : RC lv od ho sh ks vs st sz (u 0) (u 1) (u 2) (u 3) (u 5) se to' u := by
  obtain ⟨hlv, hsh, hod, ⟨e6, -, -, -, -, -⟩, hse, -, -, -, hg⟩ := R
  refine ⟨hlv.frame (fun k hk => he _ (by omega) (by omega)), hsh.frame (fun k hk => he _ (by omega) (by omega)), hod.frame (fun k hk => he _ (by omega) (by omega)), ⟨by rw [h6]; exact e6, rfl, rfl, rfl, rfl, rfl⟩, fun k hk => by rw [hset k hk]; exact hse k hk, hto, hb, hz, fun c => ?_⟩
  obtain ⟨c1, c2⟩ := hn c
  obtain ⟨g1, g2⟩ := hg c1
  have := hm.1.2
  rw [c2]
  exact ⟨g1, g2.frame (by omega) (fun j h1 h2 => he j (by omega) h2)⟩
theorem tot_fr {to s u : FnI} (h : ∀ k : Nat, k < 8 → to k = s (11 + k)) {i : Nat} (hi : i < 8) (hu : u (11 + i) = s (11 + i) + (1 : Int32)) (hv : ∀ q : Nat, q < 8 → q ≠ i → u (11 + q) = s (11 + q)) : ∀ k : Nat, k < 8 → upd to i (to i + (1 : Int32)) k = u (11 + k) := fun k hk => by
  by_cases q : k = i
  · subst q
    rw [pk_us, hu, h k hk]
  · rw [pk_un q, hv k hk q]
    exact h k hk
theorem RB.up {s : FnI} (hb : RB s) {j : Nat} {x : Int32} (h0 : j ≠ 0) (h5 : j ≠ 5) (hj : j < 7 ∨ 11 ≤ j) : RB (upd s j x) := by
  unfold RB
  rw [pk_un (Ne.symm h0), pk_un (Ne.symm h5), pk_un (by omega)]
  exact ⟨hb.1, hb.2.1, hb.2.2.1, fun q hq => by rw [pk_un (by omega)]; exact hb.2.2.2.1 q hq, hb.2.2.2.2⟩
/-! small rows -/
theorem n32 {j : Nat} (h : j < 32) : ¬ (32 : Int32) ≤ nI j := nI_ge (a := j) (b := 32) h (by omega)
theorem at_is {k : Int32} (h : Bd k 31) (f : FnI) : fX3_at k f = f k.toNatClampNeg := by
  obtain ⟨j, hj, rfl⟩ := h.num
  unfold fX3_at
  rw [if_neg (nI_pos (by omega)), if_neg (n32 (by omega))]
theorem place_is {k v : Int32} (h : Bd k 31) (f : FnI) : fX3_place k v f = upd f k.toNatClampNeg v := by
  obtain ⟨j, hj, rfl⟩ := h.num
  unfold fX3_place
  rw [if_neg (nI_pos (by omega)), if_neg (n32 (by omega))]
theorem lay0 {k v : Int32} {s : FnI} (h : Bd k 31) : fX7_lay (0 : Int32) k v s = upd s (19 + k.toNatClampNeg) v := lay_eq zz_T0 h
theorem lay1 {k v : Int32} {s : FnI} (h : Bd k 31) : fX7_lay (1 : Int32) k v s = upd s (51 + k.toNatClampNeg) v := lay_eq zz_T1 h
theorem lay2 {k v : Int32} {s : FnI} (h : Bd k 31) : fX7_lay (2 : Int32) k v s = upd s (83 + k.toNatClampNeg) v := lay_eq zz_T2 h
theorem row0 {k : Int32} {s : FnI} (h : Bd k 31) : fX7_row (0 : Int32) k s = s (19 + k.toNatClampNeg) := row_eq zz_T0 h
theorem row1 {k : Int32} {s : FnI} (h : Bd k 31) : fX7_row (1 : Int32) k s = s (51 + k.toNatClampNeg) := row_eq zz_T1 h
theorem row2 {k : Int32} {s : FnI} (h : Bd k 31) : fX7_row (2 : Int32) k s = s (83 + k.toNatClampNeg) := row_eq zz_T2 h
theorem bdk {k : Int32} (h : Bd k 31) : k.toNatClampNeg < 32 := Nat.lt_succ_of_le h.2
theorem bnI {k N : Nat} (h : k ≤ N) (hN : N < 2 ^ 31) : Bd (nI k) N := Bd.of h hN
theorem b_0 (N : Nat) : Bd (0 : Int32) N := ⟨by decide, Nat.zero_le _⟩
theorem hc_0 {τ : StT} : fX5_hasCopy τ = (0 : Int32) ↔ τ.2.2.2.1.2.2.1 = (0 : Int32) := by
  unfold fX5_hasCopy
  by_cases c : τ.2.2.2.1.2.2.1 = (0 : Int32)
  · rw [if_pos c]; exact ⟨fun _ => c, fun _ => rfl⟩
  · rw [if_neg c]; exact ⟨fun h => absurd h (by decide), fun h => absurd h c⟩
theorem ic_0 {s : FnI} : fX7_isCopy s = (0 : Int32) ↔ s 0 = (0 : Int32) := by
  unfold fX7_isCopy
  by_cases c : s 0 = (0 : Int32)
  · rw [if_pos c]; exact ⟨fun _ => c, fun _ => rfl⟩
  · rw [if_neg c]; exact ⟨fun h => absurd h (by decide), fun h => absurd h c⟩
theorem lf_0 {s : FnI} : fX7_isLogFull s = (0 : Int32) ↔ (s 0 = (0 : Int32) ∨ ¬ s 4 = (24 : Int32)) := by
  unfold fX7_isLogFull
  by_cases c : s 0 = (0 : Int32)
  · rw [if_pos (ic_0.mpr c)]; exact ⟨fun _ => Or.inl c, fun _ => rfl⟩
  · rw [if_neg (fun h => c (ic_0.mp h))]
    by_cases d : s 4 = (24 : Int32)
    · rw [if_pos d]; exact ⟨fun h => absurd h (by decide), fun h => h.elim (fun q => absurd q c) (fun q => absurd d q)⟩
    · rw [if_neg d]; exact ⟨fun _ => Or.inr d, fun _ => rfl⟩
theorem ie_bd {x : Int32} {N : Nat} (h : Bd x N) (hN : N < 2 ^ 31) : fX6_isError x = (0 : Int32) := by
  obtain ⟨j, hj, rfl⟩ := h.num
  unfold fX6_isError
  rw [if_pos (nI_pos' (by omega))]
theorem ie_out {v : Int32} (h : RV v) : fX6_isError (fX7_outside v) = (0 : Int32) := by
  rcases h with h | h
  · rw [h]; decide
  · rw [out_b h (by omega)]; exact ie_bd h (by omega)
theorem cnt_b (f : FnI) : ∀ (n k c : Nat), c ≤ k → k ≤ 32 → 32 - k < n → Bd (fX3_count_4 f n (nI c) k) 32
  | 0, _, _, _, _, h => absurd h (by omega)
  | n + 1, k, c, hc, hk, hn => by
    unfold fX3_count_4
    by_cases q : (32 : Int32) ≤ nI k
    · rw [if_pos q]; exact Bd.of (by omega) (by omega)
    · have hk2 := lt32 hk q
      rw [if_neg q]
      by_cases r : f k = (-5 : Int32)
      · rw [if_pos r]; exact cnt_b f n (k + 1) c (by omega) (by omega) (by omega)
      · rw [if_neg r, nI_1]; exact cnt_b f n (k + 1) (c + 1) (by omega) (by omega) (by omega)
theorem count_b (f : FnI) : Bd (fX3_count f) 32 := cnt_b f 33 0 0 (by omega) (by omega) (by omega)
theorem is_in {x a b : Int32} : fX6_isIn x a b = fX7_in x a b := rfl
theorem is_key {x : Int32} : fX6_isKey x = fX7_isKey x := rfl
theorem in_or {x a b : Int32} : fX7_in x a b = 0 ∨ fX7_in x a b = 1 := by
  unfold fX7_in
  by_cases c : x < a
  · rw [if_pos c]; exact Or.inl rfl
  · rw [if_neg c]
    by_cases d : b < x
    · rw [if_pos d]; exact Or.inl rfl
    · rw [if_neg d]; exact Or.inr rfl
theorem bval {v : Int32} (h : ¬ fX7_in v (0 : Int32) (99 : Int32) = (0 : Int32)) : Bd v 99 := zz_inB (by decide) (by decide) (by omega) h
/-! acts: an error of the reference, or an answer and a new state of both -/
def Act (c : Int32 × StT) (e : Int32) (d : Int32 × FnI) (s : FnI) : Prop := ((0 : Int32) ≤ e ∧ c.1 = d.1 ∧ RS c.2 d.2 ∧ fX6_isError c.1 = (0 : Int32)) ∨ (¬ (0 : Int32) ≤ e ∧ c.1 = e ∧ RS c.2 s ∧ ¬ fX6_isError c.1 = (0 : Int32))
theorem Act.no {c : Int32 × StT} {e : Int32} {d : Int32 × FnI} {s : FnI} (h0 : ¬ (0 : Int32) ≤ e) (h1 : c.1 = e) (h2 : RS c.2 s) (h3 : ¬ fX6_isError e = (0 : Int32)) : Act c e d s := Or.inr ⟨h0, h1, h2, by rw [h1]; exact h3⟩
theorem Act.yes {c : Int32 × StT} {e : Int32} {d : Int32 × FnI} {s : FnI} (h0 : (0 : Int32) ≤ e) (h1 : c.1 = d.1) (h2 : RS c.2 d.2) (h3 : fX6_isError d.1 = (0 : Int32)) : Act c e d s := Or.inl ⟨h0, h1, h2, by rw [h1]; exact h3⟩
theorem ce_no {s : FnI} (h3 : ¬ s 0 = (3 : Int32)) (h : s 0 = (0 : Int32) ∨ ¬ s 4 = (24 : Int32)) : fX7_changeError s = (0 : Int32) := by
  unfold fX7_changeError
  rw [if_neg h3, if_pos (lf_0.mpr h)]
theorem ce_full {s : FnI} (h3 : ¬ s 0 = (3 : Int32)) (h0 : ¬ s 0 = (0 : Int32)) (h : s 4 = (24 : Int32)) : fX7_changeError s = if s 10 = (1 : Int32) then (-3 : Int32) else (0 : Int32) := by
  unfold fX7_changeError
  rw [if_neg h3, if_neg (fun q => (lf_0.mp q).elim h0 (fun r => r h))]
theorem slotN {ks vs : FnI} {st sz : Int32} {e : Nat} (hw : Bd st 23) (he : e < 2 ^ 30) : (fX2_slotOf (nI e) (ks, vs, st, sz)).toNatClampNeg = (st.toNatClampNeg + e) % 24 := by
  obtain ⟨j, hj, rfl⟩ := hw.num
  unfold fX2_slotOf
  dsimp only
  rw [nI_add, rem_n (d := 24) (D := (24 : Int32)) (by omega) (by omega) (by omega) rfl, nI_clamp (by omega), nI_clamp (by omega)]
set_option maxHeartbeats 1000000 in
theorem A_change {τ : StT} {s : FnI} {k v : Int32} (R : RS τ s) (hk : Bd k 31) (hv : RV v) (h3 : ¬ s 0 = (3 : Int32)) : Act (fX5_changeRow k (fX7_outside v) τ) (fX7_changeError s) (fX7_doChange k v s) s := by
  obtain ⟨hw, hm, hc⟩ := R
  have hw2 := ws_change (Prod.eta (fX5_changeRow k (fX7_outside v) τ)).symm hw
  have hm2 := WM_change (v := v) hm hk
  obtain ⟨lv, od, ho, ⟨sh, ⟨ks, vs, st, sz⟩, ph, kd, lt, cu, ag⟩, se, to⟩ := τ
  dsimp only at hc
  have hc0 := hc
  obtain ⟨hlv, hsh, hod, ⟨rfl, rfl, rfl, rfl, rfl, rfl⟩, hse, hto, hb, hz, hg⟩ := hc
  have kb := bdk hk
  by_cases c0 : s 0 = (0 : Int32)
  · have e1 : fX5_changeRow k (fX7_outside v) (lv, od, s 6, (sh, (ks, vs, st, sz), s 0, s 1, s 2, s 3, s 5), se, to) = (lv k.toNatClampNeg, (upd lv k.toNatClampNeg (fX7_outside v), od, s 6, (sh, (ks, vs, st, sz), s 0, s 1, s 2, s 3, s 5), se, to)) := by
      unfold fX5_changeRow
      rw [if_pos (hc_0.mpr c0)]
      dsimp only
      rw [at_is hk, place_is hk]
    have e2 : fX7_doChange k v s = (fX7_outside (s (19 + k.toNatClampNeg)), upd s (19 + k.toNatClampNeg) v) := by
      unfold fX7_doChange
      rw [if_pos (lf_0.mpr (Or.inl c0)), if_pos (ic_0.mpr c0)]
      dsimp only
      rw [lay0 hk, row0 hk]
    rw [e1] at hw2 ⊢
    rw [e2] at hm2 ⊢
    refine Act.yes (by rw [ce_no h3 (Or.inl c0)]; decide) (hlv _ kb).1 ⟨hw2, hm2, ?_⟩ (ie_out (hlv _ kb).2)
    dsimp only
    refine ⟨hlv.put hv, hsh.up (by omega), hod.up (by omega), ⟨?_, ?_, ?_, ?_, ?_, ?_⟩, fun q hq => ?_, fun q hq => ?_, ?_, fun _ => ?_, fun q => ?_⟩
    · rw [pk_un (by omega)]
    · rw [pk_un (by omega)]
    · rw [pk_un (by omega)]
    · rw [pk_un (by omega)]
    · rw [pk_un (by omega)]
    · rw [pk_un (by omega)]
    · rw [pk_un (by omega)]; exact hse q hq
    · rw [pk_un (by omega)]; exact hto q hq
    · exact hb.up (by omega) (by omega) (by omega)
    · rw [pk_un (by omega)]; exact hz c0
    · rw [pk_un (by omega)] at q; exact absurd c0 q
  · obtain ⟨g1, g2⟩ := hg c0
    have hwl : WL (ks, vs, st, sz) := hw.1
    have hst : Bd st 23 := hwl.1
    subst g1
    obtain ⟨N, hN, eN⟩ := hm.1.num
    have cN : (s 4).toNatClampNeg = N := by rw [eN, nI_clamp (by omega)]
    by_cases c4 : s 4 = (24 : Int32)
    · have ea : fX2_add k (fX7_outside v) (ks, vs, st, s 4) = ((0 : Int32), (ks, vs, st, s 4)) := by
        unfold fX2_add
        dsimp only
        rw [if_neg (by rw [c4]; decide)]
      have eS : se 3 = s 10 := hse 3 (by omega)
      by_cases cS : s 10 = (1 : Int32)
      · have e1 : fX5_changeRow k (fX7_outside v) (lv, od, s 6, (sh, (ks, vs, st, s 4), s 0, s 1, s 2, s 3, s 5), se, to) = ((-3 : Int32), (lv, od, s 6, (sh, (ks, vs, st, s 4), s 0, s 1, s 2, s 3, s 5), se, to)) := by
          unfold fX5_changeRow
          rw [if_neg (fun q => c0 (hc_0.mp q))]
          dsimp only
          rw [ea]
          dsimp only
          rw [if_pos rfl, if_pos (by rw [eS]; exact cS)]
        rw [e1]
        refine Act.no ?_ ?_ ⟨hw, hm, hc0⟩ ?_
        · rw [ce_full h3 c0 c4, if_pos cS]; decide
        · rw [ce_full h3 c0 c4, if_pos cS]
        · rw [ce_full h3 c0 c4, if_pos cS]; decide
      · have e1 : fX5_changeRow k (fX7_outside v) (lv, od, s 6, (sh, (ks, vs, st, s 4), s 0, s 1, s 2, s 3, s 5), se, to) = (lv k.toNatClampNeg, (upd lv k.toNatClampNeg (fX7_outside v), od, s 6, (sh, (ks, vs, st, s 4), (0 : Int32), s 1, s 2, s 3, s 5), se, upd to 2 (to 2 + (1 : Int32)))) := by
          unfold fX5_changeRow
          rw [if_neg (fun q => c0 (hc_0.mp q))]
          dsimp only
          rw [ea]
          dsimp only
          rw [if_pos rfl, if_neg (by rw [eS]; exact cS)]
          unfold fX5_endGivenUp
          dsimp only
          rw [at_is hk, place_is hk]
        have e2 : fX7_doChange k v s = (fX7_outside (s (19 + k.toNatClampNeg)), upd (upd (upd (upd s 0 (0 : Int32)) 4 (0 : Int32)) 13 (s 13 + (1 : Int32))) (19 + k.toNatClampNeg) v) := by
          unfold fX7_doChange
          rw [if_neg (fun q => (lf_0.mp q).elim c0 (fun r => r c4))]
          unfold fX7_endCopy
          dsimp only
          rw [if_pos (ic_0.mpr rfl), lay0 hk, row0 hk]
          rfl
        rw [e1] at hw2 ⊢
        rw [e2] at hm2 ⊢
        refine Act.yes (by rw [ce_full h3 c0 c4, if_neg cS]; decide) (hlv _ kb).1 ⟨hw2, hm2, ?_⟩ (ie_out (hlv _ kb).2)
        have hto2 : ∀ q : Nat, q < 8 → upd to 2 (to 2 + (1 : Int32)) q = upd (upd (upd s 0 (0 : Int32)) 4 (0 : Int32)) 13 (s 13 + (1 : Int32)) (11 + q) := tot_fr hto (i := 2) (by omega) rfl (fun q hq hne => by rw [pk_un (by omega), pk_un (by omega), pk_un (by omega)])
        have hb2 : RB (upd (upd (upd s 0 (0 : Int32)) 4 (0 : Int32)) 13 (s 13 + (1 : Int32))) := And.intro (b_0 3) (And.intro hb.2.1 (And.intro (fun q => absurd q (by show ¬ (0 : Int32) = 3; decide)) (And.intro (fun q hq => by rw [pk_un (by omega), pk_un (by omega), pk_un (by omega)]; exact hb.2.2.2.1 q hq) hb.2.2.2.2)))
        have hS := RC.scal hc0 hm (to' := upd to 2 (to 2 + (1 : Int32))) (u := upd (upd (upd s 0 (0 : Int32)) 4 (0 : Int32)) 13 (s 13 + (1 : Int32))) (fun j h1 h2 => by rw [pk_un (by omega), pk_un (by omega), pk_un (by omega)]) rfl (fun q hq => by rw [pk_un (by omega), pk_un (by omega), pk_un (by omega)]) hto2 hb2 (fun _ => rfl) (fun q => absurd rfl q)
        obtain ⟨i1, i2, i3, i4, i5, i6, i7, i8, i9⟩ := hS
        dsimp only
        refine ⟨i1.put hv, i2.up (by omega), i3.up (by omega), ⟨?_, ?_, ?_, ?_, ?_, ?_⟩, fun q hq => ?_, fun q hq => ?_, ?_, fun _ => ?_, fun q => ?_⟩
        · rw [pk_un (by omega)]; rfl
        · rw [pk_un (by omega)]; rfl
        · rw [pk_un (by omega)]; rfl
        · rw [pk_un (by omega)]; rfl
        · rw [pk_un (by omega)]; rfl
        · rw [pk_un (by omega)]; rfl
        · rw [pk_un (by omega)]; exact i5 q hq
        · exact (i6 q hq).trans (pk_un (by omega)).symm
        · exact i7.up (by omega) (by omega) (by omega)
        · rw [pk_un (by omega)]; rfl
        · rw [pk_un (by omega)] at q; exact absurd rfl q
    · have hN2 : N < 24 := by
        rcases Nat.lt_or_ge N 24 with g | g
        · exact g
        · exact absurd (by rw [eN, show N = 24 from by omega]; rfl) c4
      have sl : (fX2_slotOf (s 4) (ks, vs, st, s 4)).toNatClampNeg = (st.toNatClampNeg + N) % 24 := by
        rw [show fX2_slotOf (s 4) (ks, vs, st, s 4) = fX2_slotOf (nI N) (ks, vs, st, s 4) from by rw [eN]]
        exact slotN hst (by omega)
      have ea : fX2_add k (fX7_outside v) (ks, vs, st, s 4) = ((1 : Int32), (upd ks ((st.toNatClampNeg + N) % 24) k, upd vs ((st.toNatClampNeg + N) % 24) (fX7_outside v), st, s 4 + (1 : Int32))) := by
        unfold fX2_add
        dsimp only
        rw [if_pos (by rw [eN, Int32.lt_iff_toInt_lt, nI_toInt (by omega)]; show (N : Int) < 24; omega), sl]
      have e1 : fX5_changeRow k (fX7_outside v) (lv, od, s 6, (sh, (ks, vs, st, s 4), s 0, s 1, s 2, s 3, s 5), se, to) = (lv k.toNatClampNeg, (upd lv k.toNatClampNeg (fX7_outside v), od, s 6, (sh, (upd ks ((st.toNatClampNeg + N) % 24) k, upd vs ((st.toNatClampNeg + N) % 24) (fX7_outside v), st, s 4 + (1 : Int32)), s 0, s 1, s 2, s 3, s 5), se, to)) := by
        unfold fX5_changeRow
        rw [if_neg (fun q => c0 (hc_0.mp q))]
        dsimp only
        rw [ea]
        dsimp only
        rw [if_neg (by decide), at_is hk, place_is hk]
      have e2 : fX7_doChange k v s = (fX7_outside (s (19 + k.toNatClampNeg)), upd (upd (upd (upd s (115 + 2 * N) k) (115 + 2 * N + 1) v) 4 (s 4 + (1 : Int32))) (19 + k.toNatClampNeg) v) := by
        unfold fX7_doChange
        rw [if_pos (lf_0.mpr (Or.inr c4)), if_neg (fun q => c0 (ic_0.mp q))]
        dsimp only
        rw [lay0 hk, row0 hk, cN]
      rw [e1] at hw2 ⊢
      rw [e2] at hm2 ⊢
      refine Act.yes (by rw [ce_no h3 (Or.inr c4)]; decide) (hlv _ kb).1 ⟨hw2, hm2, ?_⟩ (ie_out (hlv _ kb).2)
      have lo : ∀ j : Nat, j < 115 → ¬ j = 4 → ¬ j = 19 + k.toNatClampNeg → upd (upd (upd (upd s (115 + 2 * N) k) (115 + 2 * N + 1) v) 4 (s 4 + (1 : Int32))) (19 + k.toNatClampNeg) v j = s j := fun j h1 h2 h4 => by
        rw [pk_un h4, pk_un h2, pk_un (by omega), pk_un (by omega)]
      dsimp only
      refine ⟨RT.put (hlv.frame (fun q hq => by rw [pk_un (by omega), pk_un (by omega), pk_un (by omega)])) hv, hsh.frame (fun q hq => lo _ (by omega) (by omega) (by omega)), hod.frame (fun q hq => ?_), ⟨(lo 6 (by omega) (by omega) (by omega)).symm, (lo 0 (by omega) (by omega) (by omega)).symm, (lo 1 (by omega) (by omega) (by omega)).symm, (lo 2 (by omega) (by omega) (by omega)).symm, (lo 3 (by omega) (by omega) (by omega)).symm, (lo 5 (by omega) (by omega) (by omega)).symm⟩, fun q hq => ?_, fun q hq => ?_, ?_, fun q => ?_, fun q => ?_⟩
      · by_cases g : 83 + q < 115
        · exact lo _ g (by omega) (by omega)
        · omega
      · rw [lo _ (by omega) (by omega) (by omega)]; exact hse q hq
      · rw [lo _ (by omega) (by omega) (by omega)]; exact hto q hq
      · unfold RB; rw [lo 0 (by omega) (by omega) (by omega), lo 5 (by omega) (by omega) (by omega), lo 9 (by omega) (by omega) (by omega)]; exact ⟨hb.1, hb.2.1, hb.2.2.1, fun q hq => by rw [lo _ (by omega) (by omega) (by omega)]; exact hb.2.2.2.1 q hq, hb.2.2.2.2⟩
      · rw [lo 0 (by omega) (by omega) (by omega)] at q; exact absurd q c0
      · have e4 : upd (upd (upd (upd s (115 + 2 * N) k) (115 + 2 * N + 1) v) 4 (s 4 + (1 : Int32))) (19 + k.toNatClampNeg) v 4 = s 4 + (1 : Int32) := by rw [pk_un (by omega), pk_us]
        rw [e4]
        refine ⟨rfl, fun i hi => ?_⟩
        have c5 : (s 4 + (1 : Int32)).toNatClampNeg = N + 1 := by rw [eN, nI_1, nI_clamp (by omega)]
        rw [c5] at hi
        by_cases g : i = N
        · subst g
          rw [pk_us, pk_us, pk_un (by omega), pk_un (by omega), pk_un (by omega), pk_us, pk_un (by omega), pk_un (by omega), pk_us]
          exact ⟨rfl, rfl, hv⟩
        · have hi2 : i < N := by omega
          have hne : (st.toNatClampNeg + i) % 24 ≠ (st.toNatClampNeg + N) % 24 := by omega
          have := g2 i (by rw [cN]; exact hi2)
          rw [pk_un hne, pk_un hne, pk_un (by omega), pk_un (by omega), pk_un (by omega), pk_un (by omega), pk_un (by omega), pk_un (by omega), pk_un (by omega), pk_un (by omega)]
          exact this
