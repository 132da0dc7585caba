/-! ticks -/
/-- what a tick's entries and keys leave as it is -/
def SM (σ u : StT) : Prop := u.1 = σ.1 ∧ u.2.1 = σ.2.1 ∧ u.2.2.1 = σ.2.2.1 ∧ u.2.2.2.1.2.2.2.1 = σ.2.2.2.1.2.2.2.1 ∧ u.2.2.2.1.2.2.2.2.1 = σ.2.2.2.1.2.2.2.2.1 ∧ u.2.2.2.2.1 = σ.2.2.2.2.1
theorem SM.rfl' (σ : StT) : SM σ σ := ⟨rfl, rfl, rfl, rfl, rfl, rfl⟩
theorem SM.trans {a b c : StT} (h : SM a b) (g : SM b c) : SM a c := ⟨g.1.trans h.1, g.2.1.trans h.2.1, g.2.2.1.trans h.2.2.1, g.2.2.2.1.trans h.2.2.2.1, g.2.2.2.2.1.trans h.2.2.2.2.1, g.2.2.2.2.2.trans h.2.2.2.2.2⟩
def stepA (σ : StT) : StT := (σ.1, σ.2.1, σ.2.2.1, ((fX3_place (fX2_keyAt (0 : Int32) σ.2.2.2.1.2.1) (fX6_changedValue σ.2.2.2.1.2.2.2.1 (fX2_keyAt (0 : Int32) σ.2.2.2.1.2.1) (fX2_valueAt (0 : Int32) σ.2.2.2.1.2.1)) σ.2.2.2.1.1), (fX2_removeFirst σ.2.2.2.1.2.1), σ.2.2.2.1.2.2.1, σ.2.2.2.1.2.2.2.1, σ.2.2.2.1.2.2.2.2.1, σ.2.2.2.1.2.2.2.2.2.1, σ.2.2.2.1.2.2.2.2.2.2), σ.2.2.2.2.1, (upd σ.2.2.2.2.2 5 ((σ.2.2.2.2.2 5) + (1 : Int32))))
theorem key0 {ks vs : FnI} {st sz : Int32} (hw : Bd st 23) (hz : ¬ sz ≤ (0 : Int32)) : fX2_keyAt (0 : Int32) (ks, vs, st, sz) = eK ks st 0 ∧ fX2_valueAt (0 : Int32) (ks, vs, st, sz) = eK vs st 0 := by
  unfold fX2_keyAt fX2_valueAt
  dsimp only
  rw [if_neg (by decide), if_neg hz, if_neg (by decide), if_neg hz, show fX2_slotOf (0 : Int32) (ks, vs, st, sz) = fX2_slotOf (nI 0) (ks, vs, st, sz) from rfl, slotN hw (by omega)]
  exact ⟨rfl, rfl⟩
theorem first_is {ks vs : FnI} {st sz : Int32} (hw : Bd st 23) (hz : ¬ sz ≤ (0 : Int32)) : ∃ st2 : Int32, fX2_removeFirst (ks, vs, st, sz) = (ks, vs, st2, sz - (1 : Int32)) ∧ st2.toNatClampNeg = (st.toNatClampNeg + 1) % 24 ∧ Bd st2 23 := by
  obtain ⟨j, hj, rfl⟩ := hw.num
  unfold fX2_removeFirst
  dsimp only
  rw [if_neg hz]
  refine ⟨_, rfl, slotN (ks := ks) (vs := vs) (sz := sz) (e := 1) hw (by omega), ?_⟩
  unfold fX2_slotOf
  dsimp only
  rw [nI_1, rem_n (d := 24) (D := (24 : Int32)) (by omega) (by omega) (by omega) rfl]
  exact Bd.of (by omega) (by omega)
theorem ifx {α : Type} {c : Prop} {d : Decidable c} {x y : α} (h : c) : (if c then x else y) = x := if_pos h
theorem IV.step {e : Nat} {σ : StT} (h : IV e σ) (h0 : ¬ σ.2.2.2.1.2.2.1 = (0 : Int32)) {m : Nat} (hm : m + 1 ≤ 24) (hz : σ.2.2.2.1.2.1.2.2.2 = nI (m + 1)) : IV e (stepA σ) ∧ (stepA σ).2.2.2.1.2.1.2.2.2 = nI m := by
  obtain ⟨lv, od, ho, ⟨sh, ⟨ks, vs, st, sz⟩, ph, kd, lt, cu, ag⟩, se, to⟩ := σ
  obtain ⟨⟨hl, hcu, hho, hlv, hsh, hph, hag, hcp, hse, hto⟩, hc⟩ := h
  dsimp only at *
  subst hz
  obtain ⟨c1, c2, c3, c4⟩ := hcp h0
  have hnz : ¬ nI (m + 1) ≤ (0 : Int32) := nI_nle (by omega) (by omega)
  obtain ⟨k1, k2⟩ := key0 (ks := ks) (vs := vs) hl.1 hnz
  obtain ⟨st2, f1, f2, f3⟩ := first_is (ks := ks) (vs := vs) hl.1 hnz
  have e1 : (nI (m + 1)).toNatClampNeg = m + 1 := nI_clamp (by omega)
  have e2 : (nI m).toNatClampNeg = m := nI_clamp (by omega)
  rw [e1] at c4
  obtain ⟨kb, vb⟩ := c4.1 0 (by omega)
  obtain ⟨k0, hk0, ek⟩ := kb.num
  have eS : stepA (lv, od, ho, (sh, (ks, vs, st, nI (m + 1)), ph, kd, lt, cu, ag), se, to) = (lv, od, ho, (upd sh k0 (chg kd k0 (eK vs st 0)), (ks, vs, st2, nI m), ph, kd, lt, cu, ag), se, upd to 5 (to 5 + (1 : Int32))) := by
    unfold stepA
    dsimp only
    rw [k1, k2, f1, ek, placeN (by omega), show nI (m + 1) - (1 : Int32) = nI m from nI_pred m]
    rfl
  rw [eS]
  refine ⟨⟨⟨⟨f3, Bd.of (by omega) (by omega)⟩, hcu, hho, hlv, RW.upd hsh (chg_rw (by omega) vb), hph, hag, fun _ => ⟨c1, c2, c3, ?_⟩, hse, hto.up (by omega) (by omega) (by omega) (by omega)⟩, hc⟩, rfl⟩
  show LR lv (upd sh k0 (chg kd k0 (eK vs st 0))) kd cu.toNatClampNeg (nI m).toNatClampNeg (eK ks st2) (eK vs st2)
  rw [e2]
  refine c4.pop (fun i hi => ?_) ek (by omega)
  have e3 : (st2.toNatClampNeg + i) % 24 = (st.toNatClampNeg + (i + 1)) % 24 := by rw [f2]; omega
  unfold eK
  rw [e3]
  exact ⟨rfl, rfl⟩
theorem ap_is {e p : Nat} (hp : p ≤ 8) : ∀ (n j m : Nat) (σ : StT), IV e σ → ¬ σ.2.2.2.1.2.2.1 = (0 : Int32) → σ.2.2.2.2.1 0 = nI p → σ.2.2.2.1.2.1.2.2.2 = nI m → m ≤ 24 → m < n → j ≤ 8 →
    IV e (fX5_applyEntries_10 n j σ) ∧ SM σ (fX5_applyEntries_10 n j σ) ∧ (fX5_applyEntries_10 n j σ).2.2.2.1.2.2.1 = σ.2.2.2.1.2.2.1 ∧ (fX5_applyEntries_10 n j σ).2.2.2.1.2.2.2.2.2 = σ.2.2.2.1.2.2.2.2.2 ∧ (fX5_applyEntries_10 n j σ).2.2.2.1.2.1.2.2.2 = nI (m - min (p - j) m) ∧ (fX5_applyEntries_10 n j σ).2.2.2.2.2 5 = σ.2.2.2.2.2 5 + nI (min (p - j) m) ∧ ∀ i : Nat, i ≠ 5 → (fX5_applyEntries_10 n j σ).2.2.2.2.2 i = σ.2.2.2.2.2 i
  | 0, _, _, _, _, _, _, _, _, h, _ => absurd h (by omega)
  | n + 1, j, m, σ, h, h0, h7, hz, hm, hn, hj => by
    unfold fX5_applyEntries_10
    by_cases c1 : p ≤ j
    · rw [if_pos (by rw [h7]; exact nI_le c1 (by omega))]
      have e0 : min (p - j) m = 0 := by omega
      rw [e0]
      exact ⟨h, SM.rfl' σ, rfl, rfl, hz, (i_add0 _).symm, fun _ _ => rfl⟩
    · rw [if_neg (by rw [h7]; exact nI_ge (by omega) (by omega))]
      cases m with
      | zero =>
        rw [if_pos (by rw [hz]; decide)]
        have e0 : min (p - j) 0 = 0 := by omega
        rw [e0]
        exact ⟨h, SM.rfl' σ, rfl, rfl, hz, (i_add0 _).symm, fun _ _ => rfl⟩
      | succ m =>
        rw [if_neg (by rw [hz]; exact nI_nle (by omega) (by omega))]
        obtain ⟨g1, g2⟩ := h.step h0 hm hz
        obtain ⟨a1, a2, a3, a4, a5, a6, a7⟩ := ap_is hp n (j + 1) m (stepA σ) g1 h0 h7 g2 (by omega) (by omega) (by omega)
        refine ⟨a1, SM.trans ⟨rfl, rfl, rfl, rfl, rfl, rfl⟩ a2, a3, a4, ?_, ?_, fun i hi => ?_⟩
        · rw [show m + 1 - min (p - j) (m + 1) = m - min (p - (j + 1)) m from by omega]; exact a5
        · rw [show min (p - j) (m + 1) = 1 + min (p - (j + 1)) m from by omega, ← nI_add, ← Int32.add_assoc]
          refine a6.trans ?_
          show upd σ.2.2.2.2.2 5 (σ.2.2.2.2.2 5 + (1 : Int32)) 5 + _ = _
          rw [pk_us]; rfl
        · refine (a7 i hi).trans ?_
          show upd σ.2.2.2.2.2 5 (σ.2.2.2.2.2 5 + (1 : Int32)) i = _
          rw [pk_un hi]
/-- a key is copied -/
def nxK (k : Nat) (σ : StT) : StT := (σ.1, σ.2.1, σ.2.2.1, (fX0_copyKey (nI k) (fX3_at (nI k) σ.1) σ.2.2.2.1).2, σ.2.2.2.2.1, if (fX0_copyKey (nI k) (fX3_at (nI k) σ.1) σ.2.2.2.1).1 = (0 : Int32) then σ.2.2.2.2.2 else upd σ.2.2.2.2.2 6 ((σ.2.2.2.2.2 6) + (1 : Int32)))
theorem key_is {lv sh : FnI} {lg : LogT} {ph kd lt cu ag : Int32} {k : Nat} (hk : k < 32) : ∃ (r : Int32) (sh' : FnI), fX0_copyKey (nI k) (fX3_at (nI k) lv) (sh, lg, ph, kd, lt, cu, ag) = (r, (sh', lg, ph, kd, lt, nI (k + 1), ag)) ∧ (∀ j : Nat, j ≠ k → sh' j = sh j) ∧ (sh' k = if chg kd k (lv k) = (-5 : Int32) then sh k else if sh k = (-5 : Int32) then chg kd k (lv k) else sh k) := by
  unfold fX0_copyKey
  dsimp only
  rw [atN hk, atN hk, placeN hk, nI_1]
  show ∃ (r : Int32) (sh' : FnI), (if chg kd k (lv k) = (-5 : Int32) then _ else _) = _ ∧ _
  by_cases c1 : chg kd k (lv k) = (-5 : Int32)
  · rw [if_pos c1, if_pos c1]
    exact ⟨_, _, rfl, fun _ _ => rfl, rfl⟩
  · rw [if_neg c1, if_neg c1]
    by_cases c2 : sh k = (-5 : Int32)
    · rw [if_pos c2, if_pos c2]
      exact ⟨_, _, rfl, fun j hj => pk_un hj, pk_us⟩
    · rw [if_neg c2, if_neg c2]
      exact ⟨_, _, rfl, fun _ _ => rfl, rfl⟩
theorem IW.key {e : Nat} {σ : StT} (h : IW e σ) (h1 : σ.2.2.2.1.2.2.1 = (1 : Int32)) {k : Nat} (hk : k < 32) (hc : σ.2.2.2.1.2.2.2.2.2.1 = nI k) : IW e (nxK k σ) ∧ SM σ (nxK k σ) ∧ (nxK k σ).2.2.2.1.2.1 = σ.2.2.2.1.2.1 ∧ (nxK k σ).2.2.2.1.2.2.1 = (1 : Int32) ∧ (nxK k σ).2.2.2.1.2.2.2.2.2.1 = nI (k + 1) ∧ (nxK k σ).2.2.2.1.2.2.2.2.2.2 = σ.2.2.2.1.2.2.2.2.2.2 ∧ ∀ i : Nat, i ≠ 6 → (nxK k σ).2.2.2.2.2 i = σ.2.2.2.2.2 i := by
  obtain ⟨lv, od, ho, ⟨sh, ⟨ks, vs, st, sz⟩, ph, kd, lt, cu, ag⟩, se, to⟩ := σ
  obtain ⟨hl, hcu, hho, hlv, hsh, hph, hag, hcp, hse, hto⟩ := h
  dsimp only at *
  subst hc
  subst h1
  obtain ⟨c1, c2, c3, c4⟩ := hcp (by decide)
  obtain ⟨r, sh', e1, e2, e3⟩ := key_is (lv := lv) (sh := sh) (lg := (ks, vs, st, sz)) (ph := (1 : Int32)) (kd := kd) (lt := lt) (cu := nI k) (ag := ag) hk
  have eN : nxK k (lv, od, ho, (sh, (ks, vs, st, sz), (1 : Int32), kd, lt, nI k, ag), se, to) = (lv, od, ho, (sh', (ks, vs, st, sz), (1 : Int32), kd, lt, nI (k + 1), ag), se, if r = (0 : Int32) then to else upd to 6 (to 6 + (1 : Int32))) := by
    unfold nxK
    dsimp only
    rw [e1]
  rw [eN]
  have ht : TO e (1 : Int32) ho (if r = (0 : Int32) then to else upd to 6 (to 6 + (1 : Int32))) ∧ ∀ i : Nat, i ≠ 6 → (if r = (0 : Int32) then to else upd to 6 (to 6 + (1 : Int32))) i = to i := by
    by_cases q : r = (0 : Int32)
    · rw [if_pos q]; exact ⟨hto, fun _ _ => rfl⟩
    · rw [if_neg q]; exact ⟨hto.up (by omega) (by omega) (by omega) (by omega), fun i hi => pk_un hi⟩
  have hk1 : (nI k).toNatClampNeg = k := nI_clamp (by omega)
  have hk2 : (nI (k + 1)).toNatClampNeg = k + 1 := nI_clamp (by omega)
  rw [hk1] at c4
  refine ⟨⟨hl, Bd.of (by omega) (by omega), hho, hlv, fun j hj => ?_, Bd.of (j := 1) (by omega) (by omega), hag, fun _ => ⟨c1, c2, c3, ?_⟩, hse, ht.1⟩, ⟨rfl, rfl, rfl, rfl, rfl, rfl⟩, rfl, rfl, rfl, rfl, ht.2⟩
  · show RW (sh' j)
    by_cases q : j = k
    · subst q
      rw [e3]
      by_cases q1 : chg kd j (lv j) = (-5 : Int32)
      · rw [if_pos q1]; exact hsh j hj
      · rw [if_neg q1]
        by_cases q2 : sh j = (-5 : Int32)
        · rw [if_pos q2]; exact chg_rw hj (hlv j hj)
        · rw [if_neg q2]; exact hsh j hj
    · rw [e2 j q]; exact hsh j hj
  · show LR lv sh' kd (nI (k + 1)).toNatClampNeg sz.toNatClampNeg (eK ks st) (eK vs st)
    rw [hk2]
    exact c4.key e2 e3
/-- a lot's end -/
def lotE (σ : StT) : StT := if σ.2.2.2.1.2.2.2.2.2.1 < (32 : Int32) then σ else (σ.1, σ.2.1, σ.2.2.1, (σ.2.2.2.1.1, σ.2.2.2.1.2.1, (2 : Int32), σ.2.2.2.1.2.2.2.1, σ.2.2.2.1.2.2.2.2.1, σ.2.2.2.1.2.2.2.2.2.1, σ.2.2.2.1.2.2.2.2.2.2), σ.2.2.2.2.1, σ.2.2.2.2.2)
theorem lot_1 (n : Nat) (cnt : Int32) (k : Nat) (σ : StT) : fX5_copyLot_40 (n + 1) cnt k σ = if (32 : Int32) ≤ nI k then lotE σ else if σ.2.2.2.1.2.2.2.2.1 ≤ cnt then lotE σ else fX5_copyLot_40 n (if fX3_at (nI k) σ.1 = (-5 : Int32) then cnt else cnt + (1 : Int32)) (k + 1) (nxK k σ) := by
  conv => lhs; unfold fX5_copyLot_40
  by_cases c1 : (32 : Int32) ≤ nI k
  · rw [if_pos c1, if_pos c1]; rfl
  · rw [if_neg c1, if_neg c1]
    by_cases c2 : σ.2.2.2.1.2.2.2.2.1 ≤ cnt
    · rw [if_pos c2, if_pos c2]; rfl
    · rw [if_neg c2, if_neg c2]
      unfold nxK
      generalize fX0_copyKey (nI k) (fX3_at (nI k) σ.1) σ.2.2.2.1 = q
      obtain ⟨r, u⟩ := q
      dsimp only
      by_cases c3 : fX3_at (nI k) σ.1 = (-5 : Int32)
      · rw [if_pos c3, if_pos c3]
        by_cases c4 : r = (0 : Int32)
        · rw [if_pos c4, if_pos c4]
        · rw [if_neg c4, if_neg c4]
      · rw [if_neg c3, if_neg c3]
        by_cases c4 : r = (0 : Int32)
        · rw [if_pos c4, if_pos c4]
        · rw [if_neg c4, if_neg c4]
/-- what a lot leaves -/
def LE (e : Nat) (σ u : StT) : Prop := IV e u ∧ SM σ u ∧ u.2.2.2.1.2.1 = σ.2.2.2.1.2.1 ∧ (u.2.2.2.1.2.2.1 = (1 : Int32) ∨ u.2.2.2.1.2.2.1 = (2 : Int32)) ∧ σ.2.2.2.1.2.2.2.2.2.1.toNatClampNeg ≤ u.2.2.2.1.2.2.2.2.2.1.toNatClampNeg ∧ ∀ i : Nat, i ≠ 6 → i ≠ 4 → u.2.2.2.2.2 i = σ.2.2.2.2.2 i
theorem lotE_is {e k : Nat} {σ : StT} (h : IW e σ) (h1 : σ.2.2.2.1.2.2.1 = (1 : Int32)) (hk : k ≤ 32) (hc : σ.2.2.2.1.2.2.2.2.2.1 = nI k) : LE e σ (lotE σ) := by
  have hk1 : (nI k).toNatClampNeg = k := nI_clamp (by omega)
  unfold lotE
  by_cases c : k < 32
  · rw [if_pos (by rw [hc]; exact nI_lt (b := 32) c (by omega))]
    exact ⟨⟨h, fun _ => by rw [hc, hk1]; exact c, fun _ q => absurd h1 q⟩, SM.rfl' σ, rfl, Or.inl h1, Nat.le_refl _, fun _ _ _ => rfl⟩
  · rw [if_neg (by rw [hc]; exact nI_nlt (b := 32) (by omega) (by omega))]
    obtain ⟨hl, hcu, hho, hlv, hsh, hph, hag, hcp, hse, hto⟩ := h
    have h0 : ¬ σ.2.2.2.1.2.2.1 = (0 : Int32) := by rw [h1]; decide
    obtain ⟨c1, c2, c3, c4⟩ := hcp h0
    refine ⟨⟨⟨hl, hcu, hho, hlv, hsh, Bd.of (j := 2) (by omega) (by omega), hag, fun _ => ⟨c1, c2, fun q => absurd q (show ¬ (2 : Int32) = (3 : Int32) by decide), c4⟩, hse, hto.phase h0 (show ¬ (2 : Int32) = (0 : Int32) by decide)⟩, fun q => absurd q (show ¬ (2 : Int32) = (1 : Int32) by decide), fun _ _ => ?_⟩, ⟨rfl, rfl, rfl, rfl, rfl, rfl⟩, rfl, Or.inr rfl, Nat.le_refl _, fun _ _ _ => rfl⟩
    show σ.2.2.2.1.2.2.2.2.2.1.toNatClampNeg = 32
    rw [hc, hk1]; omega
theorem LE.trans {e : Nat} {a b c : StT} (h1 : SM a b) (h2 : b.2.2.2.1.2.1 = a.2.2.2.1.2.1) (h3 : a.2.2.2.1.2.2.2.2.2.1.toNatClampNeg ≤ b.2.2.2.1.2.2.2.2.2.1.toNatClampNeg) (h4 : ∀ i : Nat, i ≠ 6 → b.2.2.2.2.2 i = a.2.2.2.2.2 i) (h : LE e b c) : LE e a c :=
  ⟨h.1, h1.trans h.2.1, h.2.2.1.trans h2, h.2.2.2.1, Nat.le_trans h3 h.2.2.2.2.1, fun i a1 a2 => (h.2.2.2.2.2 i a1 a2).trans (h4 i a1)⟩
theorem lot_is {e : Nat} : ∀ (n k : Nat) (cnt : Int32) (σ : StT), IW e σ → σ.2.2.2.1.2.2.1 = (1 : Int32) → σ.2.2.2.1.2.2.2.2.2.1 = nI k → k ≤ 32 → 32 - k < n → LE e σ (fX5_copyLot_40 n cnt k σ)
  | 0, _, _, _, _, _, _, _, h => absurd h (by omega)
  | n + 1, k, cnt, σ, h, h1, hc, hk, hn => by
    rw [lot_1]
    by_cases c1 : (32 : Int32) ≤ nI k
    · rw [if_pos c1]; exact lotE_is h h1 hk hc
    · rw [if_neg c1]
      by_cases c2 : σ.2.2.2.1.2.2.2.2.1 ≤ cnt
      · rw [if_pos c2]; exact lotE_is h h1 hk hc
      · rw [if_neg c2]
        have hk2 := lt32 hk c1
        obtain ⟨a1, a2, a3, a4, a5, a6, a7⟩ := h.key h1 hk2 hc
        refine LE.trans a2 a3 ?_ a7 (lot_is n (k + 1) _ (nxK k σ) a1 a4 a5 (by omega) (by omega))
        rw [a5, hc, nI_clamp (by omega), nI_clamp (by omega)]
        omega
theorem copyLot_is {e : Nat} {σ : StT} (h : IV e σ) (h1 : σ.2.2.2.1.2.2.1 = (1 : Int32)) : LE e σ (fX5_copyLot σ) := by
  unfold fX5_copyLot
  by_cases c : σ.2.2.2.1.2.1.2.2.2 ≤ σ.2.2.2.2.1 1
  · rw [if_pos c]
    have hb := h.1.2.1
    exact lot_is 33 _ _ σ h.1 h1 hb.1 hb.2 (by omega)
  · rw [if_neg c]
    obtain ⟨⟨hl, hcu, hho, hlv, hsh, hph, hag, hcp, hse, hto⟩, hc⟩ := h
    exact ⟨⟨⟨hl, hcu, hho, hlv, hsh, hph, hag, hcp, hse, hto.up (by omega) (by omega) (by omega) (by omega)⟩, hc⟩, ⟨rfl, rfl, rfl, rfl, rfl, rfl⟩, rfl, Or.inl h1, Nat.le_refl _, fun i _ h4 => pk_un h4⟩
/-- a tick behind the lock's clock -/
def finT (σ : StT) : StT := if (fX5_applyEntries σ).2.2.2.1.2.2.1 = (1 : Int32) then fX5_copyLot (fX5_applyEntries σ) else fX5_applyEntries σ
/-- what a tick does that lets no lock time out -/
def FT (e : Nat) (σ u : StT) : Prop := IV e u ∧ SM σ u ∧ ¬ u.2.2.2.1.2.2.1 = (0 : Int32) ∧ σ.2.2.2.1.2.2.2.2.2.1.toNatClampNeg ≤ u.2.2.2.1.2.2.2.2.2.1.toNatClampNeg ∧ (σ.2.2.2.1.2.2.1 = (3 : Int32) ↔ u.2.2.2.1.2.2.1 = (3 : Int32)) ∧ (σ.2.2.2.1.2.2.1 = (3 : Int32) → u.2.2.2.1.2.2.2.2.2.2 = σ.2.2.2.1.2.2.2.2.2.2) ∧
  (∃ m p : Nat, m ≤ 24 ∧ p ≤ 8 ∧ σ.2.2.2.1.2.1.2.2.2 = nI m ∧ σ.2.2.2.2.1 0 = nI p ∧ u.2.2.2.1.2.1.2.2.2 = nI (m - min p m) ∧ u.2.2.2.2.2 5 = σ.2.2.2.2.2 5 + nI (min p m)) ∧ u.2.2.2.2.2 3 = σ.2.2.2.2.2 3 ∧ u.2.2.2.2.2 7 = σ.2.2.2.2.2 7
theorem fin_is {e : Nat} {σ : StT} (h : IV e σ) (h0 : ¬ σ.2.2.2.1.2.2.1 = (0 : Int32)) : FT e σ (finT σ) := by
  obtain ⟨m, hm, em⟩ := h.1.1.2.num
  obtain ⟨q, hq, eq⟩ := h.1.2.2.2.2.2.2.2.2.1.1
  obtain ⟨a1, a2, a3, a4, a5, a6, a7⟩ := ap_is (e := e) (p := q + 1) (by omega) 25 0 m σ h h0 eq em hm (by omega) (by omega)
  rw [Nat.sub_zero] at a5 a6
  unfold finT
  have eA : fX5_applyEntries σ = fX5_applyEntries_10 25 0 σ := rfl
  rw [eA]
  generalize fX5_applyEntries_10 25 0 σ = u at a1 a2 a3 a4 a5 a6 a7 ⊢
  have g4 : u.2.2.2.1.2.2.2.2.2.1 = σ.2.2.2.1.2.2.2.2.2.1 := congrArg Prod.fst a4
  have g5 : u.2.2.2.1.2.2.2.2.2.2 = σ.2.2.2.1.2.2.2.2.2.2 := congrArg Prod.snd a4
  by_cases c : u.2.2.2.1.2.2.1 = (1 : Int32)
  · rw [if_pos c]
    obtain ⟨b1, b2, b3, b4, b5, b6⟩ := copyLot_is a1 c
    have n3 : ¬ (fX5_copyLot u).2.2.2.1.2.2.1 = (3 : Int32) := fun q => by rcases b4 with b | b <;> rw [b] at q <;> exact absurd q (by decide)
    have s3 : ¬ σ.2.2.2.1.2.2.1 = (3 : Int32) := fun q => absurd ((a3.trans q).symm.trans c) (by decide)
    refine ⟨b1, a2.trans b2, fun q => by rcases b4 with b | b <;> rw [b] at q <;> exact absurd q (by decide), by rw [← g4]; exact b5, ⟨fun q => absurd q s3, fun q => absurd q n3⟩, fun q => absurd q s3, ⟨m, q + 1, hm, by omega, em, eq, by rw [b3]; exact a5, by rw [b6 5 (by omega) (by omega)]; exact a6⟩, by rw [b6 3 (by omega) (by omega)]; exact a7 3 (by omega), by rw [b6 7 (by omega) (by omega)]; exact a7 7 (by omega)⟩
  · rw [if_neg c]
    exact ⟨a1, a2, by rw [a3]; exact h0, by rw [g4]; exact Nat.le_refl _, by rw [a3], fun _ => g5, ⟨m, q + 1, hm, by omega, em, eq, a5, a6⟩, a7 3 (by omega), a7 7 (by omega)⟩
/-- a tick's count -/
def tk7 (τ : StT) : StT := (τ.1, τ.2.1, τ.2.2.1, τ.2.2.2.1, τ.2.2.2.2.1, (upd τ.2.2.2.2.2 7 ((τ.2.2.2.2.2 7) + (1 : Int32))))
def agA (τ : StT) : StT := (τ.1, τ.2.1, τ.2.2.1, (τ.2.2.2.1.1, τ.2.2.2.1.2.1, τ.2.2.2.1.2.2.1, τ.2.2.2.1.2.2.2.1, τ.2.2.2.1.2.2.2.2.1, τ.2.2.2.1.2.2.2.2.2.1, (τ.2.2.2.1.2.2.2.2.2.2 + (1 : Int32))), τ.2.2.2.2.1, τ.2.2.2.2.2)
def agB (τ : StT) : StT := (τ.1, τ.2.1, τ.2.2.1, (τ.2.2.2.1.1, τ.2.2.2.1.2.1, (2 : Int32), τ.2.2.2.1.2.2.2.1, τ.2.2.2.1.2.2.2.2.1, τ.2.2.2.1.2.2.2.2.2.1, (τ.2.2.2.1.2.2.2.2.2.2 + (1 : Int32))), τ.2.2.2.2.1, (upd τ.2.2.2.2.2 3 ((τ.2.2.2.2.2 3) + (1 : Int32))))
theorem tick_eq (τ : StT) : fX5_makeTick τ = if τ.2.2.2.1.2.2.1 = (0 : Int32) then tk7 τ else if τ.2.2.2.1.2.2.1 = (3 : Int32) then (if τ.2.2.2.2.1 2 < τ.2.2.2.1.2.2.2.2.2.2 + (1 : Int32) then agB (tk7 τ) else finT (agA (tk7 τ))) else finT (tk7 τ) := by
  unfold fX5_makeTick
  have hh : fX5_hasCopy (τ.1, τ.2.1, τ.2.2.1, τ.2.2.2.1, τ.2.2.2.2.1, (upd τ.2.2.2.2.2 7 ((τ.2.2.2.2.2 7) + (1 : Int32)))) = fX5_hasCopy τ := rfl
  rw [hh]
  by_cases c0 : τ.2.2.2.1.2.2.1 = (0 : Int32)
  · rw [if_pos (hc_0.mpr c0), if_pos c0]; rfl
  · rw [if_neg (fun q => c0 (hc_0.mp q)), if_neg c0]
    unfold fX5_lockRunsOut
    dsimp only
    by_cases c3 : τ.2.2.2.1.2.2.1 = (3 : Int32)
    · rw [if_pos c3, if_pos c3]
      by_cases c4 : τ.2.2.2.2.1 2 < τ.2.2.2.1.2.2.2.2.2.2 + (1 : Int32)
      · rw [if_pos c4, if_pos c4]
        dsimp only
        rw [if_neg (by decide)]
        rfl
      · rw [if_neg c4, if_neg c4]
        dsimp only
        rw [if_pos rfl]
        rfl
    · rw [if_neg c3, if_neg c3]
      dsimp only
      rw [if_pos rfl]
      rfl
/-- what a tick does -/
def TK (e : Nat) (τ u : StT) : Prop := IV (e + 1) u ∧ u.2.2.2.2.1 = τ.2.2.2.2.1 ∧ u.2.2.2.2.2 7 = τ.2.2.2.2.2 7 + (1 : Int32) ∧
  ((τ.2.2.2.1.2.2.1 = (0 : Int32) ∧ u = tk7 τ)
  ∨ (τ.2.2.2.1.2.2.1 = (3 : Int32) ∧ u.2.2.2.1.2.2.1 = (2 : Int32) ∧ u.2.2.2.2.2 3 = τ.2.2.2.2.2 3 + (1 : Int32) ∧ u.2.2.2.2.2 5 = τ.2.2.2.2.2 5 ∧ u.2.2.2.1.2.1 = τ.2.2.2.1.2.1 ∧ u.2.2.2.1.2.2.2.2.2.1 = τ.2.2.2.1.2.2.2.2.2.1)
  ∨ (¬ τ.2.2.2.1.2.2.1 = (0 : Int32) ∧ ¬ u.2.2.2.1.2.2.1 = (0 : Int32) ∧ τ.2.2.2.1.2.2.2.2.2.1.toNatClampNeg ≤ u.2.2.2.1.2.2.2.2.2.1.toNatClampNeg ∧ u.2.2.2.2.2 3 = τ.2.2.2.2.2 3 ∧ (u.2.2.2.1.2.2.1 = (3 : Int32) → ¬ τ.2.2.2.2.1 2 < u.2.2.2.1.2.2.2.2.2.2) ∧
    ∃ m p : Nat, m ≤ 24 ∧ p ≤ 8 ∧ τ.2.2.2.1.2.1.2.2.2 = nI m ∧ τ.2.2.2.2.1 0 = nI p ∧ u.2.2.2.1.2.1.2.2.2 = nI (m - min p m) ∧ u.2.2.2.2.2 5 = τ.2.2.2.2.2 5 + nI (min p m)))
theorem IV.tk7 {e : Nat} {τ : StT} (h : IV e τ) : IV e (tk7 τ) := by
  obtain ⟨⟨hl, hcu, hho, hlv, hsh, hph, hag, hcp, hse, hto⟩, hc⟩ := h
  exact ⟨⟨hl, hcu, hho, hlv, hsh, hph, hag, hcp, hse, hto.up (by omega) (by omega) (by omega) (by omega)⟩, hc⟩
theorem FT.tk {e : Nat} {τ σ u : StT} (h : FT e σ u) (g0 : σ.2.2.2.2.1 = τ.2.2.2.2.1) (g1 : σ.2.2.2.1.2.1 = τ.2.2.2.1.2.1) (g2 : σ.2.2.2.1.2.2.2.2.2.1 = τ.2.2.2.1.2.2.2.2.2.1) (g3 : ∀ i : Nat, i ≠ 7 → σ.2.2.2.2.2 i = τ.2.2.2.2.2 i) (g7 : σ.2.2.2.2.2 7 = τ.2.2.2.2.2 7 + (1 : Int32)) (h0 : ¬ τ.2.2.2.1.2.2.1 = (0 : Int32)) (h3 : σ.2.2.2.1.2.2.1 = (3 : Int32) → ¬ τ.2.2.2.2.1 2 < σ.2.2.2.1.2.2.2.2.2.2) : TK e τ u := by
  obtain ⟨a1, a2, a3, a4, a5, a6, ⟨m, p, b1, b2, b3, b4, b5, b6⟩, a8, a9⟩ := h
  refine ⟨a1.mono (by omega), a2.2.2.2.2.2.trans g0, a9.trans g7, Or.inr (Or.inr ⟨h0, a3, by rw [← g2]; exact a4, by rw [a8]; exact g3 3 (by omega), fun q => by rw [a6 (a5.mpr q)]; exact h3 (a5.mpr q), m, p, b1, b2, by rw [← g1]; exact b3, by rw [← g0]; exact b4, b5, by rw [b6, g3 5 (by omega)]⟩)⟩
theorem tk7_7 (τ : StT) : (tk7 τ).2.2.2.2.2 7 = τ.2.2.2.2.2 7 + (1 : Int32) := (pk_us : upd τ.2.2.2.2.2 7 (τ.2.2.2.2.2 7 + (1 : Int32)) 7 = _)
theorem tick_is {e : Nat} {τ : StT} (h : IV e τ) : TK e τ (fX5_makeTick τ) := by
  rw [tick_eq]
  have ht := h.tk7
  by_cases c0 : τ.2.2.2.1.2.2.1 = (0 : Int32)
  · rw [if_pos c0]
    exact ⟨ht.mono (by omega), rfl, tk7_7 τ, Or.inl ⟨c0, rfl⟩⟩
  · rw [if_neg c0]
    by_cases c3 : τ.2.2.2.1.2.2.1 = (3 : Int32)
    · rw [if_pos c3]
      have c1 : ¬ τ.2.2.2.1.2.2.1 = (1 : Int32) := by rw [c3]; decide
      obtain ⟨⟨hl, hcu, hho, hlv, hsh, hph, hag, hcp, hse, hto⟩, hc⟩ := ht
      obtain ⟨d1, d2, d3, d4⟩ := hcp c0
      have hb : Bd τ.2.2.2.1.2.2.2.2.2.2 20 := d3 c3
      obtain ⟨a, ha, ea⟩ := hb.num
      obtain ⟨p, hp, ep⟩ := hse.2.2.1
      have ep : τ.2.2.2.2.1 2 = nI (p + 1) := ep
      by_cases c4 : τ.2.2.2.2.1 2 < τ.2.2.2.1.2.2.2.2.2.2 + (1 : Int32)
      · rw [if_pos c4]
        obtain ⟨t1, t2, b, b1, b2⟩ := hto
        have t1 : (tk7 τ).2.2.2.2.2 0 = (tk7 τ).2.2.2.2.2 1 + (tk7 τ).2.2.2.2.2 2 + (1 : Int32) := t1.trans (congrArg (fun z => _ + z) (if_neg c0))
        refine ⟨⟨⟨hl, hcu, hho, hlv, hsh, Bd.of (j := 2) (by omega) (by omega), ?_, fun _ => ⟨d1, d2, fun q => absurd q (show ¬ (2 : Int32) = (3 : Int32) by decide), d4⟩, hse, ?_⟩, fun q => absurd q (show ¬ (2 : Int32) = (1 : Int32) by decide), fun _ _ => hc.2 c0 c1⟩, rfl, ?_, Or.inr (Or.inl ⟨c3, rfl, ?_, ?_, rfl, rfl⟩)⟩
        · show Bd (τ.2.2.2.1.2.2.2.2.2.2 + (1 : Int32)) 21
          rw [ea, nI_1]; exact Bd.of (by omega) (by omega)
        · show TO (e + 1) (2 : Int32) τ.2.2.1 (upd (tk7 τ).2.2.2.2.2 3 ((tk7 τ).2.2.2.2.2 3 + (1 : Int32)))
          unfold TO
          rw [pk_un (by decide), pk_un (by decide), pk_un (by decide), pk_us, if_neg (by decide)]
          obtain ⟨a', a1, a2⟩ := t2
          exact ⟨t1, ⟨a', by omega, a2⟩, b + 1, by omega, by rw [b2, nI_1]⟩
        · show upd (upd τ.2.2.2.2.2 7 (τ.2.2.2.2.2 7 + (1 : Int32))) 3 (upd τ.2.2.2.2.2 7 (τ.2.2.2.2.2 7 + (1 : Int32)) 3 + (1 : Int32)) 7 = _
          rw [pk_un (by decide), pk_us]
        · show upd (upd τ.2.2.2.2.2 7 (τ.2.2.2.2.2 7 + (1 : Int32))) 3 (upd τ.2.2.2.2.2 7 (τ.2.2.2.2.2 7 + (1 : Int32)) 3 + (1 : Int32)) 3 = _
          rw [pk_us, pk_un (by decide)]
        · show upd (upd τ.2.2.2.2.2 7 (τ.2.2.2.2.2 7 + (1 : Int32))) 3 (upd τ.2.2.2.2.2 7 (τ.2.2.2.2.2 7 + (1 : Int32)) 3 + (1 : Int32)) 5 = _
          rw [pk_un (by decide), pk_un (by decide)]
      · rw [if_neg c4]
        have hle : a + 1 ≤ p + 1 := by
          rw [ea, ep, nI_1] at c4
          exact Nat.le_of_not_lt (fun q => c4 (nI_lt q (by omega)))
        have hA : IV e (agA (tk7 τ)) := by
          refine ⟨⟨hl, hcu, hho, hlv, hsh, hph, ?_, fun _ => ⟨d1, d2, fun _ => ?_, d4⟩, hse, hto⟩, hc⟩
          · show Bd (τ.2.2.2.1.2.2.2.2.2.2 + (1 : Int32)) 21
            rw [ea, nI_1]; exact Bd.of (by omega) (by omega)
          · show Bd (τ.2.2.2.1.2.2.2.2.2.2 + (1 : Int32)) 20
            rw [ea, nI_1]; exact Bd.of (by omega) (by omega)
        exact (fin_is hA c0).tk rfl rfl rfl (fun i hi => pk_un hi) (tk7_7 τ) c0 (fun _ => c4)
    · rw [if_neg c3]
      exact (fin_is ht c0).tk rfl rfl rfl (fun i hi => pk_un hi) (tk7_7 τ) c0 (fun q => absurd q c3)
