/-! what holds of a state between the law's acts -/
def SE (se : FnI) : Prop := (∃ a : Nat, a ≤ 7 ∧ se 0 = nI (a + 1)) ∧ Bd (se 1) 24 ∧ (∃ a : Nat, a ≤ 19 ∧ se 2 = nI (a + 1)) ∧ Bd (se 3) 1
def TO (e : Nat) (ph ho : Int32) (to : FnI) : Prop := to 0 = to 1 + to 2 + (if ph = (0 : Int32) then (0 : Int32) else (1 : Int32)) ∧ (∃ a : Nat, a ≤ e ∧ to 1 = nI a ∧ (ho = (0 : Int32) ↔ a = 0)) ∧ ∃ b : Nat, b ≤ e ∧ to 3 = nI b
def eK (ks : FnI) (st : Int32) : FnI := fun i => ks ((st.toNatClampNeg + i) % 24)
def CPf (lv sh ks vs : FnI) (st sz ph kd lt cu ag : Int32) : Prop := Bd kd 4 ∧ (∃ q : Nat, q ≤ 7 ∧ lt = nI (q + 1)) ∧ (ph = (3 : Int32) → Bd ag 20) ∧ LR lv sh kd cu.toNatClampNeg sz.toNatClampNeg (eK ks st) (eK vs st)
def IWf (e : Nat) (lv : FnI) (ho : Int32) (sh ks vs : FnI) (st sz ph kd lt cu ag : Int32) (se to : FnI) : Prop :=
  (Bd st 23 ∧ Bd sz 24) ∧ Bd cu 32 ∧ BL ho ∧ (∀ k : Nat, k < 32 → RW (lv k)) ∧ (∀ k : Nat, k < 32 → RW (sh k)) ∧ Bd ph 3 ∧ Bd ag 21 ∧ (¬ ph = (0 : Int32) → CPf lv sh ks vs st sz ph kd lt cu ag) ∧ SE se ∧ TO e ph ho to
/-- without the cursor's clause -/
def IW (e : Nat) (τ : StT) : Prop := IWf e τ.1 τ.2.2.1 τ.2.2.2.1.1 τ.2.2.2.1.2.1.1 τ.2.2.2.1.2.1.2.1 τ.2.2.2.1.2.1.2.2.1 τ.2.2.2.1.2.1.2.2.2 τ.2.2.2.1.2.2.1 τ.2.2.2.1.2.2.2.1 τ.2.2.2.1.2.2.2.2.1 τ.2.2.2.1.2.2.2.2.2.1 τ.2.2.2.1.2.2.2.2.2.2 τ.2.2.2.2.1 τ.2.2.2.2.2
def CU (ph cu : Int32) : Prop := (ph = (1 : Int32) → cu.toNatClampNeg < 32) ∧ (¬ ph = (0 : Int32) → ¬ ph = (1 : Int32) → cu.toNatClampNeg = 32)
def IV (e : Nat) (τ : StT) : Prop := IW e τ ∧ CU τ.2.2.2.1.2.2.1 τ.2.2.2.1.2.2.2.2.2.1
theorem IW.ws {e : Nat} {τ : StT} (h : IW e τ) : WS τ := ⟨h.1, h.2.1, h.2.2.1⟩
theorem IV.ws {e : Nat} {τ : StT} (h : IV e τ) : WS τ := h.1.ws
theorem TO.mono {e e' : Nat} {ph ho : Int32} {to : FnI} (h : TO e ph ho to) (he : e ≤ e') : TO e' ph ho to := by
  obtain ⟨h1, ⟨a, a1, a2⟩, b, b1, b2⟩ := h
  exact ⟨h1, ⟨a, by omega, a2⟩, b, by omega, b2⟩
theorem IV.mono {e e' : Nat} {τ : StT} (h : IV e τ) (he : e ≤ e') : IV e' τ := by
  obtain ⟨⟨h1, h2, h3, h4, h5, h6, h7, h8, h9, h10⟩, hc⟩ := h
  exact ⟨⟨h1, h2, h3, h4, h5, h6, h7, h8, h9, h10.mono he⟩, hc⟩
theorem IV.cp {e : Nat} {τ : StT} (h : IV e τ) (h0 : ¬ τ.2.2.2.1.2.2.1 = (0 : Int32)) : CPf τ.1 τ.2.2.2.1.1 τ.2.2.2.1.2.1.1 τ.2.2.2.1.2.1.2.1 τ.2.2.2.1.2.1.2.2.1 τ.2.2.2.1.2.1.2.2.2 τ.2.2.2.1.2.2.1 τ.2.2.2.1.2.2.2.1 τ.2.2.2.1.2.2.2.2.1 τ.2.2.2.1.2.2.2.2.2.1 τ.2.2.2.1.2.2.2.2.2.2 := h.1.2.2.2.2.2.2.2.1 h0
theorem IV.ph {e : Nat} {τ : StT} (h : IV e τ) : τ.2.2.2.1.2.2.1 = (0 : Int32) ∨ τ.2.2.2.1.2.2.1 = (1 : Int32) ∨ τ.2.2.2.1.2.2.1 = (2 : Int32) ∨ τ.2.2.2.1.2.2.1 = (3 : Int32) := by
  obtain ⟨j, hj, e1⟩ := h.1.2.2.2.2.2.1.num
  rw [e1]
  match j, hj with
  | 0, _ => exact Or.inl rfl
  | 1, _ => exact Or.inr (Or.inl rfl)
  | 2, _ => exact Or.inr (Or.inr (Or.inl rfl))
  | 3, _ => exact Or.inr (Or.inr (Or.inr rfl))
  | j + 4, h => exact absurd h (by omega)
/-- in the phases 2 and 3, with an empty log, nothing differs -/
theorem IV.same {e : Nat} {τ : StT} (h : IV e τ) (h0 : ¬ τ.2.2.2.1.2.2.1 = (0 : Int32)) (h1 : ¬ τ.2.2.2.1.2.2.1 = (1 : Int32)) (hz : τ.2.2.2.1.2.1.2.2.2 = (0 : Int32)) {k : Nat} (hk : k < 32) : τ.2.2.2.1.1 k = chg τ.2.2.2.1.2.2.2.1 k (τ.1 k) := by
  have hl := (h.cp h0).2.2.2
  rw [hz, h.2.2 h0 h1] at hl
  exact hl.done hk
/-! the start -/
theorem IV.zero {τ : StT} (h : τ = ((fun _ => (-5 : Int32)), τ.2.1, (0 : Int32), (τ.2.2.2.1.1, τ.2.2.2.1.2.1, (0 : Int32), τ.2.2.2.1.2.2.2), τ.2.2.2.2.1, τ.2.2.2.2.2)) : τ.2.2.1 = (0 : Int32) := by rw [h]
/-! a change of a row -/
section CHG
variable {e : Nat} {lv od : FnI} {ho : Int32} {sh ks vs : FnI} {st sz ph kd lt cu ag : Int32} {se to : FnI}
theorem RW.upd {f : FnI} (h : ∀ k : Nat, k < 32 → RW (f k)) {k0 : Nat} {v : Int32} (hv : RW v) : ∀ k : Nat, k < 32 → RW (upd f k0 v k) := fun k hk => by
  by_cases q : k = k0
  · subst q; rw [pk_us]; exact hv
  · rw [pk_un q]; exact h k hk
theorem ch_0 {k : Nat} {v : Int32} (hk : k < 32) (h0 : ph = (0 : Int32)) : fX5_changeRow (nI k) v (lv, od, ho, (sh, (ks, vs, st, sz), ph, kd, lt, cu, ag), se, to) = (lv k, (upd lv k v, od, ho, (sh, (ks, vs, st, sz), ph, kd, lt, cu, ag), se, to)) := by
  unfold fX5_changeRow
  rw [if_pos (hc_0.mpr h0), atN hk, placeN hk]
theorem add_y {k v : Int32} (hst : Bd st 23) {m : Nat} (hm : m < 24) : fX2_add k v (ks, vs, st, nI m) = ((1 : Int32), (upd ks ((st.toNatClampNeg + m) % 24) k, upd vs ((st.toNatClampNeg + m) % 24) v, st, nI (m + 1))) := by
  unfold fX2_add
  dsimp only
  rw [if_pos (show nI m < (24 : Int32) from nI_lt (b := 24) hm (by omega)), slotN hst (by omega), nI_1]
theorem add_n {k v : Int32} : fX2_add k v (ks, vs, st, (24 : Int32)) = ((0 : Int32), (ks, vs, st, (24 : Int32))) := by
  unfold fX2_add
  dsimp only
  rw [if_neg (by decide)]
theorem ch_n {k : Nat} {v : Int32} (hk : k < 32) (h0 : ¬ ph = (0 : Int32)) (hst : Bd st 23) {m : Nat} (hz : sz = nI m) (hm : m < 24) : fX5_changeRow (nI k) v (lv, od, ho, (sh, (ks, vs, st, sz), ph, kd, lt, cu, ag), se, to) = (lv k, (upd lv k v, od, ho, (sh, (upd ks ((st.toNatClampNeg + m) % 24) (nI k), upd vs ((st.toNatClampNeg + m) % 24) v, st, nI (m + 1)), ph, kd, lt, cu, ag), se, to)) := by
  subst hz
  unfold fX5_changeRow
  rw [if_neg (fun q => h0 (hc_0.mp q))]
  dsimp only
  rw [add_y hst hm]
  dsimp only
  rw [if_neg (by decide), atN hk, placeN hk]
theorem ch_s {k : Nat} {v : Int32} (h0 : ¬ ph = (0 : Int32)) (hz : sz = (24 : Int32)) (hs : se 3 = (1 : Int32)) : fX5_changeRow (nI k) v (lv, od, ho, (sh, (ks, vs, st, sz), ph, kd, lt, cu, ag), se, to) = ((-3 : Int32), (lv, od, ho, (sh, (ks, vs, st, sz), ph, kd, lt, cu, ag), se, to)) := by
  subst hz
  unfold fX5_changeRow
  rw [if_neg (fun q => h0 (hc_0.mp q))]
  dsimp only
  rw [add_n]
  dsimp only
  rw [if_pos rfl, if_pos hs]
theorem ch_g {k : Nat} {v : Int32} (hk : k < 32) (h0 : ¬ ph = (0 : Int32)) (hz : sz = (24 : Int32)) (hs : ¬ se 3 = (1 : Int32)) : fX5_changeRow (nI k) v (lv, od, ho, (sh, (ks, vs, st, sz), ph, kd, lt, cu, ag), se, to) = (lv k, (upd lv k v, od, ho, (sh, (ks, vs, st, sz), (0 : Int32), kd, lt, cu, ag), se, upd to 2 (to 2 + (1 : Int32)))) := by
  subst hz
  unfold fX5_changeRow
  rw [if_neg (fun q => h0 (hc_0.mp q))]
  unfold fX5_endGivenUp
  dsimp only
  rw [add_n]
  dsimp only
  rw [if_pos rfl, if_neg hs, atN hk, placeN hk]
theorem TO.up {j : Nat} {x : Int32} (h : TO e ph ho to) (h0 : j ≠ 0) (h1 : j ≠ 1) (h2 : j ≠ 2) (h3 : j ≠ 3) : TO e ph ho (upd to j x) := by
  unfold TO
  rw [pk_un (Ne.symm h0), pk_un (Ne.symm h1), pk_un (Ne.symm h2), pk_un (Ne.symm h3)]
  exact h
theorem TO.give (h : TO e ph ho to) (h0 : ¬ ph = (0 : Int32)) : TO e (0 : Int32) ho (upd to 2 (to 2 + (1 : Int32))) := by
  obtain ⟨h1, h2⟩ := h
  unfold TO
  rw [pk_un (by decide), pk_un (by decide), pk_us, pk_un (by decide), if_pos rfl]
  rw [if_neg h0] at h1
  exact ⟨by rw [h1, Int32.add_zero, Int32.add_assoc], h2⟩
theorem TO.phase {x : Int32} (h : TO e ph ho to) (h0 : ¬ ph = (0 : Int32)) (hx : ¬ x = (0 : Int32)) : TO e x ho to := by
  obtain ⟨h1, h2⟩ := h
  rw [if_neg h0] at h1
  exact ⟨by rw [if_neg hx]; exact h1, h2⟩
theorem mod24_ne {a i m : Nat} (hi : i < m) (hm : m < 24) : ¬ (a + i) % 24 = (a + m) % 24 := by omega
theorem IV.change {τ : StT} (h : IV e τ) {k : Nat} (hk : k < 32) {v : Int32} (hv : RW v) (h3 : ¬ τ.2.2.2.1.2.2.1 = (3 : Int32)) :
    IV e (fX5_changeRow (nI k) v τ).2 ∧ ((¬ τ.2.2.2.1.2.2.1 = (0 : Int32) ∧ τ.2.2.2.1.2.1.2.2.2 = (24 : Int32) ∧ τ.2.2.2.2.1 3 = (1 : Int32) ∧ fX5_changeRow (nI k) v τ = ((-3 : Int32), τ)) ∨
      (¬ (¬ τ.2.2.2.1.2.2.1 = (0 : Int32) ∧ τ.2.2.2.1.2.1.2.2.2 = (24 : Int32) ∧ τ.2.2.2.2.1 3 = (1 : Int32)) ∧ (fX5_changeRow (nI k) v τ).1 = τ.1 k ∧ (fX5_changeRow (nI k) v τ).2.1 = upd τ.1 k v ∧
        ((τ.2.2.2.1.2.2.1 = (0 : Int32) ∧ (fX5_changeRow (nI k) v τ).2.2.2.2.1.2.2.1 = (0 : Int32) ∧ (fX5_changeRow (nI k) v τ).2.2.2.2.2.2 2 = τ.2.2.2.2.2 2)
        ∨ (¬ τ.2.2.2.1.2.2.1 = (0 : Int32) ∧ τ.2.2.2.1.2.1.2.2.2 = (24 : Int32) ∧ (fX5_changeRow (nI k) v τ).2.2.2.2.1.2.2.1 = (0 : Int32) ∧ (fX5_changeRow (nI k) v τ).2.2.2.2.2.2 2 = τ.2.2.2.2.2 2 + (1 : Int32))
        ∨ (¬ τ.2.2.2.1.2.2.1 = (0 : Int32) ∧ ¬ τ.2.2.2.1.2.1.2.2.2 = (24 : Int32) ∧ (fX5_changeRow (nI k) v τ).2.2.2.2.1.2.2.1 = τ.2.2.2.1.2.2.1 ∧ (fX5_changeRow (nI k) v τ).2.2.2.2.1.2.1.2.2.2 = τ.2.2.2.1.2.1.2.2.2 + (1 : Int32) ∧ (fX5_changeRow (nI k) v τ).2.2.2.2.2.2 2 = τ.2.2.2.2.2 2)))) := by
  obtain ⟨lv, od, ho, ⟨sh, ⟨ks, vs, st, sz⟩, ph, kd, lt, cu, ag⟩, se, to⟩ := τ
  obtain ⟨⟨hl, hcu, hho, hlv, hsh, hph, hag, hcp, hse, hto⟩, hc⟩ := h
  dsimp only at *
  by_cases h0 : ph = (0 : Int32)
  · rw [ch_0 hk h0]
    refine ⟨⟨⟨hl, hcu, hho, RW.upd hlv hv, hsh, hph, hag, fun q => absurd h0 q, hse, hto⟩, hc⟩, Or.inr ⟨fun q => q.1 h0, rfl, rfl, Or.inl ⟨h0, h0, rfl⟩⟩⟩
  · obtain ⟨m, hm, rfl⟩ := hl.2.num
    by_cases hm2 : m = 24
    · subst hm2
      by_cases hs : se 3 = (1 : Int32)
      · rw [show nI 24 = (24 : Int32) from rfl] at *
        rw [ch_s h0 rfl hs]
        exact ⟨⟨⟨hl, hcu, hho, hlv, hsh, hph, hag, hcp, hse, hto⟩, hc⟩, Or.inl ⟨h0, rfl, hs, rfl⟩⟩
      · rw [show nI 24 = (24 : Int32) from rfl] at *
        rw [ch_g hk h0 rfl hs]
        exact ⟨⟨⟨hl, hcu, hho, RW.upd hlv hv, hsh, Bd.of (j := 0) (by omega) (by omega), hag, fun q => absurd rfl q, hse, hto.give h0⟩, fun q => absurd q (show ¬ (0 : Int32) = (1 : Int32) by decide), fun q => absurd rfl q⟩, Or.inr ⟨fun q => hs q.2.2, rfl, rfl, Or.inr (Or.inl ⟨h0, rfl, rfl, (pk_us : upd to 2 (to 2 + (1 : Int32)) 2 = to 2 + (1 : Int32))⟩)⟩⟩
    · rw [ch_n hk h0 hl.1 rfl (by omega)]
      obtain ⟨c1, c2, c3, c4⟩ := hcp h0
      have hne : ¬ nI m = (24 : Int32) := fun q => hm2 (nI_inj (b := 24) (by omega) (by omega) q)
      refine ⟨⟨⟨⟨hl.1, Bd.of (by omega) (by omega)⟩, hcu, hho, RW.upd hlv hv, hsh, hph, hag, fun _ => ⟨c1, c2, c3, ?_⟩, hse, hto⟩, hc⟩, Or.inr ⟨fun q => hne q.2.1, rfl, rfl, Or.inr (Or.inr ⟨h0, hne, rfl, (nI_1 m).symm, rfl⟩)⟩⟩
      have e1 : (nI m).toNatClampNeg = m := nI_clamp (by omega)
      have e2 : (nI (m + 1)).toNatClampNeg = m + 1 := nI_clamp (by omega)
      rw [e1] at c4
      show LR (upd lv k v) sh kd cu.toNatClampNeg (nI (m + 1)).toNatClampNeg _ _
      rw [e2]
      exact c4.add hk hv (fun i hi => ⟨pk_un (mod24_ne hi (by omega)), pk_un (mod24_ne hi (by omega))⟩) pk_us pk_us
end CHG
/-! begin, lock, unlock, swap, give up, set -/
section ACTS
variable {e : Nat} {τ : StT}
theorem fill_is : ∀ (n k : Nat) (f : FnI), k ≤ 32 → 32 - k < n → ∀ j : Nat, k ≤ j → j < 32 → fJ7_fill_53178_5 (-5 : Int32) n k f j = (-5 : Int32)
  | 0, _, _, _, h => absurd h (by omega)
  | n + 1, k, f, hk, hn => fun j h1 h2 => by
    unfold fJ7_fill_53178_5
    rw [if_neg (n32 (by omega))]
    by_cases e : j = k
    · subst e
      have hs : ∀ (n k : Nat) (f : FnI), j < k → fJ7_fill_53178_5 (-5 : Int32) n k f j = f j := by
        intro n
        induction n with
        | zero => intro k f _; rfl
        | succ n ih =>
          intro k f h
          unfold fJ7_fill_53178_5
          by_cases c : (32 : Int32) ≤ nI k
          · rw [if_pos c]
          · rw [if_neg c, ih (k + 1) _ (by omega), pk_un (by omega)]
      rw [hs n (j + 1) _ (by omega), pk_us]
    · exact fill_is n (k + 1) _ (by omega) (by omega) j (by omega) h2
theorem rem_is (f : FnI) {j : Nat} (h : j < 32) : fX3_removeAll f j = (-5 : Int32) := fill_is 33 0 f (by omega) (by omega) j (by omega) h
theorem cnt_none {f : FnI} (h : ∀ k : Nat, k < 32 → f k = (-5 : Int32)) (c : Int32) : ∀ (n k : Nat), k ≤ 32 → 32 - k < n → fX3_count_4 f n c k = c
  | 0, _, _, q => absurd q (by omega)
  | n + 1, k, hk, hn => by
    unfold fX3_count_4
    by_cases q : (32 : Int32) ≤ nI k
    · rw [if_pos q]
    · have hk2 := lt32 hk q
      rw [if_neg q, if_pos (h k hk2)]
      exact cnt_none h c n (k + 1) (by omega) (by omega)
theorem count_0 {f : FnI} (h : ∀ k : Nat, k < 32 → f k = (-5 : Int32)) : fX3_count f = (0 : Int32) := cnt_none h (0 : Int32) 33 0 (by omega) (by omega)
theorem IV.begin (h : IV e τ) {kd l : Nat} (hk : kd ≤ 4) (hl : l ≤ 7) :
    (τ.2.2.2.1.2.2.1 = (0 : Int32) ∧ ∃ u : StT, fX5_beginCopy (nI kd) (nI (l + 1)) τ = (fX3_count τ.1, u) ∧ IV e u ∧ u.2.2.2.1.2.2.1 = (1 : Int32) ∧ u.2.2.2.1.2.2.2.1 = nI kd ∧ u.2.2.2.1.2.2.2.2.1 = nI (l + 1) ∧ u.2.2.2.1.2.2.2.2.2.1 = (0 : Int32) ∧ u.2.2.2.1.2.1.2.2.2 = (0 : Int32) ∧ fX3_count u.2.2.2.1.1 = (0 : Int32))
    ∨ (¬ τ.2.2.2.1.2.2.1 = (0 : Int32) ∧ fX5_beginCopy (nI kd) (nI (l + 1)) τ = ((-4 : Int32), τ)) := by
  have k1 : ¬ fX6_isKind (nI kd) = (0 : Int32) := in6_b (N := 4) rfl hk (by omega)
  have k2 : ¬ fX6_isLot (nI (l + 1)) = (0 : Int32) := in6_1 (N := 8) rfl (by omega) (by omega) (by omega)
  by_cases h0 : τ.2.2.2.1.2.2.1 = (0 : Int32)
  · refine Or.inl ⟨h0, (τ.1, τ.2.1, τ.2.2.1, fX0_start (nI kd) (nI (l + 1)) τ.2.2.2.1, τ.2.2.2.2.1, upd τ.2.2.2.2.2 0 (τ.2.2.2.2.2 0 + (1 : Int32))), ?_, ?_, rfl, rfl, rfl, rfl, rfl, count_0 (fun k hk => rem_is τ.2.2.2.1.1 hk)⟩
    · unfold fX5_beginCopy
      rw [if_neg k1, if_neg k2, if_pos (hc_0.mpr h0)]
    · obtain ⟨⟨hl1, hcu, hho, hlv, hsh, hph, hag, hcp, hse, hto⟩, hc⟩ := h
      refine ⟨⟨⟨Bd.of (j := 0) (by omega) (by omega), Bd.of (j := 0) (by omega) (by omega)⟩, Bd.of (j := 0) (by omega) (by omega), hho, hlv, fun k hk => Or.inl (rem_is _ hk), Bd.of (j := 1) (by omega) (by omega), hag, fun _ => ⟨Bd.of hk (by omega), ⟨l, hl, rfl⟩, fun q => absurd q (show ¬ (1 : Int32) = (3 : Int32) by decide), LR.start (fun k hk => rem_is _ hk)⟩, hse, ?_⟩, fun _ => (show (0 : Int32).toNatClampNeg < 32 by decide), fun _ q => absurd rfl q⟩
      obtain ⟨t1, t2⟩ := hto
      rw [if_pos h0] at t1
      show TO e (1 : Int32) τ.2.2.1 (upd τ.2.2.2.2.2 0 (τ.2.2.2.2.2 0 + (1 : Int32)))
      unfold TO
      rw [pk_us, pk_un (by decide), pk_un (by decide), pk_un (by decide), if_neg (by decide)]
      exact ⟨by rw [t1, Int32.add_zero], t2⟩
  · refine Or.inr ⟨h0, ?_⟩
    unfold fX5_beginCopy
    rw [if_neg k1, if_neg k2, if_neg (fun q => h0 (hc_0.mp q))]
theorem IV.lock (h : IV e τ) : (τ.2.2.2.1.2.2.1 = (2 : Int32) ∧ ∃ u : StT, fX5_lockLive τ = (τ.2.2.2.1.2.1.2.2.2, u) ∧ IV e u ∧ u.2.2.2.1.2.2.1 = (3 : Int32) ∧ u.2.2.2.1.2.2.2.2.2.2 = (0 : Int32)) ∨ (¬ τ.2.2.2.1.2.2.1 = (2 : Int32) ∧ fX5_lockLive τ = ((-4 : Int32), τ)) := by
  unfold fX5_lockLive
  by_cases h2 : τ.2.2.2.1.2.2.1 = (2 : Int32)
  · refine Or.inl ⟨h2, _, by rw [if_pos h2], ?_, rfl, rfl⟩
    have h0 : ¬ τ.2.2.2.1.2.2.1 = (0 : Int32) := by rw [h2]; decide
    have h1 : ¬ τ.2.2.2.1.2.2.1 = (1 : Int32) := by rw [h2]; decide
    obtain ⟨⟨hl1, hcu, hho, hlv, hsh, hph, hag, hcp, hse, hto⟩, hc⟩ := h
    obtain ⟨c1, c2, c3, c4⟩ := hcp h0
    exact ⟨⟨hl1, hcu, hho, hlv, hsh, Bd.of (j := 3) (by omega) (by omega), Bd.of (j := 0) (by omega) (by omega), fun _ => ⟨c1, c2, fun _ => Bd.of (j := 0) (by omega) (by omega), c4⟩, hse, hto.phase h0 (show ¬ (3 : Int32) = (0 : Int32) by decide)⟩, fun q => absurd q (show ¬ (3 : Int32) = (1 : Int32) by decide), fun _ _ => hc.2 h0 h1⟩
  · exact Or.inr ⟨h2, by rw [if_neg h2]⟩
theorem IV.unlock (h : IV e τ) : (τ.2.2.2.1.2.2.1 = (3 : Int32) ∧ ∃ u : StT, fX5_unlockLive τ = (τ.2.2.2.1.2.2.2.2.2.2, u) ∧ IV e u ∧ u.2.2.2.1.2.2.1 = (2 : Int32)) ∨ (¬ τ.2.2.2.1.2.2.1 = (3 : Int32) ∧ fX5_unlockLive τ = ((-4 : Int32), τ)) := by
  unfold fX5_unlockLive
  by_cases h3 : τ.2.2.2.1.2.2.1 = (3 : Int32)
  · refine Or.inl ⟨h3, _, by rw [if_pos h3], ?_, rfl⟩
    have h0 : ¬ τ.2.2.2.1.2.2.1 = (0 : Int32) := by rw [h3]; decide
    have h1 : ¬ τ.2.2.2.1.2.2.1 = (1 : Int32) := by rw [h3]; decide
    obtain ⟨⟨hl1, hcu, hho, hlv, hsh, hph, hag, hcp, hse, hto⟩, hc⟩ := h
    obtain ⟨c1, c2, c3, c4⟩ := hcp h0
    exact ⟨⟨hl1, hcu, hho, hlv, hsh, Bd.of (j := 2) (by omega) (by omega), hag, fun _ => ⟨c1, c2, fun q => absurd q (show ¬ (2 : Int32) = (3 : Int32) by decide), c4⟩, hse, hto.phase h0 (show ¬ (2 : Int32) = (0 : Int32) by decide)⟩, fun q => absurd q (show ¬ (2 : Int32) = (1 : Int32) by decide), fun _ _ => hc.2 h0 h1⟩
  · exact Or.inr ⟨h3, by rw [if_neg h3]⟩
theorem IV.swap (h : IV e τ) (he : e < 1000) : (τ.2.2.2.1.2.2.1 = (3 : Int32) ∧ τ.2.2.2.1.2.1.2.2.2 = (0 : Int32) ∧ ∃ u : StT, fX5_swapTables τ = (fX3_count τ.2.2.2.1.1, u) ∧ IV (e + 1) u ∧ u.2.2.2.1.2.2.1 = (0 : Int32) ∧ u.1 = τ.2.2.2.1.1 ∧ u.2.1 = τ.1 ∧ u.2.2.1 = (1 : Int32)) ∨ (¬ (τ.2.2.2.1.2.2.1 = (3 : Int32) ∧ τ.2.2.2.1.2.1.2.2.2 = (0 : Int32)) ∧ fX5_swapTables τ = ((-4 : Int32), τ)) := by
  unfold fX5_swapTables
  obtain ⟨m, hm, em⟩ := h.1.1.2.num
  by_cases h3 : τ.2.2.2.1.2.2.1 = (3 : Int32)
  · by_cases hz : τ.2.2.2.1.2.1.2.2.2 = (0 : Int32)
    · refine Or.inl ⟨h3, hz, _, by rw [if_pos h3, if_pos (by rw [hz]; decide)]; rfl, ?_, rfl, rfl, rfl, rfl⟩
      have h0 : ¬ τ.2.2.2.1.2.2.1 = (0 : Int32) := by rw [h3]; decide
      obtain ⟨⟨hl1, hcu, hho, hlv, hsh, hph, hag, hcp, hse, hto⟩, hc⟩ := h
      refine ⟨⟨hl1, hcu, Or.inr rfl, hsh, hsh, Bd.of (j := 0) (by omega) (by omega), hag, fun q => absurd rfl q, hse, ?_⟩, fun q => absurd q (show ¬ (0 : Int32) = (1 : Int32) by decide), fun q => absurd rfl q⟩
      obtain ⟨t1, ⟨a, a1, a2, -⟩, b, b1, b2⟩ := hto
      rw [if_neg h0] at t1
      show TO (e + 1) (0 : Int32) (1 : Int32) (upd τ.2.2.2.2.2 1 (τ.2.2.2.2.2 1 + (1 : Int32)))
      unfold TO
      rw [pk_un (by decide), pk_us, pk_un (by decide), pk_un (by decide), if_pos rfl]
      exact ⟨by rw [t1, Int32.add_zero, add1_swap], ⟨a + 1, by omega, by rw [a2, nI_1], ⟨fun q => absurd q (by decide), fun q => absurd q (by omega)⟩⟩, b, by omega, b2⟩
    · refine Or.inr ⟨fun q => hz q.2, ?_⟩
      rw [if_pos h3, if_neg (by rw [em]; exact nI_nle (Nat.pos_of_ne_zero (fun q => hz (by rw [em, q]; rfl))) (by omega))]
  · exact Or.inr ⟨fun q => h3 q.1, by rw [if_neg h3]⟩
theorem IV.give (h : IV e τ) : (¬ τ.2.2.2.1.2.2.1 = (0 : Int32) ∧ ∃ u : StT, fX5_giveCopyUp τ = (fX3_count τ.2.2.2.1.1, u) ∧ IV e u ∧ u.2.2.2.1.2.2.1 = (0 : Int32)) ∨ (τ.2.2.2.1.2.2.1 = (0 : Int32) ∧ fX5_giveCopyUp τ = ((-4 : Int32), τ)) := by
  unfold fX5_giveCopyUp
  by_cases h0 : τ.2.2.2.1.2.2.1 = (0 : Int32)
  · exact Or.inr ⟨h0, by rw [if_pos (hc_0.mpr h0)]⟩
  · refine Or.inl ⟨h0, _, by rw [if_neg (fun q => h0 (hc_0.mp q))]; rfl, ?_, rfl⟩
    obtain ⟨⟨hl1, hcu, hho, hlv, hsh, hph, hag, hcp, hse, hto⟩, hc⟩ := h
    exact ⟨⟨hl1, hcu, hho, hlv, hsh, Bd.of (j := 0) (by omega) (by omega), hag, fun q => absurd rfl q, hse, hto.give h0⟩, fun q => absurd q (show ¬ (0 : Int32) = (1 : Int32) by decide), fun q => absurd rfl q⟩
/-- the settings that the law sets -/
def SV (w x : Nat) : Prop := (w = 0 ∧ 1 ≤ x ∧ x ≤ 8) ∨ (w = 1 ∧ x ≤ 24) ∨ (w = 2 ∧ 1 ≤ x ∧ x ≤ 20) ∨ (w = 3 ∧ x ≤ 1)
theorem SE.upd {se : FnI} (h : SE se) {w x : Nat} (hs : SV w x) : SE (upd se w (nI x)) := by
  obtain ⟨⟨a, a1, a2⟩, b, ⟨c, c1, c2⟩, d⟩ := h
  rcases hs with ⟨rfl, h1, h2⟩ | ⟨rfl, h1⟩ | ⟨rfl, h1, h2⟩ | ⟨rfl, h1⟩
  · exact ⟨⟨x - 1, by omega, by rw [pk_us]; congr 1; omega⟩, by rw [pk_un (by decide)]; exact b, ⟨c, c1, by rw [pk_un (by decide)]; exact c2⟩, by rw [pk_un (by decide)]; exact d⟩
  · exact ⟨⟨a, a1, by rw [pk_un (by decide)]; exact a2⟩, by rw [pk_us]; exact Bd.of (by omega) (by omega), ⟨c, c1, by rw [pk_un (by decide)]; exact c2⟩, by rw [pk_un (by decide)]; exact d⟩
  · exact ⟨⟨a, a1, by rw [pk_un (by decide)]; exact a2⟩, by rw [pk_un (by decide)]; exact b, ⟨x - 1, by omega, by rw [pk_us]; congr 1; omega⟩, by rw [pk_un (by decide)]; exact d⟩
  · exact ⟨⟨a, a1, by rw [pk_un (by decide)]; exact a2⟩, by rw [pk_un (by decide)]; exact b, ⟨c, c1, by rw [pk_un (by decide)]; exact c2⟩, by rw [pk_us]; exact Bd.of (by omega) (by omega)⟩
theorem IV.set (h : IV e τ) {w x : Nat} (hs : SV w x) : ∃ u : StT, fX5_changeSetting (nI w) (nI x) τ = (τ.2.2.2.2.1 w, u) ∧ IV e u ∧ u.2.2.2.2.1 = upd τ.2.2.2.2.1 w (nI x) := by
  refine ⟨(τ.1, τ.2.1, τ.2.2.1, τ.2.2.2.1, upd τ.2.2.2.2.1 w (nI x), τ.2.2.2.2.2), ?_, ?_, rfl⟩
  · have hw : w < 4 := by rcases hs with h | h | h | h <;> omega
    have ew : (nI w).toNatClampNeg = w := nI_clamp (by omega)
    unfold fX5_changeSetting
    rw [if_neg (show ¬ fX6_isSetting (nI w) = (0 : Int32) from in6_b (N := 3) rfl (by omega) (by omega)), ew, if_neg ?_]
    rcases hs with ⟨rfl, h1, h2⟩ | ⟨rfl, h1⟩ | ⟨rfl, h1, h2⟩ | ⟨rfl, h1⟩
    · exact in6_1 (N := 8) rfl h1 h2 (by omega)
    · exact in6_b (N := 24) rfl h1 (by omega)
    · exact in6_1 (N := 20) rfl h1 h2 (by omega)
    · exact in6_b (N := 1) rfl h1 (by omega)
  · obtain ⟨⟨hl1, hcu, hho, hlv, hsh, hph, hag, hcp, hse, hto⟩, hc⟩ := h
    exact ⟨⟨hl1, hcu, hho, hlv, hsh, hph, hag, hcp, hse.upd hs, hto⟩, hc⟩
end ACTS
