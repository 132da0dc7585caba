/-! what would be, and the questions -/
theorem take_is (a b : StT) : fX5_take a b = b := rfl
theorem RS.lot {τ : StT} {s : FnI} (R : RS τ s) (x : Int32) : RS (τ.1, τ.2.1, τ.2.2.1, (τ.2.2.2.1.1, τ.2.2.2.1.2.1, τ.2.2.2.1.2.2.1, τ.2.2.2.1.2.2.2.1, x, τ.2.2.2.1.2.2.2.2.2.1, τ.2.2.2.1.2.2.2.2.2.2), τ.2.2.2.2.1, τ.2.2.2.2.2) (upd s 2 x) := by
  obtain ⟨hw, hm, hc⟩ := R
  refine ⟨hw, WM_u hm (by omega) (by omega) (by omega), ?_⟩
  have h2 := hc.scal hm (to' := τ.2.2.2.2.2) (u := upd s 2 x) (fun j h1 h2 => by rw [pk_un (by omega)]) rfl (fun q hq => by rw [pk_un (by omega)]) (fun q hq => by rw [pk_un (by omega)]; exact hc.2.2.2.2.2.1 q hq) (hc.2.2.2.2.2.2.1.up (by omega) (by omega) (by omega)) hc.2.2.2.2.2.2.2.1 (fun q => ⟨q, rfl⟩)
  obtain ⟨-, -, -, ⟨-, g0, g1, -, g3, g4⟩, -⟩ := hc
  dsimp only
  rw [g0, g1, g3, g4]
  rw [show upd s 2 x 2 = x from pk_us] at h2
  exact h2
theorem until_c {P : Nat} (hP : P ≤ 200) {τ : StT} {s b : FnI} {q : Int32} (R : RS τ (upd s 2 q)) : (fX5_ticksUntilReady (nI P) τ).1 = (fX7_until (nI P) q (s, b)).1 := by
  unfold fX5_ticksUntilReady fX7_until
  dsimp only
  rw [nI_clamp (by omega)]
  exact T_until P hP q _ (P + 2) (P + 1) 0 _ _ R (by omega) (by omega) (by omega)
theorem ask_is {τ : StT} {s : FnI} (R : RS τ s) : fX5_canBecomeReady τ = fX7_canAsk s := by
  unfold fX5_canBecomeReady fX7_canAsk
  rw [R_ph R]
theorem A_ready {τ : TTT} {m : MBT} (R : RS τ.1 m.1) : (fX6_readyIn τ).1 = (fX7_readyIn m).1 ∧ RS (fX6_readyIn τ).2.1 (fX7_readyIn m).2.1 := by
  unfold fX6_readyIn fX7_readyIn
  by_cases c : fX7_canAsk m.1 = (0 : Int32)
  · rw [if_pos (by rw [ask_is R]; exact c), if_pos c]
    exact ⟨rfl, R⟩
  · rw [if_neg (by rw [ask_is R]; exact c), if_neg c]
    dsimp only
    rw [take_is]
    have h := until_c (P := 200) (by omega) (τ := τ.1) (s := m.1) (b := m.2) (q := m.1 2) (by rw [upd_same rfl]; exact R)
    have h : (fX5_ticksUntilReady (200 : Int32) τ.1).1 = (fX7_until (200 : Int32) (m.1 2) m).1 := h
    generalize e1 : fX5_ticksUntilReady (200 : Int32) τ.1 = x at h ⊢
    generalize e2 : fX7_until (200 : Int32) (m.1 2) m = y at h ⊢
    obtain ⟨r1, u1⟩ := x
    obtain ⟨r2, u2⟩ := y
    exact ⟨h, R.congr (until_s e2 zz_200)⟩
theorem lot_25 {P : Nat} (hP : P ≤ 200) : ∀ (n k : Nat) (τ : TTT) (m : MBT), RS τ.1 m.1 → (fX6_leastLot_25 (nI P) n k τ).1 = (fX7_leastLot_25 (nI P) n k m).1 ∧ RS (fX6_leastLot_25 (nI P) n k τ).2.1 (fX7_leastLot_25 (nI P) n k m).2.1
  | 0, _, _, _, R => ⟨rfl, R⟩
  | n + 1, k, τ, m, R => by
    unfold fX6_leastLot_25 fX7_leastLot_25
    by_cases c : (8 : Int32) < nI k
    · rw [if_pos c, if_pos c]
      exact ⟨rfl, R⟩
    · rw [if_neg c, if_neg c]
      dsimp only
      rw [take_is]
      have h := until_c hP (s := m.1) (b := m.2) (R.lot (nI k))
      have h : (fX5_ticksUntilReady (nI P) (τ.1.1, τ.1.2.1, τ.1.2.2.1, (τ.1.2.2.2.1.1, τ.1.2.2.2.1.2.1, τ.1.2.2.2.1.2.2.1, τ.1.2.2.2.1.2.2.2.1, nI k, τ.1.2.2.2.1.2.2.2.2.2.1, τ.1.2.2.2.1.2.2.2.2.2.2), τ.1.2.2.2.2.1, τ.1.2.2.2.2.2)).1 = (fX7_until (nI P) (nI k) m).1 := h
      generalize e1 : fX5_ticksUntilReady (nI P) _ = x at h ⊢
      generalize e2 : fX7_until (nI P) (nI k) m = y at h ⊢
      obtain ⟨r1, u1⟩ := x
      obtain ⟨r2, u2⟩ := y
      have h : r1 = r2 := h
      subst h
      have R2 : RS τ.1 u2.1 := R.congr (until_s e2 (Bd.of hP (by omega)))
      dsimp only
      by_cases d : r1 = (-5 : Int32)
      · rw [if_pos d, if_pos d]
        exact lot_25 hP n (k + 1) (τ.1, u1) u2 R2
      · rw [if_neg d, if_neg d]
        exact ⟨rfl, R2⟩
theorem A_lot {τ : TTT} {m : MBT} {p : Int32} (R : RS τ.1 m.1) : (fX6_leastLot p τ).1 = (fX7_leastLot p m).1 ∧ RS (fX6_leastLot p τ).2.1 (fX7_leastLot p m).2.1 := by
  unfold fX6_leastLot fX7_leastLot
  by_cases c1 : fX7_in p (1 : Int32) (99 : Int32) = (0 : Int32)
  · rw [if_pos (show fX6_isTicks p = (0 : Int32) from c1), if_pos c1]
    exact ⟨rfl, R⟩
  · rw [if_neg (show ¬ fX6_isTicks p = (0 : Int32) from c1), if_neg c1]
    by_cases c : fX7_canAsk m.1 = (0 : Int32)
    · rw [if_pos (by rw [ask_is R]; exact c), if_pos c]
      exact ⟨rfl, R⟩
    · rw [if_neg (by rw [ask_is R]; exact c), if_neg c]
      obtain ⟨j, hj, e⟩ := (zz_in99 c1).num
      rw [e]
      exact lot_25 (by omega) 10 1 τ m R
/-! questions -/
theorem tab0 (s : FnI) : fX7_isTable (0 : Int32) s = (1 : Int32) := by
  unfold fX7_isTable
  rw [if_pos rfl]
theorem tab1 (s : FnI) : fX7_isTable (1 : Int32) s = if fX7_isCopy s = (0 : Int32) then (0 : Int32) else (1 : Int32) := by
  unfold fX7_isTable
  rw [if_neg (by decide), if_pos rfl, if_neg (show ¬ (1 : Int32) = (2 : Int32) by decide)]
theorem tab2 (s : FnI) : fX7_isTable (2 : Int32) s = if s 6 = (1 : Int32) then (1 : Int32) else (0 : Int32) := by
  unfold fX7_isTable
  rw [if_neg (by decide), if_neg (by decide), if_pos rfl]
theorem old_0 {τ : StT} {s : FnI} (R : RS τ s) : τ.2.2.1 = (0 : Int32) ↔ ¬ s 6 = (1 : Int32) := by
  have e : τ.2.2.1 = s 6 := R.2.2.2.2.2.1.1
  rcases R.1.2.2 with h | h
  · rw [← e, h]; exact ⟨fun _ => by decide, fun _ => rfl⟩
  · rw [← e, h]; exact ⟨fun q => absurd q (by decide), fun q => absurd rfl q⟩
/-- the same choice of a table -/
theorem pick {τ : StT} {s : FnI} (R : RS τ s) {t : Int32} (ht : TB t) {g : FnI → Int32} {y : Int32} (hg : ∀ f : FnI, RT f s (19 + 32 * t.toNatClampNeg) → g f = y) : (if t = (0 : Int32) then g τ.1 else (if t = (1 : Int32) then (if fX5_hasCopy τ = (0 : Int32) then (-5 : Int32) else g τ.2.2.2.1.1) else (if τ.2.2.1 = (0 : Int32) then (-5 : Int32) else g τ.2.1))) = if fX7_isTable t s = (0 : Int32) then (-5 : Int32) else y := by
  have hp := R_ph R
  rcases ht with rfl | rfl | rfl
  · rw [if_pos rfl, tab0, if_neg (by decide)]
    exact hg _ R.2.2.1
  · rw [if_neg (by decide), if_pos rfl, tab1]
    by_cases c : s 0 = (0 : Int32)
    · rw [if_pos (hc_0.mpr (hp.trans c)), if_pos (ic_0.mpr c), if_pos rfl]
    · rw [if_neg (fun q => c (hp.symm.trans (hc_0.mp q))), if_neg (fun q => c (ic_0.mp q)), if_neg (by decide)]
      exact hg _ R.2.2.2.1
  · rw [if_neg (by decide), if_neg (by decide), tab2]
    by_cases c : s 6 = (1 : Int32)
    · rw [if_neg (fun q => (old_0 R).mp q c), if_pos c, if_neg (by decide)]
      exact hg _ R.2.2.2.2.1
    · rw [if_pos ((old_0 R).mpr c), if_neg c, if_pos rfl]
theorem Q_value {τ : StT} {s : FnI} (R : RS τ s) (a b : Int32) : fX6_value a b τ = fX7_value a b s := by
  unfold fX6_value fX7_value
  by_cases c1 : fX7_isKey b = (0 : Int32)
  · rw [if_pos (show fX6_isKey b = (0 : Int32) from c1), if_pos c1]
  · rw [if_neg (show ¬ fX6_isKey b = (0 : Int32) from c1), if_neg c1]
    by_cases c2 : fX7_in a (0 : Int32) (2 : Int32) = (0 : Int32)
    · rw [if_pos (show fX6_isTable a = (0 : Int32) from c2), if_pos c2]
    · rw [if_neg (show ¬ fX6_isTable a = (0 : Int32) from c2), if_neg c2]
      have ht := zz_in2 c2
      have hk := zz_isKey7 c1
      exact pick R ht (g := fun f => fX3_at b f) (fun f h => by rw [row_eq ht hk]; show fX3_at b f = _; rw [at_is hk]; exact (h _ (bdk hk)).1)
theorem tell_is {f s : FnI} {t p : Int32} (h : RT f s (19 + 32 * t.toNatClampNeg)) (ht : TB t) (hp : ¬ fX7_in p (0 : Int32) (3 : Int32) = (0 : Int32)) : fX3_tell p f = (if p = (0 : Int32) then (fX7_rows t s) else (if p = (1 : Int32) then (fX7_sum t s) else (if p = (3 : Int32) then (fX7_endKey t (1 : Int32) s) else (fX7_endKey t (0 : Int32) s)))) := by
  have hb : Bd p 3 := zz_inB (by decide) (by decide) (by omega) hp
  obtain ⟨j, hj, rfl⟩ := hb.num
  unfold fX3_tell
  rw [count_is h ht, sum_is h ht, least_is h ht, greatest_is h ht]
  match j, hj with
  | 0, _ => rw [if_pos (show nI 0 = (0 : Int32) from rfl), if_pos (show nI 0 = (0 : Int32) from rfl)]
  | 1, _ => rw [if_neg (by decide), if_pos (show nI 1 = (1 : Int32) from rfl), if_neg (by decide), if_pos (show nI 1 = (1 : Int32) from rfl)]
  | 2, _ => rw [if_neg (by decide), if_neg (by decide), if_pos (show nI 2 = (2 : Int32) from rfl), if_neg (by decide), if_neg (by decide), if_neg (by decide)]
  | 3, _ => rw [if_neg (by decide), if_neg (by decide), if_neg (by decide), if_neg (by decide), if_neg (by decide), if_pos (show nI 3 = (3 : Int32) from rfl)]
  | j + 4, h => omega
theorem Q_table {τ : StT} {s : FnI} (R : RS τ s) (a b : Int32) : fX6_table a b τ = fX7_table a b s := by
  unfold fX6_table fX7_table
  by_cases c2 : fX7_in a (0 : Int32) (2 : Int32) = (0 : Int32)
  · rw [if_pos (show fX6_isTable a = (0 : Int32) from c2), if_pos c2]
  · rw [if_neg (show ¬ fX6_isTable a = (0 : Int32) from c2), if_neg c2]
    by_cases c1 : fX7_in b (0 : Int32) (3 : Int32) = (0 : Int32)
    · rw [if_pos (show fX6_isIn b (0 : Int32) (3 : Int32) = (0 : Int32) from c1), if_pos c1]
    · rw [if_neg (show ¬ fX6_isIn b (0 : Int32) (3 : Int32) = (0 : Int32) from c1), if_neg c1]
      have ht := zz_in2 c2
      exact pick R ht (g := fun f => fX3_tell b f) (fun f h => tell_is h ht c1)
theorem Q_copy {τ : StT} {s : FnI} (R : RS τ s) (p : Int32) : fX6_copy p τ = fX7_copy p s := by
  have hp := R_ph R
  obtain ⟨-, -, -, -, -, ⟨-, -, g1, g2, g3, g5⟩, -, -, -, -, hg⟩ := R
  unfold fX6_copy fX7_copy
  by_cases c : fX7_in p (0 : Int32) (5 : Int32) = (0 : Int32)
  · rw [if_pos (show fX6_isIn p (0 : Int32) (5 : Int32) = (0 : Int32) from c), if_pos c]
  · rw [if_neg (show ¬ fX6_isIn p (0 : Int32) (5 : Int32) = (0 : Int32) from c), if_neg c]
    unfold fX0_tell
    rw [hp, g1, g2, g3, g5]
    have hb : Bd p 5 := zz_inB (by decide) (by decide) (by omega) c
    obtain ⟨j, hj, rfl⟩ := hb.num
    rw [nI_clamp (by omega)]
    by_cases c0 : s 0 = (0 : Int32)
    · rw [if_pos (ic_0.mpr c0), if_pos c0]
      have c3 : ¬ s 0 = (3 : Int32) := by rw [c0]; decide
      match j, hj with
      | 0, _ => rw [if_pos (show nI 0 = (0 : Int32) from rfl), if_pos (show nI 0 = (0 : Int32) from rfl)]
      | 1, _ => rw [if_neg (by decide), if_neg (by decide), if_neg (by decide)]
      | 2, _ => rw [if_neg (by decide), if_neg (by decide), if_neg (by decide)]
      | 3, _ => rw [if_neg (by decide), if_neg (by decide), if_neg (by decide)]
      | 4, _ => rw [if_neg (by decide), if_neg (by decide), if_neg (by decide)]
      | 5, _ => rw [if_neg (by decide), if_pos (show nI 5 = (5 : Int32) from rfl), if_neg c3, if_neg (by decide)]
      | j + 6, h => omega
    · rw [if_neg (fun q => c0 (ic_0.mp q)), if_neg c0, (hg c0).1]
      match j, hj with
      | 0, _ => rw [if_pos (show nI 0 = (0 : Int32) from rfl), if_pos (show nI 0 = (0 : Int32) from rfl)]
      | 1, _ => rw [if_neg (by decide), if_neg (by decide), if_pos (show nI 1 = (1 : Int32) from rfl), if_neg (by decide), if_pos (by decide)]
      | 2, _ => rw [if_neg (by decide), if_neg (by decide), if_neg (by decide), if_pos (show nI 2 = (2 : Int32) from rfl), if_neg (by decide), if_pos (by decide)]
      | 3, _ => rw [if_neg (by decide), if_neg (by decide), if_neg (by decide), if_neg (by decide), if_pos (show nI 3 = (3 : Int32) from rfl), if_neg (by decide), if_pos (by decide)]
      | 4, _ => rw [if_neg (by decide), if_neg (by decide), if_neg (by decide), if_neg (by decide), if_neg (by decide), if_neg (by decide), if_pos (by decide)]
      | 5, _ => rw [if_neg (by decide), if_pos (show nI 5 = (5 : Int32) from rfl), if_neg (show ¬ nI 5 = (0 : Int32) by decide), if_neg (show ¬ nI 5 < (5 : Int32) by decide)]
      | j + 6, h => omega
theorem in01 {p : Int32} (h : ¬ fX7_in p (0 : Int32) (1 : Int32) = (0 : Int32)) : p = (0 : Int32) ∨ p = (1 : Int32) := by
  have hb : Bd p 1 := zz_inB (by decide) (by decide) (by omega) h
  obtain ⟨j, hj, rfl⟩ := hb.num
  match j, hj with
  | 0, _ => exact Or.inl rfl
  | 1, _ => exact Or.inr rfl
  | j + 2, h => omega
theorem Q_entry {τ : StT} {s : FnI} (R : RS τ s) (a b : Int32) : fX6_entry a b τ = fX7_entry a b s := by
  have hp := R_ph R
  have hm := R.2.1
  have hst : Bd τ.2.2.2.1.2.1.2.2.1 23 := R.1.1.1
  have hg := R.2.2.2.2.2.2.2.2.2.2
  unfold fX6_entry fX7_entry
  by_cases c1 : a < (0 : Int32)
  · rw [if_pos c1, if_pos c1]
  · rw [if_neg c1, if_neg c1]
    by_cases c2 : fX7_in b (0 : Int32) (1 : Int32) = (0 : Int32)
    · rw [if_pos (show fX6_isIn b (0 : Int32) (1 : Int32) = (0 : Int32) from c2), if_pos c2]
    · rw [if_neg (show ¬ fX6_isIn b (0 : Int32) (1 : Int32) = (0 : Int32) from c2), if_neg c2]
      by_cases c0 : s 0 = (0 : Int32)
      · rw [if_pos (hc_0.mpr (hp.trans c0)), if_pos (ic_0.mpr c0)]
      · rw [if_neg (fun q => c0 (hp.symm.trans (hc_0.mp q))), if_neg (fun q => c0 (ic_0.mp q))]
        obtain ⟨g1, g2⟩ := hg c0
        unfold fX2_keyAt fX2_valueAt
        rw [if_neg c1, if_neg c1, g1]
        by_cases c3 : a < s 4
        · rw [if_neg (Int32.not_le.mpr c3), if_neg (Int32.not_le.mpr c3), if_pos c3]
          obtain ⟨i, hi, rfl⟩ := nI_of c1
          have hi2 : i < (s 4).toNatClampNeg := by
            obtain ⟨N, hN, eN⟩ := hm.1.num
            rw [eN, Int32.lt_iff_toInt_lt, nI_toInt hi, nI_toInt (by omega)] at c3
            rw [eN, nI_clamp (by omega)]
            omega
          have := hm.1.2
          obtain ⟨z1, z2, z3⟩ := g2 i hi2
          have sl : (fX2_slotOf (nI i) τ.2.2.2.1.2.1).toNatClampNeg = (τ.2.2.2.1.2.1.2.2.1.toNatClampNeg + i) % 24 := slotN (ks := τ.2.2.2.1.2.1.1) (vs := τ.2.2.2.1.2.1.2.1) (sz := τ.2.2.2.1.2.1.2.2.2) hst (by omega)
          rw [sl, nI_clamp (by omega)]
          rcases in01 c2 with rfl | rfl
          · rw [if_pos rfl, z1]
            show s (115 + 2 * i) = fX7_outside (s (115 + 2 * i))
            exact (out_b (hm.2.2 i hi2) (by omega)).symm
          · rw [if_neg (by decide), z2]
            rfl
        · rw [if_pos (Int32.not_lt.mp c3), if_pos (Int32.not_lt.mp c3), if_neg c3, ite_self]
theorem Q_changed (a b c : Int32) (s : FnI) : fX6_changed a b c = fX7_changed a b c s := by
  unfold fX6_changed fX7_changed
  by_cases c1 : fX7_isKey b = (0 : Int32)
  · rw [if_pos (show fX6_isKey b = (0 : Int32) from c1), if_pos c1]
  · rw [if_neg (show ¬ fX6_isKey b = (0 : Int32) from c1), if_neg c1]
    by_cases c2 : fX7_in a (0 : Int32) (4 : Int32) = (0 : Int32)
    · rw [if_pos (show fX6_isKind a = (0 : Int32) from c2), if_pos c2]
    · rw [if_neg (show ¬ fX6_isKind a = (0 : Int32) from c2), if_neg c2]
      by_cases c3 : fX7_in c (0 : Int32) (99 : Int32) = (0 : Int32)
      · rw [if_pos (show fX6_isValue c = (0 : Int32) from c3), if_pos c3]
      · rw [if_neg (show ¬ fX6_isValue c = (0 : Int32) from c3), if_neg c3]
        have h := (chg (kind := a) (zz_isKey7 c1) (Or.inr (bval c3))).1
        rw [out_b (bval c3) (by omega)] at h
        exact h
theorem dif_0 {τ : StT} {s : FnI} (R : RS τ s) {k : Nat} (hk : k < 32) : fX5_differsAt (nI k) τ = (0 : Int32) ↔ fX7_row (1 : Int32) (nI k) s = fX7_due (nI k) s := by
  have hb : Bd (nI k) 31 := bnI (by omega) (by omega)
  have e0 : fX3_at (nI k) τ.1 = fX7_outside (fX7_row (0 : Int32) (nI k) s) ∧ RV (fX7_row (0 : Int32) (nI k) s) := by
    rw [at_is hb, row0 hb]; exact R.2.2.1 _ (bdk hb)
  have e1 : fX3_at (nI k) τ.2.2.2.1.1 = fX7_outside (fX7_row (1 : Int32) (nI k) s) ∧ RV (fX7_row (1 : Int32) (nI k) s) := by
    rw [at_is hb, row1 hb]; exact R.2.2.2.1 _ (bdk hb)
  have ek : τ.2.2.2.1.2.2.2.1 = s 1 := R.2.2.2.2.2.1.2.2.1
  obtain ⟨v1, v2⟩ := chg (kind := s 1) hb e0.2
  have e2 : fX6_changedValue τ.2.2.2.1.2.2.2.1 (nI k) (fX3_at (nI k) τ.1) = fX7_outside (fX7_due (nI k) s) := by
    rw [ek, e0.1, v1]; rfl
  have e3 : RV (fX7_due (nI k) s) := v2
  unfold fX5_differsAt
  rw [e2, e1.1]
  by_cases c : fX7_row (1 : Int32) (nI k) s = fX7_due (nI k) s
  · rw [if_pos ((out_j e1.2 e3).mpr c)]; exact ⟨fun _ => c, fun _ => rfl⟩
  · rw [if_neg (fun q => c ((out_j e1.2 e3).mp q))]; exact ⟨fun h => absurd h (by decide), fun h => absurd h c⟩
theorem dif_17 {τ : StT} {s : FnI} (R : RS τ s) : ∀ (n : Nat) (cnt : Int32) (k : Nat), k ≤ 32 → 32 - k < n → fX6_differences_17 τ n cnt k = fX7_differing_4 (0 : Int32) s n cnt k
  | 0, _, _, _, h => absurd h (by omega)
  | n + 1, cnt, k, hk, hn => by
    unfold fX6_differences_17 fX7_differing_4
    by_cases c : (32 : Int32) ≤ nI k
    · rw [if_pos c, if_pos c, if_pos rfl]
    · have hk2 := lt32 hk c
      rw [if_neg c, if_neg c, if_pos rfl]
      by_cases d : fX7_row (1 : Int32) (nI k) s = fX7_due (nI k) s
      · rw [if_pos ((dif_0 R hk2).mpr d), if_pos d]
        exact dif_17 R n cnt (k + 1) (by omega) (by omega)
      · rw [if_neg (fun q => d ((dif_0 R hk2).mp q)), if_neg d]
        exact dif_17 R n _ (k + 1) (by omega) (by omega)
theorem dif_15 {τ : StT} {s : FnI} (R : RS τ s) : ∀ (n k : Nat) (cnt : Int32), k ≤ 32 → 32 - k < n → fX6_firstDifference_15 τ n k = fX7_differing_4 (1 : Int32) s n cnt k
  | 0, _, _, _, h => absurd h (by omega)
  | n + 1, k, cnt, hk, hn => by
    unfold fX6_firstDifference_15 fX7_differing_4
    by_cases c : (32 : Int32) ≤ nI k
    · rw [if_pos c, if_pos c, if_neg (by decide)]
    · have hk2 := lt32 hk c
      rw [if_neg c, if_neg c, if_neg (show ¬ (1 : Int32) = (0 : Int32) by decide)]
      by_cases d : fX7_row (1 : Int32) (nI k) s = fX7_due (nI k) s
      · rw [if_pos ((dif_0 R hk2).mpr d), if_pos d]
        exact dif_15 R n (k + 1) cnt (by omega) (by omega)
      · rw [if_neg (fun q => d ((dif_0 R hk2).mp q)), if_neg d]
theorem Q_differences {τ : StT} {s : FnI} (R : RS τ s) : fX6_differences τ = fX7_differences s := by
  have hp := R_ph R
  unfold fX6_differences fX7_differences fX7_differing
  by_cases c0 : s 0 = (0 : Int32)
  · rw [if_pos (hc_0.mpr (hp.trans c0)), if_pos (ic_0.mpr c0)]
  · rw [if_neg (fun q => c0 (hp.symm.trans (hc_0.mp q))), if_neg (fun q => c0 (ic_0.mp q))]
    exact dif_17 R 33 _ 0 (by omega) (by omega)
theorem Q_firstDifference {τ : StT} {s : FnI} (R : RS τ s) : fX6_firstDifference τ = fX7_firstDifference s := by
  have hp := R_ph R
  unfold fX6_firstDifference fX7_firstDifference fX7_differing
  by_cases c0 : s 0 = (0 : Int32)
  · rw [if_pos (hc_0.mpr (hp.trans c0)), if_pos (ic_0.mpr c0)]
  · rw [if_neg (fun q => c0 (hp.symm.trans (hc_0.mp q))), if_neg (fun q => c0 (ic_0.mp q))]
    exact dif_15 R 33 0 _ (by omega) (by omega)
theorem Q_setting {τ : StT} {s : FnI} (R : RS τ s) (p : Int32) : fX6_setting p τ = fX7_setting p s := by
  unfold fX6_setting fX7_setting
  by_cases c : fX7_in p (0 : Int32) (3 : Int32) = (0 : Int32)
  · rw [if_pos (show fX6_isSetting p = (0 : Int32) from c), if_pos c]
  · rw [if_neg (show ¬ fX6_isSetting p = (0 : Int32) from c), if_neg c]
    have hb : Bd p 3 := zz_inB (by decide) (by decide) (by omega) c
    exact R.2.2.2.2.2.2.1 _ (Nat.lt_succ_of_le hb.2)
theorem Q_total {τ : StT} {s : FnI} (R : RS τ s) (p : Int32) : fX6_total p τ = fX7_total p s := by
  unfold fX6_total fX7_total
  by_cases c : fX7_in p (0 : Int32) (7 : Int32) = (0 : Int32)
  · rw [if_pos (show fX6_isIn p (0 : Int32) (7 : Int32) = (0 : Int32) from c), if_pos c]
  · rw [if_neg (show ¬ fX6_isIn p (0 : Int32) (7 : Int32) = (0 : Int32) from c), if_neg c]
    have hb : Bd p 7 := zz_inB (by decide) (by decide) (by omega) c
    exact R.2.2.2.2.2.2.2.1 _ (Nat.lt_succ_of_le hb.2)
theorem Q_progress {τ : StT} {s : FnI} (R : RS τ s) : fX6_progress τ = fX7_progress s := by
  have hp := R_ph R
  have ec : τ.2.2.2.1.2.2.2.2.2.1 = s 3 := R.2.2.2.2.2.1.2.2.2.2.1
  unfold fX6_progress fX7_progress
  by_cases c0 : s 0 = (0 : Int32)
  · rw [if_pos (hc_0.mpr (hp.trans c0)), if_pos (ic_0.mpr c0)]
  · rw [if_neg (fun q => c0 (hp.symm.trans (hc_0.mp q))), if_neg (fun q => c0 (ic_0.mp q)), ec]
