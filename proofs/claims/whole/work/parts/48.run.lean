/-! the whole text, read and carried out by both sides -/
theorem rt_x (p : Int32) (n : Nat) {x : Int32} (σ : MXT) (hx : ¬ x = (0 : Int32)) : fX7_readText_15 p n x σ = fX7_readText_15 p n (1 : Int32) σ := by
  cases n with
  | zero => rfl
  | succ n =>
    conv => lhs; unfold fX7_readText_15
    conv => rhs; unfold fX7_readText_15
    rw [if_neg hx, if_neg one_no]
theorem rt_0 (p : Int32) (n : Nat) (σ : MXT) : fX7_readText_15 p n (0 : Int32) σ = ((0 : Int32), σ) := by
  cases n with
  | zero => rfl
  | succ n =>
    unfold fX7_readText_15
    rw [if_pos rfl]
def packX (s : FnI) (u : MTT) (cnt : Int32) : MXT := (s, u.1, u.2.1, u.2.2.1, u.2.2.2.1, u.2.2.2.2.1, u.2.2.2.2.2, cnt)
def RTd (p : Int32) (s : FnI) (n : Nat) (m : MTT) (cnt : Int32) : Int32 × MXT := fX7_readText_15 p n (fX7_readOrder m).1 (packX s (fX7_readOrder m).2 cnt)
/-- behind an order: the end, a fault, or the next order -/
def goOn (p : Int32) (s : FnI) (n : Nat) (u : MTT) (cnt : Int32) : Int32 × MXT := if u.2.2.1 = u.2.1 then ((1 : Int32), packX s u (cnt + (1 : Int32))) else if (fX7_takes (44 : Int32) u).1 = (0 : Int32) then ((0 : Int32), packX s (fX7_takes (44 : Int32) u).2 (cnt + (1 : Int32))) else RTd p s n (fX7_takes (44 : Int32) u).2 (cnt + (1 : Int32))
theorem rt0_step (s : FnI) (n : Nat) {x : Int32} (u : MTT) (cnt : Int32) (hx : ¬ x = (0 : Int32)) : fX7_readText_15 (0 : Int32) (n + 1) x (packX s u cnt) = goOn (0 : Int32) s n u cnt := by
  have eta : (u.1, u.2.1, u.2.2.1, u.2.2.2.1, u.2.2.2.2.1, u.2.2.2.2.2) = u := rfl
  conv => lhs; unfold fX7_readText_15
  unfold goOn RTd packX
  rw [if_neg hx, if_pos (rfl : (0 : Int32) = (0 : Int32))]
  dsimp only
  rw [eta]
  by_cases c : u.2.2.1 = u.2.1
  · rw [if_pos c, if_pos c]
  · rw [if_neg c, if_neg c]
    generalize fX7_takes (44 : Int32) u = y
    obtain ⟨r, v⟩ := y
    dsimp only
    by_cases d : r = (0 : Int32)
    · rw [if_pos d, if_pos d, rt_0]
    · rw [if_neg d, if_neg d]
      generalize fX7_readOrder v = z
      obtain ⟨r2, v2⟩ := z
      dsimp only
      by_cases g : r2 = (0 : Int32)
      · rw [if_pos g, g]
      · rw [if_neg g, rt_x _ _ _ g]
theorem co_keep (τ : MOT) : (fX7_carryOut τ).2.2 = τ.2 := by
  unfold fX7_carryOut
  by_cases c1 : τ.2.1 = (98 : Int32)
  · rw [if_pos c1]
  · rw [if_neg c1]
    by_cases c2 : τ.2.1 = (101 : Int32)
    · rw [if_pos c2]
    · rw [if_neg c2]
      by_cases c3 : τ.2.1 = (103 : Int32)
      · rw [if_pos c3]
      · rw [if_neg c3]
        by_cases c4 : τ.2.1 = (108 : Int32)
        · rw [if_pos c4]
        · rw [if_neg c4]
          by_cases c5 : τ.2.1 = (112 : Int32)
          · rw [if_pos c5]
          · rw [if_neg c5]
            by_cases c6 : τ.2.1 = (115 : Int32)
            · rw [if_pos c6]
            · rw [if_neg c6]
              by_cases c7 : τ.2.1 = (117 : Int32)
              · rw [if_pos c7]
              · rw [if_neg c7]
theorem rt1_step (s : FnI) (n : Nat) {x : Int32} (u : MTT) (cnt : Int32) (hx : ¬ x = (0 : Int32)) : fX7_readText_15 (1 : Int32) (n + 1) x (packX s u cnt) = if (0 : Int32) ≤ fX7_errorOfOrder (s, u.2.2.2) then goOn (1 : Int32) (fX7_carryOut (s, u.2.2.2)).2.1 n u cnt else ((1 : Int32), packX s u cnt) := by
  have eta : (u.1, u.2.1, u.2.2.1, u.2.2.2.1, u.2.2.2.2.1, u.2.2.2.2.2) = u := rfl
  have eta3 : (u.2.2.2.1, u.2.2.2.2.1, u.2.2.2.2.2) = u.2.2.2 := rfl
  conv => lhs; unfold fX7_readText_15
  unfold goOn RTd packX
  rw [if_neg hx, if_neg one_no]
  dsimp only
  rw [eta3]
  by_cases q : (0 : Int32) ≤ fX7_errorOfOrder (s, u.2.2.2)
  · rw [if_pos q, if_pos q]
    have k := co_keep (s, u.2.2.2)
    generalize fX7_carryOut (s, u.2.2.2) = w at k ⊢
    obtain ⟨r0, s1, t⟩ := w
    have k : t = u.2.2.2 := k
    subst k
    dsimp only
    rw [eta]
    by_cases c : u.2.2.1 = u.2.1
    · rw [if_pos c, if_pos c]
    · rw [if_neg c, if_neg c]
      generalize fX7_takes (44 : Int32) u = y
      obtain ⟨r, v⟩ := y
      dsimp only
      by_cases d : r = (0 : Int32)
      · rw [if_pos d, if_pos d, rt_0]
      · rw [if_neg d, if_neg d]
        generalize fX7_readOrder v = z
        obtain ⟨r2, v2⟩ := z
        dsimp only
        by_cases g : r2 = (0 : Int32)
        · rw [if_pos g, g]
        · rw [if_neg g, rt_x _ _ _ g]
  · rw [if_neg q, if_neg q]
theorem ro_end {m : MTT} (c : m.2.1 ≤ m.2.2.1) : (fX7_readOrder m).1 = (0 : Int32) ∧ (fX7_readOrder m).2.1 = m.1 ∧ (fX7_readOrder m).2.2.1 = m.2.1 ∧ (fX7_readOrder m).2.2.2.1 = m.2.2.1 := by
  unfold fX7_readOrder
  rw [if_pos c, i_as]
  exact ⟨rfl, rfl, rfl, rfl⟩
theorem lt_of_ne {m : MTT} (h : WP m.2.1 m.2.2.1) : (m.2.2.1 < m.2.1) ↔ ¬ m.2.2.1 = m.2.1 := by
  rw [pos_eq h, (pos_le h).1, (pos_le h).2]
  have := h.2.2
  omega
/-- the first reading -/
theorem ff_is (s : FnI) : ∀ (n k n' : Nat) (τ : ScT) (m : MTT) (cnt : Int32), RTx τ m → k ≤ m.2.2.1.toNatClampNeg → 80 - k < n → 82 - m.2.2.1.toNatClampNeg < n' →
    (fX4_findFault_6 n k τ).1 = (if (RTd (0 : Int32) s n' m cnt).1 = (0 : Int32) then (RTd (0 : Int32) s n' m cnt).2.2.2.2.1 else (-5 : Int32)) ∧ RTl (fX4_findFault_6 n k τ).2 m.1 m.2.1 ∧ (RTd (0 : Int32) s n' m cnt).2.2.1 = m.1 ∧ (RTd (0 : Int32) s n' m cnt).2.2.2.1 = m.2.1 := by
  intro n
  induction n with
  | zero => intro k n' τ m cnt R hk h; exact absurd h (by omega)
  | succ n ih =>
    intro k n' τ m cnt R hk hn hn'
    have hWP := R.2.2.1
    have hlen := hWP.1.2
    have hpl := hWP.2.2
    cases n' with
    | zero => exact absurd hn' (by omega)
    | succ n' =>
      unfold fX4_findFault_6
      by_cases c80 : (80 : Int32) ≤ nI k
      · have hk80 : 80 ≤ k := (nI_leI (a := 80) (b := k) (by omega) (by omega)).mp c80
        rw [if_pos c80]
        have ce : m.2.1 ≤ m.2.2.1 := (pos_le hWP).1.mpr (by omega)
        obtain ⟨g1, g2, g3, g4⟩ := ro_end ce
        have e : RTd (0 : Int32) s (n' + 1) m cnt = ((0 : Int32), packX s (fX7_readOrder m).2 cnt) := by
          unfold RTd
          rw [g1, rt_0]
        rw [e, if_pos rfl]
        exact ⟨R.2.1.trans g4.symm, R.lite rfl rfl, g2, g3⟩
      · have hk80 : k < 80 := Nat.lt_of_not_le (fun q => c80 ((nI_leI (a := 80) (b := k) (by omega) (by omega)).mpr q))
        rw [if_neg c80]
        obtain ⟨R2, h⟩ := ro_is R
        have hrn := ro_RN (Prod.eta (fX7_readOrder m)).symm hWP
        unfold RTd
        generalize fX4_readOrder τ = x at R2 h ⊢
        generalize fX7_readOrder m = y at R2 h hrn ⊢
        obtain ⟨r, u⟩ := x
        obtain ⟨q, w⟩ := y
        dsimp only at R2 h hrn ⊢
        rcases h with ⟨h1, h2, h3⟩ | ⟨h1, h2⟩
        · rw [if_neg h2, rt0_step s n' w cnt h1]
          have hWw : WP w.2.1 w.2.2.1 := R2.2.2.1
          unfold goOn
          rw [R2.1, R2.2.1]
          by_cases ce : w.2.2.1 = w.2.1
          · rw [if_pos ce, if_neg (fun z => (lt_of_ne hWw).mp z ce), if_neg one_no]
            exact ⟨rfl, R2.lite hrn.1 hrn.2.1, hrn.1, hrn.2.1⟩
          · rw [if_neg ce, if_pos ((lt_of_ne hWw).mpr ce)]
            obtain ⟨s1, s2, s3, s4, s5, s6⟩ := skip_is R2 (c := (44 : Int32)) (by decide)
            have htk := tk_RN (Prod.eta (fX7_takes (44 : Int32) w)).symm (zz_WPT hWw)
            generalize fX4_skip (44 : Int32) u = a at s1 s2 s3 s4 s5 s6 ⊢
            generalize fX7_takes (44 : Int32) w = b at s1 s2 s3 s4 s5 s6 htk ⊢
            obtain ⟨r4, u4⟩ := a
            obtain ⟨q4, w4⟩ := b
            dsimp only at s1 s2 s3 s4 s5 s6 htk ⊢
            have t1 : w4.1 = m.1 := htk.1.1.trans hrn.1
            have t2 : w4.2.1 = m.2.1 := htk.1.2.1.trans hrn.2.1
            by_cases z : q4 = (0 : Int32)
            · rw [if_pos z, if_pos (s4.mpr z), if_pos rfl]
              exact ⟨s1.2.1, s1.lite t1 t2, t1, t2⟩
            · rw [if_neg z, if_neg (fun e => z (s4.mp e))]
              have hp := s6 (fun e => z (s4.mp e))
              have hm := hrn.2.2.2.1
              have hh := ih (k + 1) n' u4 w4 (cnt + (1 : Int32)) s1 (by omega) (by omega) (by omega)
              rw [t1, t2] at hh
              exact hh
        · rw [h1, rt_0, if_pos rfl]
          rcases h2 with h2 | ⟨h2, h3, h4⟩
          · rw [if_pos h2]
            exact ⟨R2.2.1, R2.lite hrn.1 hrn.2.1, hrn.1, hrn.2.1⟩
          · have hWw : WP w.2.1 w.2.2.1 := R2.2.2.1
            obtain ⟨s1, s2, s3, s4, s5, s6⟩ := skip_is R2 (c := (44 : Int32)) (by decide)
            rw [if_neg h2, R2.1, R2.2.1, if_pos ((lt_of_ne hWw).mpr (fun e => h3 ((pos_eq hWw).mp e)))]
            have hs : fX4_skip (44 : Int32) u = ((0 : Int32), u) := by
              unfold fX4_skip
              rw [if_neg (by rw [here_is R2]; exact h4)]
            rw [hs, if_pos rfl]
            exact ⟨R2.2.1, R2.lite hrn.1 hrn.2.1, hrn.1, hrn.2.1⟩
/-! carrying out -/
theorem co_is {st : StT} {s : FnI} {u : ScT} {w : MTT} (R : RS st s) (h : OK2 u w) : Act ((fX6_carryOutOrder (st, u)).1, (fX6_carryOutOrder (st, u)).2.1) (fX7_errorOfOrder (s, w.2.2.2)) ((fX7_carryOut (s, w.2.2.2)).1, (fX7_carryOut (s, w.2.2.2)).2.1) s := by
  obtain ⟨ho, h⟩ := h
  unfold fX6_carryOutOrder fX7_errorOfOrder fX7_carryOut
  dsimp only
  rw [ho]
  rcases h with ⟨e, e1, e2⟩ | ⟨e, e1⟩ | e | e | ⟨e, e1, e2⟩ | e | ⟨e, e1, e2⟩ | e
  · rw [e]
    rw [if_pos (rfl : (98 : Int32) = (98 : Int32))]
    rw [if_pos (rfl : (98 : Int32) = (98 : Int32))]
    rw [if_pos (rfl : (98 : Int32) = (98 : Int32))]
    rw [e1, e2]
    exact A_begin R
  · rw [e]
    rw [if_neg (show ¬ (101 : Int32) = (98 : Int32) by decide), if_pos (rfl : (101 : Int32) = (101 : Int32))]
    rw [if_neg (show ¬ (101 : Int32) = (98 : Int32) by decide), if_pos (rfl : (101 : Int32) = (101 : Int32))]
    rw [if_neg (show ¬ (101 : Int32) = (98 : Int32) by decide), if_pos (rfl : (101 : Int32) = (101 : Int32))]
    rw [e1]
    exact A_erase R
  · rw [e]
    rw [if_neg (show ¬ (103 : Int32) = (98 : Int32) by decide), if_neg (show ¬ (103 : Int32) = (101 : Int32) by decide), if_neg (show ¬ (103 : Int32) = (108 : Int32) by decide), if_neg (show ¬ (103 : Int32) = (112 : Int32) by decide), if_neg (show ¬ (103 : Int32) = (115 : Int32) by decide), if_neg (show ¬ (103 : Int32) = (116 : Int32) by decide), if_neg (show ¬ (103 : Int32) = (117 : Int32) by decide)]
    rw [if_neg (show ¬ (103 : Int32) = (98 : Int32) by decide), if_neg (show ¬ (103 : Int32) = (101 : Int32) by decide), if_pos (rfl : (103 : Int32) = (103 : Int32))]
    rw [if_neg (show ¬ (103 : Int32) = (98 : Int32) by decide), if_neg (show ¬ (103 : Int32) = (101 : Int32) by decide), if_pos (rfl : (103 : Int32) = (103 : Int32))]
    exact A_giveUp R
  · rw [e]
    rw [if_neg (show ¬ (108 : Int32) = (98 : Int32) by decide), if_neg (show ¬ (108 : Int32) = (101 : Int32) by decide), if_pos (rfl : (108 : Int32) = (108 : Int32))]
    rw [if_neg (show ¬ (108 : Int32) = (98 : Int32) by decide), if_neg (show ¬ (108 : Int32) = (101 : Int32) by decide), if_neg (show ¬ (108 : Int32) = (103 : Int32) by decide), if_pos (rfl : (108 : Int32) = (108 : Int32))]
    rw [if_neg (show ¬ (108 : Int32) = (98 : Int32) by decide), if_neg (show ¬ (108 : Int32) = (101 : Int32) by decide), if_neg (show ¬ (108 : Int32) = (103 : Int32) by decide), if_pos (rfl : (108 : Int32) = (108 : Int32))]
    exact A_lock R
  · rw [e]
    rw [if_neg (show ¬ (112 : Int32) = (98 : Int32) by decide), if_neg (show ¬ (112 : Int32) = (101 : Int32) by decide), if_neg (show ¬ (112 : Int32) = (108 : Int32) by decide), if_pos (rfl : (112 : Int32) = (112 : Int32))]
    rw [if_neg (show ¬ (112 : Int32) = (98 : Int32) by decide), if_neg (show ¬ (112 : Int32) = (101 : Int32) by decide), if_neg (show ¬ (112 : Int32) = (103 : Int32) by decide), if_neg (show ¬ (112 : Int32) = (108 : Int32) by decide), if_pos (rfl : (112 : Int32) = (112 : Int32))]
    rw [if_neg (show ¬ (112 : Int32) = (98 : Int32) by decide), if_neg (show ¬ (112 : Int32) = (101 : Int32) by decide), if_neg (show ¬ (112 : Int32) = (103 : Int32) by decide), if_neg (show ¬ (112 : Int32) = (108 : Int32) by decide), if_pos (rfl : (112 : Int32) = (112 : Int32))]
    rw [e1, e2]
    exact A_put R
  · rw [e]
    rw [if_neg (show ¬ (115 : Int32) = (98 : Int32) by decide), if_neg (show ¬ (115 : Int32) = (101 : Int32) by decide), if_neg (show ¬ (115 : Int32) = (108 : Int32) by decide), if_neg (show ¬ (115 : Int32) = (112 : Int32) by decide), if_pos (rfl : (115 : Int32) = (115 : Int32))]
    rw [if_neg (show ¬ (115 : Int32) = (98 : Int32) by decide), if_neg (show ¬ (115 : Int32) = (101 : Int32) by decide), if_neg (show ¬ (115 : Int32) = (103 : Int32) by decide), if_neg (show ¬ (115 : Int32) = (108 : Int32) by decide), if_neg (show ¬ (115 : Int32) = (112 : Int32) by decide), if_pos (rfl : (115 : Int32) = (115 : Int32))]
    rw [if_neg (show ¬ (115 : Int32) = (98 : Int32) by decide), if_neg (show ¬ (115 : Int32) = (101 : Int32) by decide), if_neg (show ¬ (115 : Int32) = (103 : Int32) by decide), if_neg (show ¬ (115 : Int32) = (108 : Int32) by decide), if_neg (show ¬ (115 : Int32) = (112 : Int32) by decide), if_pos (rfl : (115 : Int32) = (115 : Int32))]
    exact A_swap R
  · rw [e]
    rw [if_neg (show ¬ (116 : Int32) = (98 : Int32) by decide), if_neg (show ¬ (116 : Int32) = (101 : Int32) by decide), if_neg (show ¬ (116 : Int32) = (108 : Int32) by decide), if_neg (show ¬ (116 : Int32) = (112 : Int32) by decide), if_neg (show ¬ (116 : Int32) = (115 : Int32) by decide), if_pos (rfl : (116 : Int32) = (116 : Int32))]
    rw [if_neg (show ¬ (116 : Int32) = (98 : Int32) by decide), if_neg (show ¬ (116 : Int32) = (101 : Int32) by decide), if_neg (show ¬ (116 : Int32) = (103 : Int32) by decide), if_neg (show ¬ (116 : Int32) = (108 : Int32) by decide), if_neg (show ¬ (116 : Int32) = (112 : Int32) by decide), if_neg (show ¬ (116 : Int32) = (115 : Int32) by decide), if_neg (show ¬ (116 : Int32) = (117 : Int32) by decide)]
    rw [if_neg (show ¬ (116 : Int32) = (98 : Int32) by decide), if_neg (show ¬ (116 : Int32) = (101 : Int32) by decide), if_neg (show ¬ (116 : Int32) = (103 : Int32) by decide), if_neg (show ¬ (116 : Int32) = (108 : Int32) by decide), if_neg (show ¬ (116 : Int32) = (112 : Int32) by decide), if_neg (show ¬ (116 : Int32) = (115 : Int32) by decide), if_neg (show ¬ (116 : Int32) = (117 : Int32) by decide)]
    rw [e1]
    have hA := A_tick (p := w.2.2.2.2.1) R
    unfold tickErr at hA
    rw [if_neg e2] at hA
    exact hA
  · rw [e]
    rw [if_neg (show ¬ (117 : Int32) = (98 : Int32) by decide), if_neg (show ¬ (117 : Int32) = (101 : Int32) by decide), if_neg (show ¬ (117 : Int32) = (108 : Int32) by decide), if_neg (show ¬ (117 : Int32) = (112 : Int32) by decide), if_neg (show ¬ (117 : Int32) = (115 : Int32) by decide), if_neg (show ¬ (117 : Int32) = (116 : Int32) by decide), if_pos (rfl : (117 : Int32) = (117 : Int32))]
    rw [if_neg (show ¬ (117 : Int32) = (98 : Int32) by decide), if_neg (show ¬ (117 : Int32) = (101 : Int32) by decide), if_neg (show ¬ (117 : Int32) = (103 : Int32) by decide), if_neg (show ¬ (117 : Int32) = (108 : Int32) by decide), if_neg (show ¬ (117 : Int32) = (112 : Int32) by decide), if_neg (show ¬ (117 : Int32) = (115 : Int32) by decide), if_pos (rfl : (117 : Int32) = (117 : Int32))]
    rw [if_neg (show ¬ (117 : Int32) = (98 : Int32) by decide), if_neg (show ¬ (117 : Int32) = (101 : Int32) by decide), if_neg (show ¬ (117 : Int32) = (103 : Int32) by decide), if_neg (show ¬ (117 : Int32) = (108 : Int32) by decide), if_neg (show ¬ (117 : Int32) = (112 : Int32) by decide), if_neg (show ¬ (117 : Int32) = (115 : Int32) by decide), if_pos (rfl : (117 : Int32) = (117 : Int32))]
    exact A_unlock R
/-- a valid text: every reading comes to its end -/
theorem run_is : ∀ (n k n' : Nat) (τ : ScT) (m : MTT) (st : StT) (hi : HiT) (s : FnI), RTx τ m → RS st s → k ≤ m.2.2.1.toNatClampNeg → 80 - k < n → 82 - m.2.2.1.toNatClampNeg < n' → (fX4_findFault_6 n k τ).1 = (-5 : Int32) →
    ¬ (RTd (1 : Int32) s n' m (nI k)).1 = (0 : Int32) ∧ (fX6_run_46 n k (st, hi, τ)).1 = (RTd (1 : Int32) s n' m (nI k)).2.2.2.2.2.2.2.2 ∧ RS (fX6_run_46 n k (st, hi, τ)).2.1 (RTd (1 : Int32) s n' m (nI k)).2.1 ∧ (fX6_run_46 n k (st, hi, τ)).2.2.1 = hi ∧ RTl (fX6_run_46 n k (st, hi, τ)).2.2.2 m.1 m.2.1 ∧ (RTd (1 : Int32) s n' m (nI k)).2.2.1 = m.1 ∧ (RTd (1 : Int32) s n' m (nI k)).2.2.2.1 = m.2.1 := by
  intro n
  induction n with
  | zero => intro k n' τ m st hi s R RSs hk h; exact absurd h (by omega)
  | succ n ih =>
    intro k n' τ m st hi s R RSs hk hn hn' hv
    have hWP := R.2.2.1
    have hlen := hWP.1.2
    have hpl := hWP.2.2
    have hnp : ∀ {v : ScT} {w : MTT}, RTx v w → ¬ v.2.2.1 = (-5 : Int32) := fun {v w} hR e => bd_ne hR.2.2.1.2.1 (by omega) (by decide) (hR.2.1.symm.trans e)
    cases n' with
    | zero => exact absurd hn' (by omega)
    | succ n' =>
      unfold fX4_findFault_6 at hv
      unfold fX6_run_46
      by_cases c80 : (80 : Int32) ≤ nI k
      · rw [if_pos c80] at hv
        exact absurd hv (hnp R)
      · have hk80 : k < 80 := Nat.lt_of_not_le (fun q => c80 ((nI_leI (a := 80) (b := k) (by omega) (by omega)).mpr q))
        rw [if_neg c80] at hv ⊢
        obtain ⟨R2, h⟩ := ro_is R
        have hrn := ro_RN (Prod.eta (fX7_readOrder m)).symm hWP
        unfold RTd
        generalize fX4_readOrder τ = x at R2 h hv ⊢
        generalize fX7_readOrder m = y at R2 h hrn ⊢
        obtain ⟨r, u⟩ := x
        obtain ⟨q, w⟩ := y
        dsimp only at R2 h hrn hv ⊢
        have hWw : WP w.2.1 w.2.2.1 := R2.2.2.1
        rcases h with ⟨h1, h2, h3⟩ | ⟨h1, h2⟩
        · rw [if_neg h2] at hv ⊢
          rw [rt1_step s n' w (nI k) h1]
          have hA := co_is RSs h3
          have hk2 : (fX6_carryOutOrder (st, u)).2.2 = u := co_sc (Prod.eta (fX6_carryOutOrder (st, u))).symm RSs.1
          generalize fX6_carryOutOrder (st, u) = a at hA hk2 ⊢
          obtain ⟨r3, st3, u3⟩ := a
          have hk2 : u3 = u := hk2
          subst hk2
          dsimp only at hA ⊢
          rcases hA with ⟨a1, a2, a3, a4⟩ | ⟨a1, a2, a3, a4⟩
          · dsimp only at a2 a3 a4
            rw [if_pos a4, if_pos a1]
            unfold goOn
            rw [R2.1, R2.2.1] at hv
            by_cases ce : w.2.2.1 = w.2.1
            · have hs : fX4_skip (44 : Int32) u3 = ((0 : Int32), u3) := by
                unfold fX4_skip
                rw [if_neg (by rw [here_is R2]; unfold hereM; rw [if_pos ((pos_eq hWw).mp ce)]; decide)]
              rw [if_pos ce, hs]
              dsimp only
              rw [if_pos rfl]
              exact ⟨one_no, rfl, a3, rfl, R2.lite hrn.1 hrn.2.1, hrn.1, hrn.2.1⟩
            · rw [if_pos ((lt_of_ne hWw).mpr ce)] at hv
              rw [if_neg ce]
              obtain ⟨s1, s2, s3, s4, s5, s6⟩ := skip_is R2 (c := (44 : Int32)) (by decide)
              have htk := tk_RN (Prod.eta (fX7_takes (44 : Int32) w)).symm (zz_WPT hWw)
              generalize fX4_skip (44 : Int32) u3 = b1 at s1 s2 s3 s4 s5 s6 hv ⊢
              generalize fX7_takes (44 : Int32) w = b2 at s1 s2 s3 s4 s5 s6 htk ⊢
              obtain ⟨r4, u4⟩ := b1
              obtain ⟨q4, w4⟩ := b2
              dsimp only at s1 s2 s3 s4 s5 s6 htk hv ⊢
              have t1 : w4.1 = m.1 := htk.1.1.trans hrn.1
              have t2 : w4.2.1 = m.2.1 := htk.1.2.1.trans hrn.2.1
              by_cases z : r4 = (0 : Int32)
              · rw [if_pos z] at hv
                exact absurd hv (hnp s1)
              · rw [if_neg z] at hv ⊢
                rw [if_neg (fun e => z (s4.mpr e)), nI_1]
                have hp := s6 z
                have hm := hrn.2.2.2.1
                have hh := ih (k + 1) n' u4 w4 st3 hi _ s1 a3 (by omega) (by omega) (by omega) hv
                rw [t1, t2] at hh
                exact hh
          · dsimp only at a2 a3 a4
            rw [if_neg a4, if_neg a1]
            exact ⟨one_no, rfl, a3, rfl, R2.lite hrn.1 hrn.2.1, hrn.1, hrn.2.1⟩
        · rcases h2 with h2 | ⟨h2, h3, h4⟩
          · rw [if_pos h2] at hv
            exact absurd hv (hnp R2)
          · have hs : fX4_skip (44 : Int32) u = ((0 : Int32), u) := by
              unfold fX4_skip
              rw [if_neg (by rw [here_is R2]; exact h4)]
            rw [if_neg h2, R2.1, R2.2.1, if_pos ((lt_of_ne hWw).mpr (fun e => h3 ((pos_eq hWw).mp e))), hs, if_pos rfl] at hv
            exact absurd hv (hnp R2)
