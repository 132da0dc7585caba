/-! the whole run -/
theorem find_ok {u : ScT} {σ : MXT} (c : ¬ (fX7_readText (0 : Int32) σ).1 = (0 : Int32)) (hu : RTl u σ.2.1 σ.2.2.1) : (fX4_findFault_6 81 0 (fX4_goToStart u)).1 = (-5 : Int32) := by
  have g := (find_is hu).1
  rw [if_neg c] at g
  unfold fX4_findFault at g
  dsimp only at g
  exact g
theorem run_of {st : StT} {hi : HiT} {s : FnI} {u : ScT} {σ : MXT} (e : σ.1 = s) (R : RS st s) (T : RTl u σ.2.1 σ.2.2.1) (hv : (fX4_findFault_6 81 0 (fX4_goToStart u)).1 = (-5 : Int32)) : ∃ (r : Int32) (st2 : StT) (sc2 : ScT) (q : Int32) (w : MXT), fX6_run_46 81 0 (st, hi, fX4_goToStart u) = (r, st2, hi, sc2) ∧ fX7_readText (1 : Int32) σ = (q, w) ∧ ¬ q = (0 : Int32) ∧ r = w.2.2.2.2.2.2.2 ∧ RS st2 w.1 ∧ RTl sc2 σ.2.1 σ.2.2.1 ∧ w.2.1 = σ.2.1 ∧ w.2.2.1 = σ.2.2.1 := by
  subst e
  have hx := start_is T
  have h0 := start_0 σ
  have h1 : nI 0 = (0 : Int32) := rfl
  have G := run_is 81 0 83 (fX4_goToStart u) (mStart σ) st hi σ.1 hx R (Nat.zero_le _) (by omega) (by omega) hv
  rw [h1, ← text_is] at G
  generalize fX6_run_46 81 0 (st, hi, fX4_goToStart u) = a at G ⊢
  generalize fX7_readText (1 : Int32) σ = b at G ⊢
  obtain ⟨r, st2, hi2, sc2⟩ := a
  obtain ⟨q, w⟩ := b
  obtain ⟨g1, g2, g3, g4, g5, g6, g7⟩ := G
  have g4 : hi2 = hi := g4
  subst g4
  exact ⟨r, st2, sc2, q, w, rfl, rfl, g1, g2, g3, g5, g6, g7⟩
theorem B_run {τ : TXT} {σ : MRT} (R : RP (τ.1, τ.2.1) (σ.1, σ.2.1, σ.2.2.1)) (T : RTl τ.2.2 σ.2.2.2.1 σ.2.2.2.2.1) : (fX6_run τ).1 = (fX7_run σ).1 ∧ RP ((fX6_run τ).2.1, (fX6_run τ).2.2.1) ((fX7_run σ).2.1, (fX7_run σ).2.2.1, (fX7_run σ).2.2.2.1) ∧ RTl (fX6_run τ).2.2.2 σ.2.2.2.1 σ.2.2.2.2.1 ∧ (fX7_run σ).2.2.2.2.1 = σ.2.2.2.1 ∧ (fX7_run σ).2.2.2.2.2.1 = σ.2.2.2.2.1 := by
  have F := find_is (τ := τ.2.2) (σ := (σ.1, σ.2.2.2.1, σ.2.2.2.2.1, σ.2.2.2.2.2.1, σ.2.2.2.2.2.2.1, σ.2.2.2.2.2.2.2.1, σ.2.2.2.2.2.2.2.2.1, σ.2.2.2.2.2.2.2.2.2)) T
  have K := fun c => @find_ok (fX4_findFault τ.2.2).2 (σ.1, σ.2.2.2.1, σ.2.2.2.2.1, σ.2.2.2.2.2.1, σ.2.2.2.2.2.2.1, σ.2.2.2.2.2.2.2.1, σ.2.2.2.2.2.2.2.2.1, σ.2.2.2.2.2.2.2.2.2) c F.2.1
  obtain ⟨f1, f2, f3, f4, f5, f6⟩ := F
  generalize e4 : fX4_findFault τ.2.2 = x at f1 f2 K
  generalize e2 : fX7_readText (0 : Int32) (σ.1, σ.2.2.2.1, σ.2.2.2.2.1, σ.2.2.2.2.2.1, σ.2.2.2.2.2.2.1, σ.2.2.2.2.2.2.2.1, σ.2.2.2.2.2.2.2.2.1, σ.2.2.2.2.2.2.2.2.2) = y at f1 f3 f4 f5 f6 K
  obtain ⟨r, u⟩ := x
  obtain ⟨q, w⟩ := y
  have f3 : w.1 = σ.1 := f3
  have f4 : w.2.1 = σ.2.2.2.1 := f4
  have f5 : w.2.2.1 = σ.2.2.2.2.1 := f5
  have f6 : ¬ w.2.2.2.1 = (-5 : Int32) := f6
  have f2 : RTl u σ.2.2.2.1 σ.2.2.2.2.1 := f2
  have f1 : r = if q = (0 : Int32) then w.2.2.2.1 else (-5 : Int32) := f1
  have K : ¬ q = (0 : Int32) → (fX4_findFault_6 81 0 (fX4_goToStart u)).1 = (-5 : Int32) := K
  by_cases c : q = (0 : Int32)
  · rw [if_pos c] at f1
    rw [fX6_run_p6 τ r u e4 (by rw [f1]; exact f6), fX7_run_p2 σ q w e2 c]
    refine ⟨?_, ?_, f2, f4, f5⟩
    · rw [f1]
    · show RP (τ.1, τ.2.1) (w.1, σ.2.1, σ.2.2.1)
      rw [f3]
      exact R
  · rw [if_neg c] at f1
    have hRH := rec_RH (τ := τ.2.1) R.1 R.2
    have eC := fX6_run_p5 τ r u e4 f1 _ rfl _ rfl _ rfl
    generalize e17 : fX7_record (w.1, σ.2.1, σ.2.2.1) = u17
    have e171 : u17.1 = σ.1 := by rw [← e17, rec_s]; exact f3
    have hRH : RH (va_up τ.2.1.1 (fX1_slotOf τ.2.1.2.2 τ.2.1.2).toNatClampNeg τ.1, fX1_keepPrepared τ.2.1.2) u17.2.1 u17.2.2 := by
      rw [← e17, f3]
      exact hRH
    obtain ⟨r3, st3, sc3, q3, w3, g1, g2, g3, g4, g5, g6, g7, g8⟩ := run_of (st := τ.1) (hi := ((fX1_prepare τ.2.1 τ.1).1, (fX1_keepPrepared (fX1_prepare τ.2.1 τ.1).2).1, (fX1_keepPrepared (fX1_prepare τ.2.1 τ.1).2).2)) (s := σ.1) (u := u) (σ := (u17.1, w.2.1, w.2.2.1, w.2.2.2.1, w.2.2.2.2.1, w.2.2.2.2.2.1, w.2.2.2.2.2.2.1, w.2.2.2.2.2.2.2)) e171 R.1 (by show RTl u w.2.1 w.2.2.1; rw [f4, f5]; exact f2) (K c)
    have eM := fX7_run_p1 σ q w e2 c u17 e17 q3 w3 g2 g3
    rw [eC, g1, eM]
    have g6 : RTl sc3 w.2.1 w.2.2.1 := g6
    have g7 : w3.2.1 = w.2.1 := g7
    have g8 : w3.2.2.1 = w.2.2.1 := g8
    rw [f4, f5] at g6
    exact ⟨g4, ⟨g5, hRH⟩, g6, g7.trans f4, g8.trans f5⟩
