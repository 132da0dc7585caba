/-! an order, read by both sides -/
/-- the order that the class has read is the reference's -/
def OK2 (τ : ScT) (m : MTT) : Prop := τ.2.2.2.2.1 = m.2.2.2.1 ∧
  ((m.2.2.2.1 = (98 : Int32) ∧ τ.2.2.2.2.2.1 = m.2.2.2.2.1 ∧ τ.2.2.2.2.2.2 = m.2.2.2.2.2) ∨ (m.2.2.2.1 = (101 : Int32) ∧ τ.2.2.2.2.2.1 = m.2.2.2.2.1) ∨ m.2.2.2.1 = (103 : Int32) ∨ m.2.2.2.1 = (108 : Int32) ∨ (m.2.2.2.1 = (112 : Int32) ∧ τ.2.2.2.2.2.1 = m.2.2.2.2.1 ∧ τ.2.2.2.2.2.2 = m.2.2.2.2.2) ∨ m.2.2.2.1 = (115 : Int32) ∨ (m.2.2.2.1 = (116 : Int32) ∧ τ.2.2.2.2.2.1 = m.2.2.2.2.1 ∧ ¬ fX7_in m.2.2.2.2.1 (1 : Int32) (99 : Int32) = (0 : Int32)) ∨ m.2.2.2.1 = (117 : Int32))
theorem first_is2 {τ : ScT} {m : MTT} (R : RTx τ m) {a b : Nat} (ha : a ≤ 1) (hb : b ≤ 99) : ∃ (r : Int32) (u : ScT) (r2 : Int32) (u2 : MTT), fX4_readFirst (nI a) (nI b) τ = (r, u) ∧ fX7_readNumber (nI a) (nI b) m = (r2, u2) ∧ RTx u u2 ∧ u.2.2.2.2.1 = τ.2.2.2.2.1 ∧ u.2.2.2.2.2.2 = τ.2.2.2.2.2.2 ∧ u2.2.2.2 = m.2.2.2 ∧ ((r = (1 : Int32) ∧ u.2.2.2.2.2.1 = r2 ∧ fX7_isNext (48 : Int32) (57 : Int32) m = (1 : Int32) ∧ ∃ v : Nat, a ≤ v ∧ v ≤ b ∧ r2 = nI v) ∨ (r = (0 : Int32) ∧ r2 = (-5 : Int32) ∧ u2 = m)) := by
  have h := num_is R ha hb
  unfold fX4_readFirst
  generalize fX4_readNumber (nI a) (nI b) τ = x at h ⊢
  generalize fX7_readNumber (nI a) (nI b) m = y at h ⊢
  obtain ⟨r, u⟩ := x
  obtain ⟨r2, u2⟩ := y
  obtain ⟨h1, h2, h3, h4⟩ := h
  dsimp only at h1 h2 h3 h4 ⊢
  have h5 : u.2.2.2.2.1 = τ.2.2.2.2.1 := congrArg Prod.fst h2
  have h6 : u.2.2.2.2.2.2 = τ.2.2.2.2.2.2 := congrArg (fun z => z.2.2) h2
  exact ⟨_, _, _, _, rfl, rfl, h1, h5, h6, h3, h4⟩
theorem second_is {τ : ScT} {m : MTT} (R : RTx τ m) {a b : Nat} (ha : a ≤ 1) (hb : b ≤ 99) : ∃ (r : Int32) (u : ScT) (r2 : Int32) (u2 : MTT), fX4_readSecond (nI a) (nI b) τ = (r, u) ∧ fX7_readNumber (nI a) (nI b) m = (r2, u2) ∧ RTx u u2 ∧ u.2.2.2.2.1 = τ.2.2.2.2.1 ∧ u.2.2.2.2.2.1 = τ.2.2.2.2.2.1 ∧ u2.2.2.2 = m.2.2.2 ∧ ((r = (1 : Int32) ∧ u.2.2.2.2.2.2 = r2 ∧ ∃ v : Nat, a ≤ v ∧ v ≤ b ∧ r2 = nI v) ∨ (r = (0 : Int32) ∧ r2 = (-5 : Int32) ∧ u2 = m)) := by
  have h := num_is R ha hb
  unfold fX4_readSecond
  generalize fX4_readNumber (nI a) (nI b) τ = x at h ⊢
  generalize fX7_readNumber (nI a) (nI b) m = y at h ⊢
  obtain ⟨r, u⟩ := x
  obtain ⟨r2, u2⟩ := y
  obtain ⟨h1, h2, h3, h4⟩ := h
  dsimp only at h1 h2 h3 h4 ⊢
  have h5 : u.2.2.2.2.1 = τ.2.2.2.2.1 := congrArg Prod.fst h2
  have h6 : u.2.2.2.2.2.1 = τ.2.2.2.2.2.1 := congrArg (fun z => z.2.1) h2
  refine ⟨_, _, _, _, rfl, rfl, h1, h5, h6, h3, ?_⟩
  rcases h4 with ⟨g1, g2, g3, g4⟩ | h4
  · exact Or.inl ⟨g1, g2, g4⟩
  · exact Or.inr h4
/-- what both sides have read -/
def RO (m : MTT) (c : Int32 × ScT) (d : Int32 × MTT) : Prop := RTx c.2 d.2 ∧ ((¬ d.1 = (0 : Int32) ∧ ¬ c.1 = (0 : Int32) ∧ OK2 c.2 d.2) ∨ (d.1 = (0 : Int32) ∧ (c.1 = (0 : Int32) ∨ (¬ c.1 = (0 : Int32) ∧ ¬ d.2.2.1 ≤ d.2.2.2.1 ∧ ¬ hereM d.2 = (44 : Int32)))))
theorem one_no : ¬ (1 : Int32) = (0 : Int32) := by decide
theorem h_of {m : MTT} (c : ¬ m.2.1 ≤ m.2.2.1) : hereM m = m.1 m.2.2.1.toNatClampNeg := if_neg c
set_option maxHeartbeats 2000000 in
theorem ro_is {τ : ScT} {m : MTT} (R : RTx τ m) : RO m (fX4_readOrder τ) (fX7_readOrder m) := by
  have hh := here_is R
  unfold fX4_readOrder fX7_readOrder
  rw [hh]
  by_cases c : m.2.1 ≤ m.2.2.1
  · have e : hereM m = (-5 : Int32) := if_pos c
    rw [e, if_pos c, if_neg (by decide), if_neg (by decide), if_neg (by decide), if_neg (by decide), if_neg (by decide), if_neg (by decide), if_neg (by decide), if_neg (by decide), i_as]
    exact ⟨R, Or.inr ⟨rfl, Or.inl rfl⟩⟩
  · rw [h_of c, if_neg c]
    generalize hx : m.1 m.2.2.1.toNatClampNeg = x
    have R1 := (R.step c τ.2.2.2.1 x τ.2.2.2.2.2.1 τ.2.2.2.2.2.2 x m.2.2.2.2.1 m.2.2.2.2.2).1
    by_cases h98 : x = (98 : Int32)
    · rw [if_pos h98, if_pos h98]
      obtain ⟨r, u, r2, u2, e1, e2, k1, k2, k3, k4, k5⟩ := first_is2 R1 (a := 0) (b := 4) (by omega) (by omega)
      rw [show fX4_readFirst (0 : Int32) (4 : Int32) _ = (r, u) from e1, show fX7_readNumber (0 : Int32) (4 : Int32) _ = (r2, u2) from e2]
      dsimp only
      rcases k5 with ⟨j1, j2, j3, v, j4, j5, j6⟩ | ⟨j1, j2, j3⟩
      · rw [if_neg (show ¬ r = (0 : Int32) by rw [j1]; exact one_no), if_neg (show ¬ r2 = (-5 : Int32) by rw [j6]; exact nI_ne_m5 (by omega))]
        have k1 : RTx u (u2.1, u2.2.1, u2.2.2.1, u2.2.2.2.1, r2, u2.2.2.2.2.2) := k1
        obtain ⟨r3, u3, r4, u4, f1, f2, l1, l2, l3, l4, l5⟩ := second_is k1 (a := 1) (b := 8) (by omega) (by omega)
        rw [show fX4_readSecond (1 : Int32) (8 : Int32) _ = (r3, u3) from f1, show fX7_readNumber (1 : Int32) (8 : Int32) _ = (r4, u4) from f2]
        dsimp only
        rcases l5 with ⟨i1, i2, w, i4, i5, i6⟩ | ⟨i1, i2, i3⟩
        · rw [if_neg (show ¬ r3 = (0 : Int32) by rw [i1]; exact one_no), if_neg (show ¬ r4 = (-5 : Int32) by rw [i6]; exact nI_ne_m5 (by omega))]
          have l4 : u4.2.2.2 = (u2.2.2.2.1, r2, u2.2.2.2.2.2) := l4
          have a1 : u4.2.2.2.1 = u2.2.2.2.1 := by rw [l4]
          have a2 : u4.2.2.2.2.1 = r2 := congrArg (fun z => z.2.1) l4
          have a3 : u2.2.2.2.1 = x := congrArg Prod.fst k4
          refine ⟨l1, Or.inl ⟨one_no, one_no, ?_, Or.inl ⟨?_, ?_, i2⟩⟩⟩
          · dsimp only; rw [l2, k2, a1, a3]
          · dsimp only; rw [a1, a3]; exact h98
          · dsimp only; rw [l3, a2]; exact j2
        · rw [if_pos i1, if_pos i2]
          exact ⟨l1, Or.inr ⟨rfl, Or.inl rfl⟩⟩
      · rw [if_pos j1, if_pos j2]
        exact ⟨k1, Or.inr ⟨rfl, Or.inl rfl⟩⟩
    · rw [if_neg h98, if_neg h98]
      by_cases h101 : x = (101 : Int32)
      · rw [if_pos h101, if_pos h101]
        obtain ⟨r, u, r2, u2, e1, e2, k1, k2, k3, k4, k5⟩ := first_is2 R1 (a := 0) (b := 31) (by omega) (by omega)
        rw [show fX4_readFirst (0 : Int32) (31 : Int32) _ = (r, u) from e1, show fX7_readNumber (0 : Int32) (31 : Int32) _ = (r2, u2) from e2]
        dsimp only
        rcases k5 with ⟨j1, j2, j3, v, j4, j5, j6⟩ | ⟨j1, j2, j3⟩
        · rw [if_neg (show ¬ r2 = (-5 : Int32) by rw [j6]; exact nI_ne_m5 (by omega))]
          have a3 : u2.2.2.2.1 = x := congrArg Prod.fst k4
          refine ⟨k1, Or.inl ⟨one_no, by dsimp only; rw [j1]; exact one_no, ?_, Or.inr (Or.inl ⟨?_, j2⟩)⟩⟩
          · dsimp only; rw [k2, a3]
          · dsimp only; rw [a3]; exact h101
        · rw [if_pos j2]
          exact ⟨k1, Or.inr ⟨rfl, Or.inl j1⟩⟩
      · rw [if_neg h101, if_neg h101]
        by_cases h103 : x = (103 : Int32)
        · rw [if_pos h103, if_pos h103]
          exact ⟨R1, Or.inl ⟨one_no, one_no, rfl, Or.inr (Or.inr (Or.inl h103))⟩⟩
        · rw [if_neg h103, if_neg h103]
          by_cases h108 : x = (108 : Int32)
          · rw [if_pos h108, if_pos h108]
            exact ⟨R1, Or.inl ⟨one_no, one_no, rfl, Or.inr (Or.inr (Or.inr (Or.inl h108)))⟩⟩
          · rw [if_neg h108, if_neg h108]
            by_cases h112 : x = (112 : Int32)
            · rw [if_pos h112, if_pos h112]
              obtain ⟨r, u, r2, u2, e1, e2, k1, k2, k3, k4, k5⟩ := first_is2 R1 (a := 0) (b := 31) (by omega) (by omega)
              rw [show fX4_readFirst (0 : Int32) (31 : Int32) _ = (r, u) from e1, show fX7_readNumber (0 : Int32) (31 : Int32) _ = (r2, u2) from e2]
              dsimp only
              rcases k5 with ⟨j1, j2, j3, v, j4, j5, j6⟩ | ⟨j1, j2, j3⟩
              · rw [if_neg (show ¬ r = (0 : Int32) by rw [j1]; exact one_no), if_neg (show ¬ r2 = (-5 : Int32) by rw [j6]; exact nI_ne_m5 (by omega))]
                have k1 : RTx u (u2.1, u2.2.1, u2.2.2.1, u2.2.2.2.1, r2, u2.2.2.2.2.2) := k1
                obtain ⟨s1, s2, s3, s4, s5, s6⟩ := skip_is k1 (c := (61 : Int32)) (by decide)
                generalize fX4_skip (61 : Int32) u = y1 at s1 s2 s3 s4 s5 s6 ⊢
                generalize fX7_takes (61 : Int32) _ = y2 at s1 s2 s3 s4 s5 s6 ⊢
                obtain ⟨r5, u5⟩ := y1
                obtain ⟨r6, u6⟩ := y2
                dsimp only at s1 s2 s3 s4 s5 s6 ⊢
                by_cases z : r6 = (0 : Int32)
                · rw [if_pos (s4.mpr z), if_pos z]
                  exact ⟨s1, Or.inr ⟨rfl, Or.inl rfl⟩⟩
                · rw [if_neg (fun q => z (s4.mp q)), if_neg z]
                  obtain ⟨r3, u3, r4, u4, f1, f2, l1, l2, l3, l4, l5⟩ := second_is s1 (a := 0) (b := 99) (by omega) (by omega)
                  rw [show fX4_readSecond (0 : Int32) (99 : Int32) _ = (r3, u3) from f1, show fX7_readNumber (0 : Int32) (99 : Int32) _ = (r4, u4) from f2]
                  dsimp only
                  rcases l5 with ⟨i1, i2, w, i4, i5, i6⟩ | ⟨i1, i2, i3⟩
                  · rw [if_neg (show ¬ r3 = (0 : Int32) by rw [i1]; exact one_no), if_neg (show ¬ r4 = (-5 : Int32) by rw [i6]; exact nI_ne_m5 (by omega))]
                    have s3 : u6.2.2.2 = (u2.2.2.2.1, r2, u2.2.2.2.2.2) := s3
                    have a1 : u4.2.2.2.1 = u2.2.2.2.1 := by rw [l4, s3]
                    have a2 : u4.2.2.2.2.1 = r2 := congrArg (fun z => z.2.1) (l4.trans s3)
                    have a3 : u2.2.2.2.1 = x := congrArg Prod.fst k4
                    have b1 : u5.2.2.2.2.1 = u.2.2.2.2.1 := congrArg (fun z => z.2.1) s2
                    have b2 : u5.2.2.2.2.2.1 = u.2.2.2.2.2.1 := congrArg (fun z => z.2.2.1) s2
                    refine ⟨l1, Or.inl ⟨one_no, one_no, ?_, Or.inr (Or.inr (Or.inr (Or.inr (Or.inl ⟨?_, ?_, i2⟩))))⟩⟩
                    · dsimp only; rw [l2, b1, k2, a1, a3]
                    · dsimp only; rw [a1, a3]; exact h112
                    · dsimp only; rw [l3, b2, a2]; exact j2
                  · rw [if_pos i1, if_pos i2]
                    exact ⟨l1, Or.inr ⟨rfl, Or.inl rfl⟩⟩
              · rw [if_pos j1, if_pos j2]
                exact ⟨k1, Or.inr ⟨rfl, Or.inl rfl⟩⟩
            · rw [if_neg h112, if_neg h112]
              by_cases h115 : x = (115 : Int32)
              · rw [if_pos h115, if_pos h115]
                exact ⟨R1, Or.inl ⟨one_no, one_no, rfl, Or.inr (Or.inr (Or.inr (Or.inr (Or.inr (Or.inl h115)))))⟩⟩
              · rw [if_neg h115, if_neg h115]
                by_cases h116 : x = (116 : Int32)
                · rw [if_pos h116, if_pos h116]
                  obtain ⟨r, u, r2, u2, e1, e2, k1, k2, k3, k4, k5⟩ := first_is2 R1 (a := 1) (b := 99) (by omega) (by omega)
                  rw [show fX4_readFirst (1 : Int32) (99 : Int32) _ = (r, u) from e1, show fX7_readNumber (1 : Int32) (99 : Int32) _ = (r2, u2) from e2]
                  dsimp only
                  rcases k5 with ⟨j1, j2, j3, v, j4, j5, j6⟩ | ⟨j1, j2, j3⟩
                  · rw [if_neg (show ¬ r = (0 : Int32) by rw [j1]; exact one_no), if_neg (by rw [j3]; exact one_no), if_neg (show ¬ r2 = (-5 : Int32) by rw [j6]; exact nI_ne_m5 (by omega))]
                    have a3 : u2.2.2.2.1 = x := congrArg Prod.fst k4
                    refine ⟨k1, Or.inl ⟨one_no, one_no, ?_, Or.inr (Or.inr (Or.inr (Or.inr (Or.inr (Or.inr (Or.inl ⟨?_, j2, ?_⟩))))))⟩⟩
                    · dsimp only; rw [k2, a3]
                    · dsimp only; rw [a3]; exact h116
                    · dsimp only
                      rw [j6, inn_0]
                      intro q
                      rcases q with q | q
                      · have := (nI_ltI (a := v) (b := 1) (by omega) (by omega)).mp q; omega
                      · have := (nI_ltI (a := 99) (b := v) (by omega) (by omega)).mp q; omega
                  · rw [if_pos j1]
                    subst j3
                    rcases dig R1 with ⟨d1, d2, d3⟩ | ⟨d, hd, d0, d1, d2, d3, d4⟩
                    · rw [if_pos d2]
                      refine ⟨k1, Or.inl ⟨one_no, one_no, k2, Or.inr (Or.inr (Or.inr (Or.inr (Or.inr (Or.inr (Or.inl ⟨h116, rfl, ?_⟩))))))⟩⟩
                      dsimp only; decide
                    · rw [if_neg (by rw [d3]; exact one_no), if_pos j2]
                      refine ⟨k1, Or.inr ⟨rfl, Or.inr ⟨one_no, d0, ?_⟩⟩⟩
                      intro q
                      have q2 : hereM (m.1, m.2.1, m.2.2.1 + (1 : Int32), x, m.2.2.2.2.1, m.2.2.2.2.2) = (44 : Int32) := q
                      rw [h_of d0, d1] at q2
                      have := congrArg Int32.toInt q2
                      rw [nI_toInt (by omega), show (44 : Int32).toInt = 44 from by decide] at this
                      omega
                · rw [if_neg h116, if_neg h116]
                  by_cases h117 : x = (117 : Int32)
                  · rw [if_pos h117, if_pos h117]
                    exact ⟨R1, Or.inl ⟨one_no, one_no, rfl, Or.inr (Or.inr (Or.inr (Or.inr (Or.inr (Or.inr (Or.inr (h117)))))))⟩⟩
                  · rw [if_neg h117, if_neg h117]
                    rw [i_as]
                    exact ⟨R, Or.inr ⟨rfl, Or.inl rfl⟩⟩
