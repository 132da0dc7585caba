theorem rt0 : ∀ (n : Nat) (x : Int32) (σ : MXT), WP σ.2.2.1 σ.2.2.2.1 → (fX7_readText_15 (0 : Int32) n x σ).2.1 = σ.1 ∧ (fX7_readText_15 (0 : Int32) n x σ).2.2.2.1 = σ.2.2.1
  | 0, _, _, _ => ⟨rfl, rfl⟩
  | n + 1, x, σ, h => by
    unfold fX7_readText_15
    by_cases c : x = (0 : Int32)
    · rw [if_pos c]; exact ⟨rfl, rfl⟩
    · rw [if_neg c, if_pos (rfl : (0 : Int32) = (0 : Int32))]
      by_cases c2 : σ.2.2.2.1 = σ.2.2.1
      · rw [if_pos c2]; exact ⟨rfl, rfl⟩
      · rw [if_neg c2]
        generalize e1 : fX7_takes _ _ = q1
        obtain ⟨r1, u1⟩ := q1
        have g1 := tk_RN e1 (show WT (σ.2.1, σ.2.2.1, σ.2.2.2.1, σ.2.2.2.2.1, σ.2.2.2.2.2.1, σ.2.2.2.2.2.2.1) from zz_WPT h)
        have p1 : WP u1.2.1 u1.2.2.1 := g1.1.WP h
        have l1 : u1.2.1 = σ.2.2.1 := g1.1.2.1
        dsimp only
        by_cases d1 : r1 = (0 : Int32)
        · rw [if_pos d1]
          have k := rt0 n (0 : Int32) (σ.1, u1.1, u1.2.1, u1.2.2.1, u1.2.2.2.1, u1.2.2.2.2.1, u1.2.2.2.2.2, (σ.2.2.2.2.2.2.2 + (1 : Int32))) p1
          exact ⟨k.1, k.2.trans l1⟩
        · rw [if_neg d1]
          generalize e2 : fX7_readOrder _ = q2
          obtain ⟨r2, u2⟩ := q2
          have g2 := ro_RN e2 p1
          have p2 : WP u2.2.1 u2.2.2.1 := g2.WP p1
          have l2 : u2.2.1 = σ.2.2.1 := g2.2.1.trans l1
          dsimp only
          by_cases d2 : r2 = (0 : Int32)
          · rw [if_pos d2]
            have k := rt0 n (0 : Int32) (σ.1, u2.1, u2.2.1, u2.2.2.1, u2.2.2.2.1, u2.2.2.2.2.1, u2.2.2.2.2.2, (σ.2.2.2.2.2.2.2 + (1 : Int32))) p2
            exact ⟨k.1, k.2.trans l2⟩
          · rw [if_neg d2]
            have k := rt0 n (1 : Int32) (σ.1, u2.1, u2.2.1, u2.2.2.1, u2.2.2.2.1, u2.2.2.2.2.1, u2.2.2.2.2.2, (σ.2.2.2.2.2.2.2 + (1 : Int32))) p2
            exact ⟨k.1, k.2.trans l2⟩
theorem rt0_all (τ : MXT) (hlb : Bd τ.2.2.1 80) : (fX7_readText (0 : Int32) τ).2.1 = τ.1 ∧ (fX7_readText (0 : Int32) τ).2.2.2.1 = τ.2.2.1 := by
  unfold fX7_readText
  have h0 : WP τ.2.2.1 (0 : Int32) := And.intro hlb (And.intro zz_b00 (zz_0le _))
  generalize e2 : fX7_readOrder _ = q2
  obtain ⟨r2, u2⟩ := q2
  have g2 := ro_RN e2 h0
  have p2 : WP u2.2.1 u2.2.2.1 := g2.WP h0
  have l2 : u2.2.1 = τ.2.2.1 := g2.2.1
  have k := rt0 83 r2 (τ.1, u2.1, u2.2.1, u2.2.2.1, u2.2.2.2.1, u2.2.2.2.2.1, u2.2.2.2.2.2, (0 : Int32)) p2
  dsimp only at k ⊢
  exact ⟨k.1, k.2.trans l2⟩
theorem zz_rt_WM {r : Int32} {τ u : MXT} (e : fX7_readText (0 : Int32) τ = (r, u)) (hm : WM τ.1) (hlb : Bd τ.2.2.1 80) : WM u.1 := by
  have h := (rt0_all τ hlb).1
  rw [e] at h
  rw [show u.1 = τ.1 from h]
  exact hm
theorem zz_rt_len {r : Int32} {τ u : MXT} (e : fX7_readText (0 : Int32) τ = (r, u)) (hlb : Bd τ.2.2.1 80) : Bd u.2.2.1 80 := by
  have h := (rt0_all τ hlb).2
  rw [e] at h
  rw [show u.2.2.1 = τ.2.2.1 from h]
  exact hlb
