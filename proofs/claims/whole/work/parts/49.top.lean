/-! fault and run; the whole of both sides -/
theorem rt_WP : ∀ (n : Nat) (x : Int32) (σ : MXT), WP σ.2.2.1 σ.2.2.2.1 → Bd (fX7_readText_15 (0 : Int32) n x σ).2.2.2.2.1 80
  | 0, _, _, h => h.2.1
  | n + 1, x, σ, h => by
    unfold fX7_readText_15
    by_cases c : x = (0 : Int32)
    · rw [if_pos c]; exact h.2.1
    · rw [if_neg c, if_pos (rfl : (0 : Int32) = (0 : Int32))]
      by_cases c2 : σ.2.2.2.1 = σ.2.2.1
      · rw [if_pos c2]; exact h.2.1
      · rw [if_neg c2]
        generalize e1 : fX7_takes _ _ = q1
        obtain ⟨r1, u1⟩ := q1
        have g1 := tk_RN e1 (show WT (σ.2.1, σ.2.2.1, σ.2.2.2.1, σ.2.2.2.2.1, σ.2.2.2.2.2.1, σ.2.2.2.2.2.2.1) from zz_WPT h)
        have p1 : WP u1.2.1 u1.2.2.1 := g1.1.WP h
        dsimp only
        by_cases d1 : r1 = (0 : Int32)
        · rw [if_pos d1]
          exact rt_WP n (0 : Int32) (σ.1, u1.1, u1.2.1, u1.2.2.1, u1.2.2.2.1, u1.2.2.2.2.1, u1.2.2.2.2.2, (σ.2.2.2.2.2.2.2 + (1 : Int32))) p1
        · rw [if_neg d1]
          generalize e2 : fX7_readOrder _ = q2
          obtain ⟨r2, u2⟩ := q2
          have g2 := ro_RN e2 p1
          have p2 : WP u2.2.1 u2.2.2.1 := g2.WP p1
          dsimp only
          by_cases d2 : r2 = (0 : Int32)
          · rw [if_pos d2]
            exact rt_WP n (0 : Int32) (σ.1, u2.1, u2.2.1, u2.2.2.1, u2.2.2.2.1, u2.2.2.2.2.1, u2.2.2.2.2.2, (σ.2.2.2.2.2.2.2 + (1 : Int32))) p2
          · rw [if_neg d2]
            exact rt_WP n (1 : Int32) (σ.1, u2.1, u2.2.1, u2.2.2.1, u2.2.2.2.1, u2.2.2.2.2.1, u2.2.2.2.2.2, (σ.2.2.2.2.2.2.2 + (1 : Int32))) p2
/-- the reading from the start -/
def mStart (σ : MXT) : MTT := (σ.2.1, σ.2.2.1, (0 : Int32), σ.2.2.2.2.1, σ.2.2.2.2.2.1, σ.2.2.2.2.2.2.1)
theorem text_is (p : Int32) (σ : MXT) : fX7_readText p σ = RTd p σ.1 83 (mStart σ) (0 : Int32) := by
  unfold fX7_readText RTd packX mStart
  generalize fX7_readOrder _ = y
  obtain ⟨r, u⟩ := y
  rfl
theorem start_is {τ : ScT} {σ : MXT} (R : RTl τ σ.2.1 σ.2.2.1) : RTx (fX4_goToStart τ) (mStart σ) := ⟨R.1, rfl, ⟨R.2.1, b_0 80, by rw [show (mStart σ).2.2.1.toNatClampNeg = 0 from by show (0 : Int32).toNatClampNeg = 0; decide]; exact Nat.zero_le _⟩, R.2.2⟩
theorem start_0 (σ : MXT) : (mStart σ).2.2.1.toNatClampNeg = 0 := by
  show (0 : Int32).toNatClampNeg = 0
  decide
theorem find_is {τ : ScT} {σ : MXT} (R : RTl τ σ.2.1 σ.2.2.1) : (fX4_findFault τ).1 = (if (fX7_readText (0 : Int32) σ).1 = (0 : Int32) then (fX7_readText (0 : Int32) σ).2.2.2.2.1 else (-5 : Int32)) ∧ RTl (fX4_findFault τ).2 σ.2.1 σ.2.2.1 ∧ (fX7_readText (0 : Int32) σ).2.1 = σ.1 ∧ (fX7_readText (0 : Int32) σ).2.2.1 = σ.2.1 ∧ (fX7_readText (0 : Int32) σ).2.2.2.1 = σ.2.2.1 ∧ ¬ (fX7_readText (0 : Int32) σ).2.2.2.2.1 = (-5 : Int32) := by
  have hx := start_is R
  have h0 := start_0 σ
  have hs := (rt0_all σ R.2.1).1
  have hb : Bd (fX7_readText (0 : Int32) σ).2.2.2.2.1 80 := by
    rw [text_is]
    exact rt_WP 83 _ _ ((ro_RN (Prod.eta (fX7_readOrder (mStart σ))).symm hx.2.2.1).WP hx.2.2.1)
  obtain ⟨f1, f2, f3, f4⟩ := ff_is σ.1 81 0 83 (fX4_goToStart τ) (mStart σ) (0 : Int32) hx (Nat.zero_le _) (by omega) (by omega)
  have e : RTd (0 : Int32) σ.1 83 (mStart σ) (0 : Int32) = fX7_readText (0 : Int32) σ := (text_is (0 : Int32) σ).symm
  rw [e] at f1 f3 f4
  have f2' : RTl (fX4_findFault τ).2 σ.2.1 σ.2.2.1 := by
    unfold fX4_findFault
    dsimp only
    exact f2
  have f1' : (fX4_findFault τ).1 = (if (fX7_readText (0 : Int32) σ).1 = (0 : Int32) then (fX7_readText (0 : Int32) σ).2.2.2.2.1 else (-5 : Int32)) := by
    unfold fX4_findFault
    dsimp only
    exact f1
  have f3 : (fX7_readText (0 : Int32) σ).2.2.1 = σ.2.1 := f3
  have f4 : (fX7_readText (0 : Int32) σ).2.2.2.1 = σ.2.2.1 := f4
  exact ⟨f1', f2', hs, f3, f4, bd_ne hb (by omega) (by decide)⟩
theorem B_fault {τ : ScT} {σ : MXT} (R : RTl τ σ.2.1 σ.2.2.1) : (fX6_fault τ).1 = (fX7_fault σ).1 ∧ RTl (fX6_fault τ).2 σ.2.1 σ.2.2.1 ∧ (fX7_fault σ).2.1 = σ.1 ∧ (fX7_fault σ).2.2.1 = σ.2.1 ∧ (fX7_fault σ).2.2.2.1 = σ.2.2.1 := by
  obtain ⟨f1, f2, f3, f4, f5, f6⟩ := find_is R
  unfold fX6_fault fX7_fault
  generalize fX4_findFault τ = x at f1 f2 ⊢
  generalize fX7_readText (0 : Int32) σ = y at f1 f3 f4 f5 f6 ⊢
  obtain ⟨r, u⟩ := x
  obtain ⟨q, w⟩ := y
  dsimp only at f1 f2 f3 f4 f5 f6 ⊢
  by_cases c : q = (0 : Int32)
  · rw [if_pos c] at f1 ⊢
    exact ⟨f1, f2, f3, f4, f5⟩
  · rw [if_neg c] at f1 ⊢
    exact ⟨f1, f2, f3, f4, f5⟩
theorem B_append {τ : ScT} {m : MLT} (R : RTl τ m.1 m.2) (p : Int32) : (fX6_append p τ).1 = (fX7_append p m).1 ∧ RTl (fX6_append p τ).2 (fX7_append p m).2.1 (fX7_append p m).2.2 := by
  obtain ⟨h1, h2, h3⟩ := R
  unfold fX6_append fX4_appendCharacter fX7_append
  dsimp only
  by_cases c : fX7_in p (32 : Int32) (126 : Int32) = (0 : Int32)
  · rw [if_pos (show fX6_isIn p (32 : Int32) (126 : Int32) = (0 : Int32) from c), if_pos c]
    exact ⟨rfl, h1, h2, h3⟩
  · rw [if_neg (show ¬ fX6_isIn p (32 : Int32) (126 : Int32) = (0 : Int32) from c), if_neg c, h1]
    obtain ⟨N, hN, e⟩ := h2.num
    by_cases d : m.2 = (80 : Int32)
    · rw [if_pos d, if_neg (by rw [d]; decide)]
      exact ⟨rfl, h1, h2, h3⟩
    · have hN2 : N < 80 := by
        rcases Nat.lt_or_ge N 80 with g | g
        · exact g
        · exact absurd (by rw [e, show N = 80 from by omega]; rfl) d
      rw [if_neg d, if_pos (by rw [e]; exact (nI_ltI (a := N) (b := 80) (by omega) (by omega)).mpr hN2)]
      have e1 : m.2 + (1 : Int32) = nI (N + 1) := by rw [e, nI_1]
      have e2 : m.2.toNatClampNeg = N := by rw [e, nI_clamp (by omega)]
      refine ⟨rfl, rfl, by rw [e1]; exact Bd.of (by omega) (by omega), fun i hi => ?_⟩
      dsimp only at hi ⊢
      rw [e1, nI_clamp (by omega)] at hi
      rw [e2] at h3 ⊢
      by_cases g : i = N
      · rw [g, pk_us, pk_us]
      · rw [pk_un g, pk_un g]
        exact h3 i (by omega)
theorem B_clearText {τ : ScT} {m : MLT} (R : RTl τ m.1 m.2) : (fX6_clearText τ).1 = (fX7_clearText m).1 ∧ RTl (fX6_clearText τ).2 (fX7_clearText m).2.1 (fX7_clearText m).2.2 := by
  obtain ⟨h1, h2, h3⟩ := R
  exact ⟨h1, rfl, b_0 80, fun i hi => absurd hi (by show ¬ i < (0 : Int32).toNatClampNeg; rw [show (0 : Int32).toNatClampNeg = 0 from by decide]; exact Nat.not_lt_zero i)⟩
/-- all that is known of both sides between two calls -/
def TopR (st snap : StT) (hi : HiT) (sc : ScT) (has : Int32) (s h : FnI) (k : Int32) (sm : FnI) (tk : Int32) (tx : FnI) (ln : Int32) : Prop := RP (st, hi) (s, h, k) ∧ BL snap.2.2.1 ∧ has = tk ∧ (¬ tk = (0 : Int32) → RS snap sm) ∧ RTl sc tx ln
/-! the start -/
theorem init_75 : ∀ (n k : Nat) (σ : FnI), k ≤ 96 → 96 - k < n → ∀ j : Nat, fX7_init_75 n k σ j = if 19 + k ≤ j ∧ j < 115 then (-1 : Int32) else σ j
  | 0, _, _, _, h => absurd h (by omega)
  | n + 1, k, σ, hk, hn => fun j => by
    unfold fX7_init_75
    by_cases c : (96 : Int32) ≤ nI k
    · have e : k = 96 := by
        have := (nI_leI (a := 96) (b := k) (by omega) (by omega)).mp c
        omega
      rw [if_pos c, if_neg (by omega)]
    · have hk2 : k < 96 := Nat.lt_of_not_le (fun q => c ((nI_leI (a := 96) (b := k) (by omega) (by omega)).mpr q))
      rw [if_neg c, init_75 n (k + 1) _ (by omega) (by omega) j]
      by_cases e : j = 19 + k
      · rw [if_neg (by omega), if_pos (by omega), e, pk_us]
      · rw [pk_un e]
        by_cases g : 19 + k ≤ j ∧ j < 115
        · rw [if_pos (by omega), if_pos g]
        · rw [if_neg (by omega), if_neg g]
theorem iMo_at (j : Nat) : iMo j = if 19 ≤ j ∧ j < 115 then (-1 : Int32) else upd (upd (upd (fun _ => (0 : Int32)) 7 (3 : Int32)) 8 (6 : Int32)) 9 (5 : Int32) j := by
  rw [iMo_is, init_75 97 0 _ (by omega) (by omega) j]
theorem iMo_t {j : Nat} (h1 : 19 ≤ j) (h2 : j < 115) : iMo j = (-1 : Int32) := by rw [iMo_at, if_pos ⟨h1, h2⟩]
theorem iMo_l {j : Nat} (h1 : j < 19) : iMo j = upd (upd (upd (fun _ => (0 : Int32)) 7 (3 : Int32)) 8 (6 : Int32)) 9 (5 : Int32) j := by rw [iMo_at, if_neg (by omega)]
theorem iN_RT {b : Nat} (h1 : 19 ≤ b) (h2 : b + 32 ≤ 115) : RT iN iMo b := fun k hk => by
  rw [iMo_t (by omega) (by omega)]
  refine ⟨?_, Or.inl rfl⟩
  rw [out_m]
  exact fill_is (-5 : Int32) _ hk
theorem start_RS : RS iSt iMo := by
  have e4 : iMo 4 = (0 : Int32) := iMo_l (by omega)
  have e3 : iMo 3 = (0 : Int32) := iMo_l (by omega)
  have e0 : iMo 0 = (0 : Int32) := iMo_l (by omega)
  have e1 : iMo 1 = (0 : Int32) := iMo_l (by omega)
  have e2 : iMo 2 = (0 : Int32) := iMo_l (by omega)
  have e5 : iMo 5 = (0 : Int32) := iMo_l (by omega)
  have e6 : iMo 6 = (0 : Int32) := iMo_l (by omega)
  refine ⟨?_, ?_, ?_⟩
  · refine And.intro (And.intro (b_0 23) (b_0 24)) (And.intro (b_0 32) (Or.inl rfl))
  · refine And.intro (by rw [e4]; exact b_0 24) (And.intro (by rw [e3]; exact b_0 32) (fun i hi => ?_))
    rw [e4] at hi
    exact absurd hi (by rw [show (0 : Int32).toNatClampNeg = 0 from by decide]; exact Nat.not_lt_zero i)
  · unfold iSt
    dsimp only
    refine ⟨iN_RT (by omega) (by omega), iN_RT (by omega) (by omega), iN_RT (by omega) (by omega), ⟨e6.symm, e0.symm, e1.symm, e2.symm, e3.symm, e5.symm⟩, fun k hk => ?_, fun k hk => ?_, ?_, fun _ => e4, fun q => absurd e0 q⟩
    · rw [iMo_l (by omega)]
      match k, hk with
      | 0, _ => rfl
      | 1, _ => rfl
      | 2, _ => rfl
      | 3, _ => rfl
      | k + 4, h => omega
    · rw [iMo_l (by omega), pk_un (by omega), pk_un (by omega), pk_un (by omega)]
    · unfold RB
      rw [e0, show iMo 5 = (0 : Int32) from iMo_l (by omega), show iMo 9 = (5 : Int32) from iMo_l (by omega)]
      refine And.intro (b_0 3) (And.intro (b_0 21) (And.intro (fun _ => b_0 20) (And.intro (fun k hk => ?_) (Bd.of (j := 5) (by omega) (by omega)))))
      rw [iMo_l (by omega)]
      match k, hk with
      | 0, _ => exact Bd.of (j := 3) (by omega) (by omega)
      | 1, _ => exact Bd.of (j := 6) (by omega) (by omega)
      | 2, _ => exact Bd.of (j := 5) (by omega) (by omega)
      | 3, _ => exact b_0 24
      | k + 4, h => omega
theorem start_RH : RH iHi iZ (0 : Int32) := by
  refine ⟨⟨?_, ?_, fun i => ?_⟩, ?_, fun i hi => ?_⟩
  · exact b_0 5
  · exact b_0 5
  · exact Or.inl rfl
  · rfl
  · exact absurd hi (by rw [show (0 : Int32).toNatClampNeg = 0 from by decide]; exact Nat.not_lt_zero i)
theorem start_RTl : RTl iSc iZ (0 : Int32) := ⟨rfl, b_0 80, fun _ _ => rfl⟩
theorem start_RP : RP (iSt, iHi) (iMo, iZ, (0 : Int32)) := by
  unfold RP
  dsimp only
  exact And.intro start_RS start_RH
theorem start_Top : TopR iSt iSt iHi iSc (0 : Int32) iMo iZ (0 : Int32) iZ (0 : Int32) iZ (0 : Int32) := by
  unfold TopR
  refine And.intro start_RP (And.intro ?_ (And.intro rfl (And.intro (fun q => absurd rfl q) start_RTl)))
  exact Or.inl rfl
