/-! ticks in a row; what would be -/
def tkN : Nat → StT → StT
  | 0, τ => τ
  | n + 1, τ => tkN n (fX5_makeTick τ)
theorem tkN_iv : ∀ (n e : Nat) (τ : StT), IV e τ → IV (e + n) (tkN n τ)
  | 0, _, _, h => h
  | n + 1, e, τ, h => by
    have h1 := tkN_iv n (e + 1) _ (tick_is h).1
    rw [show e + (n + 1) = e + 1 + n from by omega]
    exact h1
theorem tkN_succ : ∀ (n : Nat) (τ : StT), tkN (n + 1) τ = fX5_makeTick (tkN n τ)
  | 0, _ => rfl
  | n + 1, τ => tkN_succ n (fX5_makeTick τ)
theorem ticks_is {p : Nat} (hp : p < 2 ^ 31) : ∀ (n k : Nat) (σ : StT), k ≤ p → p - k < n → fX5_makeTicks_12 (nI p) n k σ = ((tkN (p - k) σ).2.2.2.1.2.2.1, tkN (p - k) σ)
  | 0, _, _, _, h => absurd h (by omega)
  | n + 1, k, σ, hk, hn => by
    unfold fX5_makeTicks_12
    by_cases c : p ≤ k
    · rw [if_pos (nI_le c (by omega)), show p - k = 0 from by omega]
      rfl
    · rw [if_neg (nI_ge (by omega) hp), show p - k = (p - (k + 1)) + 1 from by omega]
      exact ticks_is hp n (k + 1) (fX5_makeTick σ) (by omega) (by omega)
theorem makeTicks_is {p : Nat} (h1 : 1 ≤ p) (h2 : p ≤ 99) (τ : StT) : fX5_makeTicks (nI p) τ = ((tkN p τ).2.2.2.1.2.2.1, tkN p τ) := by
  unfold fX5_makeTicks
  rw [if_neg (show ¬ fX6_isTicks (nI p) = (0 : Int32) from in6_1 (N := 99) rfl h1 h2 (by omega)), ticks_is (by omega) 100 0 τ (by omega) (by omega)]
  rfl
def rdy (τ : StT) : Prop := τ.2.2.2.1.2.2.1 = (2 : Int32) ∧ τ.2.2.2.1.2.1.2.2.2 = (0 : Int32)
theorem until_is {P : Nat} (hP : P ≤ 200) : ∀ (n k : Nat) (σ : StT), k ≤ P + 1 → P + 1 - k < n →
    (∃ m : Nat, k + m ≤ P ∧ rdy (tkN m σ) ∧ (∀ i : Nat, i < m → ¬ rdy (tkN i σ)) ∧ (fX5_ticksUntilReady_2 (nI P) n k σ).1 = nI (k + m)) ∨ ((∀ m : Nat, k + m ≤ P → ¬ rdy (tkN m σ)) ∧ (fX5_ticksUntilReady_2 (nI P) n k σ).1 = (-5 : Int32))
  | 0, _, _, _, h => absurd h (by omega)
  | n + 1, k, σ, hk, hn => by
    by_cases c : P < k
    · refine Or.inr ⟨fun m hm => absurd hm (by omega), ?_⟩
      unfold fX5_ticksUntilReady_2
      rw [if_pos (nI_lt c (by omega))]
    · by_cases r : rdy σ
      · refine Or.inl ⟨0, by omega, r, fun i hi => absurd hi (by omega), ?_⟩
        unfold fX5_ticksUntilReady_2
        rw [if_neg (nI_nlt (by omega) (by omega)), if_pos r.1, if_pos r.2]
        rfl
      · have eC : fX5_ticksUntilReady_2 (nI P) (n + 1) k σ = fX5_ticksUntilReady_2 (nI P) n (k + 1) (fX5_makeTick σ) := by
          conv => lhs; unfold fX5_ticksUntilReady_2
          rw [if_neg (nI_nlt (by omega) (by omega))]
          by_cases d : σ.2.2.2.1.2.2.1 = (2 : Int32)
          · rw [if_pos d, if_neg (fun q => r ⟨d, q⟩)]
          · rw [if_neg d]
        rw [eC]
        rcases until_is hP n (k + 1) (fX5_makeTick σ) (by omega) (by omega) with ⟨m, a1, a2, a3, a4⟩ | ⟨a1, a2⟩
        · refine Or.inl ⟨m + 1, by omega, a2, fun i hi => ?_, by rw [a4]; congr 1; omega⟩
          cases i with
          | zero => exact r
          | succ i => exact a3 i (by omega)
        · refine Or.inr ⟨fun m hm => ?_, a2⟩
          cases m with
          | zero => exact r
          | succ m => exact a1 m (by omega)
theorem untilT_is {P : Nat} (hP : P ≤ 200) (σ : StT) : (∃ m : Nat, m ≤ P ∧ rdy (tkN m σ) ∧ (∀ i : Nat, i < m → ¬ rdy (tkN i σ)) ∧ (fX5_ticksUntilReady (nI P) σ).1 = nI m) ∨ ((∀ m : Nat, m ≤ P → ¬ rdy (tkN m σ)) ∧ (fX5_ticksUntilReady (nI P) σ).1 = (-5 : Int32)) := by
  unfold fX5_ticksUntilReady
  rw [nI_clamp (by omega)]
  rcases until_is hP (P + 2) 0 σ (by omega) (by omega) with ⟨m, a1, a2, a3, a4⟩ | ⟨a1, a2⟩
  · exact Or.inl ⟨m, by omega, a2, a3, by rw [a4, Nat.zero_add]⟩
  · exact Or.inr ⟨fun m hm => a1 m (by omega), a2⟩
theorem can_0 {τ : StT} (h1 : ¬ τ.2.2.2.1.2.2.1 = (1 : Int32)) (h2 : ¬ τ.2.2.2.1.2.2.1 = (2 : Int32)) : fX5_canBecomeReady τ = (0 : Int32) := by
  unfold fX5_canBecomeReady
  rw [if_neg h1, if_neg h2]
theorem can_1 {τ : StT} (h : τ.2.2.2.1.2.2.1 = (1 : Int32) ∨ τ.2.2.2.1.2.2.1 = (2 : Int32)) : ¬ fX5_canBecomeReady τ = (0 : Int32) := by
  unfold fX5_canBecomeReady
  by_cases c : τ.2.2.2.1.2.2.1 = (1 : Int32)
  · rw [if_pos c]; decide
  · rw [if_neg c, if_pos (h.resolve_left c)]; decide
theorem ready_no {τ tr : StT} (h1 : ¬ τ.2.2.2.1.2.2.1 = (1 : Int32)) (h2 : ¬ τ.2.2.2.1.2.2.1 = (2 : Int32)) : fX6_readyIn (τ, tr) = ((-4 : Int32), (τ, tr)) := by
  unfold fX6_readyIn
  rw [if_pos (can_0 h1 h2)]
theorem ready_is {τ tr : StT} (h : τ.2.2.2.1.2.2.1 = (1 : Int32) ∨ τ.2.2.2.1.2.2.1 = (2 : Int32)) : ∃ (r : Int32) (tr' : StT), fX6_readyIn (τ, tr) = (r, (τ, tr')) ∧ ((∃ m : Nat, m ≤ 200 ∧ rdy (tkN m τ) ∧ (∀ i : Nat, i < m → ¬ rdy (tkN i τ)) ∧ r = nI m) ∨ ((∀ m : Nat, m ≤ 200 → ¬ rdy (tkN m τ)) ∧ r = (-5 : Int32))) := by
  unfold fX6_readyIn
  rw [if_neg (can_1 h)]
  dsimp only
  rw [take_eq]
  have hu := untilT_is (P := 200) (by omega) τ
  rw [show nI 200 = (200 : Int32) from rfl] at hu
  generalize fX5_ticksUntilReady (200 : Int32) τ = q at hu ⊢
  exact ⟨q.1, q.2, rfl, hu⟩
/-- for the law's check behind each act -/
theorem ready_chk {τ tr : StT} {r : Int32} {u : TTT} (e1 : fX6_readyIn (τ, tr) = (r, u)) : u.1 = τ ∧ (r = (0 : Int32) ↔ rdy τ) ∧ (¬ τ.2.2.2.1.2.2.1 = (1 : Int32) → ¬ τ.2.2.2.1.2.2.1 = (2 : Int32) → r = (-4 : Int32)) := by
  by_cases c : τ.2.2.2.1.2.2.1 = (1 : Int32) ∨ τ.2.2.2.1.2.2.1 = (2 : Int32)
  · obtain ⟨r', tr', a1, a2⟩ := ready_is (tr := tr) c
    rw [e1] at a1
    cases a1
    refine ⟨rfl, ⟨fun q => ?_, fun q => ?_⟩, fun q1 q2 => absurd c (fun q => q.elim q1 q2)⟩
    · rcases a2 with ⟨m, b1, b2, -, b4⟩ | ⟨-, b2⟩
      · have e0 : m = 0 := nI_inj (by omega) (by omega) (b4.symm.trans q)
        rw [e0] at b2
        exact b2
      · rw [b2] at q; exact absurd q (by decide)
    · rcases a2 with ⟨m, b1, b2, b3, b4⟩ | ⟨b1, -⟩
      · cases m with
        | zero => exact b4
        | succ m => exact absurd q (b3 0 (by omega))
      · exact absurd q (b1 0 (by omega))
  · have c1 : ¬ τ.2.2.2.1.2.2.1 = (1 : Int32) := fun q => c (Or.inl q)
    have c2 : ¬ τ.2.2.2.1.2.2.1 = (2 : Int32) := fun q => c (Or.inr q)
    rw [ready_no c1 c2] at e1
    cases e1
    exact ⟨rfl, ⟨fun q => absurd q (by decide), fun q => absurd q.1 c2⟩, fun _ _ => rfl⟩
/-- with another lot -/
def wl (j : Nat) (τ : StT) : StT := (τ.1, τ.2.1, τ.2.2.1, (τ.2.2.2.1.1, τ.2.2.2.1.2.1, τ.2.2.2.1.2.2.1, τ.2.2.2.1.2.2.2.1, nI j, τ.2.2.2.1.2.2.2.2.2.1, τ.2.2.2.1.2.2.2.2.2.2), τ.2.2.2.2.1, τ.2.2.2.2.2)
def rch (P : Nat) (τ : StT) : Prop := ∃ m : Nat, m ≤ P ∧ rdy (tkN m τ)
theorem lot25 {P : Nat} (hP : P ≤ 200) : ∀ (n k : Nat) (σ : TTT), 1 ≤ k → k ≤ 9 → 9 - k < n → ∃ (r : Int32) (tr' : StT), fX6_leastLot_25 (nI P) n k σ = (r, (σ.1, tr')) ∧ ((∃ j : Nat, k ≤ j ∧ j ≤ 8 ∧ r = nI j ∧ rch P (wl j σ.1) ∧ ∀ i : Nat, k ≤ i → i < j → ¬ rch P (wl i σ.1)) ∨ (r = (-5 : Int32) ∧ ∀ i : Nat, k ≤ i → i ≤ 8 → ¬ rch P (wl i σ.1)))
  | 0, _, _, _, _, h => absurd h (by omega)
  | n + 1, k, σ, h1, hk, hn => by
    unfold fX6_leastLot_25
    by_cases c : 8 < k
    · rw [if_pos (show (8 : Int32) < nI k from nI_lt (a := 8) c (by omega))]
      exact ⟨_, σ.2, rfl, Or.inr ⟨rfl, fun i a1 a2 => absurd a2 (by omega)⟩⟩
    · rw [if_neg (show ¬ (8 : Int32) < nI k from nI_nlt (a := 8) (by omega) (by omega))]
      dsimp only
      rw [take_eq]
      have hu := untilT_is hP (wl k σ.1)
      unfold wl at hu
      generalize fX5_ticksUntilReady (nI P) _ = q at hu ⊢
      obtain ⟨r, u⟩ := q
      dsimp only at hu ⊢
      rcases hu with ⟨m, b1, b2, b3, b4⟩ | ⟨b1, b2⟩
      · rw [if_neg (by rw [b4]; exact bd_ne (Bd.of (N := 200) (by omega) (by omega)) (by omega) (by decide))]
        exact ⟨_, u, rfl, Or.inl ⟨k, Nat.le_refl _, by omega, rfl, ⟨m, b1, b2⟩, fun i a1 a2 => absurd a2 (by omega)⟩⟩
      · rw [if_pos b2]
        have hno : ¬ rch P (wl k σ.1) := fun ⟨m, c1, c2⟩ => b1 m c1 c2
        obtain ⟨r', tr', a1, a2⟩ := lot25 hP n (k + 1) (σ.1, u) (by omega) (by omega) (by omega)
        refine ⟨r', tr', a1, ?_⟩
        rcases a2 with ⟨j, d1, d2, d3, d4, d5⟩ | ⟨d1, d2⟩
        · exact Or.inl ⟨j, by omega, d2, d3, d4, fun i g1 g2 => by
            by_cases q : i = k
            · rw [q]; exact hno
            · exact d5 i (by omega) g2⟩
        · exact Or.inr ⟨d1, fun i g1 g2 => by
            by_cases q : i = k
            · rw [q]; exact hno
            · exact d2 i (by omega) g2⟩
theorem least_no {τ tr : StT} {t : Nat} (ht : 1 ≤ t) (ht2 : t ≤ 99) (h1 : ¬ τ.2.2.2.1.2.2.1 = (1 : Int32)) (h2 : ¬ τ.2.2.2.1.2.2.1 = (2 : Int32)) : fX6_leastLot (nI t) (τ, tr) = ((-4 : Int32), (τ, tr)) := by
  unfold fX6_leastLot
  rw [if_neg (show ¬ fX6_isTicks (nI t) = (0 : Int32) from in6_1 (N := 99) rfl ht ht2 (by omega)), if_pos (can_0 h1 h2)]
theorem wl_self {τ : StT} {j : Nat} (h : τ.2.2.2.1.2.2.2.2.1 = nI j) : wl j τ = τ := by
  unfold wl
  rw [← h]
theorem least_is {τ tr : StT} {t : Nat} (ht : 1 ≤ t) (ht2 : t ≤ 99) (h : τ.2.2.2.1.2.2.1 = (1 : Int32) ∨ τ.2.2.2.1.2.2.1 = (2 : Int32)) {l : Nat} (hl : l ≤ 7) (el : τ.2.2.2.1.2.2.2.2.1 = nI (l + 1)) :
    ∃ (r : Int32) (tr' : StT), fX6_leastLot (nI t) (τ, tr) = (r, (τ, tr')) ∧ (r = (-5 : Int32) ∨ ∃ j : Nat, 1 ≤ j ∧ j ≤ 8 ∧ r = nI j) ∧ (∀ N : Nat, N ≤ t → rdy (tkN N τ) → ∃ j : Nat, 1 ≤ j ∧ j ≤ l + 1 ∧ r = nI j) ∧ (rdy τ → r = (1 : Int32)) := by
  unfold fX6_leastLot
  rw [if_neg (show ¬ fX6_isTicks (nI t) = (0 : Int32) from in6_1 (N := 99) rfl ht ht2 (by omega)), if_neg (can_1 h)]
  obtain ⟨r, tr', a1, a2⟩ := lot25 (P := t) (by omega) 10 1 (τ, tr) (by omega) (by omega) (by omega)
  refine ⟨r, tr', a1, ?_, fun N hN hr => ?_, fun hr => ?_⟩
  · rcases a2 with ⟨j, d1, d2, d3, -⟩ | ⟨d1, -⟩
    · exact Or.inr ⟨j, d1, d2, d3⟩
    · exact Or.inl d1
  · have hR : rch t (wl (l + 1) τ) := by rw [wl_self el]; exact ⟨N, hN, hr⟩
    rcases a2 with ⟨j, d1, d2, d3, d4, d5⟩ | ⟨d1, d2⟩
    · exact ⟨j, d1, Nat.le_of_not_lt (fun q => d5 (l + 1) (by omega) q hR), d3⟩
    · exact absurd hR (d2 (l + 1) (by omega) (by omega))
  · have hR : rch t (wl 1 τ) := ⟨0, by omega, hr⟩
    rcases a2 with ⟨j, d1, d2, d3, d4, d5⟩ | ⟨d1, d2⟩
    · have e1 : j = 1 := by
        by_cases q : j = 1
        · exact q
        · exact absurd hR (d5 1 (by omega) (by omega))
      rw [d3, e1]; rfl
    · exact absurd hR (d2 1 (by omega) (by omega))
/-! the history -/
/-- the history behind an action -/
def hiA (hi : HiT) (τ : StT) : HiT := ((fX1_prepare hi τ).1, fX1_keepPrepared (fX1_prepare hi τ).2)
def hiR (hi : HiT) (τ : StT) (r : Int32) : HiT := ((fX1_prepare hi τ).1, (fX6_recorded r (fX1_prepare hi τ).2).2)
theorem rec_1 (r : Int32) (s : HsT) : fX6_recorded r s = (r, (fX6_recorded r s).2) := by
  unfold fX6_recorded
  by_cases c : fX6_isError r = (0 : Int32)
  · rw [if_pos c]
  · rw [if_neg c]
theorem keep_b {s : HsT} (h1 : Bd s.1 5) (h2 : Bd s.2 5) : Bd (fX1_keepPrepared s).1 5 ∧ Bd (fX1_keepPrepared s).2 5 := by
  obtain ⟨a, b⟩ := s
  dsimp only at h1 h2
  obtain ⟨i, hi, rfl⟩ := h1.num
  obtain ⟨j, hj, rfl⟩ := h2.num
  unfold fX1_keepPrepared
  dsimp only
  by_cases c : (5 : Int32) ≤ nI j
  · rw [if_pos c]
    refine ⟨?_, Bd.of hj (by omega)⟩
    dsimp only
    rw [show (1 : Int32) = nI 1 from rfl, hslot_eq (i := i) rfl (by omega) (by omega)]
    exact Bd.of (by omega) (by omega)
  · rw [if_neg c]
    have hj2 : j < 5 := Nat.lt_of_not_le (fun q => c (nI_le (a := 5) q (by omega)))
    exact ⟨Bd.of hi (by omega), by dsimp only; rw [nI_1]; exact Bd.of (by omega) (by omega)⟩
theorem WH.prep {hi : HiT} {τ : StT} (h : WH hi) (hb : BL τ.2.2.1) : ∀ i : Nat, BL ((fX1_prepare hi τ).1 i).2.2.1 := by
  intro i
  unfold fX1_prepare
  dsimp only
  by_cases c : i = (fX1_slotOf hi.2.2 hi.2).toNatClampNeg
  · rw [c]
    unfold va_up
    rw [if_pos rfl]
    exact hb
  · unfold va_up
    rw [if_neg c]
    exact h.2.2 i
theorem WH.rec {hi : HiT} {τ : StT} (h : WH hi) (hb : BL τ.2.2.1) (r : Int32) : WH (hiR hi τ r) := by
  unfold hiR fX6_recorded
  by_cases c : fX6_isError r = (0 : Int32)
  · rw [if_pos c]
    have hk := keep_b (s := (fX1_prepare hi τ).2) h.1 h.2.1
    exact ⟨hk.1, hk.2, h.prep hb⟩
  · rw [if_neg c]
    exact ⟨h.1, h.2.1, h.prep hb⟩
theorem hiR_no {hi : HiT} {τ : StT} {r : Int32} (c : fX6_isError r = (0 : Int32)) : hiR hi τ r = hiA hi τ := by
  unfold hiR fX6_recorded
  rw [if_pos c]
  rfl
/-- undo brings back what the last action found -/
theorem undo_is {hi : HiT} {τ σ : StT} (h : WH hi) (hb : BL τ.2.2.1) : ∃ (r : Int32) (hi2 : HiT), fX6_undo (σ, hiA hi τ) = (r, (τ, hi2)) ∧ ¬ r < (0 : Int32) ∧ WH hi2 := by
  obtain ⟨f, a, b⟩ := hi
  obtain ⟨i, hi, ei⟩ := h.1.num
  obtain ⟨j, hj, ej⟩ := h.2.1.num
  have hB := h.prep hb
  dsimp only at ei ej
  subst ei
  subst ej
  unfold fX6_undo fX1_takeBack hiA at *
  unfold fX1_prepare at *
  dsimp only at *
  rw [hslot_eq (i := i) rfl (by omega) (by omega), nI_clamp (by omega)] at *
  unfold fX1_keepPrepared
  dsimp only
  by_cases c : (5 : Int32) ≤ nI j
  · have hj5 : j = 5 := by
      have : ¬ j < 5 := fun q => nI_ge (b := 5) q (by omega) c
      omega
    subst hj5
    rw [if_pos c]
    dsimp only
    rw [show (1 : Int32) = nI 1 from rfl, hslot_eq (i := i) rfl (by omega) (by omega), if_neg (nI_ne0 (by omega) (by omega)), show nI 5 - nI 1 = nI 4 from rfl, hslot_eq (i := (i + 1) % 6) rfl (by omega) (by omega), nI_clamp (by omega)]
    refine ⟨nI 4, (va_up f ((i + 5) % 6) τ, nI ((i + 1) % 6), nI 4), ?_, nI_pos (n := 4) (by omega), ⟨Bd.of (by omega) (by omega), Bd.of (j := 4) (by omega) (by omega), hB⟩⟩
    have e1 : ((i + 1) % 6 + 4) % 6 = (i + 5) % 6 := by omega
    dsimp only
    rw [e1]
    congr 2
    unfold va_up
    rw [if_pos rfl]
  · have hj5 : j < 5 := Nat.lt_of_not_le (fun q => c (nI_le (a := 5) q (by omega)))
    rw [if_neg c]
    dsimp only
    rw [nI_1, if_neg (nI_ne0 (by omega) (by omega)), nI_pred, hslot_eq (i := i) rfl (by omega) (by omega), nI_clamp (by omega)]
    refine ⟨nI j, (va_up f ((i + j) % 6) τ, nI i, nI j), ?_, nI_pos (n := j) (by omega), ⟨Bd.of hi (by omega), Bd.of hj (by omega), hB⟩⟩
    dsimp only
    congr 2
    unfold va_up
    rw [if_pos rfl]
/-! the public acts: the state's act, and the history behind it -/
theorem put_eq (a b : Int32) (τ : StT) (hi : HiT) : fX6_put a b (τ, hi) = ((fX5_putRow a b τ).1, ((fX5_putRow a b τ).2, hiR hi τ (fX5_putRow a b τ).1)) := by
  unfold fX6_put hiR; dsimp only; rw [rec_1]
theorem erase_eq (a : Int32) (τ : StT) (hi : HiT) : fX6_erase a (τ, hi) = ((fX5_eraseRow a τ).1, ((fX5_eraseRow a τ).2, hiR hi τ (fX5_eraseRow a τ).1)) := by
  unfold fX6_erase hiR; dsimp only; rw [rec_1]
theorem begin_eq (a b : Int32) (τ : StT) (hi : HiT) : fX6_begin a b (τ, hi) = ((fX5_beginCopy a b τ).1, ((fX5_beginCopy a b τ).2, hiR hi τ (fX5_beginCopy a b τ).1)) := by
  unfold fX6_begin hiR; dsimp only; rw [rec_1]
theorem tick6_eq (a : Int32) (τ : StT) (hi : HiT) : fX6_tick a (τ, hi) = ((fX5_makeTicks a τ).1, ((fX5_makeTicks a τ).2, hiR hi τ (fX5_makeTicks a τ).1)) := by
  unfold fX6_tick hiR; dsimp only; rw [rec_1]
theorem lock_eq (τ : StT) (hi : HiT) : fX6_lock (τ, hi) = ((fX5_lockLive τ).1, ((fX5_lockLive τ).2, hiR hi τ (fX5_lockLive τ).1)) := by
  unfold fX6_lock hiR; dsimp only; rw [rec_1]
theorem unlock_eq (τ : StT) (hi : HiT) : fX6_unlock (τ, hi) = ((fX5_unlockLive τ).1, ((fX5_unlockLive τ).2, hiR hi τ (fX5_unlockLive τ).1)) := by
  unfold fX6_unlock hiR; dsimp only; rw [rec_1]
theorem swap_eq (τ : StT) (hi : HiT) : fX6_swap (τ, hi) = ((fX5_swapTables τ).1, ((fX5_swapTables τ).2, hiR hi τ (fX5_swapTables τ).1)) := by
  unfold fX6_swap hiR; dsimp only; rw [rec_1]
theorem give_eq (τ : StT) (hi : HiT) : fX6_giveUp (τ, hi) = ((fX5_giveCopyUp τ).1, ((fX5_giveCopyUp τ).2, hiR hi τ (fX5_giveCopyUp τ).1)) := by
  unfold fX6_giveUp hiR; dsimp only; rw [rec_1]
theorem set_eq (a b : Int32) (τ : StT) (hi : HiT) : fX6_set a b (τ, hi) = ((fX5_changeSetting a b τ).1, ((fX5_changeSetting a b τ).2, hiR hi τ (fX5_changeSetting a b τ).1)) := by
  unfold fX6_set hiR; dsimp only; rw [rec_1]
/-- ticks, at the law's calls -/
theorem tickN_is {e p : Nat} {τ : StT} {hi : HiT} (h : IV e τ) (h1 : 1 ≤ p) (h2 : p ≤ 99) : fX6_tick (nI p) (τ, hi) = ((tkN p τ).2.2.2.1.2.2.1, (tkN p τ, hiA hi τ)) := by
  rw [tick6_eq, makeTicks_is h1 h2]
  dsimp only
  rw [hiR_no]
  have hb := (tkN_iv p e τ h).1.2.2.2.2.2.1
  exact ie_bd hb (by omega)
