/-! the text, read by both sides -/
def hereM (m : MTT) : Int32 := if m.2.1 ≤ m.2.2.1 then (-5 : Int32) else m.1 m.2.2.1.toNatClampNeg
def RTx (τ : ScT) (m : MTT) : Prop := τ.2.1 = m.2.1 ∧ τ.2.2.1 = m.2.2.1 ∧ WP m.2.1 m.2.2.1 ∧ ∀ i : Nat, i < m.2.1.toNatClampNeg → τ.1 i = m.1 i
def RTl (τ : ScT) (t : FnI) (L : Int32) : Prop := τ.2.1 = L ∧ Bd L 80 ∧ ∀ i : Nat, i < L.toNatClampNeg → τ.1 i = t i
theorem RTx.lite {τ : ScT} {m : MTT} (R : RTx τ m) {t : FnI} {L : Int32} (h1 : m.1 = t) (h2 : m.2.1 = L) : RTl τ t L := by
  subst h1 h2
  exact ⟨R.1, R.2.2.1.1, R.2.2.2⟩
theorem pos_le {m : MTT} (h : WP m.2.1 m.2.2.1) : (m.2.1 ≤ m.2.2.1 ↔ m.2.2.1.toNatClampNeg = m.2.1.toNatClampNeg) ∧ (m.2.2.1 < m.2.1 ↔ m.2.2.1.toNatClampNeg < m.2.1.toNatClampNeg) := by
  obtain ⟨h1, h2, h3⟩ := h
  obtain ⟨a, ha, ea⟩ := h1.num
  obtain ⟨b, hb, eb⟩ := h2.num
  rw [ea, eb, nI_clamp (by omega), nI_clamp (by omega)] at h3
  rw [ea, eb, nI_clamp (by omega), nI_clamp (by omega), nI_leI (by omega) (by omega), Int32.lt_iff_toInt_lt, nI_toInt (by omega), nI_toInt (by omega)]
  omega
theorem pos_eq {m : MTT} (h : WP m.2.1 m.2.2.1) : m.2.2.1 = m.2.1 ↔ m.2.1 ≤ m.2.2.1 := by
  rw [(pos_le h).1]
  refine ⟨fun e => by rw [e], fun e => ?_⟩
  rw [h.1.1, h.2.1.1, e]
theorem here_is {τ : ScT} {m : MTT} (R : RTx τ m) : fX4_here τ = hereM m := by
  obtain ⟨h1, h2, h3, h4⟩ := R
  unfold fX4_here hereM
  rw [h1, h2]
  obtain ⟨b, hb, eb⟩ := h3.2.1.num
  rw [if_neg (by rw [eb]; exact nI_pos (by omega))]
  by_cases c : m.2.1 ≤ m.2.2.1
  · rw [if_pos c, if_pos c]
  · rw [if_neg c, if_neg c]
    refine h4 _ ?_
    have := h3.2.2
    have h5 : ¬ m.2.2.1.toNatClampNeg = m.2.1.toNatClampNeg := fun e => c ((pos_le h3).1.mpr e)
    omega
theorem RTx.step {τ : ScT} {m : MTT} (R : RTx τ m) (c : ¬ m.2.1 ≤ m.2.2.1) (a b d f : Int32) (x y z : Int32) : RTx (τ.1, τ.2.1, τ.2.2.1 + (1 : Int32), a, b, d, f) (m.1, m.2.1, m.2.2.1 + (1 : Int32), x, y, z) ∧ (m.2.2.1 + (1 : Int32)).toNatClampNeg = m.2.2.1.toNatClampNeg + 1 := by
  obtain ⟨h1, h2, h3, h4⟩ := R
  have h5 : ¬ m.2.2.1.toNatClampNeg = m.2.1.toNatClampNeg := fun e => c ((pos_le h3).1.mpr e)
  have h6 := h3.2.2
  have h7 := h3.1.2
  obtain ⟨b1, b2⟩ := bd_inc (M := 80) h3.2.1 (by omega) (by omega) (by omega)
  exact ⟨⟨h1, by dsimp only; rw [h2], ⟨h3.1, b1, by dsimp only; rw [b2]; omega⟩, h4⟩, b2⟩
theorem inn_0 {x a b : Int32} : fX7_in x a b = (0 : Int32) ↔ (x < a ∨ b < x) := by
  unfold fX7_in
  by_cases c : x < a
  · rw [if_pos c]; exact ⟨fun _ => Or.inl c, fun _ => rfl⟩
  · rw [if_neg c]
    by_cases d : b < x
    · rw [if_pos d]; exact ⟨fun _ => Or.inr d, fun _ => rfl⟩
    · rw [if_neg d]; exact ⟨fun h => absurd h (by decide), fun h => h.elim (fun q => absurd q c) (fun q => absurd q d)⟩
/-- a digit, or none, at the place -/
theorem dig {τ : ScT} {m : MTT} (R : RTx τ m) : (fX4_digitHere τ = (-5 : Int32) ∧ fX7_isNext (48 : Int32) (57 : Int32) m = (0 : Int32) ∧ ∀ a : Nat, a ≤ 9 → fX7_isNext (nI (48 + a)) (57 : Int32) m = (0 : Int32)) ∨ ∃ d : Nat, d ≤ 9 ∧ ¬ m.2.1 ≤ m.2.2.1 ∧ m.1 m.2.2.1.toNatClampNeg = nI (48 + d) ∧ fX4_digitHere τ = nI d ∧ fX7_isNext (48 : Int32) (57 : Int32) m = (1 : Int32) ∧ ∀ a : Nat, a ≤ 9 → fX7_isNext (nI (48 + a)) (57 : Int32) m = if d < a then (0 : Int32) else (1 : Int32) := by
  unfold fX4_digitHere
  rw [here_is R]
  unfold hereM fX7_isNext
  by_cases c : m.2.1 ≤ m.2.2.1
  · rw [if_pos c]
    refine Or.inl ⟨by decide, by rw [if_pos c], fun a _ => by rw [if_pos c]⟩
  · rw [if_neg c]
    generalize m.1 m.2.2.1.toNatClampNeg = x
    by_cases g : fX7_in x (48 : Int32) (57 : Int32) = (0 : Int32)
    · refine Or.inl ⟨if_pos g, by rw [if_neg c, if_pos g], fun a ha => ?_⟩
      rw [if_neg c, if_pos]
      rw [inn_0] at g ⊢
      rcases g with g | g
      · left
        rw [Int32.lt_iff_toInt_lt] at g ⊢
        rw [nI_toInt (by omega)]
        rw [show (48 : Int32).toInt = 48 from by decide] at g
        omega
      · exact Or.inr g
    · obtain ⟨g1, g2⟩ := in7_no g
      have g0 : ¬ x < (0 : Int32) := fun q => g1 (by
        rw [Int32.lt_iff_toInt_lt] at q ⊢
        rw [show (48 : Int32).toInt = 48 from by decide]
        rw [show (0 : Int32).toInt = 0 from by decide] at q
        omega)
      obtain ⟨j, hj, e⟩ := nI_of g0
      subst e
      rw [Int32.lt_iff_toInt_lt, nI_toInt hj, show (48 : Int32).toInt = 48 from by decide] at g1
      rw [Int32.lt_iff_toInt_lt, nI_toInt hj, show (57 : Int32).toInt = 57 from by decide] at g2
      obtain ⟨d, e⟩ : ∃ d : Nat, j = 48 + d := ⟨j - 48, by omega⟩
      subst e
      refine Or.inr ⟨d, by omega, c, rfl, ?_, by rw [if_neg c, if_neg g], fun a ha => ?_⟩
      · rw [if_neg (show ¬ fX6_isIn (nI (48 + d)) (48 : Int32) (57 : Int32) = (0 : Int32) from g), Nat.add_comm, ← nI_add]
        exact Int32.add_sub_cancel _ _
      · rw [if_neg c]
        by_cases h : d < a
        · rw [if_pos h, if_pos]
          rw [inn_0]
          exact Or.inl ((nI_ltI (by omega) (by omega)).mpr (by omega))
        · rw [if_neg h, if_neg]
          rw [inn_0]
          intro q
          rcases q with q | q
          · exact h (by have := (nI_ltI (by omega) (by omega)).mp q; omega)
          · have := (nI_ltI (a := 57) (b := 48 + d) (by omega) (by omega)).mp q
            omega
theorem rn55_s (p0 p1 : Int32) (n : Nat) (x : Int32) (σ : MTT) : fX7_readNumber_55 p0 p1 (n + 1) x σ = (if x ≤ (0 : Int32) then (x, σ) else (if (fX7_isNext (48 : Int32) (57 : Int32) σ) = (0 : Int32) then (x, σ) else (if p1 < ((((10 : Int32) * x) + (σ.1 σ.2.2.1.toNatClampNeg)) - (48 : Int32)) then (x, σ) else fX7_readNumber_55 p0 p1 n ((((10 : Int32) * x) + (σ.1 σ.2.2.1.toNatClampNeg)) - (48 : Int32)) (σ.1, σ.2.1, (σ.2.2.1 + (1 : Int32)), σ.2.2.2.1, σ.2.2.2.2.1, σ.2.2.2.2.2)))) := by
  rw [fX7_readNumber_55]
theorem ten {d e : Nat} : ((((10 : Int32) * nI d) + nI (48 + e)) - (48 : Int32)) = nI (10 * d + e) ∧ ((10 : Int32) * nI d) + nI e = nI (10 * d + e) := by
  have h : (10 : Int32) * nI d = nI (10 * d) := pk_mul 10 d
  rw [h, nI_add, nI_add]
  refine ⟨?_, rfl⟩
  rw [show 10 * d + (48 + e) = (10 * d + e) + 48 from by omega, ← nI_add]
  exact Int32.add_sub_cancel _ _
/-- a number is read -/
def NR (τ : ScT) (m : MTT) (a b : Nat) (c : Int32 × ScT) (d : Int32 × MTT) : Prop := RTx c.2 d.2 ∧ c.2.2.2.2.2 = τ.2.2.2.2 ∧ d.2.2.2.2 = m.2.2.2 ∧ ((c.1 = (1 : Int32) ∧ c.2.2.2.2.1 = d.1 ∧ fX7_isNext (48 : Int32) (57 : Int32) m = (1 : Int32) ∧ ∃ v : Nat, a ≤ v ∧ v ≤ b ∧ d.1 = nI v) ∨ (c.1 = (0 : Int32) ∧ d.1 = (-5 : Int32) ∧ d.2 = m))
theorem nI_ne_m5 {v : Nat} (h : v < 2 ^ 31) : ¬ nI v = (-5 : Int32) := fun e => by
  have := congrArg Int32.toInt e
  rw [nI_toInt h, show (-5 : Int32).toInt = -5 from by decide] at this
  omega
theorem num_is {τ : ScT} {m : MTT} (R : RTx τ m) {a b : Nat} (ha : a ≤ 1) (hb : b ≤ 99) : NR τ m a b (fX4_readNumber (nI a) (nI b) τ) (fX7_readNumber (nI a) (nI b) m) := by
  unfold fX4_readNumber fX7_readNumber
  rw [show (48 : Int32) + nI a = nI (48 + a) from nI_add 48 a]
  rcases dig R with ⟨d1, d2, d3⟩ | ⟨d, hd, d0, d1, d2, d3, d4⟩
  · have h : (-5 : Int32) < nI a := by
      rw [Int32.lt_iff_toInt_lt, nI_toInt (by omega), show (-5 : Int32).toInt = -5 from by decide]
      omega
    rw [d1, if_pos h, if_pos (d3 a (by omega))]
    exact ⟨R, rfl, rfl, Or.inr ⟨rfl, rfl, rfl⟩⟩
  · rw [d2, d4 a (by omega)]
    by_cases h : d < a
    · rw [if_pos ((nI_ltI (by omega) (by omega)).mpr h), if_pos h, if_pos rfl]
      exact ⟨R, rfl, rfl, Or.inr ⟨rfl, rfl, rfl⟩⟩
    · rw [if_neg (fun q => h ((nI_ltI (by omega) (by omega)).mp q)), if_neg h, if_neg (show ¬ (1 : Int32) = (0 : Int32) by decide), d1]
      have e48 : nI (48 + d) - (48 : Int32) = nI d := by
        rw [Nat.add_comm, ← nI_add]
        exact Int32.add_sub_cancel _ _
      rw [e48]
      by_cases g : d ≤ b
      · rw [if_pos (nI_le g (by omega)), if_pos (nI_le g (by omega))]
        obtain ⟨R2, hp⟩ := R.step d0 (nI d) τ.2.2.2.2.1 τ.2.2.2.2.2.1 τ.2.2.2.2.2.2 m.2.2.2.1 m.2.2.2.2.1 m.2.2.2.2.2
        rw [show (83 : Nat) = 82 + 1 from rfl, rn55_s]
        rcases dig R2 with ⟨k1, k2, k3⟩ | ⟨e, he, k0, k1, k2, k3, k4⟩
        · rw [k1, if_pos rfl, if_pos k2, ite_self]
          exact ⟨R2, rfl, rfl, Or.inl ⟨rfl, rfl, d3, d, by omega, by omega, rfl⟩⟩
        · rw [k2, if_neg (nI_ne_m5 (by omega)), k3, if_neg (show ¬ (1 : Int32) = (0 : Int32) by decide)]
          dsimp only at k1 ⊢
          rw [k1, ten.1, ten.2]
          by_cases z : d = 0
          · rw [if_pos (show nI d = (0 : Int32) by rw [z]; rfl), if_pos (show nI d ≤ (0 : Int32) by rw [z]; decide)]
            exact ⟨R2, rfl, rfl, Or.inl ⟨rfl, rfl, d3, d, by omega, by omega, rfl⟩⟩
          · have z1 : ¬ nI d ≤ (0 : Int32) := nI_ge (a := 0) (b := d) (by omega) (by omega)
            rw [if_neg (fun q => z1 (by rw [q]; decide)), if_neg z1]
            by_cases w : b < 10 * d + e
            · rw [if_pos ((nI_ltI (by omega) (by omega)).mpr w), if_pos ((nI_ltI (by omega) (by omega)).mpr w)]
              exact ⟨R2, rfl, rfl, Or.inl ⟨rfl, rfl, d3, d, by omega, by omega, rfl⟩⟩
            · rw [if_neg (fun q => w ((nI_ltI (by omega) (by omega)).mp q)), if_neg (fun q => w ((nI_ltI (by omega) (by omega)).mp q))]
              obtain ⟨R3, hp3⟩ := R2.step k0 (nI (10 * d + e)) τ.2.2.2.2.1 τ.2.2.2.2.2.1 τ.2.2.2.2.2.2 m.2.2.2.1 m.2.2.2.2.1 m.2.2.2.2.2
              dsimp only at R3
              have fin : fX7_readNumber_55 (nI a) (nI b) 82 (nI (10 * d + e)) (m.1, m.2.1, m.2.2.1 + (1 : Int32) + (1 : Int32), m.2.2.2.1, m.2.2.2.2.1, m.2.2.2.2.2) = (nI (10 * d + e), (m.1, m.2.1, m.2.2.1 + (1 : Int32) + (1 : Int32), m.2.2.2.1, m.2.2.2.2.1, m.2.2.2.2.2)) := by
                rw [show (82 : Nat) = 81 + 1 from rfl, rn55_s, if_neg (show ¬ nI (10 * d + e) ≤ (0 : Int32) from nI_ge (a := 0) (b := 10 * d + e) (by omega) (by omega))]
                rcases dig R3 with ⟨l1, l2, l3⟩ | ⟨f, hf, l0, l1, l2, l3, l4⟩
                · rw [if_pos l2]
                · dsimp only at l1 l3 ⊢
                  rw [l3, if_neg (show ¬ (1 : Int32) = (0 : Int32) by decide), l1, ten.1, if_pos ((nI_ltI (by omega) (by omega)).mpr (by omega))]
              rw [fin]
              exact ⟨R3, rfl, rfl, Or.inl ⟨rfl, rfl, d3, 10 * d + e, by omega, by omega, rfl⟩⟩
      · rw [if_neg (nI_ge (by omega) (by omega)), if_neg (nI_ge (by omega) (by omega))]
        exact ⟨R, rfl, rfl, Or.inr ⟨rfl, rfl, rfl⟩⟩
theorem skip_is {τ : ScT} {m : MTT} (R : RTx τ m) {c : Int32} (hc : ¬ c = (-5 : Int32)) : RTx (fX4_skip c τ).2 (fX7_takes c m).2 ∧ (fX4_skip c τ).2.2.2.2 = τ.2.2.2 ∧ (fX7_takes c m).2.2.2.2 = m.2.2.2 ∧ ((fX4_skip c τ).1 = (0 : Int32) ↔ (fX7_takes c m).1 = (0 : Int32)) ∧ ((fX4_skip c τ).1 = (0 : Int32) ↔ ¬ hereM m = c) ∧ (¬ (fX4_skip c τ).1 = (0 : Int32) → (fX7_takes c m).2.2.2.1.toNatClampNeg = m.2.2.1.toNatClampNeg + 1) := by
  unfold fX4_skip fX7_takes
  rw [here_is R]
  have hn : fX7_isNext c c m = if hereM m = c then (1 : Int32) else (0 : Int32) := by
    unfold fX7_isNext hereM
    by_cases d : m.2.1 ≤ m.2.2.1
    · rw [if_pos d, if_pos d, if_neg (fun q => hc q.symm)]
    · rw [if_neg d, if_neg d]
      generalize m.1 m.2.2.1.toNatClampNeg = x
      by_cases e : x = c
      · rw [if_pos e, if_neg]
        rw [inn_0, e]
        intro q
        rcases q with q | q
        · exact Int32.lt_irrefl q
        · exact Int32.lt_irrefl q
      · rw [if_neg e, if_pos]
        rw [inn_0]
        by_cases g : x < c
        · exact Or.inl g
        · by_cases k : c < x
          · exact Or.inr k
          · exact absurd (Int32.le_antisymm (Int32.not_lt.mp k) (Int32.not_lt.mp g)) e
  rw [hn]
  by_cases e : hereM m = c
  · have d : ¬ m.2.1 ≤ m.2.2.1 := fun q => by
      unfold hereM at e
      rw [if_pos q] at e
      exact hc e.symm
    obtain ⟨R2, hp⟩ := R.step d τ.2.2.2.1 τ.2.2.2.2.1 τ.2.2.2.2.2.1 τ.2.2.2.2.2.2 m.2.2.2.1 m.2.2.2.2.1 m.2.2.2.2.2
    rw [if_pos e, if_pos e, if_neg (show ¬ (1 : Int32) = (0 : Int32) by decide)]
    exact ⟨R2, rfl, rfl, Iff.rfl, ⟨fun q => absurd q (show ¬ (1 : Int32) = (0 : Int32) by decide), fun q => absurd e q⟩, fun _ => hp⟩
  · rw [if_neg e, if_neg e, if_pos rfl, i_add0]
    exact ⟨R, rfl, rfl, ⟨fun _ => rfl, fun _ => rfl⟩, ⟨fun _ => e, fun _ => rfl⟩, fun q => absurd rfl q⟩
