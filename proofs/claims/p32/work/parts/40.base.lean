/-! pure rows, no machine: what a state of the class holds -/
theorem lt32 {k : Nat} (hk : k ≤ 32) (c : ¬ (32 : Int32) ≤ nI k) : k < 32 := Nat.lt_of_not_le (fun q => c (nI_le (a := 32) q (by omega)))
theorem ge32 {k : Nat} (hk : k ≤ 32) (c : (32 : Int32) ≤ nI k) : k = 32 := by
  have : ¬ k < 32 := fun q => nI_ge (b := 32) q (by omega) c
  omega
theorem n32 {j : Nat} (h : j < 32) : ¬ (32 : Int32) ≤ nI j := nI_ge (a := j) (b := 32) h (by omega)
theorem at_is {k : Int32} (h : Bd k 31) (f : FnI) : fX3_at k f = f k.toNatClampNeg := by
  obtain ⟨j, hj, rfl⟩ := h.num
  unfold fX3_at
  rw [if_neg (nI_pos (by omega)), if_neg (n32 (by omega))]
theorem place_is {k v : Int32} (h : Bd k 31) (f : FnI) : fX3_place k v f = upd f k.toNatClampNeg v := by
  obtain ⟨j, hj, rfl⟩ := h.num
  unfold fX3_place
  rw [if_neg (nI_pos (by omega)), if_neg (n32 (by omega))]
theorem bnI {k N : Nat} (h : k ≤ N) (hN : N < 2 ^ 31) : Bd (nI k) N := Bd.of h hN
theorem atN {k : Nat} (h : k < 32) (f : FnI) : fX3_at (nI k) f = f k := by
  rw [at_is (bnI (N := 31) (by omega) (by omega)), nI_clamp (by omega)]
theorem placeN {k : Nat} {v : Int32} (h : k < 32) (f : FnI) : fX3_place (nI k) v f = upd f k v := by
  rw [place_is (bnI (N := 31) (by omega) (by omega)), nI_clamp (by omega)]
theorem hc_0 {τ : StT} : fX5_hasCopy τ = (0 : Int32) ↔ τ.2.2.2.1.2.2.1 = (0 : Int32) := by
  unfold fX5_hasCopy
  by_cases c : τ.2.2.2.1.2.2.1 = (0 : Int32)
  · rw [if_pos c]; exact ⟨fun _ => c, fun _ => rfl⟩
  · rw [if_neg c]; exact ⟨fun h => absurd h (by decide), fun h => absurd h c⟩
theorem bd_ne {v c : Int32} {N : Nat} (h : Bd v N) (hN : N < 2 ^ 31) (hc : c.toInt < 0) : ¬ v = c := by
  intro e
  have := h.toInt hN
  rw [e] at this
  omega
theorem ie_bd {x : Int32} {N : Nat} (h : Bd x N) (hN : N < 2 ^ 31) : fX6_isError x = (0 : Int32) := by
  obtain ⟨j, hj, rfl⟩ := h.num
  unfold fX6_isError
  rw [if_pos (nI_pos' (by omega))]
theorem cnt_b (f : FnI) : ∀ (n k c : Nat), c ≤ k → k ≤ 32 → 32 - k < n → Bd (fX3_count_4 f n (nI c) k) 32
  | 0, _, _, _, _, h => absurd h (by omega)
  | n + 1, k, c, hc, hk, hn => by
    unfold fX3_count_4
    by_cases q : (32 : Int32) ≤ nI k
    · rw [if_pos q]; exact Bd.of (by omega) (by omega)
    · have hk2 := lt32 hk q
      rw [if_neg q]
      by_cases r : f k = (-5 : Int32)
      · rw [if_pos r]; exact cnt_b f n (k + 1) c (by omega) (by omega) (by omega)
      · rw [if_neg r, nI_1]; exact cnt_b f n (k + 1) (c + 1) (by omega) (by omega) (by omega)
theorem count_b (f : FnI) : Bd (fX3_count f) 32 := cnt_b f 33 0 0 (by omega) (by omega) (by omega)
theorem rem_n {a d : Nat} (ha : a < 2 ^ 31) (h0 : 0 < d) (hd : d < 2 ^ 31) {D : Int32} (hD : D = nI d) : nI a - nI a / D * D = nI (a % d) := by rw [hD]; exact pk_rem ha h0 hd
theorem nI_inj {a b : Nat} (ha : a < 2 ^ 31) (hb : b < 2 ^ 31) (h : nI a = nI b) : a = b := (nI_eq ha hb).mp h
theorem slotN {ks vs : FnI} {st sz : Int32} {e : Nat} (hw : Bd st 23) (he : e < 2 ^ 30) : (fX2_slotOf (nI e) (ks, vs, st, sz)).toNatClampNeg = (st.toNatClampNeg + e) % 24 := by
  obtain ⟨j, hj, rfl⟩ := hw.num
  unfold fX2_slotOf
  dsimp only
  rw [nI_add, rem_n (d := 24) (D := (24 : Int32)) (by omega) (by omega) (by omega) rfl, nI_clamp (by omega), nI_clamp (by omega)]
theorem upd_same {s : FnI} {j : Nat} {x : Int32} (h : s j = x) : upd s j x = s := by
  funext q
  by_cases e : q = j
  · rw [e, pk_us, h]
  · rw [pk_un e]
theorem i_add0 (x : Int32) : x + (0 : Int32) = x := Int32.add_zero x
theorem add1_swap (x y : Int32) : x + y + (1 : Int32) = x + (1 : Int32) + y := by
  rw [Int32.add_assoc, Int32.add_comm y, ← Int32.add_assoc]
theorem in6_y {x a b : Int32} (h1 : ¬ x < a) (h2 : ¬ b < x) : ¬ fX6_isIn x a b = (0 : Int32) := by
  unfold fX6_isIn
  rw [if_neg h1, if_neg h2]
  decide
theorem in6_b {j N : Nat} {b : Int32} (hb : b = nI N) (h : j ≤ N) (hN : N < 2 ^ 31) : ¬ fX6_isIn (nI j) (0 : Int32) b = (0 : Int32) := by
  subst hb
  exact in6_y (nI_pos (by omega)) (nI_nlt h hN)
theorem in6_1 {j N : Nat} {b : Int32} (hb : b = nI N) (h0 : 0 < j) (h : j ≤ N) (hN : N < 2 ^ 31) : ¬ fX6_isIn (nI j) (1 : Int32) b = (0 : Int32) := by
  subst hb
  exact in6_y (nI_nlt (b := 1) (by omega) (by omega)) (nI_nlt h hN)
/-! rows and what they become -/
def RW (v : Int32) : Prop := v = (-5 : Int32) ∨ Bd v 99
def chg (kd : Int32) (k : Nat) (v : Int32) : Int32 := fX6_changedValue kd (nI k) v
theorem chg_none (kd : Int32) (k : Nat) : chg kd k (-5 : Int32) = (-5 : Int32) := by
  unfold chg fX6_changedValue
  rw [if_pos rfl]
theorem chg_rw {kd : Int32} {k : Nat} {v : Int32} (hk : k < 32) (hv : RW v) : RW (chg kd k v) := by
  rcases hv with h | h
  · rw [h, chg_none]; exact Or.inl rfl
  · unfold chg fX6_changedValue
    rw [if_neg (bd_ne h (by omega) (by decide))]
    obtain ⟨a, ha, rfl⟩ := h.num
    have e2 : (2 : Int32) * nI a = nI (2 * a) := by rw [show (2 : Int32) = nI 2 from rfl, pk_mul]
    by_cases c1 : kd = (1 : Int32)
    · rw [if_pos c1, e2, rem_n (d := 100) (D := (100 : Int32)) (by omega) (by omega) (by omega) rfl]
      exact Or.inr (Bd.of (by omega) (by omega))
    · rw [if_neg c1]
      by_cases c2 : kd = (2 : Int32)
      · rw [if_pos c2, rem_n (d := 10) (D := (10 : Int32)) (by omega) (by omega) (by omega) rfl, show (10 : Int32) = nI 10 from rfl, pk_mul, pk_div (by omega) (by omega) (by omega), nI_add]
        exact Or.inr (Bd.of (by omega) (by omega))
      · rw [if_neg c2]
        by_cases c3 : kd = (3 : Int32)
        · rw [if_pos c3]
          by_cases q : nI a - nI a / (2 : Int32) * (2 : Int32) = (0 : Int32)
          · rw [if_pos q]; exact Or.inr h
          · rw [if_neg q]; exact Or.inl rfl
        · rw [if_neg c3]
          by_cases c4 : kd = (4 : Int32)
          · rw [if_pos c4, nI_add, rem_n (d := 100) (D := (100 : Int32)) (by omega) (by omega) (by omega) rfl]
            exact Or.inr (Bd.of (by omega) (by omega))
          · rw [if_neg c4]; exact Or.inr h
/-- the log, the shadow table and the live table: K, V the log's entries in their order -/
def LR (lv sh : FnI) (kd : Int32) (c n : Nat) (K V : FnI) : Prop :=
  (∀ i : Nat, i < n → Bd (K i) 31 ∧ RW (V i)) ∧ ∀ k : Nat, k < 32 → (∃ i : Nat, i < n ∧ K i = nI k ∧ V i = lv k ∧ ∀ j : Nat, i < j → j < n → ¬ K j = nI k) ∨ ((∀ i : Nat, i < n → ¬ K i = nI k) ∧ (sh k = chg kd k (lv k) ∨ (c ≤ k ∧ sh k = (-5 : Int32))))
section LRS
variable {lv sh : FnI} {kd : Int32} {c n : Nat} {K V : FnI}
theorem LR.add (h : LR lv sh kd c n K V) {k0 : Nat} (hk0 : k0 < 32) {v : Int32} (hv : RW v) {K' V' : FnI} (h1 : ∀ i : Nat, i < n → K' i = K i ∧ V' i = V i) (h2 : K' n = nI k0) (h3 : V' n = v) : LR (upd lv k0 v) sh kd c (n + 1) K' V' := by
  refine ⟨fun i hi => ?_, fun k hk => ?_⟩
  · by_cases e : i = n
    · subst e; rw [h2, h3]; exact ⟨bnI (by omega) (by omega), hv⟩
    · have h4 := h1 i (by omega)
      rw [h4.1, h4.2]; exact h.1 i (by omega)
  · by_cases e : k = k0
    · subst e
      exact Or.inl ⟨n, by omega, h2, by rw [h3, pk_us], fun j h4 h5 => absurd h4 (by omega)⟩
    · rw [pk_un e]
      have hne : ¬ nI k0 = nI k := fun q => e (nI_inj (by omega) (by omega) q).symm
      rcases h.2 k hk with ⟨i, a1, a2, a3, a4⟩ | ⟨a1, a2⟩
      · refine Or.inl ⟨i, by omega, by rw [(h1 i a1).1]; exact a2, by rw [(h1 i a1).2]; exact a3, fun j b1 b2 => ?_⟩
        by_cases q : j = n
        · subst q; rw [h2]; exact hne
        · rw [(h1 j (by omega)).1]; exact a4 j b1 (by omega)
      · refine Or.inr ⟨fun i hi => ?_, a2⟩
        by_cases q : i = n
        · subst q; rw [h2]; exact hne
        · rw [(h1 i (by omega)).1]; exact a1 i (by omega)
theorem LR.pop (h : LR lv sh kd c (n + 1) K V) {K' V' : FnI} (h1 : ∀ i : Nat, i < n → K' i = K (i + 1) ∧ V' i = V (i + 1)) {k0 : Nat} (hK : K 0 = nI k0) (hk0 : k0 < 32) : LR lv (upd sh k0 (chg kd k0 (V 0))) kd c n K' V' := by
  refine ⟨fun i hi => by rw [(h1 i hi).1, (h1 i hi).2]; exact h.1 (i + 1) (by omega), fun k hk => ?_⟩
  rcases h.2 k hk with ⟨i, a1, a2, a3, a4⟩ | ⟨a1, a2⟩
  · cases i with
    | zero =>
      have e : k0 = k := nI_inj (by omega) (by omega) (hK.symm.trans a2)
      subst e
      exact Or.inr ⟨fun i hi => by rw [(h1 i hi).1]; exact a4 (i + 1) (by omega) (by omega), Or.inl (by rw [pk_us, a3])⟩
    | succ i => exact Or.inl ⟨i, by omega, by rw [(h1 i (by omega)).1]; exact a2, by rw [(h1 i (by omega)).2]; exact a3, fun j b1 b2 => by rw [(h1 j b2).1]; exact a4 (j + 1) (by omega) (by omega)⟩
  · refine Or.inr ⟨fun i hi => by rw [(h1 i hi).1]; exact a1 (i + 1) (by omega), ?_⟩
    have e : k ≠ k0 := fun q => a1 0 (by omega) (by rw [hK, q])
    rw [pk_un e]; exact a2
theorem LR.key (h : LR lv sh kd c n K V) {sh' : FnI} (h1 : ∀ k : Nat, k ≠ c → sh' k = sh k) (h2 : sh' c = if chg kd c (lv c) = (-5 : Int32) then sh c else if sh c = (-5 : Int32) then chg kd c (lv c) else sh c) : LR lv sh' kd (c + 1) n K V := by
  refine ⟨h.1, fun k hk => ?_⟩
  rcases h.2 k hk with a | ⟨a1, a2⟩
  · exact Or.inl a
  · refine Or.inr ⟨a1, ?_⟩
    by_cases e : k = c
    · subst e
      left
      rw [h2]
      rcases a2 with b | ⟨-, b⟩
      · by_cases q : chg kd k (lv k) = (-5 : Int32)
        · rw [if_pos q, b]
        · rw [if_neg q, if_neg (by rw [b]; exact q), b]
      · by_cases q : chg kd k (lv k) = (-5 : Int32)
        · rw [if_pos q, b, q]
        · rw [if_neg q, if_pos b]
    · rw [h1 k e]
      exact a2.imp id (fun b => ⟨by omega, b.2⟩)
theorem LR.start (h : ∀ k : Nat, k < 32 → sh k = (-5 : Int32)) : LR lv sh kd 0 0 K V := ⟨fun i hi => absurd hi (by omega), fun k hk => Or.inr ⟨fun i hi => absurd hi (by omega), Or.inr ⟨Nat.zero_le _, h k hk⟩⟩⟩
theorem LR.done (h : LR lv sh kd 32 0 K V) {k : Nat} (hk : k < 32) : sh k = chg kd k (lv k) := by
  rcases h.2 k hk with ⟨i, a1, -⟩ | ⟨-, a | a⟩
  · exact absurd a1 (by omega)
  · exact a
  · exact absurd a.1 (by omega)
theorem LR.congr (h : LR lv sh kd c n K V) {K' V' : FnI} (h1 : ∀ i : Nat, i < n → K' i = K i ∧ V' i = V i) : LR lv sh kd c n K' V' := by
  refine ⟨fun i hi => by rw [(h1 i hi).1, (h1 i hi).2]; exact h.1 i hi, fun k hk => ?_⟩
  rcases h.2 k hk with ⟨i, a1, a2, a3, a4⟩ | ⟨a1, a2⟩
  · exact Or.inl ⟨i, a1, by rw [(h1 i a1).1]; exact a2, by rw [(h1 i a1).2]; exact a3, fun j b1 b2 => by rw [(h1 j b2).1]; exact a4 j b1 b2⟩
  · exact Or.inr ⟨fun i hi => by rw [(h1 i hi).1]; exact a1 i hi, a2⟩
end LRS
