/-! the class's numbers and the reference's: pure rows, no machine -/
/-- a row as the reference has it: -1 (none), or a value from 0 to 99 -/
def RV (v : Int32) : Prop := v = (-1 : Int32) ∨ Bd v 99
theorem out_m : fX7_outside (-1 : Int32) = (-5 : Int32) := rfl
theorem bd_ne {v c : Int32} {N : Nat} (h : Bd v N) (hN : N < 2 ^ 31) (hc : c.toInt < 0) : ¬ v = c := by
  intro e
  have := h.toInt hN
  rw [e] at this
  omega
theorem out_b {v : Int32} {N : Nat} (h : Bd v N) (hN : N < 2 ^ 31) : fX7_outside v = v := by
  unfold fX7_outside
  rw [if_neg (bd_ne h hN (by decide))]
theorem out_i {v : Int32} (h : RV v) : fX7_outside v = (-5 : Int32) ↔ v = (-1 : Int32) := by
  rcases h with h | h
  · rw [h]; exact ⟨fun _ => rfl, fun _ => rfl⟩
  · rw [out_b h (by omega)]
    exact ⟨fun e => absurd e (bd_ne h (by omega) (by decide)), fun e => absurd e (bd_ne h (by omega) (by decide))⟩
theorem out_j {v w : Int32} (hv : RV v) (hw : RV w) : fX7_outside v = fX7_outside w ↔ v = w := by
  refine ⟨fun e => ?_, fun e => by rw [e]⟩
  rcases hv with h | h
  · rw [h] at e ⊢
    exact ((out_i hw).mp e.symm).symm
  · rcases hw with g | g
    · rw [g] at e ⊢
      exact (out_i (Or.inr h)).mp e
    · rw [out_b h (by omega), out_b g (by omega)] at e
      exact e
/-- a table of the class, and the places where the reference has it -/
def RT (f s : FnI) (b : Nat) : Prop := ∀ k : Nat, k < 32 → f k = fX7_outside (s (b + k)) ∧ RV (s (b + k))
theorem lt32 {k : Nat} (hk : k ≤ 32) (c : ¬ (32 : Int32) ≤ nI k) : k < 32 := Nat.lt_of_not_le (fun q => c (nI_le (a := 32) q (by omega)))
theorem ge32 {k : Nat} (hk : k ≤ 32) (c : (32 : Int32) ≤ nI k) : k = 32 := by
  have : ¬ k < 32 := fun q => nI_ge (b := 32) q (by omega) c
  omega
theorem rowN {t : Int32} {s : FnI} {k : Nat} (ht : TB t) (hk : k < 32) : fX7_row t (nI k) s = s (19 + 32 * t.toNatClampNeg + k) := by
  rw [row_eq ht (Bd.of (by omega) (by omega)), nI_clamp (by omega)]
theorem RT.none {f s : FnI} {t : Int32} (h : RT f s (19 + 32 * t.toNatClampNeg)) (ht : TB t) {k : Nat} (hk : k < 32) : f k = (-5 : Int32) ↔ fX7_row t (nI k) s = (-1 : Int32) := by
  rw [rowN ht hk, (h k hk).1]
  exact out_i (h k hk).2
theorem RT.val {f s : FnI} {t : Int32} (h : RT f s (19 + 32 * t.toNatClampNeg)) (ht : TB t) {k : Nat} (hk : k < 32) (c : ¬ fX7_row t (nI k) s = (-1 : Int32)) : f k = fX7_row t (nI k) s := by
  rw [rowN ht hk] at c ⊢
  rw [(h k hk).1]
  rcases (h k hk).2 with q | q
  · exact absurd q c
  · exact out_b q (by omega)
theorem count_4 {f s : FnI} {t : Int32} (h : RT f s (19 + 32 * t.toNatClampNeg)) (ht : TB t) : ∀ (n : Nat) (cnt : Int32) (k : Nat), k ≤ 32 → fX3_count_4 f n cnt k = fX7_rows_4 t s n cnt k
  | 0, _, _, _ => rfl
  | n + 1, cnt, k, hk => by
    unfold fX3_count_4 fX7_rows_4
    by_cases c : (32 : Int32) ≤ nI k
    · rw [if_pos c, if_pos c]
    · have hk2 := lt32 hk c
      rw [if_neg c, if_neg c]
      by_cases q : fX7_row t (nI k) s = (-1 : Int32)
      · rw [if_pos q, if_pos ((h.none ht hk2).mpr q), i_add0]
        exact count_4 h ht n cnt (k + 1) (by omega)
      · rw [if_neg q, if_neg (fun e => q ((h.none ht hk2).mp e))]
        exact count_4 h ht n _ (k + 1) (by omega)
theorem count_is {f s : FnI} {t : Int32} (h : RT f s (19 + 32 * t.toNatClampNeg)) (ht : TB t) : fX3_count f = fX7_rows t s := by
  unfold fX3_count fX7_rows
  exact count_4 h ht 33 _ 0 (by omega)
theorem sum_4 {f s : FnI} {t : Int32} (h : RT f s (19 + 32 * t.toNatClampNeg)) (ht : TB t) : ∀ (n : Nat) (cnt : Int32) (k : Nat), k ≤ 32 → fX3_sum_4 f n cnt k = fX7_sum_4 t s n cnt k
  | 0, _, _, _ => rfl
  | n + 1, cnt, k, hk => by
    unfold fX3_sum_4 fX7_sum_4
    by_cases c : (32 : Int32) ≤ nI k
    · rw [if_pos c, if_pos c]
    · have hk2 := lt32 hk c
      rw [if_neg c, if_neg c]
      by_cases q : fX7_row t (nI k) s = (-1 : Int32)
      · rw [if_pos q, if_pos ((h.none ht hk2).mpr q), i_add0]
        exact sum_4 h ht n cnt (k + 1) (by omega)
      · rw [if_neg q, if_neg (fun e => q ((h.none ht hk2).mp e)), h.val ht hk2 q]
        exact sum_4 h ht n _ (k + 1) (by omega)
theorem sum_is {f s : FnI} {t : Int32} (h : RT f s (19 + 32 * t.toNatClampNeg)) (ht : TB t) : fX3_sum f = fX7_sum t s := by
  unfold fX3_sum fX7_sum
  exact sum_4 h ht 33 _ 0 (by omega)
theorem nI_ne5 {k : Nat} (hk : k ≤ 32) : ¬ nI k = (-5 : Int32) := bd_ne (Bd.of hk (by omega)) (by omega) (by decide)
theorem end_stay {s : FnI} {t x : Int32} (hx : ¬ x = (-5 : Int32)) : ∀ (n k : Nat), k ≤ 32 → 32 - k < n → fX7_endKey_6 t (0 : Int32) s n x k = x
  | 0, _, _, h => absurd h (by omega)
  | n + 1, k, hk, hn => by
    unfold fX7_endKey_6
    by_cases c : (32 : Int32) ≤ nI k
    · rw [if_pos c]
    · have hk2 := lt32 hk c
      rw [if_neg c]
      by_cases q : fX7_row t (nI k) s = (-1 : Int32)
      · rw [if_pos q]; exact end_stay hx n (k + 1) (by omega) (by omega)
      · rw [if_neg q, if_pos rfl, if_neg hx]; exact end_stay hx n (k + 1) (by omega) (by omega)
theorem least_2 {f s : FnI} {t : Int32} (h : RT f s (19 + 32 * t.toNatClampNeg)) (ht : TB t) : ∀ (n k : Nat), k ≤ 32 → 32 - k < n → fX3_leastKey_2 f n k = fX7_endKey_6 t (0 : Int32) s n (-5 : Int32) k
  | 0, _, _, h => absurd h (by omega)
  | n + 1, k, hk, hn => by
    unfold fX3_leastKey_2 fX7_endKey_6
    by_cases c : (32 : Int32) ≤ nI k
    · rw [if_pos c, if_pos c]
    · have hk2 := lt32 hk c
      rw [if_neg c, if_neg c]
      by_cases q : fX7_row t (nI k) s = (-1 : Int32)
      · rw [if_pos q, if_pos ((h.none ht hk2).mpr q)]
        exact least_2 h ht n (k + 1) (by omega) (by omega)
      · rw [if_neg q, if_neg (fun e => q ((h.none ht hk2).mp e)), if_pos rfl, if_pos rfl]
        exact (end_stay (nI_ne5 hk) n (k + 1) (by omega) (by omega)).symm
theorem least_is {f s : FnI} {t : Int32} (h : RT f s (19 + 32 * t.toNatClampNeg)) (ht : TB t) : fX3_leastKey f = fX7_endKey t (0 : Int32) s := by
  unfold fX3_leastKey fX7_endKey
  exact least_2 h ht 33 0 (by omega) (by omega)
/-- the greatest key below a bound that has a row -/
def lastk (f : FnI) : Nat → Int32
  | 0 => (-5 : Int32)
  | m + 1 => if f m = (-5 : Int32) then lastk f m else nI m
theorem greatest_3 (f : FnI) : ∀ (n m : Nat), m ≤ 32 → m < n → fX3_greatestKey_3 f n (nI m + (-1 : Int32)) = lastk f m
  | 0, _, _, h => absurd h (by omega)
  | n + 1, m, hm, hn => by
    unfold fX3_greatestKey_3
    cases m with
    | zero => rw [if_pos (by decide)]; rfl
    | succ m =>
      rw [pk_m1, if_neg (nI_pos (by omega)), nI_clamp (by omega)]
      unfold lastk
      by_cases q : f m = (-5 : Int32)
      · rw [if_pos q, if_pos q]; exact greatest_3 f n m (by omega) (by omega)
      · rw [if_neg q, if_neg q]
theorem end_last {f s : FnI} {t : Int32} (h : RT f s (19 + 32 * t.toNatClampNeg)) (ht : TB t) : ∀ (n k : Nat), k ≤ 32 → 32 - k < n → fX7_endKey_6 t (1 : Int32) s n (lastk f k) k = lastk f 32
  | 0, _, _, h => absurd h (by omega)
  | n + 1, k, hk, hn => by
    unfold fX7_endKey_6
    by_cases c : (32 : Int32) ≤ nI k
    · rw [if_pos c, ge32 hk c]
    · have hk2 := lt32 hk c
      rw [if_neg c]
      have e : lastk f (k + 1) = if f k = (-5 : Int32) then lastk f k else nI k := rfl
      by_cases q : fX7_row t (nI k) s = (-1 : Int32)
      · rw [if_pos q]
        rw [if_pos ((h.none ht hk2).mpr q)] at e
        rw [← e]
        exact end_last h ht n (k + 1) (by omega) (by omega)
      · rw [if_neg q, if_neg (by decide)]
        rw [if_neg (fun e => q ((h.none ht hk2).mp e))] at e
        rw [← e]
        exact end_last h ht n (k + 1) (by omega) (by omega)
theorem greatest_is {f s : FnI} {t : Int32} (h : RT f s (19 + 32 * t.toNatClampNeg)) (ht : TB t) : fX3_greatestKey f = fX7_endKey t (1 : Int32) s := by
  unfold fX3_greatestKey fX7_endKey
  rw [show (31 : Int32) = nI 32 + (-1 : Int32) from by decide, greatest_3 f 33 32 (by omega) (by omega)]
  exact (end_last h ht 33 0 (by omega) (by omega)).symm
/-! what a row becomes -/
theorem rem_n {a d : Nat} (ha : a < 2 ^ 31) (h0 : 0 < d) (hd : d < 2 ^ 31) {D : Int32} (hD : D = nI d) : nI a - nI a / D * D = nI (a % d) := by rw [hD]; exact pk_rem ha h0 hd
theorem chg {kind key v : Int32} (hk : Bd key 31) (hv : RV v) : fX6_changedValue kind key (fX7_outside v) = fX7_outside (fX7_becomes kind key v) ∧ RV (fX7_becomes kind key v) := by
  rcases hv with h | h
  · subst h
    exact ⟨rfl, Or.inl rfl⟩
  · rw [out_b h (by omega)]
    unfold fX6_changedValue fX7_becomes
    rw [if_neg (bd_ne h (by omega) (by decide)), if_neg (bd_ne h (by omega) (by decide))]
    obtain ⟨a, ha, rfl⟩ := h.num
    obtain ⟨b, hb, rfl⟩ := hk.num
    have e2 : (2 : Int32) * nI a = nI (2 * a) := by rw [show (2 : Int32) = nI 2 from rfl, pk_mul]
    by_cases c1 : kind = (1 : Int32)
    · rw [if_pos c1, if_pos c1, e2, rem_n (d := 100) (D := (100 : Int32)) (by omega) (by omega) (by omega) rfl]
      have hb : Bd (nI (2 * a % 100)) 99 := Bd.of (by omega) (by omega)
      exact ⟨(out_b hb (by omega)).symm, Or.inr hb⟩
    · rw [if_neg c1, if_neg c1]
      by_cases c2 : kind = (2 : Int32)
      · rw [if_pos c2, if_pos c2, rem_n (d := 10) (D := (10 : Int32)) (by omega) (by omega) (by omega) rfl, show (10 : Int32) = nI 10 from rfl, pk_mul, pk_div (by omega) (by omega) (by omega), nI_add]
        have hb : Bd (nI (a % 10 * 10 + a / 10)) 99 := Bd.of (by omega) (by omega)
        exact ⟨(out_b hb (by omega)).symm, Or.inr hb⟩
      · rw [if_neg c2, if_neg c2]
        by_cases c3 : kind = (3 : Int32)
        · rw [if_pos c3, if_pos c3, rem_n (d := 2) (D := (2 : Int32)) (by omega) (by omega) (by omega) rfl]
          by_cases q : a % 2 = 0
          · rw [q, if_pos (show nI 0 = (0 : Int32) from rfl), if_neg (by decide)]
            exact ⟨(out_b h (by omega)).symm, Or.inr h⟩
          · have q1 : a % 2 = 1 := by omega
            rw [q1, if_neg (by decide), if_pos (show nI 1 = (1 : Int32) from rfl)]
            exact ⟨rfl, Or.inl rfl⟩
        · rw [if_neg c3, if_neg c3]
          by_cases c4 : kind = (4 : Int32)
          · rw [if_pos c4, nI_add, rem_n (d := 100) (D := (100 : Int32)) (by omega) (by omega) (by omega) rfl]
            have hb : Bd (nI ((a + b) % 100)) 99 := Bd.of (by omega) (by omega)
            exact ⟨(out_b hb (by omega)).symm, Or.inr hb⟩
          · rw [if_neg c4]
            exact ⟨(out_b h (by omega)).symm, Or.inr h⟩
