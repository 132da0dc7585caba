/-! histories, and the acts with them -/
def RH (τ : HiT) (h : FnI) (k : Int32) : Prop := WH τ ∧ τ.2.2 = k ∧ ∀ i : Nat, i < k.toNatClampNeg → RS (τ.1 ((τ.2.1.toNatClampNeg + i) % 6)) (fun j => h (163 * i + j))
def RP (τ : TPT) (m : MHT) : Prop := RS τ.1 m.1 ∧ RH τ.2 m.2.1 m.2.2
theorem slot6 {a c : Int32} {e : Nat} (ha : Bd a 5) (he : e < 2 ^ 30) : fX1_slotOf (nI e) (a, c) = nI ((a.toNatClampNeg + e) % 6) := by
  obtain ⟨j, hj, rfl⟩ := ha.num
  unfold fX1_slotOf
  dsimp only
  rw [nI_add, rem_n (d := 6) (D := (6 : Int32)) (by omega) (by omega) (by omega) rfl, nI_clamp (by omega)]
theorem slot6c {a : Int32} {c : Nat} (ha : Bd a 5) (hc : c < 2 ^ 30) : (fX1_slotOf (nI c) (a, nI c)).toNatClampNeg = (a.toNatClampNeg + c) % 6 := by
  rw [slot6 ha hc, nI_clamp (by omega)]
theorem up_s {α : Type} {f : Nat → α} {k : Nat} {x : α} : va_up f k x k = x := if_pos rfl
theorem up_n {α : Type} {f : Nat → α} {k j : Nat} {x : α} (h : j ≠ k) : va_up f k x j = f j := if_neg h
theorem rec_10 : ∀ (n k : Nat) (σ : MHT), k ≤ 652 → 652 - k < n → σ.2.2 = (5 : Int32) → ∃ h : FnI, fX7_record_10 n k σ = (σ.1, fX7_copyAll (0 : Int32) (nI 652) σ.1 h, nI 5) ∧ ∀ j : Nat, h j = if k ≤ j ∧ j < 652 then σ.2.1 (163 + j) else σ.2.1 j
  | 0, _, _, _, h, _ => absurd h (by omega)
  | n + 1, k, σ, hk, hn, h5 => by
    unfold fX7_record_10
    by_cases c : (652 : Int32) ≤ nI k
    · have e : k = 652 := by
        have := (nI_leI (a := 652) (b := k) (by omega) (by omega)).mp c
        omega
      rw [if_pos c]
      dsimp only
      rw [h5, show ((163 : Int32) * ((5 : Int32) - (1 : Int32))) = nI 652 from by decide, show ((5 : Int32) - (1 : Int32) + (1 : Int32)) = nI 5 from by decide]
      refine ⟨σ.2.1, rfl, fun j => ?_⟩
      rw [if_neg (by omega)]
    · have hk2 : k < 652 := Nat.lt_of_not_le (fun q => c ((nI_leI (a := 652) (b := k) (by omega) (by omega)).mpr q))
      rw [if_neg c]
      obtain ⟨h, h1, h2⟩ := rec_10 n (k + 1) (σ.1, (upd σ.2.1 k (σ.2.1 (163 + k))), σ.2.2) (by omega) (by omega) h5
      refine ⟨h, h1, fun j => ?_⟩
      rw [h2 j]
      dsimp only
      by_cases e : j = k
      · rw [if_neg (by omega), if_pos (by omega), e, pk_us]
      · by_cases g : k ≤ j ∧ j < 652
        · rw [if_pos (by omega), if_pos g, pk_un (by omega)]
        · rw [if_neg (by omega), if_neg g, pk_un e]
theorem rec_5 (s h : FnI) : ∃ h' : FnI, fX7_record (s, h, (5 : Int32)) = (s, fX7_copyAll (0 : Int32) (nI 652) s h', nI 5) ∧ ∀ j : Nat, j < 652 → h' j = h (163 + j) := by
  unfold fX7_record
  rw [if_pos rfl]
  obtain ⟨h', h1, h2⟩ := rec_10 653 0 (s, h, (5 : Int32)) (by omega) (by omega) rfl
  exact ⟨h', h1, fun j hj => by rw [h2 j, if_pos (by omega)]⟩
theorem rec_n (s h : FnI) {c : Nat} (hc : c < 5) : fX7_record (s, h, nI c) = (s, fX7_copyAll (0 : Int32) (nI (163 * c)) s h, nI (c + 1)) := by
  unfold fX7_record
  dsimp only
  rw [if_neg (fun e => ?_), show (163 : Int32) * nI c = nI (163 * c) from pk_mul 163 c, nI_1]
  have h1 := congrArg Int32.toInt e
  rw [nI_toInt (by omega), show (5 : Int32).toInt = 5 from by decide] at h1
  omega
theorem cp_at {s h : FnI} {b j : Nat} (hb : b < 2 ^ 31) (hj : j < 163) : fX7_copyAll (0 : Int32) (nI b) s h (b + j) = s j := by
  rw [copy_is, nI_clamp hb, if_pos (by omega), show (0 : Int32).toNatClampNeg = 0 from by decide]
  exact congrArg s (by omega)
theorem cp_un {s h : FnI} {b j : Nat} (hb : b < 2 ^ 31) (hj : j < b) : fX7_copyAll (0 : Int32) (nI b) s h j = h j := by
  rw [copy_is, nI_clamp hb, if_neg (by omega)]
theorem rec_RH {τ : HiT} {s h : FnI} {k : Int32} {υ : StT} (R : RS υ s) (H : RH τ h k) : RH (va_up τ.1 (fX1_slotOf τ.2.2 τ.2).toNatClampNeg υ, fX1_keepPrepared τ.2) (fX7_record (s, h, k)).2.1 (fX7_record (s, h, k)).2.2 := by
  obtain ⟨f, a, c⟩ := τ
  obtain ⟨⟨h1, h2, h3⟩, h4, h5⟩ := H
  dsimp only at h1 h2 h3 h4 h5 ⊢
  subst h4
  obtain ⟨N, hN, rfl⟩ := h2.num
  rw [nI_clamp (by omega)] at h5
  rw [slot6c h1 (by omega)]
  have hup : ∀ i : Nat, BL (va_up f ((a.toNatClampNeg + N) % 6) υ i).2.2.1 := fun i => by
    by_cases e : i = (a.toNatClampNeg + N) % 6
    · rw [e, up_s]; exact R.1.2.2
    · rw [up_n e]; exact h3 i
  unfold fX1_keepPrepared
  dsimp only
  by_cases c5 : (5 : Int32) ≤ nI N
  · have e : N = 5 := by
      have := (nI_leI (a := 5) (b := N) (by omega) (by omega)).mp c5
      omega
    subst e
    rw [if_pos c5]
    obtain ⟨h', e1, e2⟩ := rec_5 s h
    rw [show fX7_record (s, h, nI 5) = (s, fX7_copyAll (0 : Int32) (nI 652) s h', nI 5) from e1, show fX1_slotOf (1 : Int32) (a, nI 5) = nI ((a.toNatClampNeg + 1) % 6) from slot6 (e := 1) h1 (by omega)]
    refine ⟨⟨Bd.of (by omega) (by omega), Bd.of (by omega) (by omega), hup⟩, rfl, fun i hi => ?_⟩
    dsimp only at hi ⊢
    rw [nI_clamp (by omega)] at hi
    rw [nI_clamp (by omega)]
    by_cases e : i = 4
    · subst e
      rw [show ((a.toNatClampNeg + 1) % 6 + 4) % 6 = (a.toNatClampNeg + 5) % 6 from by omega, up_s]
      exact R.congr (fun j hj => cp_at (b := 652) (by omega) hj)
    · have := h1.2
      rw [up_n (by omega), show ((a.toNatClampNeg + 1) % 6 + i) % 6 = (a.toNatClampNeg + (i + 1)) % 6 from by omega]
      refine (h5 (i + 1) (by omega)).congr (fun j hj => ?_)
      show fX7_copyAll (0 : Int32) (nI 652) s h' (163 * i + j) = h (163 * (i + 1) + j)
      rw [cp_un (b := 652) (by omega) (by omega), e2 _ (by omega)]
      exact congrArg h (by omega)
  · have e : N < 5 := Nat.lt_of_not_le (fun q => c5 ((nI_leI (a := 5) (b := N) (by omega) (by omega)).mpr q))
    rw [if_neg c5, rec_n s h e, nI_1]
    refine ⟨⟨h1, Bd.of (by omega) (by omega), hup⟩, rfl, fun i hi => ?_⟩
    dsimp only at hi ⊢
    rw [nI_clamp (by omega)] at hi
    by_cases g : i = N
    · subst g
      rw [up_s]
      exact R.congr (fun j hj => cp_at (by omega) hj)
    · have := h1.2
      rw [up_n (by omega)]
      refine (h5 i (by omega)).congr (fun j hj => ?_)
      exact cp_un (by omega) (by omega)
theorem prep_RH {τ : HiT} {h : FnI} {k : Int32} {υ : StT} (hb : BL υ.2.2.1) (H : RH τ h k) : RH (va_up τ.1 (fX1_slotOf τ.2.2 τ.2).toNatClampNeg υ, τ.2) h k := by
  obtain ⟨f, a, c⟩ := τ
  obtain ⟨⟨h1, h2, h3⟩, h4, h5⟩ := H
  dsimp only at h1 h2 h3 h4 h5 ⊢
  subst h4
  obtain ⟨N, hN, rfl⟩ := h2.num
  rw [nI_clamp (by omega)] at h5
  rw [slot6c h1 (by omega)]
  refine ⟨⟨h1, h2, fun i => ?_⟩, rfl, fun i hi => ?_⟩
  · dsimp only
    by_cases e : i = (a.toNatClampNeg + N) % 6
    · rw [e, up_s]; exact hb
    · rw [up_n e]; exact h3 i
  · dsimp only
    rw [nI_clamp (by omega)] at hi
    rw [up_n (by omega)]
    exact h5 i hi
/-- an act of the class, with its history; an act of the reference -/
def cAct (τ : TPT) (c : Int32 × StT) : Int32 × TPT := match c with | (r, u) => match fX6_recorded r (fX1_prepare τ.2 τ.1).2 with | (r2, u2) => (r2, (u, ((fX1_prepare τ.2 τ.1).1, u2.1, u2.2)))
def mAct (m : MHT) (e : Int32) (d : Int32 × FnI) : Int32 × MHT := if (0 : Int32) ≤ e then (d.1, (d.2, (fX7_record m).2.1, (fX7_record m).2.2)) else (e, m)
theorem wrap {τ : TPT} {m : MHT} (R : RP τ m) {c : Int32 × StT} {e : Int32} {d : Int32 × FnI} (A : Act c e d m.1) : (cAct τ c).1 = (mAct m e d).1 ∧ RP (cAct τ c).2 (mAct m e d).2 := by
  obtain ⟨r, u⟩ := c
  unfold cAct mAct fX6_recorded
  dsimp only
  rcases A with ⟨a1, a2, a3, a4⟩ | ⟨a1, a2, a3, a4⟩
  · rw [if_pos a1, if_pos a4]
    exact ⟨a2, a3, rec_RH (τ := τ.2) R.1 R.2⟩
  · rw [if_neg a1, if_neg a4]
    exact ⟨a2, a3, prep_RH R.1.1.2.2 R.2⟩
theorem eq_put (k v : Int32) (m : MHT) : fX7_put k v m = mAct m (fX7_putError k v m.1) (fX7_doChange k v m.1) := by
  unfold fX7_put mAct
  dsimp only
  rw [rec_s]
theorem eq_erase (k : Int32) (m : MHT) : fX7_erase k m = mAct m (fX7_eraseError k m.1) (fX7_doErase k m.1) := by
  unfold fX7_erase mAct
  dsimp only
  rw [rec_s]
theorem eq_begin (a b : Int32) (m : MHT) : fX7_begin a b m = mAct m (fX7_beginError a b m.1) (fX7_doBegin a b m.1) := by
  unfold fX7_begin mAct
  dsimp only
  rw [rec_s]
theorem eq_lock (m : MHT) : fX7_lock m = mAct m (fX7_phaseError (2 : Int32) m.1) (fX7_doLock m.1) := by
  unfold fX7_lock mAct
  dsimp only
  rw [rec_s]
theorem eq_unlock (m : MHT) : fX7_unlock m = mAct m (fX7_phaseError (3 : Int32) m.1) (fX7_doUnlock m.1) := by
  unfold fX7_unlock mAct
  dsimp only
  rw [rec_s]
theorem eq_swap (m : MHT) : fX7_swap m = mAct m (fX7_swapError m.1) (fX7_doSwap m.1) := by
  unfold fX7_swap mAct
  dsimp only
  rw [rec_s]
theorem eq_giveUp (m : MHT) : fX7_giveUp m = mAct m (if fX7_isCopy m.1 = (0 : Int32) then (-4 : Int32) else (0 : Int32)) (fX7_doGiveUp m.1) := by
  unfold fX7_giveUp mAct
  by_cases c : fX7_isCopy m.1 = (0 : Int32)
  · rw [if_pos c, if_pos c, if_neg (by decide)]
  · rw [if_neg c, if_neg c, if_pos (by decide)]
    dsimp only
    rw [rec_s]
theorem eq_tick (p : Int32) (m : MHT) : fX7_tick p m = mAct m (tickErr p) (fX7_doTick p m.1) := by
  unfold fX7_tick mAct tickErr
  by_cases c : fX7_in p (1 : Int32) (99 : Int32) = (0 : Int32)
  · rw [if_pos c, if_pos c, if_neg (by decide)]
  · rw [if_neg c, if_neg c, if_pos (by decide)]
    dsimp only
    rw [rec_s]
theorem eq_set (p v : Int32) (m : MHT) : fX7_set p v m = mAct m (setErr p v) (m.1 (7 + p.toNatClampNeg), upd m.1 (7 + p.toNatClampNeg) v) := by
  unfold fX7_set mAct setErr
  by_cases c : fX7_in p (0 : Int32) (3 : Int32) = (0 : Int32)
  · rw [if_pos c, if_pos c, if_neg (by decide)]
  · rw [if_neg c, if_neg c]
    by_cases d : fX7_fits p v = (0 : Int32)
    · rw [if_pos d, if_pos d, if_neg (by decide)]
    · rw [if_neg d, if_neg d, if_pos (by decide)]
      dsimp only
      rw [rec_s]
section BOTH
variable {τ : TPT} {m : MHT}
theorem B_put (R : RP τ m) (k v : Int32) : (fX6_put k v τ).1 = (fX7_put k v m).1 ∧ RP (fX6_put k v τ).2 (fX7_put k v m).2 := by
  rw [eq_put]; exact wrap R (A_put R.1)
theorem B_erase (R : RP τ m) (k : Int32) : (fX6_erase k τ).1 = (fX7_erase k m).1 ∧ RP (fX6_erase k τ).2 (fX7_erase k m).2 := by
  rw [eq_erase]; exact wrap R (A_erase R.1)
theorem B_begin (R : RP τ m) (a b : Int32) : (fX6_begin a b τ).1 = (fX7_begin a b m).1 ∧ RP (fX6_begin a b τ).2 (fX7_begin a b m).2 := by
  rw [eq_begin]; exact wrap R (A_begin R.1)
theorem B_tick (R : RP τ m) (p : Int32) : (fX6_tick p τ).1 = (fX7_tick p m).1 ∧ RP (fX6_tick p τ).2 (fX7_tick p m).2 := by
  rw [eq_tick]; exact wrap R (A_tick R.1)
theorem B_lock (R : RP τ m) : (fX6_lock τ).1 = (fX7_lock m).1 ∧ RP (fX6_lock τ).2 (fX7_lock m).2 := by
  rw [eq_lock]; exact wrap R (A_lock R.1)
theorem B_unlock (R : RP τ m) : (fX6_unlock τ).1 = (fX7_unlock m).1 ∧ RP (fX6_unlock τ).2 (fX7_unlock m).2 := by
  rw [eq_unlock]; exact wrap R (A_unlock R.1)
theorem B_swap (R : RP τ m) : (fX6_swap τ).1 = (fX7_swap m).1 ∧ RP (fX6_swap τ).2 (fX7_swap m).2 := by
  rw [eq_swap]; exact wrap R (A_swap R.1)
theorem B_giveUp (R : RP τ m) : (fX6_giveUp τ).1 = (fX7_giveUp m).1 ∧ RP (fX6_giveUp τ).2 (fX7_giveUp m).2 := by
  rw [eq_giveUp]; exact wrap R (A_giveUp R.1)
theorem B_set (R : RP τ m) (p v : Int32) : (fX6_set p v τ).1 = (fX7_set p v m).1 ∧ RP (fX6_set p v τ).2 (fX7_set p v m).2 := by
  rw [eq_set]; exact wrap R (A_set R.1)
theorem B_undo (R : RP τ m) : (fX6_undo τ).1 = (fX7_undo m).1 ∧ RP (fX6_undo τ).2 (fX7_undo m).2 := by
  obtain ⟨υ, f, a, c⟩ := τ
  obtain ⟨s, h, k⟩ := m
  obtain ⟨R0, ⟨⟨h1, h2, h3⟩, h4, h5⟩⟩ := R
  dsimp only at R0 h1 h2 h3 h4 h5
  subst h4
  unfold fX6_undo fX7_undo fX1_takeBack
  dsimp only
  by_cases c0 : c = (0 : Int32)
  · rw [if_pos c0, if_pos c0]
    exact ⟨rfl, R0, ⟨h1, h2, h3⟩, rfl, h5⟩
  · rw [if_neg c0, if_neg c0]
    obtain ⟨N, hN, rfl⟩ := h2.num
    cases N with
    | zero => exact absurd rfl c0
    | succ N =>
      have e1 : nI (N + 1) - (1 : Int32) = nI N := by rw [← nI_1]; exact Int32.add_sub_cancel _ _
      have e2 : (163 : Int32) * nI N = nI (163 * N) := pk_mul 163 N
      have e3 : (0 : Int32).toNatClampNeg = 0 := by decide
      rw [nI_clamp (by omega)] at h5
      dsimp only
      rw [e1, slot6c h1 (by omega), e2]
      refine ⟨rfl, ?_, ⟨h1, Bd.of (by omega) (by omega), h3⟩, rfl, fun i hi => ?_⟩
      · refine (h5 N (by omega)).congr (fun j hj => ?_)
        dsimp only
        rw [copy_is, nI_clamp (by omega), e3, if_pos (by omega)]
        exact congrArg h (by omega)
      · dsimp only at hi ⊢
        rw [nI_clamp (by omega)] at hi
        exact h5 i (by omega)
end BOTH
/-- the snapshot -/
theorem B_save {τ : TST} {m : MVT} (R : RS τ.1 m.1) : (fX6_save τ).1 = (fX7_save m).1 ∧ (fX6_save τ).2 = (τ.1, τ.1, (1 : Int32)) ∧ (fX7_save m).2.1 = m.1 ∧ (fX7_save m).2.2.2 = (1 : Int32) ∧ RS τ.1 (fX7_save m).2.2.1 := by
  unfold fX6_save fX7_save
  dsimp only
  exact ⟨cnt_0 R.2.2.1, rfl, rfl, rfl, R.congr (fun j hj => copy_0 _ _ hj)⟩
theorem B_restore {τ : TRT} {m : MWT} (R : RP (τ.1, τ.2.2.1) (m.1, m.2.1, m.2.2.1)) (hh : τ.2.2.2 = m.2.2.2.2) (S : ¬ m.2.2.2.2 = (0 : Int32) → RS τ.2.1 m.2.2.2.1) : (fX6_restore τ).1 = (fX7_restore m).1 ∧ RP ((fX6_restore τ).2.1, (fX6_restore τ).2.2.2.1) ((fX7_restore m).2.1, (fX7_restore m).2.2.1, (fX7_restore m).2.2.2.1) ∧ (fX6_restore τ).2.2.1 = τ.2.1 ∧ (fX6_restore τ).2.2.2.2 = τ.2.2.2 ∧ (fX7_restore m).2.2.2.2 = m.2.2.2 := by
  unfold fX6_restore fX7_restore
  by_cases c : m.2.2.2.2 = (0 : Int32)
  · rw [if_pos (hh.trans c), if_pos c]
    exact ⟨rfl, R, rfl, rfl, rfl⟩
  · rw [if_neg (fun q => c (hh.symm.trans q)), if_neg c]
    have S := S c
    have S2 : ∀ t : FnI, RS τ.2.1 (fX7_copyAll (0 : Int32) (0 : Int32) m.2.2.2.1 t) := fun t => S.congr (fun j hj => copy_0 _ _ hj)
    have i0 : fX6_isError (fX3_count τ.2.1.1) = (0 : Int32) := ie_bd (count_b _) (by omega)
    unfold fX6_recorded
    dsimp only
    rw [take_is, if_pos i0]
    dsimp only
    refine ⟨?_, ⟨?_, ?_⟩, ?_, ?_, ?_⟩
    · exact cnt_0 (S2 _).2.2.1
    · dsimp only
      exact S2 _
    · dsimp only
      exact rec_RH (τ := τ.2.2.1) R.1 R.2
    · dsimp only
    · dsimp only
    · dsimp only
