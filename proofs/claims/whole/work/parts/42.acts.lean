/-! the acts, one by one -/
theorem R_ph {τ : StT} {s : FnI} (R : RS τ s) : τ.2.2.2.1.2.2.1 = s 0 := R.2.2.2.2.2.1.2.1
theorem ce_3 {s : FnI} (h : s 0 = (3 : Int32)) : fX7_changeError s = (-4 : Int32) := by
  unfold fX7_changeError
  rw [if_pos h]
theorem A_put {τ : StT} {s : FnI} {k v : Int32} (R : RS τ s) : Act (fX5_putRow k v τ) (fX7_putError k v s) (fX7_doChange k v s) s := by
  have hp := R_ph R
  unfold fX5_putRow fX7_putError
  by_cases c1 : fX7_isKey k = (0 : Int32)
  · rw [if_pos (show fX6_isKey k = (0 : Int32) from c1), if_pos c1]
    exact Act.no (by decide) rfl R (by decide)
  · rw [if_neg (show ¬ fX6_isKey k = (0 : Int32) from c1), if_neg c1]
    by_cases c2 : fX7_in v (0 : Int32) (99 : Int32) = (0 : Int32)
    · rw [if_pos (show fX6_isValue v = (0 : Int32) from c2), if_pos c2]
      exact Act.no (by decide) rfl R (by decide)
    · rw [if_neg (show ¬ fX6_isValue v = (0 : Int32) from c2), if_neg c2]
      by_cases c3 : s 0 = (3 : Int32)
      · rw [if_pos (hp.trans c3), ce_3 c3]
        exact Act.no (by decide) rfl R (by decide)
      · rw [if_neg (fun q => c3 (hp.symm.trans q))]
        have h := A_change R (zz_isKey7 c1) (Or.inr (bval c2)) c3
        rw [out_b (bval c2) (by omega)] at h
        generalize fX5_changeRow k v τ = q at h ⊢
        obtain ⟨r, u⟩ := q
        exact h
theorem A_erase {τ : StT} {s : FnI} {k : Int32} (R : RS τ s) : Act (fX5_eraseRow k τ) (fX7_eraseError k s) (fX7_doErase k s) s := by
  have hp := R_ph R
  unfold fX5_eraseRow fX7_eraseError
  by_cases c1 : fX7_isKey k = (0 : Int32)
  · rw [if_pos (show fX6_isKey k = (0 : Int32) from c1), if_pos c1]
    exact Act.no (by decide) rfl R (by decide)
  · rw [if_neg (show ¬ fX6_isKey k = (0 : Int32) from c1), if_neg c1]
    have hk := zz_isKey7 c1
    by_cases c3 : s 0 = (3 : Int32)
    · rw [if_pos (hp.trans c3), if_pos c3, ce_3 c3, ite_self]
      exact Act.no (by decide) rfl R (by decide)
    · rw [if_neg (fun q => c3 (hp.symm.trans q)), if_neg c3]
      unfold fX7_doErase
      have hr : fX3_at k τ.1 = fX7_outside (fX7_row (0 : Int32) k s) ∧ RV (fX7_row (0 : Int32) k s) := by
        rw [at_is hk, row0 hk]
        exact R.2.2.1 _ (bdk hk)
      by_cases c4 : fX7_row (0 : Int32) k s = (-1 : Int32)
      · rw [if_pos (hr.1.trans ((out_i hr.2).mpr c4)), if_pos c4, if_pos c4]
        exact Act.yes (by decide) rfl R (show fX6_isError (-5 : Int32) = (0 : Int32) by decide)
      · rw [if_neg (fun q => c4 ((out_i hr.2).mp (hr.1.symm.trans q))), if_neg c4, if_neg c4]
        have h := A_change R hk (Or.inl rfl) c3
        rw [out_m] at h
        generalize fX5_changeRow k (-5 : Int32) τ = q at h ⊢
        obtain ⟨r, u⟩ := q
        generalize fX7_doChange k (-1 : Int32) s = q2 at h ⊢
        obtain ⟨r2, u2⟩ := q2
        exact h
theorem fill_5 (v : Int32) : ∀ (n k : Nat) (σ : FnI), k ≤ 32 → 32 - k < n → ∀ j : Nat, fJ7_fill_53178_5 v n k σ j = if k ≤ j ∧ j < 32 then v else σ j
  | 0, _, _, _, h => absurd h (by omega)
  | n + 1, k, σ, hk, hn => fun j => by
    unfold fJ7_fill_53178_5
    by_cases c : (32 : Int32) ≤ nI k
    · rw [if_pos c, if_neg (by have := ge32 hk c; omega)]
    · have hk2 := lt32 hk c
      rw [if_neg c, fill_5 v n (k + 1) _ (by omega) (by omega) j]
      by_cases q : j = k
      · subst q
        rw [if_neg (by omega), pk_us, if_pos (by omega)]
      · rw [pk_un q]
        by_cases r : k ≤ j ∧ j < 32
        · rw [if_pos r, if_pos (by omega)]
        · rw [if_neg r, if_neg (by omega)]
theorem fill_is (v : Int32) (σ : FnI) {k : Nat} (hk : k < 32) : fJ7_fill_53178 v σ k = v := by
  unfold fJ7_fill_53178
  rw [fill_5 v 33 0 σ (by omega) (by omega) k, if_pos (by omega)]
theorem begin_37 (a b : Int32) : ∀ (n k : Nat) (σ : FnI), k ≤ 32 → 32 - k < n → ∃ u : FnI, fX7_doBegin_37 a b n k σ = (fX7_rows (0 : Int32) u, u) ∧ ∀ j : Nat, u j = if j = 11 then σ 11 + (1 : Int32) else if 51 + k ≤ j ∧ j < 83 then (-1 : Int32) else σ j
  | 0, _, _, _, h => absurd h (by omega)
  | n + 1, k, σ, hk, hn => by
    unfold fX7_doBegin_37
    by_cases c : (32 : Int32) ≤ nI k
    · rw [if_pos c]
      refine ⟨_, rfl, fun j => ?_⟩
      have := ge32 hk c
      by_cases q : j = 11
      · rw [if_pos q, q, pk_us]
      · rw [if_neg q, pk_un q, if_neg (by omega)]
    · have hk2 := lt32 hk c
      rw [if_neg c]
      dsimp only
      rw [lay1 (bnI (by omega) (by omega)), nI_clamp (by omega)]
      obtain ⟨u, h1, h2⟩ := begin_37 a b n (k + 1) (upd σ (51 + k) (-1 : Int32)) (by omega) (by omega)
      refine ⟨u, h1, fun j => ?_⟩
      rw [h2 j]
      by_cases q : j = 11
      · rw [if_pos q, if_pos q, pk_un (by omega)]
      · rw [if_neg q, if_neg q]
        by_cases r : 51 + (k + 1) ≤ j ∧ j < 83
        · rw [if_pos r, if_pos (by omega)]
        · rw [if_neg r]
          by_cases t : j = 51 + k
          · rw [if_pos (by omega), t, pk_us]
          · rw [if_neg (by omega), pk_un t]
theorem begin_u (a b : Int32) (s : FnI) : ∃ u : FnI, fX7_doBegin a b s = (fX7_rows (0 : Int32) u, u) ∧ (∀ j : Nat, 5 ≤ j → j ≠ 11 → (j < 51 ∨ 83 ≤ j) → u j = s j) ∧ (u 0 = (1 : Int32) ∧ u 1 = a ∧ u 2 = b ∧ u 3 = (0 : Int32) ∧ u 4 = (0 : Int32)) ∧ u 11 = s 11 + (1 : Int32) ∧ ∀ k : Nat, k < 32 → u (51 + k) = (-1 : Int32) := by
  unfold fX7_doBegin
  obtain ⟨u, h1, h2⟩ := begin_37 a b 33 0 (upd (upd (upd (upd (upd s 0 (1 : Int32)) 1 a) 2 b) 3 (0 : Int32)) 4 (0 : Int32)) (by omega) (by omega)
  refine ⟨u, h1, fun j h5 h11 h => ?_, ⟨?_, ?_, ?_, ?_, ?_⟩, ?_, fun k hk => ?_⟩
  · rw [h2 j, if_neg h11, if_neg (by omega), pk_un (by omega), pk_un (by omega), pk_un (by omega), pk_un (by omega), pk_un (by omega)]
  · rw [h2 0]; rfl
  · rw [h2 1]; rfl
  · rw [h2 2]; rfl
  · rw [h2 3]; rfl
  · rw [h2 4]; rfl
  · rw [h2 11]; rfl
  · rw [h2 _, if_neg (by omega), if_pos (by omega)]
theorem swap_2 : ∀ (n k : Nat) (σ : FnI), k ≤ 32 → 32 - k < n → ∃ u : FnI, fX7_doSwap_2 n k σ = (fX7_rows (0 : Int32) u, u) ∧ ∀ j : Nat, u j = if j = 12 then σ 12 + (1 : Int32) else if j = 4 then (0 : Int32) else if j = 0 then (0 : Int32) else if j = 6 then (1 : Int32) else if 19 + k ≤ j ∧ j < 51 then σ (j + 32) else if 83 + k ≤ j ∧ j < 115 then σ (j - 64) else σ j
  | 0, _, _, _, h => absurd h (by omega)
  | n + 1, k, σ, hk, hn => by
    unfold fX7_doSwap_2
    by_cases c : (32 : Int32) ≤ nI k
    · rw [if_pos c]
      unfold fX7_endCopy
      refine ⟨_, rfl, fun j => ?_⟩
      have := ge32 hk c
      by_cases q : j = 12
      · rw [if_pos q, q, pk_us]; rfl
      · rw [if_neg q, pk_un q]
        by_cases q4 : j = 4
        · rw [if_pos q4, q4, pk_us]
        · rw [if_neg q4, pk_un q4]
          by_cases q0 : j = 0
          · rw [if_pos q0, q0, pk_us]
          · rw [if_neg q0, pk_un q0]
            by_cases q6 : j = 6
            · rw [if_pos q6, q6, pk_us]
            · rw [if_neg q6, pk_un q6, if_neg (by omega), if_neg (by omega)]
    · have hk2 := lt32 hk c
      rw [if_neg c]
      dsimp only
      have hb : Bd (nI k) 31 := bnI (by omega) (by omega)
      rw [lay2 hb, row0 hb, lay0 hb, row1 hb, nI_clamp (by omega)]
      obtain ⟨u, h1, h2⟩ := swap_2 n (k + 1) (upd (upd σ (83 + k) (σ (19 + k))) (19 + k) (upd σ (83 + k) (σ (19 + k)) (51 + k))) (by omega) (by omega)
      refine ⟨u, h1, fun j => ?_⟩
      rw [h2 j]
      by_cases q : j = 12
      · rw [if_pos q, if_pos q, pk_un (by omega), pk_un (by omega)]
      · rw [if_neg q, if_neg q]
        by_cases q4 : j = 4
        · rw [if_pos q4, if_pos q4]
        · rw [if_neg q4, if_neg q4]
          by_cases q0 : j = 0
          · rw [if_pos q0, if_pos q0]
          · rw [if_neg q0, if_neg q0]
            by_cases q6 : j = 6
            · rw [if_pos q6, if_pos q6]
            · rw [if_neg q6, if_neg q6]
              by_cases t : j = 19 + k
              · rw [if_neg (by omega), if_neg (by omega), if_pos (by omega), t, pk_us, pk_un (by omega)]
                exact congrArg σ (by omega)
              · by_cases r : 19 + (k + 1) ≤ j ∧ j < 51
                · rw [if_pos r, if_pos (by omega), pk_un (by omega), pk_un (by omega)]
                · rw [if_neg r]
                  by_cases t2 : j = 83 + k
                  · rw [if_neg (show ¬ (83 + (k + 1) ≤ j ∧ j < 115) by omega), if_neg (show ¬ (19 + k ≤ j ∧ j < 51) by omega), if_pos (show 83 + k ≤ j ∧ j < 115 by omega), pk_un t, t2, pk_us]
                    exact congrArg σ (by omega)
                  · by_cases r2 : 83 + (k + 1) ≤ j ∧ j < 115
                    · rw [if_pos r2, if_neg (show ¬ (19 + k ≤ j ∧ j < 51) by omega), if_pos (show 83 + k ≤ j ∧ j < 115 by omega), pk_un (by omega), pk_un (by omega)]
                    · rw [if_neg r2, if_neg (show ¬ (19 + k ≤ j ∧ j < 51) by omega), if_neg (show ¬ (83 + k ≤ j ∧ j < 115) by omega), pk_un t, pk_un t2]
theorem swap_u (s : FnI) : ∃ u : FnI, fX7_doSwap s = (fX7_rows (0 : Int32) u, u) ∧ (∀ j : Nat, j ≠ 0 → j ≠ 4 → j ≠ 6 → j ≠ 12 → (j < 19 ∨ (51 ≤ j ∧ j < 83) ∨ 115 ≤ j) → u j = s j) ∧ (u 0 = (0 : Int32) ∧ u 4 = (0 : Int32) ∧ u 6 = (1 : Int32)) ∧ u 12 = s 12 + (1 : Int32) ∧ (∀ k : Nat, k < 32 → u (19 + k) = s (51 + k)) ∧ ∀ k : Nat, k < 32 → u (83 + k) = s (19 + k) := by
  unfold fX7_doSwap
  obtain ⟨u, h1, h2⟩ := swap_2 33 0 s (by omega) (by omega)
  refine ⟨u, h1, fun j g0 g4 g6 g12 h => ?_, ⟨?_, ?_, ?_⟩, ?_, fun k hk => ?_, fun k hk => ?_⟩
  · rw [h2 j, if_neg g12, if_neg g4, if_neg g0, if_neg g6, if_neg (by omega), if_neg (by omega)]
  · rw [h2 0]; rfl
  · rw [h2 4]; rfl
  · rw [h2 6]; rfl
  · rw [h2 12]; rfl
  · rw [h2 _, if_neg (by omega), if_neg (by omega), if_neg (by omega), if_neg (by omega), if_pos (by omega)]
    exact congrArg s (by omega)
  · rw [h2 _, if_neg (by omega), if_neg (by omega), if_neg (by omega), if_neg (by omega), if_neg (by omega), if_pos (by omega)]
    exact congrArg s (by omega)
theorem cnt_0 {f s : FnI} (h : RT f s 19) : fX3_count f = fX7_rows (0 : Int32) s := count_is (t := (0 : Int32)) h zz_T0
theorem cnt_1 {f s : FnI} (h : RT f s 51) : fX3_count f = fX7_rows (1 : Int32) s := count_is (t := (1 : Int32)) h zz_T1
set_option maxHeartbeats 1000000 in
theorem A_begin {τ : StT} {s : FnI} {a b : Int32} (R : RS τ s) : Act (fX5_beginCopy a b τ) (fX7_beginError a b s) (fX7_doBegin a b s) s := by
  have hp := R_ph R
  have R0 := R
  obtain ⟨hw, hm, hc⟩ := R
  have hw2 := ws_begin (Prod.eta (fX5_beginCopy a b τ)).symm hw
  have hm2 := WM_begin a b s
  unfold fX5_beginCopy at hw2 ⊢
  unfold fX7_beginError
  by_cases c1 : fX7_in a (0 : Int32) (4 : Int32) = (0 : Int32)
  · rw [if_pos (show fX6_isKind a = (0 : Int32) from c1), if_pos c1]
    exact Act.no (by decide) rfl R0 (by decide)
  · rw [if_neg (show ¬ fX6_isKind a = (0 : Int32) from c1)] at hw2 ⊢
    rw [if_neg c1]
    by_cases c2 : fX7_in b (1 : Int32) (8 : Int32) = (0 : Int32)
    · rw [if_pos (show fX6_isLot b = (0 : Int32) from c2), if_pos c2]
      exact Act.no (by decide) rfl R0 (by decide)
    · rw [if_neg (show ¬ fX6_isLot b = (0 : Int32) from c2)] at hw2 ⊢
      rw [if_neg c2]
      by_cases c3 : s 0 = (0 : Int32)
      · rw [if_pos (hc_0.mpr (hp.trans c3))] at hw2 ⊢
        rw [if_pos (ic_0.mpr c3)]
        obtain ⟨u, e2, u1, ⟨u20, u21, u22, u23, u24⟩, u3, u4⟩ := begin_u a b s
        rw [e2] at hm2 ⊢
        obtain ⟨lv, od, ho, ⟨sh, ⟨ks, vs, st, sz⟩, ph, kd, lt, cu, ag⟩, se, to⟩ := τ
        dsimp only at hc
        obtain ⟨hlv, hsh, hod, ⟨rfl, rfl, rfl, rfl, rfl, rfl⟩, hse, hto, hb, hz, hg⟩ := hc
        unfold fX0_start fX3_removeAll fX2_removeAll at hw2 ⊢
        dsimp only at hw2 ⊢
        have hl2 : RT lv u 19 := hlv.frame (fun k hk => u1 _ (by omega) (by omega) (by omega))
        refine Act.yes (by decide) (cnt_0 hl2) ⟨hw2, hm2, ?_⟩ (by rw [← cnt_0 hl2]; exact ie_bd (count_b lv) (by omega))
        dsimp only
        refine ⟨hl2, fun k hk => ?_, hod.frame (fun k hk => u1 _ (by omega) (by omega) (by omega)), ⟨?_, ?_, ?_, ?_, ?_, ?_⟩, fun q hq => ?_, ?_, ?_, fun q => ?_, fun q => ?_⟩
        · rw [u4 k hk, fill_is _ _ hk]; exact ⟨rfl, Or.inl rfl⟩
        · exact (u1 6 (by omega) (by omega) (by omega)).symm
        · exact u20.symm
        · exact u21.symm
        · exact u22.symm
        · exact u23.symm
        · exact (u1 5 (by omega) (by omega) (by omega)).symm
        · rw [u1 _ (by omega) (by omega) (by omega)]; exact hse q hq
        · exact tot_fr hto (i := 0) (by omega) u3 (fun q h1 h2 => u1 _ (by omega) (by omega) (by omega))
        · unfold RB
          rw [u20, u1 5 (by omega) (by omega) (by omega), u1 9 (by omega) (by omega) (by omega)]
          exact And.intro (Bd.of (j := 1) (by omega) (by omega)) (And.intro hb.2.1 (And.intro (fun q => absurd q (by decide)) (And.intro (fun q hq => by rw [u1 _ (by omega) (by omega) (by omega)]; exact hb.2.2.2.1 q hq) hb.2.2.2.2)))
        · exact u24
        · rw [u24]
          exact ⟨rfl, fun i hi => absurd hi (Nat.not_lt_zero i)⟩
      · rw [if_neg (fun q => c3 (hp.symm.trans (hc_0.mp q))), if_neg (fun q => c3 (ic_0.mp q))]
        exact Act.no (by decide) rfl R0 (by decide)
set_option maxHeartbeats 1000000 in
theorem A_swap {τ : StT} {s : FnI} (R : RS τ s) : Act (fX5_swapTables τ) (fX7_swapError s) (fX7_doSwap s) s := by
  have hp := R_ph R
  have R0 := R
  obtain ⟨hw, hm, hc⟩ := R
  have hw2 := ws_swap (Prod.eta (fX5_swapTables τ)).symm hw
  have hm2 : WM (fX7_doSwap s).2 := q_swap (Prod.eta (fX7_doSwap s)).symm hm
  unfold fX5_swapTables at hw2 ⊢
  unfold fX7_swapError
  by_cases c1 : s 0 = (3 : Int32)
  · rw [if_pos (hp.trans c1)] at hw2 ⊢
    rw [if_pos c1]
    have hg := hc.2.2.2.2.2.2.2.2
    have c0 : ¬ s 0 = (0 : Int32) := by rw [c1]; decide
    have hsz : τ.2.2.2.1.2.1.2.2.2 = s 4 := (hg c0).1
    by_cases c2 : s 4 = (0 : Int32)
    · rw [if_pos (by rw [hsz, c2]; decide)] at hw2 ⊢
      rw [if_pos c2]
      obtain ⟨u, e2, u1, ⟨u20, u24, u26⟩, u3, u4, u5⟩ := swap_u s
      rw [e2] at hm2 ⊢
      obtain ⟨lv, od, ho, ⟨sh, ⟨ks, vs, st, sz⟩, ph, kd, lt, cu, ag⟩, se, to⟩ := τ
      dsimp only at hc
      obtain ⟨hlv, hsh, hod, ⟨rfl, rfl, rfl, rfl, rfl, rfl⟩, hse, hto, hb, hz, hg⟩ := hc
      unfold fX3_take at hw2 ⊢
      dsimp only at hw2 ⊢
      have hl2 : RT sh u 19 := fun k hk => by rw [u4 k hk]; exact hsh k hk
      refine Act.yes (by decide) (cnt_0 hl2) ⟨hw2, hm2, ?_⟩ (by rw [← cnt_0 hl2]; exact ie_bd (count_b sh) (by omega))
      dsimp only
      refine ⟨hl2, hsh.frame (fun k hk => u1 _ (by omega) (by omega) (by omega) (by omega) (by omega)), fun k hk => ?_, ⟨?_, ?_, ?_, ?_, ?_, ?_⟩, fun q hq => ?_, ?_, ?_, fun q => ?_, fun q => ?_⟩
      · rw [u5 k hk]; exact hlv k hk
      · exact u26.symm
      · exact u20.symm
      · exact (u1 1 (by omega) (by omega) (by omega) (by omega) (by omega)).symm
      · exact (u1 2 (by omega) (by omega) (by omega) (by omega) (by omega)).symm
      · exact (u1 3 (by omega) (by omega) (by omega) (by omega) (by omega)).symm
      · exact (u1 5 (by omega) (by omega) (by omega) (by omega) (by omega)).symm
      · rw [u1 _ (by omega) (by omega) (by omega) (by omega) (by omega)]; exact hse q hq
      · exact tot_fr hto (i := 1) (by omega) u3 (fun q h1 h2 => u1 _ (by omega) (by omega) (by omega) (by omega) (by omega))
      · unfold RB
        rw [u20, u1 5 (by omega) (by omega) (by omega) (by omega) (by omega), u1 9 (by omega) (by omega) (by omega) (by omega) (by omega)]
        exact And.intro (b_0 3) (And.intro hb.2.1 (And.intro (fun q => absurd q (by decide)) (And.intro (fun q hq => by rw [u1 _ (by omega) (by omega) (by omega) (by omega) (by omega)]; exact hb.2.2.2.1 q hq) hb.2.2.2.2)))
      · exact u24
      · exact absurd u20 q
    · rw [if_neg (fun q => c2 ?_), if_neg c2]
      · exact Act.no (by decide) rfl R0 (by decide)
      · obtain ⟨j, hj, e⟩ := hm.1.num
        rw [hsz, e] at q
        rw [e]
        by_cases g : j = 0
        · rw [g]; rfl
        · exact absurd q (nI_ge (a := 0) (by omega) (by omega))
  · rw [if_neg (fun q => c1 (hp.symm.trans q)), if_neg c1]
    exact Act.no (by decide) rfl R0 (by decide)
theorem RB.phase {s : FnI} (hb : RB s) {x : Int32} (hx : Bd x 3) (h3 : ¬ x = (3 : Int32)) : RB (upd s 0 x) := by
  unfold RB
  rw [pk_us, pk_un (by omega), pk_un (by omega)]
  exact ⟨hx, hb.2.1, fun q => absurd q h3, fun q hq => by rw [pk_un (by omega)]; exact hb.2.2.2.1 q hq, hb.2.2.2.2⟩
theorem RB.lock {s : FnI} (hb : RB s) : RB (upd (upd s 0 (3 : Int32)) 5 (0 : Int32)) := by
  unfold RB
  rw [pk_us, pk_un (by omega), pk_us, pk_un (by omega), pk_un (by omega)]
  exact ⟨Bd.of (j := 3) (by omega) (by omega), b_0 _, fun _ => b_0 _, fun q hq => by rw [pk_un (by omega), pk_un (by omega)]; exact hb.2.2.2.1 q hq, hb.2.2.2.2⟩
theorem A_lock {τ : StT} {s : FnI} (R : RS τ s) : Act (fX5_lockLive τ) (fX7_phaseError (2 : Int32) s) (fX7_doLock s) s := by
  have hp := R_ph R
  have R0 := R
  obtain ⟨hw, hm, hc⟩ := R
  have hw2 := ws_lock (Prod.eta (fX5_lockLive τ)).symm hw
  have hm2 : WM (fX7_doLock s).2 := q_lock (Prod.eta (fX7_doLock s)).symm hm
  unfold fX5_lockLive at hw2 ⊢
  unfold fX7_phaseError fX7_doLock
  unfold fX7_doLock at hm2
  by_cases c1 : s 0 = (2 : Int32)
  · rw [if_pos (hp.trans c1)] at hw2 ⊢
    rw [if_pos c1]
    have c0 : ¬ s 0 = (0 : Int32) := by rw [c1]; decide
    have hsz : τ.2.2.2.1.2.1.2.2.2 = s 4 := (hc.2.2.2.2.2.2.2.2 c0).1
    refine Act.yes (by decide) hsz ⟨hw2, hm2, ?_⟩ (ie_bd hm.1 (by omega))
    have h2 := hc.scal hm (to' := τ.2.2.2.2.2) (u := upd (upd s 0 (3 : Int32)) 5 (0 : Int32)) (fun j h1 h2 => by rw [pk_un (by omega), pk_un (by omega)]) rfl (fun q hq => by rw [pk_un (by omega), pk_un (by omega)]) (fun q hq => by rw [pk_un (by omega), pk_un (by omega)]; exact hc.2.2.2.2.2.1 q hq) (RB.lock hc.2.2.2.2.2.2.1) (fun q => absurd q (by show ¬ (3 : Int32) = 0; decide)) (fun _ => ⟨c0, rfl⟩)
    obtain ⟨-, -, -, ⟨-, -, g1, g2, g3, -⟩, -⟩ := hc
    dsimp only
    rw [g1, g2, g3]
    exact h2
  · rw [if_neg (fun q => c1 (hp.symm.trans q)), if_neg c1]
    exact Act.no (by decide) rfl R0 (by decide)
theorem A_unlock {τ : StT} {s : FnI} (R : RS τ s) : Act (fX5_unlockLive τ) (fX7_phaseError (3 : Int32) s) (fX7_doUnlock s) s := by
  have hp := R_ph R
  have R0 := R
  obtain ⟨hw, hm, hc⟩ := R
  have hw2 := ws_unlock (Prod.eta (fX5_unlockLive τ)).symm hw
  have hm2 : WM (fX7_doUnlock s).2 := q_unlock (Prod.eta (fX7_doUnlock s)).symm hm
  unfold fX5_unlockLive at hw2 ⊢
  unfold fX7_phaseError fX7_doUnlock
  unfold fX7_doUnlock at hm2
  by_cases c1 : s 0 = (3 : Int32)
  · rw [if_pos (hp.trans c1)] at hw2 ⊢
    rw [if_pos c1]
    have c0 : ¬ s 0 = (0 : Int32) := by rw [c1]; decide
    have hb := hc.2.2.2.2.2.2.1
    have h2 := hc.scal hm (to' := τ.2.2.2.2.2) (u := upd s 0 (2 : Int32)) (fun j h1 h2 => by rw [pk_un (by omega)]) rfl (fun q hq => by rw [pk_un (by omega)]) (fun q hq => by rw [pk_un (by omega)]; exact hc.2.2.2.2.2.1 q hq) (RB.phase hb (Bd.of (j := 2) (by omega) (by omega)) (by decide)) (fun q => absurd q (by show ¬ (2 : Int32) = 0; decide)) (fun _ => ⟨c0, rfl⟩)
    obtain ⟨-, -, -, ⟨-, -, g1, g2, g3, g4⟩, -⟩ := hc
    refine Act.yes (by decide) g4 ⟨hw2, hm2, ?_⟩ (ie_bd hb.2.1 (by omega))
    dsimp only
    rw [g1, g2, g3, g4]
    exact h2
  · rw [if_neg (fun q => c1 (hp.symm.trans q)), if_neg c1]
    exact Act.no (by decide) rfl R0 (by decide)
theorem A_giveUp {τ : StT} {s : FnI} (R : RS τ s) : Act (fX5_giveCopyUp τ) (if fX7_isCopy s = (0 : Int32) then (-4 : Int32) else (0 : Int32)) (fX7_doGiveUp s) s := by
  have hp := R_ph R
  have R0 := R
  obtain ⟨hw, hm, hc⟩ := R
  have hw2 := ws_giveUp (Prod.eta (fX5_giveCopyUp τ)).symm hw
  have hm2 : WM (fX7_doGiveUp s).2 := q_giveUp (Prod.eta (fX7_doGiveUp s)).symm hm
  unfold fX5_giveCopyUp at hw2 ⊢
  unfold fX7_doGiveUp fX7_endCopy at hm2 ⊢
  by_cases c0 : s 0 = (0 : Int32)
  · rw [if_pos (hc_0.mpr (hp.trans c0)), if_pos (ic_0.mpr c0)]
    exact Act.no (by decide) rfl R0 (by decide)
  · rw [if_neg (fun q => c0 (hp.symm.trans (hc_0.mp q)))] at hw2 ⊢
    rw [if_neg (fun q => c0 (ic_0.mp q))]
    unfold fX5_endGivenUp at hw2 ⊢
    dsimp only at hw2 hm2 ⊢
    refine Act.yes (by decide) (cnt_1 hc.2.1) ⟨hw2, hm2, ?_⟩ (by rw [← cnt_1 hc.2.1]; exact ie_bd (count_b _) (by omega))
    have h2 := hc.scal hm (to' := upd τ.2.2.2.2.2 2 (τ.2.2.2.2.2 2 + (1 : Int32))) (u := upd (upd (upd s 0 (0 : Int32)) 4 (0 : Int32)) 13 (s 13 + (1 : Int32))) (fun j h1 h2 => by rw [pk_un (by omega), pk_un (by omega), pk_un (by omega)]) rfl (fun q hq => by rw [pk_un (by omega), pk_un (by omega), pk_un (by omega)]) (tot_fr hc.2.2.2.2.2.1 (i := 2) (by omega) rfl (fun q hq hne => by rw [pk_un (by omega), pk_un (by omega), pk_un (by omega)])) (((hc.2.2.2.2.2.2.1.phase (b_0 3) (by decide)).up (by omega) (by omega) (by omega)).up (by omega) (by omega) (by omega)) (fun _ => rfl) (fun q => absurd rfl q)
    obtain ⟨-, -, -, ⟨-, -, g1, g2, g3, g4⟩, -⟩ := hc
    rw [g1, g2, g3, g4]
    exact h2
/-- what the reference answers where a setting is refused -/
def setErr (p v : Int32) : Int32 := if fX7_in p (0 : Int32) (3 : Int32) = (0 : Int32) then (-1 : Int32) else if fX7_fits p v = (0 : Int32) then (-2 : Int32) else (0 : Int32)
theorem fit_is {p v : Int32} (h : ¬ fX7_in p (0 : Int32) (3 : Int32) = (0 : Int32)) : fX6_isIn v (leastF p.toNatClampNeg) (mostF p.toNatClampNeg) = fX7_fits p v := by
  have hb : Bd p 3 := zz_inB (by decide) (by decide) (by omega) h
  obtain ⟨j, hj, rfl⟩ := hb.num
  rw [nI_clamp (by omega)]
  match j, hj with
  | 0, _ => rfl
  | 1, _ => rfl
  | 2, _ => rfl
  | 3, _ => rfl
  | j + 4, h => omega
theorem fit_bd {p v : Int32} (hp : Bd p 3) (h : ¬ fX7_fits p v = (0 : Int32)) : Bd v 24 ∧ (p.toNatClampNeg = 2 → Bd v 20) := by
  obtain ⟨j, hj, rfl⟩ := hp.num
  rw [nI_clamp (by omega)]
  match j, hj with
  | 0, _ => exact ⟨(zz_inB (x := v) (b := 1) (c := 8) (N := 8) (by decide) (by decide) (by omega) h).mono (by omega), fun q => absurd q (by decide)⟩
  | 1, _ => exact ⟨(zz_inB (x := v) (b := 0) (c := 24) (N := 24) (by decide) (by decide) (by omega) h).mono (by omega), fun q => absurd q (by decide)⟩
  | 2, _ => exact ⟨(zz_inB (x := v) (b := 1) (c := 20) (N := 20) (by decide) (by decide) (by omega) h).mono (by omega), fun _ => zz_inB (x := v) (b := 1) (c := 20) (N := 20) (by decide) (by decide) (by omega) h⟩
  | 3, _ => exact ⟨(zz_inB (x := v) (b := 0) (c := 1) (N := 1) (by decide) (by decide) (by omega) h).mono (by omega), fun q => absurd q (by decide)⟩
  | j + 4, h => omega
theorem A_set {τ : StT} {s : FnI} {p v : Int32} (R : RS τ s) : Act (fX5_changeSetting p v τ) (setErr p v) (s (7 + p.toNatClampNeg), upd s (7 + p.toNatClampNeg) v) s := by
  have R0 := R
  obtain ⟨hw, hm, hc⟩ := R
  unfold fX5_changeSetting setErr
  by_cases c1 : fX7_in p (0 : Int32) (3 : Int32) = (0 : Int32)
  · rw [if_pos (show fX6_isSetting p = (0 : Int32) from c1), if_pos c1]
    exact Act.no (by decide) rfl R0 (by decide)
  · rw [if_neg (show ¬ fX6_isSetting p = (0 : Int32) from c1), if_neg c1, fit_is c1]
    by_cases c2 : fX7_fits p v = (0 : Int32)
    · rw [if_pos c2, if_pos c2]
      exact Act.no (by decide) rfl R0 (by decide)
    · rw [if_neg c2, if_neg c2]
      have hb : Bd p 3 := zz_inB (by decide) (by decide) (by omega) c1
      have hP : p.toNatClampNeg < 4 := Nat.lt_succ_of_le hb.2
      obtain ⟨f1, f2⟩ := fit_bd hb c2
      generalize p.toNatClampNeg = P at hP f2 ⊢
      obtain ⟨hlv, hsh, hod, ⟨g1, g2, g3, g4, g5, g6⟩, hse, hto, hB, hz, hg⟩ := hc
      refine Act.yes (by decide) (hse P hP) ⟨hw, WM_u hm (by omega) (by omega) (by omega), ?_⟩ (ie_bd (hB.2.2.2.1 P hP) (by omega))
      dsimp only
      refine ⟨hlv.up (by omega), hsh.up (by omega), hod.up (by omega), ⟨?_, ?_, ?_, ?_, ?_, ?_⟩, fun q hq => ?_, fun q hq => ?_, ?_, fun q => ?_, fun q => ?_⟩
      · rw [pk_un (by omega)]; exact g1
      · rw [pk_un (by omega)]; exact g2
      · rw [pk_un (by omega)]; exact g3
      · rw [pk_un (by omega)]; exact g4
      · rw [pk_un (by omega)]; exact g5
      · rw [pk_un (by omega)]; exact g6
      · by_cases r : q = P
        · subst r; rw [pk_us, pk_us]
        · rw [pk_un r, pk_un (by omega)]; exact hse q hq
      · rw [pk_un (by omega)]; exact hto q hq
      · unfold RB
        rw [pk_un (by omega), pk_un (by omega)]
        refine And.intro hB.1 (And.intro hB.2.1 (And.intro hB.2.2.1 (And.intro (fun q hq => ?_) ?_)))
        · by_cases r : q = P
          · subst r; rw [pk_us]; exact f1
          · rw [pk_un (by omega)]; exact hB.2.2.2.1 q hq
        · by_cases r : P = 2
          · subst r
            show Bd (upd s 9 v 9) 20
            rw [pk_us]; exact f2 rfl
          · rw [pk_un (by omega)]; exact hB.2.2.2.2
      · rw [pk_un (by omega)] at q; rw [pk_un (by omega)]; exact hz q
      · rw [pk_un (by omega)] at q
        rw [pk_un (by omega)]
        exact ⟨(hg q).1, (hg q).2.up (by omega)⟩
