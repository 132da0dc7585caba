section CHS
variable {e : Nat} {st : StT} {k : Nat} {v : Int32}
theorem put_3 (hk : k < 32) (hv : Bd v 99) (h3 : st.2.2.2.1.2.2.1 = (3 : Int32)) : fX5_putRow (nI k) v st = ((-4 : Int32), st) := by
  obtain ⟨j, hj, rfl⟩ := hv.num
  unfold fX5_putRow
  rw [if_neg (key_y hk), if_neg (show ¬ fX6_isValue (nI j) = (0 : Int32) from in6_b (N := 99) rfl hj (by omega)), if_pos h3]
theorem put_c (hk : k < 32) (hv : Bd v 99) (h3 : ¬ st.2.2.2.1.2.2.1 = (3 : Int32)) : fX5_putRow (nI k) v st = fX5_changeRow (nI k) v st := by
  obtain ⟨j, hj, rfl⟩ := hv.num
  unfold fX5_putRow
  rw [if_neg (key_y hk), if_neg (show ¬ fX6_isValue (nI j) = (0 : Int32) from in6_b (N := 99) rfl hj (by omega)), if_neg h3]
theorem erase_3 (hk : k < 32) (h3 : st.2.2.2.1.2.2.1 = (3 : Int32)) : fX5_eraseRow (nI k) st = ((-4 : Int32), st) := by
  unfold fX5_eraseRow
  rw [if_neg (key_y hk), if_pos h3]
theorem erase_n (hk : k < 32) (h3 : ¬ st.2.2.2.1.2.2.1 = (3 : Int32)) (h5 : st.1 k = (-5 : Int32)) : fX5_eraseRow (nI k) st = (st.1 k, st) := by
  unfold fX5_eraseRow
  rw [if_neg (key_y hk), if_neg h3, atN hk, if_pos h5, h5]
theorem erase_c (hk : k < 32) (h3 : ¬ st.2.2.2.1.2.2.1 = (3 : Int32)) (h5 : ¬ st.1 k = (-5 : Int32)) (hv : v = (-5 : Int32)) : fX5_eraseRow (nI k) st = fX5_changeRow (nI k) v st := by
  subst hv
  unfold fX5_eraseRow
  rw [if_neg (key_y hk), if_neg h3, atN hk, if_neg h5]
theorem ch_A (h : IV e st) (hk : k < 32) (hv : RW v) (h0 : st.2.2.2.1.2.2.1 = (0 : Int32)) : ∃ u : StT, fX5_changeRow (nI k) v st = (st.1 k, u) ∧ IV e u ∧ u.1 k = v ∧ u.2.2.2.1.2.2.1 = (0 : Int32) ∧ u.2.2.2.2.2 2 = st.2.2.2.2.2 2 := by
  obtain ⟨g, hc⟩ := h.change hk hv (by rw [h0]; decide)
  generalize fX5_changeRow (nI k) v st = q at g hc
  obtain ⟨r, u⟩ := q
  rcases hc with ⟨c1, -⟩ | ⟨-, a1, a2, ⟨-, a3, a4⟩ | ⟨c1, -⟩ | ⟨c1, -⟩⟩
  · exact absurd h0 c1
  · exact ⟨u, congrArg (fun z => (z, u)) a1, g, by rw [show u.1 = upd st.1 k v from a2, pk_us], a3, a4⟩
  · exact absurd h0 c1
  · exact absurd h0 c1
theorem ch_S (h : IV e st) (hk : k < 32) (hv : RW v) (h0 : ¬ st.2.2.2.1.2.2.1 = (0 : Int32)) (h3 : ¬ st.2.2.2.1.2.2.1 = (3 : Int32)) (hz : st.2.2.2.1.2.1.2.2.2 = (24 : Int32)) (hs : st.2.2.2.2.1 3 = (1 : Int32)) : fX5_changeRow (nI k) v st = ((-3 : Int32), st) := by
  obtain ⟨g, hc⟩ := h.change hk hv h3
  rcases hc with ⟨-, -, -, c1⟩ | ⟨c1, -⟩
  · exact c1
  · exact absurd ⟨h0, hz, hs⟩ c1
theorem ch_B (h : IV e st) (hk : k < 32) (hv : RW v) (h0 : ¬ st.2.2.2.1.2.2.1 = (0 : Int32)) (h3 : ¬ st.2.2.2.1.2.2.1 = (3 : Int32)) (hz : st.2.2.2.1.2.1.2.2.2 = (24 : Int32)) (hs : ¬ st.2.2.2.2.1 3 = (1 : Int32)) : ∃ u : StT, fX5_changeRow (nI k) v st = (st.1 k, u) ∧ IV e u ∧ u.1 k = v ∧ u.2.2.2.1.2.2.1 = (0 : Int32) ∧ u.2.2.2.2.2 2 = (st.2.2.2.2.2 2 + (1 : Int32)) := by
  obtain ⟨g, hc⟩ := h.change hk hv h3
  generalize fX5_changeRow (nI k) v st = q at g hc
  obtain ⟨r, u⟩ := q
  rcases hc with ⟨-, -, c1, -⟩ | ⟨-, a1, a2, ⟨c1, -⟩ | ⟨-, -, a3, a4⟩ | ⟨-, c1, -⟩⟩
  · exact absurd c1 hs
  · exact absurd c1 h0
  · exact ⟨u, congrArg (fun z => (z, u)) a1, g, by rw [show u.1 = upd st.1 k v from a2, pk_us], a3, a4⟩
  · exact absurd hz c1
theorem ch_C (h : IV e st) (hk : k < 32) (hv : RW v) (h0 : ¬ st.2.2.2.1.2.2.1 = (0 : Int32)) (h3 : ¬ st.2.2.2.1.2.2.1 = (3 : Int32)) (hz : ¬ st.2.2.2.1.2.1.2.2.2 = (24 : Int32)) : ∃ u : StT, fX5_changeRow (nI k) v st = (st.1 k, u) ∧ IV e u ∧ u.1 k = v ∧ u.2.2.2.1.2.2.1 = st.2.2.2.1.2.2.1 ∧ u.2.2.2.2.2 2 = st.2.2.2.2.2 2 ∧ u.2.2.2.1.2.1.2.2.2 = (st.2.2.2.1.2.1.2.2.2 + (1 : Int32)) := by
  obtain ⟨g, hc⟩ := h.change hk hv h3
  generalize fX5_changeRow (nI k) v st = q at g hc
  obtain ⟨r, u⟩ := q
  rcases hc with ⟨-, c1, -⟩ | ⟨-, a1, a2, ⟨c1, -⟩ | ⟨-, c1, -⟩ | ⟨-, -, a3, a4, a5⟩⟩
  · exact absurd c1 hz
  · exact absurd c1 h0
  · exact absurd c1 hz
  · exact ⟨u, congrArg (fun z => (z, u)) a1, g, by rw [show u.1 = upd st.1 k v from a2, pk_us], a3, a5, a4⟩
end CHS
set_option maxHeartbeats 8000000 in
set_option maxRecDepth 100000 in
theorem kL_changes (l : Launch) (D : va_G) (cI cS : ClassId) (qx : Nat) (a0 a1 a2 a3 : Nat → Nat) (b3 : Nat → Nat → Nat) (a4 : Nat → Nat) (sn : StT) (sc : ScT) (has : Int32) {e0 : Nat} (st tr : StT) (hi : HiT) (hI : IV e0 st) (hh : WH hi) (k : Nat) (hk : k < 32) (v : Int32) (hv : RW v) : KQ l yL_changes wsL_changes { frames := 6, cells := 0, slots := 0, locals := 130 } D (tysA cI cS) [.ref qx, .int (nI k), .int v] (fl (wO cI cS qx a0 a1 a2 a3 b3 a4 sn sc has [] (st, tr, hi))) 0 0 (fun (x : Int32) (u : TPT) => x = (1 : Int32) ∧ IV e0 u.1 ∧ WH u.2) (fun u => fl (wO cI cS qx a0 a1 a2 a3 b3 a4 sn sc has [] (u.1, tr, u.2))) := by
  refine KQ.of (cc := cL_changes) (maxL := 11) (ty := .boolean) (by decide) rfl (Nat.le_of_ble_eq_true rfl) rfl (fun p e s m args below meth c ls Q A hx hb hml hown hts hE hP hD hA hS hX hl hend => ?_)
  have hown : s.vm.findClass RL = some m.cls := hown
  have hl : lv_has ls 11 [(0, .ref qx), (1, .int (nI k)), (2, .int v)] := hl
  have hbo : BL st.2.2.1 := hI.1.2.2.1
  have hr : RW (st.1 k) := hI.1.2.2.2.1 k hk
  refine (Decidable.em (st.2.2.2.1.2.2.1 = (0 : Int32))).elim (fun hph => ?_) (fun h0 => ?_)
  · have h3 : ¬ st.2.2.2.1.2.2.1 = (3 : Int32) := by rw [hph]; decide
    refine (Decidable.em (v < (0 : Int32))).elim (fun hvn => ?_) (fun hvq => ?_)
    · have hv5 : v = (-5 : Int32) := rw_neg hv hvn
      refine (Decidable.em ((st.1 k) < (0 : Int32))).elim (fun hhn => ?_) (fun hhp => ?_)
      · have hh5 : (st.1 k) = (-5 : Int32) := rw_neg hr hhn
        refine lv_aload_n hx hb dL_changes_0 rfl (lv_at hl 0 rfl) ?_
        refine lv_iconst (v := (0 : Int32)) hx hb dL_changes_1 (by decide +kernel) ?_
        refine lv_iload_n hx hb dL_changes_2 rfl (lv_at hl 1 rfl) ?_
        refine bRV (W0 := wO cI cS qx a0 a1 a2 a3 b3 a4 sn sc has ([]) (st, tr, hi)) (wc := [(qx, .inr (6, [.ref (a0 0), .ref (a1 0), .ref (a2 0), .ref (a3 0), .ref (a4 0), .int has]))] :: wSt cI a0 st :: []) (r := (st.1 k)) ⟨hx, hb, hml, hown, hts⟩ (KR.eq (kX6_value l D cI cS qx a0 (a1 0) (a2 0) (a3 0) (a4 0) has (0 : Int32) (nI k) st) (val_0 hk)) (cwV 2 hts gL_changes_X6_value rfl rfl rfl (by decide +kernel) ⟨Nat.le_of_ble_eq_true rfl, Nat.le_of_ble_eq_true rfl⟩) hE hP rfl rfl [0, 1] rfl rfl rfl hl.1 rfl (Nat.le_of_ble_eq_true rfl) ⟨Nat.le_of_ble_eq_true rfl, Nat.le_of_ble_eq_true rfl⟩ dL_changes_3 ?_
        refine lv_istore_n (lv' := [(3, .int ((st.1 k))), (0, .ref qx), (1, .int ((nI k))), (2, .int v)]) hx hb dL_changes_6 rfl hl (by decide) rfl (fun ls hl => ?_)
        refine lv_aload_n hx hb dL_changes_7 rfl (lv_at hl 1 rfl) ?_
        refine lv_iconst (v := (0 : Int32)) hx hb dL_changes_8 (by decide +kernel) ?_
        refine bRV (W0 := wO cI cS qx a0 a1 a2 a3 b3 a4 sn sc has ([]) (st, tr, hi)) (wc := [(qx, .inr (6, [.ref (a0 0), .ref (a1 0), .ref (a2 0), .ref (a3 0), .ref (a4 0), .int has]))] :: wSt cI a0 st :: []) (r := (0 : Int32)) ⟨hx, hb, hml, hown, hts⟩ (KR.eq (kX6_copy l D cI cS qx a0 (a1 0) (a2 0) (a3 0) (a4 0) has (0 : Int32) st) ((cp_0 st).trans hph)) (cwV 1 hts gL_changes_X6_copy rfl rfl rfl (by decide +kernel) ⟨Nat.le_of_ble_eq_true rfl, Nat.le_of_ble_eq_true rfl⟩) hE hP rfl rfl [0, 1] rfl rfl rfl hl.1 rfl (Nat.le_of_ble_eq_true rfl) ⟨Nat.le_of_ble_eq_true rfl, Nat.le_of_ble_eq_true rfl⟩ dL_changes_9 ?_
        refine lv_istore (lv' := [(4, .int ((0 : Int32))), (3, .int ((st.1 k))), (0, .ref qx), (1, .int ((nI k))), (2, .int v)]) hx hb dL_changes_12 hl (by decide) rfl (fun ls hl => ?_)
        refine lv_aload_n hx hb dL_changes_14 rfl (lv_at hl 2 rfl) ?_
        refine lv_iconst (v := (4 : Int32)) hx hb dL_changes_15 (by decide +kernel) ?_
        refine bRV (W0 := wO cI cS qx a0 a1 a2 a3 b3 a4 sn sc has ([]) (st, tr, hi)) (wc := [(qx, .inr (6, [.ref (a0 0), .ref (a1 0), .ref (a2 0), .ref (a3 0), .ref (a4 0), .int has]))] :: wSt cI a0 st :: []) (r := (-5 : Int32)) ⟨hx, hb, hml, hown, hts⟩ (KR.eq (kX6_copy l D cI cS qx a0 (a1 0) (a2 0) (a3 0) (a4 0) has (4 : Int32) st) (cp_n (i := 4) (by omega) (by omega) hph)) (cwV 1 hts gL_changes_X6_copy rfl rfl rfl (by decide +kernel) ⟨Nat.le_of_ble_eq_true rfl, Nat.le_of_ble_eq_true rfl⟩) hE hP rfl rfl [0, 1] rfl rfl rfl hl.1 rfl (Nat.le_of_ble_eq_true rfl) ⟨Nat.le_of_ble_eq_true rfl, Nat.le_of_ble_eq_true rfl⟩ dL_changes_16 ?_
        refine lv_istore (lv' := [(5, .int ((-5 : Int32))), (4, .int ((0 : Int32))), (3, .int ((st.1 k))), (0, .ref qx), (1, .int ((nI k))), (2, .int v)]) hx hb dL_changes_19 hl (by decide) rfl (fun ls hl => ?_)
        refine lv_aload_n hx hb dL_changes_21 rfl (lv_at hl 3 rfl) ?_
        refine lv_iconst (v := (2 : Int32)) hx hb dL_changes_22 (by decide +kernel) ?_
        refine bRV (W0 := wO cI cS qx a0 a1 a2 a3 b3 a4 sn sc has ([]) (st, tr, hi)) (wc := [(qx, .inr (6, [.ref (a0 0), .ref (a1 0), .ref (a2 0), .ref (a3 0), .ref (a4 0), .int has]))] :: wSt cI a0 st :: []) (r := (st.2.2.2.2.2 2)) ⟨hx, hb, hml, hown, hts⟩ (KR.eq (kX6_total l D cI cS qx a0 (a1 0) (a2 0) (a3 0) (a4 0) has (2 : Int32) st) (tot_i (i := 2) (by omega))) (cwV 1 hts gL_changes_X6_total rfl rfl rfl (by decide +kernel) ⟨Nat.le_of_ble_eq_true rfl, Nat.le_of_ble_eq_true rfl⟩) hE hP rfl rfl [0, 1] rfl rfl rfl hl.1 rfl (Nat.le_of_ble_eq_true rfl) ⟨Nat.le_of_ble_eq_true rfl, Nat.le_of_ble_eq_true rfl⟩ dL_changes_23 ?_
        refine lv_istore (lv' := [(6, .int ((st.2.2.2.2.2 2))), (5, .int ((-5 : Int32))), (4, .int ((0 : Int32))), (3, .int ((st.1 k))), (0, .ref qx), (1, .int ((nI k))), (2, .int v)]) hx hb dL_changes_26 hl (by decide) rfl (fun ls hl => ?_)
        refine lv_iload hx hb dL_changes_28 (lv_at hl 1 rfl) ?_
        refine lv_bipush (v := (24 : Int32)) hx hb dL_changes_30 (by decide +kernel) ?_
        refine lv_icmp_ne (tgt := 47) hx hb dL_changes_32 (by decide) (fun _ => ?_) (fun c => absurd c (show ¬ (-5 : Int32) = (24 : Int32) by decide))
        refine lv_iconst (v := (0 : Int32)) hx hb dL_changes_47 (by decide +kernel) ?_
        refine lv_istore (lv' := [(7, .int ((0 : Int32))), (6, .int ((st.2.2.2.2.2 2))), (5, .int ((-5 : Int32))), (4, .int ((0 : Int32))), (3, .int ((st.1 k))), (0, .ref qx), (1, .int ((nI k))), (2, .int v)]) hx hb dL_changes_48 hl (by decide) rfl (fun ls hl => ?_)
        refine lv_aload_n hx hb dL_changes_50 rfl (lv_at hl 5 rfl) ?_
        refine lv_iconst (v := (3 : Int32)) hx hb dL_changes_51 (by decide +kernel) ?_
        refine bRV (W0 := wO cI cS qx a0 a1 a2 a3 b3 a4 sn sc has ([]) (st, tr, hi)) (wc := [(qx, .inr (6, [.ref (a0 0), .ref (a1 0), .ref (a2 0), .ref (a3 0), .ref (a4 0), .int has]))] :: wSt cI a0 st :: []) (r := (st.2.2.2.2.1 3)) ⟨hx, hb, hml, hown, hts⟩ (KR.eq (kX6_setting l D cI cS qx a0 (a1 0) (a2 0) (a3 0) (a4 0) has (3 : Int32) st) (set_i (i := 3) (by omega))) (cwV 1 hts gL_changes_X6_setting rfl rfl rfl (by decide +kernel) ⟨Nat.le_of_ble_eq_true rfl, Nat.le_of_ble_eq_true rfl⟩) hE hP rfl rfl [0, 1] rfl rfl rfl hl.1 rfl (Nat.le_of_ble_eq_true rfl) ⟨Nat.le_of_ble_eq_true rfl, Nat.le_of_ble_eq_true rfl⟩ dL_changes_52 ?_
        refine lv_iconst (v := (1 : Int32)) hx hb dL_changes_55 (by decide +kernel) ?_
        refine lv_icmp_ne (tgt := 63) hx hb dL_changes_56 (by decide) (fun c_56 => ?_) (fun c_56 => ?_)
        · refine lv_iconst (v := (0 : Int32)) hx hb dL_changes_63 (by decide +kernel) ?_
          refine lv_istore (lv' := [(8, .int ((0 : Int32))), (7, .int ((0 : Int32))), (6, .int ((st.2.2.2.2.2 2))), (5, .int ((-5 : Int32))), (4, .int ((0 : Int32))), (3, .int ((st.1 k))), (0, .ref qx), (1, .int ((nI k))), (2, .int v)]) hx hb dL_changes_64 hl (by decide) rfl (fun ls hl => ?_)
          refine lv_iload_n hx hb dL_changes_66 rfl (lv_at hl 8 rfl) ?_
          refine lv_if_ge (tgt := 78) hx hb dL_changes_67 (by decide) (fun c => absurd c (Int32.not_le.mpr hvn)) (fun _ => ?_)
          have eR : fX5_eraseRow (nI k) st = ((st.1 k), st) := erase_n hk h3 hh5
          have eT : fX6_erase (nI k) (st, hi) = ((st.1 k), (st, hiR hi st (st.1 k))) := by rw [erase_eq, eR]
          refine lv_aload_n hx hb dL_changes_70 rfl (lv_at hl 6 rfl) ?_
          refine lv_iload_n hx hb dL_changes_71 rfl (lv_at hl 7 rfl) ?_
          refine bIV (W0 := wO cI cS qx a0 a1 a2 a3 b3 a4 sn sc has ([]) (st, tr, hi)) (wc := [(qx, .inr (6, [.ref (a0 0), .ref (a1 0), .ref (a2 0), .ref (a3 0), .ref (a4 0), .int has]))] :: wSt cI a0 st :: wHi cI cS a3 b3 hi []) (w1 := fun u : TPT => [(qx, .inr (6, [.ref (a0 0), .ref (a1 0), .ref (a2 0), .ref (a3 0), .ref (a4 0), .int has]))] :: wSt cI a0 u.1 :: wHi cI cS a3 b3 u.2 []) ⟨hx, hb, hml, hown, hts⟩ (kX6_erase l D cI cS qx a0 a3 b3 (a1 0) (a2 0) (a4 0) has (nI k) (st, hi) hI.ws hh) (cwV 1 hts gL_changes_X6_erase rfl rfl rfl (by decide +kernel) ⟨Nat.le_of_ble_eq_true rfl, Nat.le_of_ble_eq_true rfl⟩) hE hP hD hS rfl rfl [0, 1, 4, 5, 6, 7, 8, 9, 10, 11] rfl rfl (fun _ => rfl) (fun _ => rfl) rfl hl.1 rfl (Nat.le_of_ble_eq_true rfl) ⟨Nat.le_of_ble_eq_true rfl, Nat.le_of_ble_eq_true rfl⟩ dL_changes_72 (fun r_72 u_72 H locs e_72 hP hD hS => ?_)
          have hP : va_P D vwCl (fl (wO cI cS qx a0 a1 a2 a3 b3 a4 sn sc has ([]) (u_72.1, tr, u_72.2))) H := hP
          have hD : va_D A (fl (wO cI cS qx a0 a1 a2 a3 b3 a4 sn sc has ([]) (u_72.1, tr, u_72.2))) := hD
          rw [eT] at e_72
          cases e_72
          have hP : va_P D vwCl (fl (wO cI cS qx a0 a1 a2 a3 b3 a4 sn sc has ([]) (st, tr, (hiR hi st (st.1 k))))) H := hP
          have hD : va_D A (fl (wO cI cS qx a0 a1 a2 a3 b3 a4 sn sc has ([]) (st, tr, (hiR hi st (st.1 k))))) := hD
          refine lv_goto (tgt := 84) hx hb dL_changes_75 (by decide) ?_
          refine lv_istore (lv' := [(9, .int ((st.1 k))), (8, .int ((0 : Int32))), (7, .int ((0 : Int32))), (6, .int ((st.2.2.2.2.2 2))), (5, .int ((-5 : Int32))), (4, .int ((0 : Int32))), (3, .int ((st.1 k))), (0, .ref qx), (1, .int ((nI k))), (2, .int v)]) hx hb dL_changes_84 hl (by decide) rfl (fun ls hl => ?_)
          refine lv_iload hx hb dL_changes_86 (lv_at hl 5 rfl) ?_
          refine lv_iconst (v := (3 : Int32)) hx hb dL_changes_88 (by decide +kernel) ?_
          refine lv_icmp_ne (tgt := 115) hx hb dL_changes_89 (by decide) (fun _ => ?_) (fun c => absurd c (show ¬ (0 : Int32) = (3 : Int32) by decide))
          refine lv_iload hx hb dL_changes_115 (lv_at hl 2 rfl) ?_
          refine lv_if_eq (tgt := 158) hx hb dL_changes_117 (by decide) (fun _ => ?_) (fun c => absurd (show (0 : Int32) = (0 : Int32) by decide) c)
          refine lv_iload hx hb dL_changes_158 (lv_at hl 0 rfl) ?_
          refine lv_iload_n hx hb dL_changes_160 rfl (lv_at hl 6 rfl) ?_
          refine lv_icmp_ne (tgt := 199) hx hb dL_changes_161 (by decide) (fun c => absurd rfl c) (fun _ => ?_)
          refine lv_aload_n hx hb dL_changes_164 rfl (lv_at hl 7 rfl) ?_
          refine lv_iconst (v := (0 : Int32)) hx hb dL_changes_165 (by decide +kernel) ?_
          refine lv_iload_n hx hb dL_changes_166 rfl (lv_at hl 8 rfl) ?_
          refine bRV (W0 := wO cI cS qx a0 a1 a2 a3 b3 a4 sn sc has ([]) (st, tr, (hiR hi st (st.1 k)))) (wc := [(qx, .inr (6, [.ref (a0 0), .ref (a1 0), .ref (a2 0), .ref (a3 0), .ref (a4 0), .int has]))] :: wSt cI a0 st :: []) (r := v) ⟨hx, hb, hml, hown, hts⟩ (KR.eq (kX6_value l D cI cS qx a0 (a1 0) (a2 0) (a3 0) (a4 0) has (0 : Int32) (nI k) st) ((val_0 hk).trans (hh5.trans hv5.symm))) (cwV 2 hts gL_changes_X6_value rfl rfl rfl (by decide +kernel) ⟨Nat.le_of_ble_eq_true rfl, Nat.le_of_ble_eq_true rfl⟩) hE hP rfl rfl [0, 1] rfl rfl rfl hl.1 rfl (Nat.le_of_ble_eq_true rfl) ⟨Nat.le_of_ble_eq_true rfl, Nat.le_of_ble_eq_true rfl⟩ dL_changes_167 ?_
          refine lv_iload_n hx hb dL_changes_170 rfl (lv_at hl 9 rfl) ?_
          refine lv_icmp_ne (tgt := 199) hx hb dL_changes_171 (by decide) (fun c => absurd rfl c) (fun _ => ?_)
          refine lv_aload_n hx hb dL_changes_174 rfl (lv_at hl 7 rfl) ?_
          refine lv_iconst (v := (2 : Int32)) hx hb dL_changes_175 (by decide +kernel) ?_
          refine bRV (W0 := wO cI cS qx a0 a1 a2 a3 b3 a4 sn sc has ([]) (st, tr, (hiR hi st (st.1 k)))) (wc := [(qx, .inr (6, [.ref (a0 0), .ref (a1 0), .ref (a2 0), .ref (a3 0), .ref (a4 0), .int has]))] :: wSt cI a0 st :: []) (r := (st.2.2.2.2.2 2)) ⟨hx, hb, hml, hown, hts⟩ (KR.eq (kX6_total l D cI cS qx a0 (a1 0) (a2 0) (a3 0) (a4 0) has (2 : Int32) st) (tot_i (i := 2) (by omega))) (cwV 1 hts gL_changes_X6_total rfl rfl rfl (by decide +kernel) ⟨Nat.le_of_ble_eq_true rfl, Nat.le_of_ble_eq_true rfl⟩) hE hP rfl rfl [0, 1] rfl rfl rfl hl.1 rfl (Nat.le_of_ble_eq_true rfl) ⟨Nat.le_of_ble_eq_true rfl, Nat.le_of_ble_eq_true rfl⟩ dL_changes_176 ?_
          refine lv_iload hx hb dL_changes_179 (lv_at hl 3 rfl) ?_
          refine lv_iload hx hb dL_changes_181 (lv_at hl 2 rfl) ?_
          refine lv_if_eq (tgt := 190) hx hb dL_changes_183 (by decide) (fun _ => ?_) (fun c => absurd (show (0 : Int32) = (0 : Int32) by decide) c)
          refine lv_iconst (v := (0 : Int32)) hx hb dL_changes_190 (by decide +kernel) ?_
          refine lv_iadd hx hb dL_changes_191 ?_
          refine lv_icmp_ne (tgt := 199) hx hb dL_changes_192 (by decide) (fun c => absurd (i_add0 _).symm c) (fun _ => ?_)
          refine lv_iconst (v := (1 : Int32)) hx hb dL_changes_195 (by decide +kernel) ?_
          refine lv_goto (tgt := 200) hx hb dL_changes_196 (by decide) ?_
          refine lv_istore (lv' := [(10, .int ((1 : Int32))), (9, .int ((st.1 k))), (8, .int ((0 : Int32))), (7, .int ((0 : Int32))), (6, .int ((st.2.2.2.2.2 2))), (5, .int ((-5 : Int32))), (4, .int ((0 : Int32))), (3, .int ((st.1 k))), (0, .ref qx), (1, .int ((nI k))), (2, .int v)]) hx hb dL_changes_200 hl (by decide) rfl (fun ls hl => ?_)
          refine lv_iload hx hb dL_changes_202 (lv_at hl 0 rfl) ?_
          refine lv_if_eq (tgt := 256) hx hb dL_changes_204 (by decide) (fun c => absurd c (show ¬ (1 : Int32) = (0 : Int32) by decide)) (fun _ => ?_)
          refine lv_iload hx hb dL_changes_207 (lv_at hl 6 rfl) ?_
          refine lv_if_eq (tgt := 252) hx hb dL_changes_209 (by decide) (fun _ => ?_) (fun c => absurd (show (0 : Int32) = (0 : Int32) by decide) c)
          refine lv_iconst (v := (1 : Int32)) hx hb dL_changes_252 (by decide +kernel) ?_
          refine lv_goto (tgt := 257) hx hb dL_changes_253 (by decide) ?_
          exact hend _ _ _ (st, (hiR hi st (st.1 k))) _ _ _ _ dL_changes_257 rfl (Nat.le_refl _) (Nat.le_refl _) ⟨rfl, hI, (hh.rec hbo (st.1 k))⟩ hP hS
        · refine lv_iconst (v := (1 : Int32)) hx hb dL_changes_59 (by decide +kernel) ?_
          refine lv_goto (tgt := 64) hx hb dL_changes_60 (by decide) ?_
          refine lv_istore (lv' := [(8, .int ((1 : Int32))), (7, .int ((0 : Int32))), (6, .int ((st.2.2.2.2.2 2))), (5, .int ((-5 : Int32))), (4, .int ((0 : Int32))), (3, .int ((st.1 k))), (0, .ref qx), (1, .int ((nI k))), (2, .int v)]) hx hb dL_changes_64 hl (by decide) rfl (fun ls hl => ?_)
          refine lv_iload_n hx hb dL_changes_66 rfl (lv_at hl 8 rfl) ?_
          refine lv_if_ge (tgt := 78) hx hb dL_changes_67 (by decide) (fun c => absurd c (Int32.not_le.mpr hvn)) (fun _ => ?_)
          have eR : fX5_eraseRow (nI k) st = ((st.1 k), st) := erase_n hk h3 hh5
          have eT : fX6_erase (nI k) (st, hi) = ((st.1 k), (st, hiR hi st (st.1 k))) := by rw [erase_eq, eR]
          refine lv_aload_n hx hb dL_changes_70 rfl (lv_at hl 6 rfl) ?_
          refine lv_iload_n hx hb dL_changes_71 rfl (lv_at hl 7 rfl) ?_
          refine bIV (W0 := wO cI cS qx a0 a1 a2 a3 b3 a4 sn sc has ([]) (st, tr, hi)) (wc := [(qx, .inr (6, [.ref (a0 0), .ref (a1 0), .ref (a2 0), .ref (a3 0), .ref (a4 0), .int has]))] :: wSt cI a0 st :: wHi cI cS a3 b3 hi []) (w1 := fun u : TPT => [(qx, .inr (6, [.ref (a0 0), .ref (a1 0), .ref (a2 0), .ref (a3 0), .ref (a4 0), .int has]))] :: wSt cI a0 u.1 :: wHi cI cS a3 b3 u.2 []) ⟨hx, hb, hml, hown, hts⟩ (kX6_erase l D cI cS qx a0 a3 b3 (a1 0) (a2 0) (a4 0) has (nI k) (st, hi) hI.ws hh) (cwV 1 hts gL_changes_X6_erase rfl rfl rfl (by decide +kernel) ⟨Nat.le_of_ble_eq_true rfl, Nat.le_of_ble_eq_true rfl⟩) hE hP hD hS rfl rfl [0, 1, 4, 5, 6, 7, 8, 9, 10, 11] rfl rfl (fun _ => rfl) (fun _ => rfl) rfl hl.1 rfl (Nat.le_of_ble_eq_true rfl) ⟨Nat.le_of_ble_eq_true rfl, Nat.le_of_ble_eq_true rfl⟩ dL_changes_72 (fun r_72 u_72 H locs e_72 hP hD hS => ?_)
          have hP : va_P D vwCl (fl (wO cI cS qx a0 a1 a2 a3 b3 a4 sn sc has ([]) (u_72.1, tr, u_72.2))) H := hP
          have hD : va_D A (fl (wO cI cS qx a0 a1 a2 a3 b3 a4 sn sc has ([]) (u_72.1, tr, u_72.2))) := hD
          rw [eT] at e_72
          cases e_72
          have hP : va_P D vwCl (fl (wO cI cS qx a0 a1 a2 a3 b3 a4 sn sc has ([]) (st, tr, (hiR hi st (st.1 k))))) H := hP
          have hD : va_D A (fl (wO cI cS qx a0 a1 a2 a3 b3 a4 sn sc has ([]) (st, tr, (hiR hi st (st.1 k))))) := hD
          refine lv_goto (tgt := 84) hx hb dL_changes_75 (by decide) ?_
          refine lv_istore (lv' := [(9, .int ((st.1 k))), (8, .int ((1 : Int32))), (7, .int ((0 : Int32))), (6, .int ((st.2.2.2.2.2 2))), (5, .int ((-5 : Int32))), (4, .int ((0 : Int32))), (3, .int ((st.1 k))), (0, .ref qx), (1, .int ((nI k))), (2, .int v)]) hx hb dL_changes_84 hl (by decide) rfl (fun ls hl => ?_)
          refine lv_iload hx hb dL_changes_86 (lv_at hl 5 rfl) ?_
          refine lv_iconst (v := (3 : Int32)) hx hb dL_changes_88 (by decide +kernel) ?_
          refine lv_icmp_ne (tgt := 115) hx hb dL_changes_89 (by decide) (fun _ => ?_) (fun c => absurd c (show ¬ (0 : Int32) = (3 : Int32) by decide))
          refine lv_iload hx hb dL_changes_115 (lv_at hl 2 rfl) ?_
          refine lv_if_eq (tgt := 158) hx hb dL_changes_117 (by decide) (fun _ => ?_) (fun c => absurd (show (0 : Int32) = (0 : Int32) by decide) c)
          refine lv_iload hx hb dL_changes_158 (lv_at hl 0 rfl) ?_
          refine lv_iload_n hx hb dL_changes_160 rfl (lv_at hl 6 rfl) ?_
          refine lv_icmp_ne (tgt := 199) hx hb dL_changes_161 (by decide) (fun c => absurd rfl c) (fun _ => ?_)
          refine lv_aload_n hx hb dL_changes_164 rfl (lv_at hl 7 rfl) ?_
          refine lv_iconst (v := (0 : Int32)) hx hb dL_changes_165 (by decide +kernel) ?_
          refine lv_iload_n hx hb dL_changes_166 rfl (lv_at hl 8 rfl) ?_
          refine bRV (W0 := wO cI cS qx a0 a1 a2 a3 b3 a4 sn sc has ([]) (st, tr, (hiR hi st (st.1 k)))) (wc := [(qx, .inr (6, [.ref (a0 0), .ref (a1 0), .ref (a2 0), .ref (a3 0), .ref (a4 0), .int has]))] :: wSt cI a0 st :: []) (r := v) ⟨hx, hb, hml, hown, hts⟩ (KR.eq (kX6_value l D cI cS qx a0 (a1 0) (a2 0) (a3 0) (a4 0) has (0 : Int32) (nI k) st) ((val_0 hk).trans (hh5.trans hv5.symm))) (cwV 2 hts gL_changes_X6_value rfl rfl rfl (by decide +kernel) ⟨Nat.le_of_ble_eq_true rfl, Nat.le_of_ble_eq_true rfl⟩) hE hP rfl rfl [0, 1] rfl rfl rfl hl.1 rfl (Nat.le_of_ble_eq_true rfl) ⟨Nat.le_of_ble_eq_true rfl, Nat.le_of_ble_eq_true rfl⟩ dL_changes_167 ?_
          refine lv_iload_n hx hb dL_changes_170 rfl (lv_at hl 9 rfl) ?_
          refine lv_icmp_ne (tgt := 199) hx hb dL_changes_171 (by decide) (fun c => absurd rfl c) (fun _ => ?_)
          refine lv_aload_n hx hb dL_changes_174 rfl (lv_at hl 7 rfl) ?_
          refine lv_iconst (v := (2 : Int32)) hx hb dL_changes_175 (by decide +kernel) ?_
          refine bRV (W0 := wO cI cS qx a0 a1 a2 a3 b3 a4 sn sc has ([]) (st, tr, (hiR hi st (st.1 k)))) (wc := [(qx, .inr (6, [.ref (a0 0), .ref (a1 0), .ref (a2 0), .ref (a3 0), .ref (a4 0), .int has]))] :: wSt cI a0 st :: []) (r := (st.2.2.2.2.2 2)) ⟨hx, hb, hml, hown, hts⟩ (KR.eq (kX6_total l D cI cS qx a0 (a1 0) (a2 0) (a3 0) (a4 0) has (2 : Int32) st) (tot_i (i := 2) (by omega))) (cwV 1 hts gL_changes_X6_total rfl rfl rfl (by decide +kernel) ⟨Nat.le_of_ble_eq_true rfl, Nat.le_of_ble_eq_true rfl⟩) hE hP rfl rfl [0, 1] rfl rfl rfl hl.1 rfl (Nat.le_of_ble_eq_true rfl) ⟨Nat.le_of_ble_eq_true rfl, Nat.le_of_ble_eq_true rfl⟩ dL_changes_176 ?_
          refine lv_iload hx hb dL_changes_179 (lv_at hl 3 rfl) ?_
          refine lv_iload hx hb dL_changes_181 (lv_at hl 2 rfl) ?_
          refine lv_if_eq (tgt := 190) hx hb dL_changes_183 (by decide) (fun _ => ?_) (fun c => absurd (show (0 : Int32) = (0 : Int32) by decide) c)
          refine lv_iconst (v := (0 : Int32)) hx hb dL_changes_190 (by decide +kernel) ?_
          refine lv_iadd hx hb dL_changes_191 ?_
          refine lv_icmp_ne (tgt := 199) hx hb dL_changes_192 (by decide) (fun c => absurd (i_add0 _).symm c) (fun _ => ?_)
          refine lv_iconst (v := (1 : Int32)) hx hb dL_changes_195 (by decide +kernel) ?_
          refine lv_goto (tgt := 200) hx hb dL_changes_196 (by decide) ?_
          refine lv_istore (lv' := [(10, .int ((1 : Int32))), (9, .int ((st.1 k))), (8, .int ((1 : Int32))), (7, .int ((0 : Int32))), (6, .int ((st.2.2.2.2.2 2))), (5, .int ((-5 : Int32))), (4, .int ((0 : Int32))), (3, .int ((st.1 k))), (0, .ref qx), (1, .int ((nI k))), (2, .int v)]) hx hb dL_changes_200 hl (by decide) rfl (fun ls hl => ?_)
          refine lv_iload hx hb dL_changes_202 (lv_at hl 0 rfl) ?_
          refine lv_if_eq (tgt := 256) hx hb dL_changes_204 (by decide) (fun c => absurd c (show ¬ (1 : Int32) = (0 : Int32) by decide)) (fun _ => ?_)
          refine lv_iload hx hb dL_changes_207 (lv_at hl 6 rfl) ?_
          refine lv_if_eq (tgt := 252) hx hb dL_changes_209 (by decide) (fun _ => ?_) (fun c => absurd (show (0 : Int32) = (0 : Int32) by decide) c)
          refine lv_iconst (v := (1 : Int32)) hx hb dL_changes_252 (by decide +kernel) ?_
          refine lv_goto (tgt := 257) hx hb dL_changes_253 (by decide) ?_
          exact hend _ _ _ (st, (hiR hi st (st.1 k))) _ _ _ _ dL_changes_257 rfl (Nat.le_refl _) (Nat.le_refl _) ⟨rfl, hI, (hh.rec hbo (st.1 k))⟩ hP hS
      · have hn5 : ¬ (st.1 k) = (-5 : Int32) := fun q => hhp (by rw [q]; decide)
        refine lv_aload_n hx hb dL_changes_0 rfl (lv_at hl 0 rfl) ?_
        refine lv_iconst (v := (0 : Int32)) hx hb dL_changes_1 (by decide +kernel) ?_
        refine lv_iload_n hx hb dL_changes_2 rfl (lv_at hl 1 rfl) ?_
        refine bRV (W0 := wO cI cS qx a0 a1 a2 a3 b3 a4 sn sc has ([]) (st, tr, hi)) (wc := [(qx, .inr (6, [.ref (a0 0), .ref (a1 0), .ref (a2 0), .ref (a3 0), .ref (a4 0), .int has]))] :: wSt cI a0 st :: []) (r := (st.1 k)) ⟨hx, hb, hml, hown, hts⟩ (KR.eq (kX6_value l D cI cS qx a0 (a1 0) (a2 0) (a3 0) (a4 0) has (0 : Int32) (nI k) st) (val_0 hk)) (cwV 2 hts gL_changes_X6_value rfl rfl rfl (by decide +kernel) ⟨Nat.le_of_ble_eq_true rfl, Nat.le_of_ble_eq_true rfl⟩) hE hP rfl rfl [0, 1] rfl rfl rfl hl.1 rfl (Nat.le_of_ble_eq_true rfl) ⟨Nat.le_of_ble_eq_true rfl, Nat.le_of_ble_eq_true rfl⟩ dL_changes_3 ?_
        refine lv_istore_n (lv' := [(3, .int ((st.1 k))), (0, .ref qx), (1, .int ((nI k))), (2, .int v)]) hx hb dL_changes_6 rfl hl (by decide) rfl (fun ls hl => ?_)
        refine lv_aload_n hx hb dL_changes_7 rfl (lv_at hl 1 rfl) ?_
        refine lv_iconst (v := (0 : Int32)) hx hb dL_changes_8 (by decide +kernel) ?_
        refine bRV (W0 := wO cI cS qx a0 a1 a2 a3 b3 a4 sn sc has ([]) (st, tr, hi)) (wc := [(qx, .inr (6, [.ref (a0 0), .ref (a1 0), .ref (a2 0), .ref (a3 0), .ref (a4 0), .int has]))] :: wSt cI a0 st :: []) (r := (0 : Int32)) ⟨hx, hb, hml, hown, hts⟩ (KR.eq (kX6_copy l D cI cS qx a0 (a1 0) (a2 0) (a3 0) (a4 0) has (0 : Int32) st) ((cp_0 st).trans hph)) (cwV 1 hts gL_changes_X6_copy rfl rfl rfl (by decide +kernel) ⟨Nat.le_of_ble_eq_true rfl, Nat.le_of_ble_eq_true rfl⟩) hE hP rfl rfl [0, 1] rfl rfl rfl hl.1 rfl (Nat.le_of_ble_eq_true rfl) ⟨Nat.le_of_ble_eq_true rfl, Nat.le_of_ble_eq_true rfl⟩ dL_changes_9 ?_
        refine lv_istore (lv' := [(4, .int ((0 : Int32))), (3, .int ((st.1 k))), (0, .ref qx), (1, .int ((nI k))), (2, .int v)]) hx hb dL_changes_12 hl (by decide) rfl (fun ls hl => ?_)
        refine lv_aload_n hx hb dL_changes_14 rfl (lv_at hl 2 rfl) ?_
        refine lv_iconst (v := (4 : Int32)) hx hb dL_changes_15 (by decide +kernel) ?_
        refine bRV (W0 := wO cI cS qx a0 a1 a2 a3 b3 a4 sn sc has ([]) (st, tr, hi)) (wc := [(qx, .inr (6, [.ref (a0 0), .ref (a1 0), .ref (a2 0), .ref (a3 0), .ref (a4 0), .int has]))] :: wSt cI a0 st :: []) (r := (-5 : Int32)) ⟨hx, hb, hml, hown, hts⟩ (KR.eq (kX6_copy l D cI cS qx a0 (a1 0) (a2 0) (a3 0) (a4 0) has (4 : Int32) st) (cp_n (i := 4) (by omega) (by omega) hph)) (cwV 1 hts gL_changes_X6_copy rfl rfl rfl (by decide +kernel) ⟨Nat.le_of_ble_eq_true rfl, Nat.le_of_ble_eq_true rfl⟩) hE hP rfl rfl [0, 1] rfl rfl rfl hl.1 rfl (Nat.le_of_ble_eq_true rfl) ⟨Nat.le_of_ble_eq_true rfl, Nat.le_of_ble_eq_true rfl⟩ dL_changes_16 ?_
        refine lv_istore (lv' := [(5, .int ((-5 : Int32))), (4, .int ((0 : Int32))), (3, .int ((st.1 k))), (0, .ref qx), (1, .int ((nI k))), (2, .int v)]) hx hb dL_changes_19 hl (by decide) rfl (fun ls hl => ?_)
        refine lv_aload_n hx hb dL_changes_21 rfl (lv_at hl 3 rfl) ?_
        refine lv_iconst (v := (2 : Int32)) hx hb dL_changes_22 (by decide +kernel) ?_
        refine bRV (W0 := wO cI cS qx a0 a1 a2 a3 b3 a4 sn sc has ([]) (st, tr, hi)) (wc := [(qx, .inr (6, [.ref (a0 0), .ref (a1 0), .ref (a2 0), .ref (a3 0), .ref (a4 0), .int has]))] :: wSt cI a0 st :: []) (r := (st.2.2.2.2.2 2)) ⟨hx, hb, hml, hown, hts⟩ (KR.eq (kX6_total l D cI cS qx a0 (a1 0) (a2 0) (a3 0) (a4 0) has (2 : Int32) st) (tot_i (i := 2) (by omega))) (cwV 1 hts gL_changes_X6_total rfl rfl rfl (by decide +kernel) ⟨Nat.le_of_ble_eq_true rfl, Nat.le_of_ble_eq_true rfl⟩) hE hP rfl rfl [0, 1] rfl rfl rfl hl.1 rfl (Nat.le_of_ble_eq_true rfl) ⟨Nat.le_of_ble_eq_true rfl, Nat.le_of_ble_eq_true rfl⟩ dL_changes_23 ?_
        refine lv_istore (lv' := [(6, .int ((st.2.2.2.2.2 2))), (5, .int ((-5 : Int32))), (4, .int ((0 : Int32))), (3, .int ((st.1 k))), (0, .ref qx), (1, .int ((nI k))), (2, .int v)]) hx hb dL_changes_26 hl (by decide) rfl (fun ls hl => ?_)
        refine lv_iload hx hb dL_changes_28 (lv_at hl 1 rfl) ?_
        refine lv_bipush (v := (24 : Int32)) hx hb dL_changes_30 (by decide +kernel) ?_
        refine lv_icmp_ne (tgt := 47) hx hb dL_changes_32 (by decide) (fun _ => ?_) (fun c => absurd c (show ¬ (-5 : Int32) = (24 : Int32) by decide))
        refine lv_iconst (v := (0 : Int32)) hx hb dL_changes_47 (by decide +kernel) ?_
        refine lv_istore (lv' := [(7, .int ((0 : Int32))), (6, .int ((st.2.2.2.2.2 2))), (5, .int ((-5 : Int32))), (4, .int ((0 : Int32))), (3, .int ((st.1 k))), (0, .ref qx), (1, .int ((nI k))), (2, .int v)]) hx hb dL_changes_48 hl (by decide) rfl (fun ls hl => ?_)
        refine lv_aload_n hx hb dL_changes_50 rfl (lv_at hl 5 rfl) ?_
        refine lv_iconst (v := (3 : Int32)) hx hb dL_changes_51 (by decide +kernel) ?_
        refine bRV (W0 := wO cI cS qx a0 a1 a2 a3 b3 a4 sn sc has ([]) (st, tr, hi)) (wc := [(qx, .inr (6, [.ref (a0 0), .ref (a1 0), .ref (a2 0), .ref (a3 0), .ref (a4 0), .int has]))] :: wSt cI a0 st :: []) (r := (st.2.2.2.2.1 3)) ⟨hx, hb, hml, hown, hts⟩ (KR.eq (kX6_setting l D cI cS qx a0 (a1 0) (a2 0) (a3 0) (a4 0) has (3 : Int32) st) (set_i (i := 3) (by omega))) (cwV 1 hts gL_changes_X6_setting rfl rfl rfl (by decide +kernel) ⟨Nat.le_of_ble_eq_true rfl, Nat.le_of_ble_eq_true rfl⟩) hE hP rfl rfl [0, 1] rfl rfl rfl hl.1 rfl (Nat.le_of_ble_eq_true rfl) ⟨Nat.le_of_ble_eq_true rfl, Nat.le_of_ble_eq_true rfl⟩ dL_changes_52 ?_
        refine lv_iconst (v := (1 : Int32)) hx hb dL_changes_55 (by decide +kernel) ?_
        refine lv_icmp_ne (tgt := 63) hx hb dL_changes_56 (by decide) (fun c_56 => ?_) (fun c_56 => ?_)
        · refine lv_iconst (v := (0 : Int32)) hx hb dL_changes_63 (by decide +kernel) ?_
          refine lv_istore (lv' := [(8, .int ((0 : Int32))), (7, .int ((0 : Int32))), (6, .int ((st.2.2.2.2.2 2))), (5, .int ((-5 : Int32))), (4, .int ((0 : Int32))), (3, .int ((st.1 k))), (0, .ref qx), (1, .int ((nI k))), (2, .int v)]) hx hb dL_changes_64 hl (by decide) rfl (fun ls hl => ?_)
          refine lv_iload_n hx hb dL_changes_66 rfl (lv_at hl 8 rfl) ?_
          refine lv_if_ge (tgt := 78) hx hb dL_changes_67 (by decide) (fun c => absurd c (Int32.not_le.mpr hvn)) (fun _ => ?_)
          obtain ⟨u1, eC, hI1, y1, y0, y2⟩ := ch_A hI hk hv hph
          have eR : fX5_eraseRow (nI k) st = ((st.1 k), u1) := (erase_c hk h3 hn5 hv5).trans eC
          have eT : fX6_erase (nI k) (st, hi) = ((st.1 k), (u1, hiR hi st (st.1 k))) := by rw [erase_eq, eR]
          refine lv_aload_n hx hb dL_changes_70 rfl (lv_at hl 6 rfl) ?_
          refine lv_iload_n hx hb dL_changes_71 rfl (lv_at hl 7 rfl) ?_
          refine bIV (W0 := wO cI cS qx a0 a1 a2 a3 b3 a4 sn sc has ([]) (st, tr, hi)) (wc := [(qx, .inr (6, [.ref (a0 0), .ref (a1 0), .ref (a2 0), .ref (a3 0), .ref (a4 0), .int has]))] :: wSt cI a0 st :: wHi cI cS a3 b3 hi []) (w1 := fun u : TPT => [(qx, .inr (6, [.ref (a0 0), .ref (a1 0), .ref (a2 0), .ref (a3 0), .ref (a4 0), .int has]))] :: wSt cI a0 u.1 :: wHi cI cS a3 b3 u.2 []) ⟨hx, hb, hml, hown, hts⟩ (kX6_erase l D cI cS qx a0 a3 b3 (a1 0) (a2 0) (a4 0) has (nI k) (st, hi) hI.ws hh) (cwV 1 hts gL_changes_X6_erase rfl rfl rfl (by decide +kernel) ⟨Nat.le_of_ble_eq_true rfl, Nat.le_of_ble_eq_true rfl⟩) hE hP hD hS rfl rfl [0, 1, 4, 5, 6, 7, 8, 9, 10, 11] rfl rfl (fun _ => rfl) (fun _ => rfl) rfl hl.1 rfl (Nat.le_of_ble_eq_true rfl) ⟨Nat.le_of_ble_eq_true rfl, Nat.le_of_ble_eq_true rfl⟩ dL_changes_72 (fun r_72 u_72 H locs e_72 hP hD hS => ?_)
          have hP : va_P D vwCl (fl (wO cI cS qx a0 a1 a2 a3 b3 a4 sn sc has ([]) (u_72.1, tr, u_72.2))) H := hP
          have hD : va_D A (fl (wO cI cS qx a0 a1 a2 a3 b3 a4 sn sc has ([]) (u_72.1, tr, u_72.2))) := hD
          rw [eT] at e_72
          cases e_72
          have hP : va_P D vwCl (fl (wO cI cS qx a0 a1 a2 a3 b3 a4 sn sc has ([]) (u1, tr, (hiR hi st (st.1 k))))) H := hP
          have hD : va_D A (fl (wO cI cS qx a0 a1 a2 a3 b3 a4 sn sc has ([]) (u1, tr, (hiR hi st (st.1 k))))) := hD
          refine lv_goto (tgt := 84) hx hb dL_changes_75 (by decide) ?_
          refine lv_istore (lv' := [(9, .int ((st.1 k))), (8, .int ((0 : Int32))), (7, .int ((0 : Int32))), (6, .int ((st.2.2.2.2.2 2))), (5, .int ((-5 : Int32))), (4, .int ((0 : Int32))), (3, .int ((st.1 k))), (0, .ref qx), (1, .int ((nI k))), (2, .int v)]) hx hb dL_changes_84 hl (by decide) rfl (fun ls hl => ?_)
          refine lv_iload hx hb dL_changes_86 (lv_at hl 5 rfl) ?_
          refine lv_iconst (v := (3 : Int32)) hx hb dL_changes_88 (by decide +kernel) ?_
          refine lv_icmp_ne (tgt := 115) hx hb dL_changes_89 (by decide) (fun _ => ?_) (fun c => absurd c (show ¬ (0 : Int32) = (3 : Int32) by decide))
          refine lv_iload hx hb dL_changes_115 (lv_at hl 2 rfl) ?_
          refine lv_if_eq (tgt := 158) hx hb dL_changes_117 (by decide) (fun _ => ?_) (fun c => absurd (show (0 : Int32) = (0 : Int32) by decide) c)
          refine lv_iload hx hb dL_changes_158 (lv_at hl 0 rfl) ?_
          refine lv_iload_n hx hb dL_changes_160 rfl (lv_at hl 6 rfl) ?_
          refine lv_icmp_ne (tgt := 199) hx hb dL_changes_161 (by decide) (fun c => absurd rfl c) (fun _ => ?_)
          refine lv_aload_n hx hb dL_changes_164 rfl (lv_at hl 7 rfl) ?_
          refine lv_iconst (v := (0 : Int32)) hx hb dL_changes_165 (by decide +kernel) ?_
          refine lv_iload_n hx hb dL_changes_166 rfl (lv_at hl 8 rfl) ?_
          refine bRV (W0 := wO cI cS qx a0 a1 a2 a3 b3 a4 sn sc has ([]) (u1, tr, (hiR hi st (st.1 k)))) (wc := [(qx, .inr (6, [.ref (a0 0), .ref (a1 0), .ref (a2 0), .ref (a3 0), .ref (a4 0), .int has]))] :: wSt cI a0 u1 :: []) (r := v) ⟨hx, hb, hml, hown, hts⟩ (KR.eq (kX6_value l D cI cS qx a0 (a1 0) (a2 0) (a3 0) (a4 0) has (0 : Int32) (nI k) u1) ((val_0 hk).trans y1)) (cwV 2 hts gL_changes_X6_value rfl rfl rfl (by decide +kernel) ⟨Nat.le_of_ble_eq_true rfl, Nat.le_of_ble_eq_true rfl⟩) hE hP rfl rfl [0, 1] rfl rfl rfl hl.1 rfl (Nat.le_of_ble_eq_true rfl) ⟨Nat.le_of_ble_eq_true rfl, Nat.le_of_ble_eq_true rfl⟩ dL_changes_167 ?_
          refine lv_iload_n hx hb dL_changes_170 rfl (lv_at hl 9 rfl) ?_
          refine lv_icmp_ne (tgt := 199) hx hb dL_changes_171 (by decide) (fun c => absurd rfl c) (fun _ => ?_)
          refine lv_aload_n hx hb dL_changes_174 rfl (lv_at hl 7 rfl) ?_
          refine lv_iconst (v := (2 : Int32)) hx hb dL_changes_175 (by decide +kernel) ?_
          refine bRV (W0 := wO cI cS qx a0 a1 a2 a3 b3 a4 sn sc has ([]) (u1, tr, (hiR hi st (st.1 k)))) (wc := [(qx, .inr (6, [.ref (a0 0), .ref (a1 0), .ref (a2 0), .ref (a3 0), .ref (a4 0), .int has]))] :: wSt cI a0 u1 :: []) (r := (st.2.2.2.2.2 2)) ⟨hx, hb, hml, hown, hts⟩ (KR.eq (kX6_total l D cI cS qx a0 (a1 0) (a2 0) (a3 0) (a4 0) has (2 : Int32) u1) ((tot_i (i := 2) (by omega)).trans y2)) (cwV 1 hts gL_changes_X6_total rfl rfl rfl (by decide +kernel) ⟨Nat.le_of_ble_eq_true rfl, Nat.le_of_ble_eq_true rfl⟩) hE hP rfl rfl [0, 1] rfl rfl rfl hl.1 rfl (Nat.le_of_ble_eq_true rfl) ⟨Nat.le_of_ble_eq_true rfl, Nat.le_of_ble_eq_true rfl⟩ dL_changes_176 ?_
          refine lv_iload hx hb dL_changes_179 (lv_at hl 3 rfl) ?_
          refine lv_iload hx hb dL_changes_181 (lv_at hl 2 rfl) ?_
          refine lv_if_eq (tgt := 190) hx hb dL_changes_183 (by decide) (fun _ => ?_) (fun c => absurd (show (0 : Int32) = (0 : Int32) by decide) c)
          refine lv_iconst (v := (0 : Int32)) hx hb dL_changes_190 (by decide +kernel) ?_
          refine lv_iadd hx hb dL_changes_191 ?_
          refine lv_icmp_ne (tgt := 199) hx hb dL_changes_192 (by decide) (fun c => absurd (i_add0 _).symm c) (fun _ => ?_)
          refine lv_iconst (v := (1 : Int32)) hx hb dL_changes_195 (by decide +kernel) ?_
          refine lv_goto (tgt := 200) hx hb dL_changes_196 (by decide) ?_
          refine lv_istore (lv' := [(10, .int ((1 : Int32))), (9, .int ((st.1 k))), (8, .int ((0 : Int32))), (7, .int ((0 : Int32))), (6, .int ((st.2.2.2.2.2 2))), (5, .int ((-5 : Int32))), (4, .int ((0 : Int32))), (3, .int ((st.1 k))), (0, .ref qx), (1, .int ((nI k))), (2, .int v)]) hx hb dL_changes_200 hl (by decide) rfl (fun ls hl => ?_)
          refine lv_iload hx hb dL_changes_202 (lv_at hl 0 rfl) ?_
          refine lv_if_eq (tgt := 256) hx hb dL_changes_204 (by decide) (fun c => absurd c (show ¬ (1 : Int32) = (0 : Int32) by decide)) (fun _ => ?_)
          refine lv_iload hx hb dL_changes_207 (lv_at hl 6 rfl) ?_
          refine lv_if_eq (tgt := 252) hx hb dL_changes_209 (by decide) (fun _ => ?_) (fun c => absurd (show (0 : Int32) = (0 : Int32) by decide) c)
          refine lv_iconst (v := (1 : Int32)) hx hb dL_changes_252 (by decide +kernel) ?_
          refine lv_goto (tgt := 257) hx hb dL_changes_253 (by decide) ?_
          exact hend _ _ _ (u1, (hiR hi st (st.1 k))) _ _ _ _ dL_changes_257 rfl (Nat.le_refl _) (Nat.le_refl _) ⟨rfl, hI1, (hh.rec hbo (st.1 k))⟩ hP hS
        · refine lv_iconst (v := (1 : Int32)) hx hb dL_changes_59 (by decide +kernel) ?_
          refine lv_goto (tgt := 64) hx hb dL_changes_60 (by decide) ?_
          refine lv_istore (lv' := [(8, .int ((1 : Int32))), (7, .int ((0 : Int32))), (6, .int ((st.2.2.2.2.2 2))), (5, .int ((-5 : Int32))), (4, .int ((0 : Int32))), (3, .int ((st.1 k))), (0, .ref qx), (1, .int ((nI k))), (2, .int v)]) hx hb dL_changes_64 hl (by decide) rfl (fun ls hl => ?_)
          refine lv_iload_n hx hb dL_changes_66 rfl (lv_at hl 8 rfl) ?_
          refine lv_if_ge (tgt := 78) hx hb dL_changes_67 (by decide) (fun c => absurd c (Int32.not_le.mpr hvn)) (fun _ => ?_)
          obtain ⟨u1, eC, hI1, y1, y0, y2⟩ := ch_A hI hk hv hph
          have eR : fX5_eraseRow (nI k) st = ((st.1 k), u1) := (erase_c hk h3 hn5 hv5).trans eC
          have eT : fX6_erase (nI k) (st, hi) = ((st.1 k), (u1, hiR hi st (st.1 k))) := by rw [erase_eq, eR]
          refine lv_aload_n hx hb dL_changes_70 rfl (lv_at hl 6 rfl) ?_
          refine lv_iload_n hx hb dL_changes_71 rfl (lv_at hl 7 rfl) ?_
          refine bIV (W0 := wO cI cS qx a0 a1 a2 a3 b3 a4 sn sc has ([]) (st, tr, hi)) (wc := [(qx, .inr (6, [.ref (a0 0), .ref (a1 0), .ref (a2 0), .ref (a3 0), .ref (a4 0), .int has]))] :: wSt cI a0 st :: wHi cI cS a3 b3 hi []) (w1 := fun u : TPT => [(qx, .inr (6, [.ref (a0 0), .ref (a1 0), .ref (a2 0), .ref (a3 0), .ref (a4 0), .int has]))] :: wSt cI a0 u.1 :: wHi cI cS a3 b3 u.2 []) ⟨hx, hb, hml, hown, hts⟩ (kX6_erase l D cI cS qx a0 a3 b3 (a1 0) (a2 0) (a4 0) has (nI k) (st, hi) hI.ws hh) (cwV 1 hts gL_changes_X6_erase rfl rfl rfl (by decide +kernel) ⟨Nat.le_of_ble_eq_true rfl, Nat.le_of_ble_eq_true rfl⟩) hE hP hD hS rfl rfl [0, 1, 4, 5, 6, 7, 8, 9, 10, 11] rfl rfl (fun _ => rfl) (fun _ => rfl) rfl hl.1 rfl (Nat.le_of_ble_eq_true rfl) ⟨Nat.le_of_ble_eq_true rfl, Nat.le_of_ble_eq_true rfl⟩ dL_changes_72 (fun r_72 u_72 H locs e_72 hP hD hS => ?_)
          have hP : va_P D vwCl (fl (wO cI cS qx a0 a1 a2 a3 b3 a4 sn sc has ([]) (u_72.1, tr, u_72.2))) H := hP
          have hD : va_D A (fl (wO cI cS qx a0 a1 a2 a3 b3 a4 sn sc has ([]) (u_72.1, tr, u_72.2))) := hD
          rw [eT] at e_72
          cases e_72
          have hP : va_P D vwCl (fl (wO cI cS qx a0 a1 a2 a3 b3 a4 sn sc has ([]) (u1, tr, (hiR hi st (st.1 k))))) H := hP
          have hD : va_D A (fl (wO cI cS qx a0 a1 a2 a3 b3 a4 sn sc has ([]) (u1, tr, (hiR hi st (st.1 k))))) := hD
          refine lv_goto (tgt := 84) hx hb dL_changes_75 (by decide) ?_
          refine lv_istore (lv' := [(9, .int ((st.1 k))), (8, .int ((1 : Int32))), (7, .int ((0 : Int32))), (6, .int ((st.2.2.2.2.2 2))), (5, .int ((-5 : Int32))), (4, .int ((0 : Int32))), (3, .int ((st.1 k))), (0, .ref qx), (1, .int ((nI k))), (2, .int v)]) hx hb dL_changes_84 hl (by decide) rfl (fun ls hl => ?_)
          refine lv_iload hx hb dL_changes_86 (lv_at hl 5 rfl) ?_
          refine lv_iconst (v := (3 : Int32)) hx hb dL_changes_88 (by decide +kernel) ?_
          refine lv_icmp_ne (tgt := 115) hx hb dL_changes_89 (by decide) (fun _ => ?_) (fun c => absurd c (show ¬ (0 : Int32) = (3 : Int32) by decide))
          refine lv_iload hx hb dL_changes_115 (lv_at hl 2 rfl) ?_
          refine lv_if_eq (tgt := 158) hx hb dL_changes_117 (by decide) (fun _ => ?_) (fun c => absurd (show (0 : Int32) = (0 : Int32) by decide) c)
          refine lv_iload hx hb dL_changes_158 (lv_at hl 0 rfl) ?_
          refine lv_iload_n hx hb dL_changes_160 rfl (lv_at hl 6 rfl) ?_
          refine lv_icmp_ne (tgt := 199) hx hb dL_changes_161 (by decide) (fun c => absurd rfl c) (fun _ => ?_)
          refine lv_aload_n hx hb dL_changes_164 rfl (lv_at hl 7 rfl) ?_
          refine lv_iconst (v := (0 : Int32)) hx hb dL_changes_165 (by decide +kernel) ?_
          refine lv_iload_n hx hb dL_changes_166 rfl (lv_at hl 8 rfl) ?_
          refine bRV (W0 := wO cI cS qx a0 a1 a2 a3 b3 a4 sn sc has ([]) (u1, tr, (hiR hi st (st.1 k)))) (wc := [(qx, .inr (6, [.ref (a0 0), .ref (a1 0), .ref (a2 0), .ref (a3 0), .ref (a4 0), .int has]))] :: wSt cI a0 u1 :: []) (r := v) ⟨hx, hb, hml, hown, hts⟩ (KR.eq (kX6_value l D cI cS qx a0 (a1 0) (a2 0) (a3 0) (a4 0) has (0 : Int32) (nI k) u1) ((val_0 hk).trans y1)) (cwV 2 hts gL_changes_X6_value rfl rfl rfl (by decide +kernel) ⟨Nat.le_of_ble_eq_true rfl, Nat.le_of_ble_eq_true rfl⟩) hE hP rfl rfl [0, 1] rfl rfl rfl hl.1 rfl (Nat.le_of_ble_eq_true rfl) ⟨Nat.le_of_ble_eq_true rfl, Nat.le_of_ble_eq_true rfl⟩ dL_changes_167 ?_
          refine lv_iload_n hx hb dL_changes_170 rfl (lv_at hl 9 rfl) ?_
          refine lv_icmp_ne (tgt := 199) hx hb dL_changes_171 (by decide) (fun c => absurd rfl c) (fun _ => ?_)
          refine lv_aload_n hx hb dL_changes_174 rfl (lv_at hl 7 rfl) ?_
          refine lv_iconst (v := (2 : Int32)) hx hb dL_changes_175 (by decide +kernel) ?_
          refine bRV (W0 := wO cI cS qx a0 a1 a2 a3 b3 a4 sn sc has ([]) (u1, tr, (hiR hi st (st.1 k)))) (wc := [(qx, .inr (6, [.ref (a0 0), .ref (a1 0), .ref (a2 0), .ref (a3 0), .ref (a4 0), .int has]))] :: wSt cI a0 u1 :: []) (r := (st.2.2.2.2.2 2)) ⟨hx, hb, hml, hown, hts⟩ (KR.eq (kX6_total l D cI cS qx a0 (a1 0) (a2 0) (a3 0) (a4 0) has (2 : Int32) u1) ((tot_i (i := 2) (by omega)).trans y2)) (cwV 1 hts gL_changes_X6_total rfl rfl rfl (by decide +kernel) ⟨Nat.le_of_ble_eq_true rfl, Nat.le_of_ble_eq_true rfl⟩) hE hP rfl rfl [0, 1] rfl rfl rfl hl.1 rfl (Nat.le_of_ble_eq_true rfl) ⟨Nat.le_of_ble_eq_true rfl, Nat.le_of_ble_eq_true rfl⟩ dL_changes_176 ?_
          refine lv_iload hx hb dL_changes_179 (lv_at hl 3 rfl) ?_
          refine lv_iload hx hb dL_changes_181 (lv_at hl 2 rfl) ?_
          refine lv_if_eq (tgt := 190) hx hb dL_changes_183 (by decide) (fun _ => ?_) (fun c => absurd (show (0 : Int32) = (0 : Int32) by decide) c)
          refine lv_iconst (v := (0 : Int32)) hx hb dL_changes_190 (by decide +kernel) ?_
          refine lv_iadd hx hb dL_changes_191 ?_
          refine lv_icmp_ne (tgt := 199) hx hb dL_changes_192 (by decide) (fun c => absurd (i_add0 _).symm c) (fun _ => ?_)
          refine lv_iconst (v := (1 : Int32)) hx hb dL_changes_195 (by decide +kernel) ?_
          refine lv_goto (tgt := 200) hx hb dL_changes_196 (by decide) ?_
          refine lv_istore (lv' := [(10, .int ((1 : Int32))), (9, .int ((st.1 k))), (8, .int ((1 : Int32))), (7, .int ((0 : Int32))), (6, .int ((st.2.2.2.2.2 2))), (5, .int ((-5 : Int32))), (4, .int ((0 : Int32))), (3, .int ((st.1 k))), (0, .ref qx), (1, .int ((nI k))), (2, .int v)]) hx hb dL_changes_200 hl (by decide) rfl (fun ls hl => ?_)
          refine lv_iload hx hb dL_changes_202 (lv_at hl 0 rfl) ?_
          refine lv_if_eq (tgt := 256) hx hb dL_changes_204 (by decide) (fun c => absurd c (show ¬ (1 : Int32) = (0 : Int32) by decide)) (fun _ => ?_)
          refine lv_iload hx hb dL_changes_207 (lv_at hl 6 rfl) ?_
          refine lv_if_eq (tgt := 252) hx hb dL_changes_209 (by decide) (fun _ => ?_) (fun c => absurd (show (0 : Int32) = (0 : Int32) by decide) c)
          refine lv_iconst (v := (1 : Int32)) hx hb dL_changes_252 (by decide +kernel) ?_
          refine lv_goto (tgt := 257) hx hb dL_changes_253 (by decide) ?_
          exact hend _ _ _ (u1, (hiR hi st (st.1 k))) _ _ _ _ dL_changes_257 rfl (Nat.le_refl _) (Nat.le_refl _) ⟨rfl, hI1, (hh.rec hbo (st.1 k))⟩ hP hS
    · have hvp : (0 : Int32) ≤ v := Int32.not_lt.mp hvq
      have hvb : Bd v 99 := rw_pos hv hvq
      refine lv_aload_n hx hb dL_changes_0 rfl (lv_at hl 0 rfl) ?_
      refine lv_iconst (v := (0 : Int32)) hx hb dL_changes_1 (by decide +kernel) ?_
      refine lv_iload_n hx hb dL_changes_2 rfl (lv_at hl 1 rfl) ?_
      refine bRV (W0 := wO cI cS qx a0 a1 a2 a3 b3 a4 sn sc has ([]) (st, tr, hi)) (wc := [(qx, .inr (6, [.ref (a0 0), .ref (a1 0), .ref (a2 0), .ref (a3 0), .ref (a4 0), .int has]))] :: wSt cI a0 st :: []) (r := (st.1 k)) ⟨hx, hb, hml, hown, hts⟩ (KR.eq (kX6_value l D cI cS qx a0 (a1 0) (a2 0) (a3 0) (a4 0) has (0 : Int32) (nI k) st) (val_0 hk)) (cwV 2 hts gL_changes_X6_value rfl rfl rfl (by decide +kernel) ⟨Nat.le_of_ble_eq_true rfl, Nat.le_of_ble_eq_true rfl⟩) hE hP rfl rfl [0, 1] rfl rfl rfl hl.1 rfl (Nat.le_of_ble_eq_true rfl) ⟨Nat.le_of_ble_eq_true rfl, Nat.le_of_ble_eq_true rfl⟩ dL_changes_3 ?_
      refine lv_istore_n (lv' := [(3, .int ((st.1 k))), (0, .ref qx), (1, .int ((nI k))), (2, .int v)]) hx hb dL_changes_6 rfl hl (by decide) rfl (fun ls hl => ?_)
      refine lv_aload_n hx hb dL_changes_7 rfl (lv_at hl 1 rfl) ?_
      refine lv_iconst (v := (0 : Int32)) hx hb dL_changes_8 (by decide +kernel) ?_
      refine bRV (W0 := wO cI cS qx a0 a1 a2 a3 b3 a4 sn sc has ([]) (st, tr, hi)) (wc := [(qx, .inr (6, [.ref (a0 0), .ref (a1 0), .ref (a2 0), .ref (a3 0), .ref (a4 0), .int has]))] :: wSt cI a0 st :: []) (r := (0 : Int32)) ⟨hx, hb, hml, hown, hts⟩ (KR.eq (kX6_copy l D cI cS qx a0 (a1 0) (a2 0) (a3 0) (a4 0) has (0 : Int32) st) ((cp_0 st).trans hph)) (cwV 1 hts gL_changes_X6_copy rfl rfl rfl (by decide +kernel) ⟨Nat.le_of_ble_eq_true rfl, Nat.le_of_ble_eq_true rfl⟩) hE hP rfl rfl [0, 1] rfl rfl rfl hl.1 rfl (Nat.le_of_ble_eq_true rfl) ⟨Nat.le_of_ble_eq_true rfl, Nat.le_of_ble_eq_true rfl⟩ dL_changes_9 ?_
      refine lv_istore (lv' := [(4, .int ((0 : Int32))), (3, .int ((st.1 k))), (0, .ref qx), (1, .int ((nI k))), (2, .int v)]) hx hb dL_changes_12 hl (by decide) rfl (fun ls hl => ?_)
      refine lv_aload_n hx hb dL_changes_14 rfl (lv_at hl 2 rfl) ?_
      refine lv_iconst (v := (4 : Int32)) hx hb dL_changes_15 (by decide +kernel) ?_
      refine bRV (W0 := wO cI cS qx a0 a1 a2 a3 b3 a4 sn sc has ([]) (st, tr, hi)) (wc := [(qx, .inr (6, [.ref (a0 0), .ref (a1 0), .ref (a2 0), .ref (a3 0), .ref (a4 0), .int has]))] :: wSt cI a0 st :: []) (r := (-5 : Int32)) ⟨hx, hb, hml, hown, hts⟩ (KR.eq (kX6_copy l D cI cS qx a0 (a1 0) (a2 0) (a3 0) (a4 0) has (4 : Int32) st) (cp_n (i := 4) (by omega) (by omega) hph)) (cwV 1 hts gL_changes_X6_copy rfl rfl rfl (by decide +kernel) ⟨Nat.le_of_ble_eq_true rfl, Nat.le_of_ble_eq_true rfl⟩) hE hP rfl rfl [0, 1] rfl rfl rfl hl.1 rfl (Nat.le_of_ble_eq_true rfl) ⟨Nat.le_of_ble_eq_true rfl, Nat.le_of_ble_eq_true rfl⟩ dL_changes_16 ?_
      refine lv_istore (lv' := [(5, .int ((-5 : Int32))), (4, .int ((0 : Int32))), (3, .int ((st.1 k))), (0, .ref qx), (1, .int ((nI k))), (2, .int v)]) hx hb dL_changes_19 hl (by decide) rfl (fun ls hl => ?_)
      refine lv_aload_n hx hb dL_changes_21 rfl (lv_at hl 3 rfl) ?_
      refine lv_iconst (v := (2 : Int32)) hx hb dL_changes_22 (by decide +kernel) ?_
      refine bRV (W0 := wO cI cS qx a0 a1 a2 a3 b3 a4 sn sc has ([]) (st, tr, hi)) (wc := [(qx, .inr (6, [.ref (a0 0), .ref (a1 0), .ref (a2 0), .ref (a3 0), .ref (a4 0), .int has]))] :: wSt cI a0 st :: []) (r := (st.2.2.2.2.2 2)) ⟨hx, hb, hml, hown, hts⟩ (KR.eq (kX6_total l D cI cS qx a0 (a1 0) (a2 0) (a3 0) (a4 0) has (2 : Int32) st) (tot_i (i := 2) (by omega))) (cwV 1 hts gL_changes_X6_total rfl rfl rfl (by decide +kernel) ⟨Nat.le_of_ble_eq_true rfl, Nat.le_of_ble_eq_true rfl⟩) hE hP rfl rfl [0, 1] rfl rfl rfl hl.1 rfl (Nat.le_of_ble_eq_true rfl) ⟨Nat.le_of_ble_eq_true rfl, Nat.le_of_ble_eq_true rfl⟩ dL_changes_23 ?_
      refine lv_istore (lv' := [(6, .int ((st.2.2.2.2.2 2))), (5, .int ((-5 : Int32))), (4, .int ((0 : Int32))), (3, .int ((st.1 k))), (0, .ref qx), (1, .int ((nI k))), (2, .int v)]) hx hb dL_changes_26 hl (by decide) rfl (fun ls hl => ?_)
      refine lv_iload hx hb dL_changes_28 (lv_at hl 1 rfl) ?_
      refine lv_bipush (v := (24 : Int32)) hx hb dL_changes_30 (by decide +kernel) ?_
      refine lv_icmp_ne (tgt := 47) hx hb dL_changes_32 (by decide) (fun _ => ?_) (fun c => absurd c (show ¬ (-5 : Int32) = (24 : Int32) by decide))
      refine lv_iconst (v := (0 : Int32)) hx hb dL_changes_47 (by decide +kernel) ?_
      refine lv_istore (lv' := [(7, .int ((0 : Int32))), (6, .int ((st.2.2.2.2.2 2))), (5, .int ((-5 : Int32))), (4, .int ((0 : Int32))), (3, .int ((st.1 k))), (0, .ref qx), (1, .int ((nI k))), (2, .int v)]) hx hb dL_changes_48 hl (by decide) rfl (fun ls hl => ?_)
      refine lv_aload_n hx hb dL_changes_50 rfl (lv_at hl 5 rfl) ?_
      refine lv_iconst (v := (3 : Int32)) hx hb dL_changes_51 (by decide +kernel) ?_
      refine bRV (W0 := wO cI cS qx a0 a1 a2 a3 b3 a4 sn sc has ([]) (st, tr, hi)) (wc := [(qx, .inr (6, [.ref (a0 0), .ref (a1 0), .ref (a2 0), .ref (a3 0), .ref (a4 0), .int has]))] :: wSt cI a0 st :: []) (r := (st.2.2.2.2.1 3)) ⟨hx, hb, hml, hown, hts⟩ (KR.eq (kX6_setting l D cI cS qx a0 (a1 0) (a2 0) (a3 0) (a4 0) has (3 : Int32) st) (set_i (i := 3) (by omega))) (cwV 1 hts gL_changes_X6_setting rfl rfl rfl (by decide +kernel) ⟨Nat.le_of_ble_eq_true rfl, Nat.le_of_ble_eq_true rfl⟩) hE hP rfl rfl [0, 1] rfl rfl rfl hl.1 rfl (Nat.le_of_ble_eq_true rfl) ⟨Nat.le_of_ble_eq_true rfl, Nat.le_of_ble_eq_true rfl⟩ dL_changes_52 ?_
      refine lv_iconst (v := (1 : Int32)) hx hb dL_changes_55 (by decide +kernel) ?_
      refine lv_icmp_ne (tgt := 63) hx hb dL_changes_56 (by decide) (fun c_56 => ?_) (fun c_56 => ?_)
      · refine lv_iconst (v := (0 : Int32)) hx hb dL_changes_63 (by decide +kernel) ?_
        refine lv_istore (lv' := [(8, .int ((0 : Int32))), (7, .int ((0 : Int32))), (6, .int ((st.2.2.2.2.2 2))), (5, .int ((-5 : Int32))), (4, .int ((0 : Int32))), (3, .int ((st.1 k))), (0, .ref qx), (1, .int ((nI k))), (2, .int v)]) hx hb dL_changes_64 hl (by decide) rfl (fun ls hl => ?_)
        refine lv_iload_n hx hb dL_changes_66 rfl (lv_at hl 8 rfl) ?_
        refine lv_if_ge (tgt := 78) hx hb dL_changes_67 (by decide) (fun _ => ?_) (fun c => absurd hvp c)
        obtain ⟨u1, eC, hI1, y1, y0, y2⟩ := ch_A hI hk hv hph
        have eR : fX5_putRow (nI k) v st = ((st.1 k), u1) := (put_c hk hvb h3).trans eC
        have eT : fX6_put (nI k) v (st, hi) = ((st.1 k), (u1, hiR hi st (st.1 k))) := by rw [put_eq, eR]
        refine lv_aload_n hx hb dL_changes_78 rfl (lv_at hl 6 rfl) ?_
        refine lv_iload_n hx hb dL_changes_79 rfl (lv_at hl 7 rfl) ?_
        refine lv_iload_n hx hb dL_changes_80 rfl (lv_at hl 8 rfl) ?_
        refine bIV (W0 := wO cI cS qx a0 a1 a2 a3 b3 a4 sn sc has ([]) (st, tr, hi)) (wc := [(qx, .inr (6, [.ref (a0 0), .ref (a1 0), .ref (a2 0), .ref (a3 0), .ref (a4 0), .int has]))] :: wSt cI a0 st :: wHi cI cS a3 b3 hi []) (w1 := fun u : TPT => [(qx, .inr (6, [.ref (a0 0), .ref (a1 0), .ref (a2 0), .ref (a3 0), .ref (a4 0), .int has]))] :: wSt cI a0 u.1 :: wHi cI cS a3 b3 u.2 []) ⟨hx, hb, hml, hown, hts⟩ (kX6_put l D cI cS qx a0 a3 b3 (a1 0) (a2 0) (a4 0) has (nI k) v (st, hi) hI.ws hh) (cwV 2 hts gL_changes_X6_put rfl rfl rfl (by decide +kernel) ⟨Nat.le_of_ble_eq_true rfl, Nat.le_of_ble_eq_true rfl⟩) hE hP hD hS rfl rfl [0, 1, 4, 5, 6, 7, 8, 9, 10, 11] rfl rfl (fun _ => rfl) (fun _ => rfl) rfl hl.1 rfl (Nat.le_of_ble_eq_true rfl) ⟨Nat.le_of_ble_eq_true rfl, Nat.le_of_ble_eq_true rfl⟩ dL_changes_81 (fun r_81 u_81 H locs e_81 hP hD hS => ?_)
        have hP : va_P D vwCl (fl (wO cI cS qx a0 a1 a2 a3 b3 a4 sn sc has ([]) (u_81.1, tr, u_81.2))) H := hP
        have hD : va_D A (fl (wO cI cS qx a0 a1 a2 a3 b3 a4 sn sc has ([]) (u_81.1, tr, u_81.2))) := hD
        rw [eT] at e_81
        cases e_81
        have hP : va_P D vwCl (fl (wO cI cS qx a0 a1 a2 a3 b3 a4 sn sc has ([]) (u1, tr, (hiR hi st (st.1 k))))) H := hP
        have hD : va_D A (fl (wO cI cS qx a0 a1 a2 a3 b3 a4 sn sc has ([]) (u1, tr, (hiR hi st (st.1 k))))) := hD
        refine lv_istore (lv' := [(9, .int ((st.1 k))), (8, .int ((0 : Int32))), (7, .int ((0 : Int32))), (6, .int ((st.2.2.2.2.2 2))), (5, .int ((-5 : Int32))), (4, .int ((0 : Int32))), (3, .int ((st.1 k))), (0, .ref qx), (1, .int ((nI k))), (2, .int v)]) hx hb dL_changes_84 hl (by decide) rfl (fun ls hl => ?_)
        refine lv_iload hx hb dL_changes_86 (lv_at hl 5 rfl) ?_
        refine lv_iconst (v := (3 : Int32)) hx hb dL_changes_88 (by decide +kernel) ?_
        refine lv_icmp_ne (tgt := 115) hx hb dL_changes_89 (by decide) (fun _ => ?_) (fun c => absurd c (show ¬ (0 : Int32) = (3 : Int32) by decide))
        refine lv_iload hx hb dL_changes_115 (lv_at hl 2 rfl) ?_
        refine lv_if_eq (tgt := 158) hx hb dL_changes_117 (by decide) (fun _ => ?_) (fun c => absurd (show (0 : Int32) = (0 : Int32) by decide) c)
        refine lv_iload hx hb dL_changes_158 (lv_at hl 0 rfl) ?_
        refine lv_iload_n hx hb dL_changes_160 rfl (lv_at hl 6 rfl) ?_
        refine lv_icmp_ne (tgt := 199) hx hb dL_changes_161 (by decide) (fun c => absurd rfl c) (fun _ => ?_)
        refine lv_aload_n hx hb dL_changes_164 rfl (lv_at hl 7 rfl) ?_
        refine lv_iconst (v := (0 : Int32)) hx hb dL_changes_165 (by decide +kernel) ?_
        refine lv_iload_n hx hb dL_changes_166 rfl (lv_at hl 8 rfl) ?_
        refine bRV (W0 := wO cI cS qx a0 a1 a2 a3 b3 a4 sn sc has ([]) (u1, tr, (hiR hi st (st.1 k)))) (wc := [(qx, .inr (6, [.ref (a0 0), .ref (a1 0), .ref (a2 0), .ref (a3 0), .ref (a4 0), .int has]))] :: wSt cI a0 u1 :: []) (r := v) ⟨hx, hb, hml, hown, hts⟩ (KR.eq (kX6_value l D cI cS qx a0 (a1 0) (a2 0) (a3 0) (a4 0) has (0 : Int32) (nI k) u1) ((val_0 hk).trans y1)) (cwV 2 hts gL_changes_X6_value rfl rfl rfl (by decide +kernel) ⟨Nat.le_of_ble_eq_true rfl, Nat.le_of_ble_eq_true rfl⟩) hE hP rfl rfl [0, 1] rfl rfl rfl hl.1 rfl (Nat.le_of_ble_eq_true rfl) ⟨Nat.le_of_ble_eq_true rfl, Nat.le_of_ble_eq_true rfl⟩ dL_changes_167 ?_
        refine lv_iload_n hx hb dL_changes_170 rfl (lv_at hl 9 rfl) ?_
        refine lv_icmp_ne (tgt := 199) hx hb dL_changes_171 (by decide) (fun c => absurd rfl c) (fun _ => ?_)
        refine lv_aload_n hx hb dL_changes_174 rfl (lv_at hl 7 rfl) ?_
        refine lv_iconst (v := (2 : Int32)) hx hb dL_changes_175 (by decide +kernel) ?_
        refine bRV (W0 := wO cI cS qx a0 a1 a2 a3 b3 a4 sn sc has ([]) (u1, tr, (hiR hi st (st.1 k)))) (wc := [(qx, .inr (6, [.ref (a0 0), .ref (a1 0), .ref (a2 0), .ref (a3 0), .ref (a4 0), .int has]))] :: wSt cI a0 u1 :: []) (r := (st.2.2.2.2.2 2)) ⟨hx, hb, hml, hown, hts⟩ (KR.eq (kX6_total l D cI cS qx a0 (a1 0) (a2 0) (a3 0) (a4 0) has (2 : Int32) u1) ((tot_i (i := 2) (by omega)).trans y2)) (cwV 1 hts gL_changes_X6_total rfl rfl rfl (by decide +kernel) ⟨Nat.le_of_ble_eq_true rfl, Nat.le_of_ble_eq_true rfl⟩) hE hP rfl rfl [0, 1] rfl rfl rfl hl.1 rfl (Nat.le_of_ble_eq_true rfl) ⟨Nat.le_of_ble_eq_true rfl, Nat.le_of_ble_eq_true rfl⟩ dL_changes_176 ?_
        refine lv_iload hx hb dL_changes_179 (lv_at hl 3 rfl) ?_
        refine lv_iload hx hb dL_changes_181 (lv_at hl 2 rfl) ?_
        refine lv_if_eq (tgt := 190) hx hb dL_changes_183 (by decide) (fun _ => ?_) (fun c => absurd (show (0 : Int32) = (0 : Int32) by decide) c)
        refine lv_iconst (v := (0 : Int32)) hx hb dL_changes_190 (by decide +kernel) ?_
        refine lv_iadd hx hb dL_changes_191 ?_
        refine lv_icmp_ne (tgt := 199) hx hb dL_changes_192 (by decide) (fun c => absurd (i_add0 _).symm c) (fun _ => ?_)
        refine lv_iconst (v := (1 : Int32)) hx hb dL_changes_195 (by decide +kernel) ?_
        refine lv_goto (tgt := 200) hx hb dL_changes_196 (by decide) ?_
        refine lv_istore (lv' := [(10, .int ((1 : Int32))), (9, .int ((st.1 k))), (8, .int ((0 : Int32))), (7, .int ((0 : Int32))), (6, .int ((st.2.2.2.2.2 2))), (5, .int ((-5 : Int32))), (4, .int ((0 : Int32))), (3, .int ((st.1 k))), (0, .ref qx), (1, .int ((nI k))), (2, .int v)]) hx hb dL_changes_200 hl (by decide) rfl (fun ls hl => ?_)
        refine lv_iload hx hb dL_changes_202 (lv_at hl 0 rfl) ?_
        refine lv_if_eq (tgt := 256) hx hb dL_changes_204 (by decide) (fun c => absurd c (show ¬ (1 : Int32) = (0 : Int32) by decide)) (fun _ => ?_)
        refine lv_iload hx hb dL_changes_207 (lv_at hl 6 rfl) ?_
        refine lv_if_eq (tgt := 252) hx hb dL_changes_209 (by decide) (fun _ => ?_) (fun c => absurd (show (0 : Int32) = (0 : Int32) by decide) c)
        refine lv_iconst (v := (1 : Int32)) hx hb dL_changes_252 (by decide +kernel) ?_
        refine lv_goto (tgt := 257) hx hb dL_changes_253 (by decide) ?_
        exact hend _ _ _ (u1, (hiR hi st (st.1 k))) _ _ _ _ dL_changes_257 rfl (Nat.le_refl _) (Nat.le_refl _) ⟨rfl, hI1, (hh.rec hbo (st.1 k))⟩ hP hS
      · refine lv_iconst (v := (1 : Int32)) hx hb dL_changes_59 (by decide +kernel) ?_
        refine lv_goto (tgt := 64) hx hb dL_changes_60 (by decide) ?_
        refine lv_istore (lv' := [(8, .int ((1 : Int32))), (7, .int ((0 : Int32))), (6, .int ((st.2.2.2.2.2 2))), (5, .int ((-5 : Int32))), (4, .int ((0 : Int32))), (3, .int ((st.1 k))), (0, .ref qx), (1, .int ((nI k))), (2, .int v)]) hx hb dL_changes_64 hl (by decide) rfl (fun ls hl => ?_)
        refine lv_iload_n hx hb dL_changes_66 rfl (lv_at hl 8 rfl) ?_
        refine lv_if_ge (tgt := 78) hx hb dL_changes_67 (by decide) (fun _ => ?_) (fun c => absurd hvp c)
        obtain ⟨u1, eC, hI1, y1, y0, y2⟩ := ch_A hI hk hv hph
        have eR : fX5_putRow (nI k) v st = ((st.1 k), u1) := (put_c hk hvb h3).trans eC
        have eT : fX6_put (nI k) v (st, hi) = ((st.1 k), (u1, hiR hi st (st.1 k))) := by rw [put_eq, eR]
        refine lv_aload_n hx hb dL_changes_78 rfl (lv_at hl 6 rfl) ?_
        refine lv_iload_n hx hb dL_changes_79 rfl (lv_at hl 7 rfl) ?_
        refine lv_iload_n hx hb dL_changes_80 rfl (lv_at hl 8 rfl) ?_
        refine bIV (W0 := wO cI cS qx a0 a1 a2 a3 b3 a4 sn sc has ([]) (st, tr, hi)) (wc := [(qx, .inr (6, [.ref (a0 0), .ref (a1 0), .ref (a2 0), .ref (a3 0), .ref (a4 0), .int has]))] :: wSt cI a0 st :: wHi cI cS a3 b3 hi []) (w1 := fun u : TPT => [(qx, .inr (6, [.ref (a0 0), .ref (a1 0), .ref (a2 0), .ref (a3 0), .ref (a4 0), .int has]))] :: wSt cI a0 u.1 :: wHi cI cS a3 b3 u.2 []) ⟨hx, hb, hml, hown, hts⟩ (kX6_put l D cI cS qx a0 a3 b3 (a1 0) (a2 0) (a4 0) has (nI k) v (st, hi) hI.ws hh) (cwV 2 hts gL_changes_X6_put rfl rfl rfl (by decide +kernel) ⟨Nat.le_of_ble_eq_true rfl, Nat.le_of_ble_eq_true rfl⟩) hE hP hD hS rfl rfl [0, 1, 4, 5, 6, 7, 8, 9, 10, 11] rfl rfl (fun _ => rfl) (fun _ => rfl) rfl hl.1 rfl (Nat.le_of_ble_eq_true rfl) ⟨Nat.le_of_ble_eq_true rfl, Nat.le_of_ble_eq_true rfl⟩ dL_changes_81 (fun r_81 u_81 H locs e_81 hP hD hS => ?_)
        have hP : va_P D vwCl (fl (wO cI cS qx a0 a1 a2 a3 b3 a4 sn sc has ([]) (u_81.1, tr, u_81.2))) H := hP
        have hD : va_D A (fl (wO cI cS qx a0 a1 a2 a3 b3 a4 sn sc has ([]) (u_81.1, tr, u_81.2))) := hD
        rw [eT] at e_81
        cases e_81
        have hP : va_P D vwCl (fl (wO cI cS qx a0 a1 a2 a3 b3 a4 sn sc has ([]) (u1, tr, (hiR hi st (st.1 k))))) H := hP
        have hD : va_D A (fl (wO cI cS qx a0 a1 a2 a3 b3 a4 sn sc has ([]) (u1, tr, (hiR hi st (st.1 k))))) := hD
        refine lv_istore (lv' := [(9, .int ((st.1 k))), (8, .int ((1 : Int32))), (7, .int ((0 : Int32))), (6, .int ((st.2.2.2.2.2 2))), (5, .int ((-5 : Int32))), (4, .int ((0 : Int32))), (3, .int ((st.1 k))), (0, .ref qx), (1, .int ((nI k))), (2, .int v)]) hx hb dL_changes_84 hl (by decide) rfl (fun ls hl => ?_)
        refine lv_iload hx hb dL_changes_86 (lv_at hl 5 rfl) ?_
        refine lv_iconst (v := (3 : Int32)) hx hb dL_changes_88 (by decide +kernel) ?_
        refine lv_icmp_ne (tgt := 115) hx hb dL_changes_89 (by decide) (fun _ => ?_) (fun c => absurd c (show ¬ (0 : Int32) = (3 : Int32) by decide))
        refine lv_iload hx hb dL_changes_115 (lv_at hl 2 rfl) ?_
        refine lv_if_eq (tgt := 158) hx hb dL_changes_117 (by decide) (fun _ => ?_) (fun c => absurd (show (0 : Int32) = (0 : Int32) by decide) c)
        refine lv_iload hx hb dL_changes_158 (lv_at hl 0 rfl) ?_
        refine lv_iload_n hx hb dL_changes_160 rfl (lv_at hl 6 rfl) ?_
        refine lv_icmp_ne (tgt := 199) hx hb dL_changes_161 (by decide) (fun c => absurd rfl c) (fun _ => ?_)
        refine lv_aload_n hx hb dL_changes_164 rfl (lv_at hl 7 rfl) ?_
        refine lv_iconst (v := (0 : Int32)) hx hb dL_changes_165 (by decide +kernel) ?_
        refine lv_iload_n hx hb dL_changes_166 rfl (lv_at hl 8 rfl) ?_
        refine bRV (W0 := wO cI cS qx a0 a1 a2 a3 b3 a4 sn sc has ([]) (u1, tr, (hiR hi st (st.1 k)))) (wc := [(qx, .inr (6, [.ref (a0 0), .ref (a1 0), .ref (a2 0), .ref (a3 0), .ref (a4 0), .int has]))] :: wSt cI a0 u1 :: []) (r := v) ⟨hx, hb, hml, hown, hts⟩ (KR.eq (kX6_value l D cI cS qx a0 (a1 0) (a2 0) (a3 0) (a4 0) has (0 : Int32) (nI k) u1) ((val_0 hk).trans y1)) (cwV 2 hts gL_changes_X6_value rfl rfl rfl (by decide +kernel) ⟨Nat.le_of_ble_eq_true rfl, Nat.le_of_ble_eq_true rfl⟩) hE hP rfl rfl [0, 1] rfl rfl rfl hl.1 rfl (Nat.le_of_ble_eq_true rfl) ⟨Nat.le_of_ble_eq_true rfl, Nat.le_of_ble_eq_true rfl⟩ dL_changes_167 ?_
        refine lv_iload_n hx hb dL_changes_170 rfl (lv_at hl 9 rfl) ?_
        refine lv_icmp_ne (tgt := 199) hx hb dL_changes_171 (by decide) (fun c => absurd rfl c) (fun _ => ?_)
        refine lv_aload_n hx hb dL_changes_174 rfl (lv_at hl 7 rfl) ?_
        refine lv_iconst (v := (2 : Int32)) hx hb dL_changes_175 (by decide +kernel) ?_
        refine bRV (W0 := wO cI cS qx a0 a1 a2 a3 b3 a4 sn sc has ([]) (u1, tr, (hiR hi st (st.1 k)))) (wc := [(qx, .inr (6, [.ref (a0 0), .ref (a1 0), .ref (a2 0), .ref (a3 0), .ref (a4 0), .int has]))] :: wSt cI a0 u1 :: []) (r := (st.2.2.2.2.2 2)) ⟨hx, hb, hml, hown, hts⟩ (KR.eq (kX6_total l D cI cS qx a0 (a1 0) (a2 0) (a3 0) (a4 0) has (2 : Int32) u1) ((tot_i (i := 2) (by omega)).trans y2)) (cwV 1 hts gL_changes_X6_total rfl rfl rfl (by decide +kernel) ⟨Nat.le_of_ble_eq_true rfl, Nat.le_of_ble_eq_true rfl⟩) hE hP rfl rfl [0, 1] rfl rfl rfl hl.1 rfl (Nat.le_of_ble_eq_true rfl) ⟨Nat.le_of_ble_eq_true rfl, Nat.le_of_ble_eq_true rfl⟩ dL_changes_176 ?_
        refine lv_iload hx hb dL_changes_179 (lv_at hl 3 rfl) ?_
        refine lv_iload hx hb dL_changes_181 (lv_at hl 2 rfl) ?_
        refine lv_if_eq (tgt := 190) hx hb dL_changes_183 (by decide) (fun _ => ?_) (fun c => absurd (show (0 : Int32) = (0 : Int32) by decide) c)
        refine lv_iconst (v := (0 : Int32)) hx hb dL_changes_190 (by decide +kernel) ?_
        refine lv_iadd hx hb dL_changes_191 ?_
        refine lv_icmp_ne (tgt := 199) hx hb dL_changes_192 (by decide) (fun c => absurd (i_add0 _).symm c) (fun _ => ?_)
        refine lv_iconst (v := (1 : Int32)) hx hb dL_changes_195 (by decide +kernel) ?_
        refine lv_goto (tgt := 200) hx hb dL_changes_196 (by decide) ?_
        refine lv_istore (lv' := [(10, .int ((1 : Int32))), (9, .int ((st.1 k))), (8, .int ((1 : Int32))), (7, .int ((0 : Int32))), (6, .int ((st.2.2.2.2.2 2))), (5, .int ((-5 : Int32))), (4, .int ((0 : Int32))), (3, .int ((st.1 k))), (0, .ref qx), (1, .int ((nI k))), (2, .int v)]) hx hb dL_changes_200 hl (by decide) rfl (fun ls hl => ?_)
        refine lv_iload hx hb dL_changes_202 (lv_at hl 0 rfl) ?_
        refine lv_if_eq (tgt := 256) hx hb dL_changes_204 (by decide) (fun c => absurd c (show ¬ (1 : Int32) = (0 : Int32) by decide)) (fun _ => ?_)
        refine lv_iload hx hb dL_changes_207 (lv_at hl 6 rfl) ?_
        refine lv_if_eq (tgt := 252) hx hb dL_changes_209 (by decide) (fun _ => ?_) (fun c => absurd (show (0 : Int32) = (0 : Int32) by decide) c)
        refine lv_iconst (v := (1 : Int32)) hx hb dL_changes_252 (by decide +kernel) ?_
        refine lv_goto (tgt := 257) hx hb dL_changes_253 (by decide) ?_
        exact hend _ _ _ (u1, (hiR hi st (st.1 k))) _ _ _ _ dL_changes_257 rfl (Nat.le_refl _) (Nat.le_refl _) ⟨rfl, hI1, (hh.rec hbo (st.1 k))⟩ hP hS
  · refine (Decidable.em (st.2.2.2.1.2.2.1 = (3 : Int32))).elim (fun hph => ?_) (fun h3 => ?_)
    · refine (Decidable.em (st.2.2.2.1.2.1.2.2.2 = (24 : Int32))).elim (fun hz => ?_) (fun hz => ?_)
      · refine (Decidable.em (v < (0 : Int32))).elim (fun hvn => ?_) (fun hvq => ?_)
        · have hv5 : v = (-5 : Int32) := rw_neg hv hvn
          refine (Decidable.em ((st.1 k) < (0 : Int32))).elim (fun hhn => ?_) (fun hhp => ?_)
          · have hh5 : (st.1 k) = (-5 : Int32) := rw_neg hr hhn
            refine lv_aload_n hx hb dL_changes_0 rfl (lv_at hl 0 rfl) ?_
            refine lv_iconst (v := (0 : Int32)) hx hb dL_changes_1 (by decide +kernel) ?_
            refine lv_iload_n hx hb dL_changes_2 rfl (lv_at hl 1 rfl) ?_
            refine bRV (W0 := wO cI cS qx a0 a1 a2 a3 b3 a4 sn sc has ([]) (st, tr, hi)) (wc := [(qx, .inr (6, [.ref (a0 0), .ref (a1 0), .ref (a2 0), .ref (a3 0), .ref (a4 0), .int has]))] :: wSt cI a0 st :: []) (r := (st.1 k)) ⟨hx, hb, hml, hown, hts⟩ (KR.eq (kX6_value l D cI cS qx a0 (a1 0) (a2 0) (a3 0) (a4 0) has (0 : Int32) (nI k) st) (val_0 hk)) (cwV 2 hts gL_changes_X6_value rfl rfl rfl (by decide +kernel) ⟨Nat.le_of_ble_eq_true rfl, Nat.le_of_ble_eq_true rfl⟩) hE hP rfl rfl [0, 1] rfl rfl rfl hl.1 rfl (Nat.le_of_ble_eq_true rfl) ⟨Nat.le_of_ble_eq_true rfl, Nat.le_of_ble_eq_true rfl⟩ dL_changes_3 ?_
            refine lv_istore_n (lv' := [(3, .int ((st.1 k))), (0, .ref qx), (1, .int ((nI k))), (2, .int v)]) hx hb dL_changes_6 rfl hl (by decide) rfl (fun ls hl => ?_)
            refine lv_aload_n hx hb dL_changes_7 rfl (lv_at hl 1 rfl) ?_
            refine lv_iconst (v := (0 : Int32)) hx hb dL_changes_8 (by decide +kernel) ?_
            refine bRV (W0 := wO cI cS qx a0 a1 a2 a3 b3 a4 sn sc has ([]) (st, tr, hi)) (wc := [(qx, .inr (6, [.ref (a0 0), .ref (a1 0), .ref (a2 0), .ref (a3 0), .ref (a4 0), .int has]))] :: wSt cI a0 st :: []) (r := (3 : Int32)) ⟨hx, hb, hml, hown, hts⟩ (KR.eq (kX6_copy l D cI cS qx a0 (a1 0) (a2 0) (a3 0) (a4 0) has (0 : Int32) st) ((cp_0 st).trans hph)) (cwV 1 hts gL_changes_X6_copy rfl rfl rfl (by decide +kernel) ⟨Nat.le_of_ble_eq_true rfl, Nat.le_of_ble_eq_true rfl⟩) hE hP rfl rfl [0, 1] rfl rfl rfl hl.1 rfl (Nat.le_of_ble_eq_true rfl) ⟨Nat.le_of_ble_eq_true rfl, Nat.le_of_ble_eq_true rfl⟩ dL_changes_9 ?_
            refine lv_istore (lv' := [(4, .int ((3 : Int32))), (3, .int ((st.1 k))), (0, .ref qx), (1, .int ((nI k))), (2, .int v)]) hx hb dL_changes_12 hl (by decide) rfl (fun ls hl => ?_)
            refine lv_aload_n hx hb dL_changes_14 rfl (lv_at hl 2 rfl) ?_
            refine lv_iconst (v := (4 : Int32)) hx hb dL_changes_15 (by decide +kernel) ?_
            refine bRV (W0 := wO cI cS qx a0 a1 a2 a3 b3 a4 sn sc has ([]) (st, tr, hi)) (wc := [(qx, .inr (6, [.ref (a0 0), .ref (a1 0), .ref (a2 0), .ref (a3 0), .ref (a4 0), .int has]))] :: wSt cI a0 st :: []) (r := st.2.2.2.1.2.1.2.2.2) ⟨hx, hb, hml, hown, hts⟩ (KR.eq (kX6_copy l D cI cS qx a0 (a1 0) (a2 0) (a3 0) (a4 0) has (4 : Int32) st) (cp_4 h0)) (cwV 1 hts gL_changes_X6_copy rfl rfl rfl (by decide +kernel) ⟨Nat.le_of_ble_eq_true rfl, Nat.le_of_ble_eq_true rfl⟩) hE hP rfl rfl [0, 1] rfl rfl rfl hl.1 rfl (Nat.le_of_ble_eq_true rfl) ⟨Nat.le_of_ble_eq_true rfl, Nat.le_of_ble_eq_true rfl⟩ dL_changes_16 ?_
            refine lv_istore (lv' := [(5, .int st.2.2.2.1.2.1.2.2.2), (4, .int ((3 : Int32))), (3, .int ((st.1 k))), (0, .ref qx), (1, .int ((nI k))), (2, .int v)]) hx hb dL_changes_19 hl (by decide) rfl (fun ls hl => ?_)
            refine lv_aload_n hx hb dL_changes_21 rfl (lv_at hl 3 rfl) ?_
            refine lv_iconst (v := (2 : Int32)) hx hb dL_changes_22 (by decide +kernel) ?_
            refine bRV (W0 := wO cI cS qx a0 a1 a2 a3 b3 a4 sn sc has ([]) (st, tr, hi)) (wc := [(qx, .inr (6, [.ref (a0 0), .ref (a1 0), .ref (a2 0), .ref (a3 0), .ref (a4 0), .int has]))] :: wSt cI a0 st :: []) (r := (st.2.2.2.2.2 2)) ⟨hx, hb, hml, hown, hts⟩ (KR.eq (kX6_total l D cI cS qx a0 (a1 0) (a2 0) (a3 0) (a4 0) has (2 : Int32) st) (tot_i (i := 2) (by omega))) (cwV 1 hts gL_changes_X6_total rfl rfl rfl (by decide +kernel) ⟨Nat.le_of_ble_eq_true rfl, Nat.le_of_ble_eq_true rfl⟩) hE hP rfl rfl [0, 1] rfl rfl rfl hl.1 rfl (Nat.le_of_ble_eq_true rfl) ⟨Nat.le_of_ble_eq_true rfl, Nat.le_of_ble_eq_true rfl⟩ dL_changes_23 ?_
            refine lv_istore (lv' := [(6, .int ((st.2.2.2.2.2 2))), (5, .int st.2.2.2.1.2.1.2.2.2), (4, .int ((3 : Int32))), (3, .int ((st.1 k))), (0, .ref qx), (1, .int ((nI k))), (2, .int v)]) hx hb dL_changes_26 hl (by decide) rfl (fun ls hl => ?_)
            refine lv_iload hx hb dL_changes_28 (lv_at hl 1 rfl) ?_
            refine lv_bipush (v := (24 : Int32)) hx hb dL_changes_30 (by decide +kernel) ?_
            refine lv_icmp_ne (tgt := 47) hx hb dL_changes_32 (by decide) (fun c => absurd hz c) (fun _ => ?_)
            refine lv_iload_n hx hb dL_changes_35 rfl (lv_at hl 6 rfl) ?_
            refine lv_if_ge (tgt := 43) hx hb dL_changes_36 (by decide) (fun c => absurd c (Int32.not_le.mpr hvn)) (fun _ => ?_)
            refine lv_iload_n hx hb dL_changes_39 rfl (lv_at hl 3 rfl) ?_
            refine lv_if_lt (tgt := 47) hx hb dL_changes_40 (by decide) (fun _ => ?_) (fun c => absurd hhn c)
            refine lv_iconst (v := (0 : Int32)) hx hb dL_changes_47 (by decide +kernel) ?_
            refine lv_istore (lv' := [(7, .int ((0 : Int32))), (6, .int ((st.2.2.2.2.2 2))), (5, .int st.2.2.2.1.2.1.2.2.2), (4, .int ((3 : Int32))), (3, .int ((st.1 k))), (0, .ref qx), (1, .int ((nI k))), (2, .int v)]) hx hb dL_changes_48 hl (by decide) rfl (fun ls hl => ?_)
            refine lv_aload_n hx hb dL_changes_50 rfl (lv_at hl 5 rfl) ?_
            refine lv_iconst (v := (3 : Int32)) hx hb dL_changes_51 (by decide +kernel) ?_
            refine bRV (W0 := wO cI cS qx a0 a1 a2 a3 b3 a4 sn sc has ([]) (st, tr, hi)) (wc := [(qx, .inr (6, [.ref (a0 0), .ref (a1 0), .ref (a2 0), .ref (a3 0), .ref (a4 0), .int has]))] :: wSt cI a0 st :: []) (r := (st.2.2.2.2.1 3)) ⟨hx, hb, hml, hown, hts⟩ (KR.eq (kX6_setting l D cI cS qx a0 (a1 0) (a2 0) (a3 0) (a4 0) has (3 : Int32) st) (set_i (i := 3) (by omega))) (cwV 1 hts gL_changes_X6_setting rfl rfl rfl (by decide +kernel) ⟨Nat.le_of_ble_eq_true rfl, Nat.le_of_ble_eq_true rfl⟩) hE hP rfl rfl [0, 1] rfl rfl rfl hl.1 rfl (Nat.le_of_ble_eq_true rfl) ⟨Nat.le_of_ble_eq_true rfl, Nat.le_of_ble_eq_true rfl⟩ dL_changes_52 ?_
            refine lv_iconst (v := (1 : Int32)) hx hb dL_changes_55 (by decide +kernel) ?_
            refine lv_icmp_ne (tgt := 63) hx hb dL_changes_56 (by decide) (fun c_56 => ?_) (fun c_56 => ?_)
            · refine lv_iconst (v := (0 : Int32)) hx hb dL_changes_63 (by decide +kernel) ?_
              refine lv_istore (lv' := [(8, .int ((0 : Int32))), (7, .int ((0 : Int32))), (6, .int ((st.2.2.2.2.2 2))), (5, .int st.2.2.2.1.2.1.2.2.2), (4, .int ((3 : Int32))), (3, .int ((st.1 k))), (0, .ref qx), (1, .int ((nI k))), (2, .int v)]) hx hb dL_changes_64 hl (by decide) rfl (fun ls hl => ?_)
              refine lv_iload_n hx hb dL_changes_66 rfl (lv_at hl 8 rfl) ?_
              refine lv_if_ge (tgt := 78) hx hb dL_changes_67 (by decide) (fun c => absurd c (Int32.not_le.mpr hvn)) (fun _ => ?_)
              have eR : fX5_eraseRow (nI k) st = ((-4 : Int32), st) := erase_3 hk hph
              have eT : fX6_erase (nI k) (st, hi) = ((-4 : Int32), (st, hiR hi st (-4 : Int32))) := by rw [erase_eq, eR]
              refine lv_aload_n hx hb dL_changes_70 rfl (lv_at hl 6 rfl) ?_
              refine lv_iload_n hx hb dL_changes_71 rfl (lv_at hl 7 rfl) ?_
              refine bIV (W0 := wO cI cS qx a0 a1 a2 a3 b3 a4 sn sc has ([]) (st, tr, hi)) (wc := [(qx, .inr (6, [.ref (a0 0), .ref (a1 0), .ref (a2 0), .ref (a3 0), .ref (a4 0), .int has]))] :: wSt cI a0 st :: wHi cI cS a3 b3 hi []) (w1 := fun u : TPT => [(qx, .inr (6, [.ref (a0 0), .ref (a1 0), .ref (a2 0), .ref (a3 0), .ref (a4 0), .int has]))] :: wSt cI a0 u.1 :: wHi cI cS a3 b3 u.2 []) ⟨hx, hb, hml, hown, hts⟩ (kX6_erase l D cI cS qx a0 a3 b3 (a1 0) (a2 0) (a4 0) has (nI k) (st, hi) hI.ws hh) (cwV 1 hts gL_changes_X6_erase rfl rfl rfl (by decide +kernel) ⟨Nat.le_of_ble_eq_true rfl, Nat.le_of_ble_eq_true rfl⟩) hE hP hD hS rfl rfl [0, 1, 4, 5, 6, 7, 8, 9, 10, 11] rfl rfl (fun _ => rfl) (fun _ => rfl) rfl hl.1 rfl (Nat.le_of_ble_eq_true rfl) ⟨Nat.le_of_ble_eq_true rfl, Nat.le_of_ble_eq_true rfl⟩ dL_changes_72 (fun r_72 u_72 H locs e_72 hP hD hS => ?_)
              have hP : va_P D vwCl (fl (wO cI cS qx a0 a1 a2 a3 b3 a4 sn sc has ([]) (u_72.1, tr, u_72.2))) H := hP
              have hD : va_D A (fl (wO cI cS qx a0 a1 a2 a3 b3 a4 sn sc has ([]) (u_72.1, tr, u_72.2))) := hD
              rw [eT] at e_72
              cases e_72
              have hP : va_P D vwCl (fl (wO cI cS qx a0 a1 a2 a3 b3 a4 sn sc has ([]) (st, tr, (hiR hi st (-4 : Int32))))) H := hP
              have hD : va_D A (fl (wO cI cS qx a0 a1 a2 a3 b3 a4 sn sc has ([]) (st, tr, (hiR hi st (-4 : Int32))))) := hD
              refine lv_goto (tgt := 84) hx hb dL_changes_75 (by decide) ?_
              refine lv_istore (lv' := [(9, .int ((-4 : Int32))), (8, .int ((0 : Int32))), (7, .int ((0 : Int32))), (6, .int ((st.2.2.2.2.2 2))), (5, .int st.2.2.2.1.2.1.2.2.2), (4, .int ((3 : Int32))), (3, .int ((st.1 k))), (0, .ref qx), (1, .int ((nI k))), (2, .int v)]) hx hb dL_changes_84 hl (by decide) rfl (fun ls hl => ?_)
              refine lv_iload hx hb dL_changes_86 (lv_at hl 5 rfl) ?_
              refine lv_iconst (v := (3 : Int32)) hx hb dL_changes_88 (by decide +kernel) ?_
              refine lv_icmp_ne (tgt := 115) hx hb dL_changes_89 (by decide) (fun c => absurd (show (3 : Int32) = (3 : Int32) by decide) c) (fun _ => ?_)
              refine lv_iload hx hb dL_changes_92 (lv_at hl 0 rfl) ?_
              refine lv_bipush (v := (-4 : Int32)) hx hb dL_changes_94 (by decide +kernel) ?_
              refine lv_icmp_ne (tgt := 113) hx hb dL_changes_96 (by decide) (fun c => absurd (show (-4 : Int32) = (-4 : Int32) by decide) c) (fun _ => ?_)
              refine lv_aload_n hx hb dL_changes_99 rfl (lv_at hl 7 rfl) ?_
              refine lv_iconst (v := (0 : Int32)) hx hb dL_changes_100 (by decide +kernel) ?_
              refine lv_iload_n hx hb dL_changes_101 rfl (lv_at hl 8 rfl) ?_
              refine bRV (W0 := wO cI cS qx a0 a1 a2 a3 b3 a4 sn sc has ([]) (st, tr, (hiR hi st (-4 : Int32)))) (wc := [(qx, .inr (6, [.ref (a0 0), .ref (a1 0), .ref (a2 0), .ref (a3 0), .ref (a4 0), .int has]))] :: wSt cI a0 st :: []) (r := (st.1 k)) ⟨hx, hb, hml, hown, hts⟩ (KR.eq (kX6_value l D cI cS qx a0 (a1 0) (a2 0) (a3 0) (a4 0) has (0 : Int32) (nI k) st) (val_0 hk)) (cwV 2 hts gL_changes_X6_value rfl rfl rfl (by decide +kernel) ⟨Nat.le_of_ble_eq_true rfl, Nat.le_of_ble_eq_true rfl⟩) hE hP rfl rfl [0, 1] rfl rfl rfl hl.1 rfl (Nat.le_of_ble_eq_true rfl) ⟨Nat.le_of_ble_eq_true rfl, Nat.le_of_ble_eq_true rfl⟩ dL_changes_102 ?_
              refine lv_iload_n hx hb dL_changes_105 rfl (lv_at hl 6 rfl) ?_
              refine lv_icmp_ne (tgt := 113) hx hb dL_changes_106 (by decide) (fun c => absurd rfl c) (fun _ => ?_)
              refine lv_iconst (v := (1 : Int32)) hx hb dL_changes_109 (by decide +kernel) ?_
              refine lv_goto (tgt := 114) hx hb dL_changes_110 (by decide) ?_
              exact hend _ _ _ (st, (hiR hi st (-4 : Int32))) _ _ _ _ dL_changes_114 rfl (Nat.le_refl _) (Nat.le_refl _) ⟨rfl, hI, (hh.rec hbo (-4 : Int32))⟩ hP hS
            · refine lv_iconst (v := (1 : Int32)) hx hb dL_changes_59 (by decide +kernel) ?_
              refine lv_goto (tgt := 64) hx hb dL_changes_60 (by decide) ?_
              refine lv_istore (lv' := [(8, .int ((1 : Int32))), (7, .int ((0 : Int32))), (6, .int ((st.2.2.2.2.2 2))), (5, .int st.2.2.2.1.2.1.2.2.2), (4, .int ((3 : Int32))), (3, .int ((st.1 k))), (0, .ref qx), (1, .int ((nI k))), (2, .int v)]) hx hb dL_changes_64 hl (by decide) rfl (fun ls hl => ?_)
              refine lv_iload_n hx hb dL_changes_66 rfl (lv_at hl 8 rfl) ?_
              refine lv_if_ge (tgt := 78) hx hb dL_changes_67 (by decide) (fun c => absurd c (Int32.not_le.mpr hvn)) (fun _ => ?_)
              have eR : fX5_eraseRow (nI k) st = ((-4 : Int32), st) := erase_3 hk hph
              have eT : fX6_erase (nI k) (st, hi) = ((-4 : Int32), (st, hiR hi st (-4 : Int32))) := by rw [erase_eq, eR]
              refine lv_aload_n hx hb dL_changes_70 rfl (lv_at hl 6 rfl) ?_
              refine lv_iload_n hx hb dL_changes_71 rfl (lv_at hl 7 rfl) ?_
              refine bIV (W0 := wO cI cS qx a0 a1 a2 a3 b3 a4 sn sc has ([]) (st, tr, hi)) (wc := [(qx, .inr (6, [.ref (a0 0), .ref (a1 0), .ref (a2 0), .ref (a3 0), .ref (a4 0), .int has]))] :: wSt cI a0 st :: wHi cI cS a3 b3 hi []) (w1 := fun u : TPT => [(qx, .inr (6, [.ref (a0 0), .ref (a1 0), .ref (a2 0), .ref (a3 0), .ref (a4 0), .int has]))] :: wSt cI a0 u.1 :: wHi cI cS a3 b3 u.2 []) ⟨hx, hb, hml, hown, hts⟩ (kX6_erase l D cI cS qx a0 a3 b3 (a1 0) (a2 0) (a4 0) has (nI k) (st, hi) hI.ws hh) (cwV 1 hts gL_changes_X6_erase rfl rfl rfl (by decide +kernel) ⟨Nat.le_of_ble_eq_true rfl, Nat.le_of_ble_eq_true rfl⟩) hE hP hD hS rfl rfl [0, 1, 4, 5, 6, 7, 8, 9, 10, 11] rfl rfl (fun _ => rfl) (fun _ => rfl) rfl hl.1 rfl (Nat.le_of_ble_eq_true rfl) ⟨Nat.le_of_ble_eq_true rfl, Nat.le_of_ble_eq_true rfl⟩ dL_changes_72 (fun r_72 u_72 H locs e_72 hP hD hS => ?_)
              have hP : va_P D vwCl (fl (wO cI cS qx a0 a1 a2 a3 b3 a4 sn sc has ([]) (u_72.1, tr, u_72.2))) H := hP
              have hD : va_D A (fl (wO cI cS qx a0 a1 a2 a3 b3 a4 sn sc has ([]) (u_72.1, tr, u_72.2))) := hD
              rw [eT] at e_72
              cases e_72
              have hP : va_P D vwCl (fl (wO cI cS qx a0 a1 a2 a3 b3 a4 sn sc has ([]) (st, tr, (hiR hi st (-4 : Int32))))) H := hP
              have hD : va_D A (fl (wO cI cS qx a0 a1 a2 a3 b3 a4 sn sc has ([]) (st, tr, (hiR hi st (-4 : Int32))))) := hD
              refine lv_goto (tgt := 84) hx hb dL_changes_75 (by decide) ?_
              refine lv_istore (lv' := [(9, .int ((-4 : Int32))), (8, .int ((1 : Int32))), (7, .int ((0 : Int32))), (6, .int ((st.2.2.2.2.2 2))), (5, .int st.2.2.2.1.2.1.2.2.2), (4, .int ((3 : Int32))), (3, .int ((st.1 k))), (0, .ref qx), (1, .int ((nI k))), (2, .int v)]) hx hb dL_changes_84 hl (by decide) rfl (fun ls hl => ?_)
              refine lv_iload hx hb dL_changes_86 (lv_at hl 5 rfl) ?_
              refine lv_iconst (v := (3 : Int32)) hx hb dL_changes_88 (by decide +kernel) ?_
              refine lv_icmp_ne (tgt := 115) hx hb dL_changes_89 (by decide) (fun c => absurd (show (3 : Int32) = (3 : Int32) by decide) c) (fun _ => ?_)
              refine lv_iload hx hb dL_changes_92 (lv_at hl 0 rfl) ?_
              refine lv_bipush (v := (-4 : Int32)) hx hb dL_changes_94 (by decide +kernel) ?_
              refine lv_icmp_ne (tgt := 113) hx hb dL_changes_96 (by decide) (fun c => absurd (show (-4 : Int32) = (-4 : Int32) by decide) c) (fun _ => ?_)
              refine lv_aload_n hx hb dL_changes_99 rfl (lv_at hl 7 rfl) ?_
              refine lv_iconst (v := (0 : Int32)) hx hb dL_changes_100 (by decide +kernel) ?_
              refine lv_iload_n hx hb dL_changes_101 rfl (lv_at hl 8 rfl) ?_
              refine bRV (W0 := wO cI cS qx a0 a1 a2 a3 b3 a4 sn sc has ([]) (st, tr, (hiR hi st (-4 : Int32)))) (wc := [(qx, .inr (6, [.ref (a0 0), .ref (a1 0), .ref (a2 0), .ref (a3 0), .ref (a4 0), .int has]))] :: wSt cI a0 st :: []) (r := (st.1 k)) ⟨hx, hb, hml, hown, hts⟩ (KR.eq (kX6_value l D cI cS qx a0 (a1 0) (a2 0) (a3 0) (a4 0) has (0 : Int32) (nI k) st) (val_0 hk)) (cwV 2 hts gL_changes_X6_value rfl rfl rfl (by decide +kernel) ⟨Nat.le_of_ble_eq_true rfl, Nat.le_of_ble_eq_true rfl⟩) hE hP rfl rfl [0, 1] rfl rfl rfl hl.1 rfl (Nat.le_of_ble_eq_true rfl) ⟨Nat.le_of_ble_eq_true rfl, Nat.le_of_ble_eq_true rfl⟩ dL_changes_102 ?_
              refine lv_iload_n hx hb dL_changes_105 rfl (lv_at hl 6 rfl) ?_
              refine lv_icmp_ne (tgt := 113) hx hb dL_changes_106 (by decide) (fun c => absurd rfl c) (fun _ => ?_)
              refine lv_iconst (v := (1 : Int32)) hx hb dL_changes_109 (by decide +kernel) ?_
              refine lv_goto (tgt := 114) hx hb dL_changes_110 (by decide) ?_
              exact hend _ _ _ (st, (hiR hi st (-4 : Int32))) _ _ _ _ dL_changes_114 rfl (Nat.le_refl _) (Nat.le_refl _) ⟨rfl, hI, (hh.rec hbo (-4 : Int32))⟩ hP hS
          · have hn5 : ¬ (st.1 k) = (-5 : Int32) := fun q => hhp (by rw [q]; decide)
            refine lv_aload_n hx hb dL_changes_0 rfl (lv_at hl 0 rfl) ?_
            refine lv_iconst (v := (0 : Int32)) hx hb dL_changes_1 (by decide +kernel) ?_
            refine lv_iload_n hx hb dL_changes_2 rfl (lv_at hl 1 rfl) ?_
            refine bRV (W0 := wO cI cS qx a0 a1 a2 a3 b3 a4 sn sc has ([]) (st, tr, hi)) (wc := [(qx, .inr (6, [.ref (a0 0), .ref (a1 0), .ref (a2 0), .ref (a3 0), .ref (a4 0), .int has]))] :: wSt cI a0 st :: []) (r := (st.1 k)) ⟨hx, hb, hml, hown, hts⟩ (KR.eq (kX6_value l D cI cS qx a0 (a1 0) (a2 0) (a3 0) (a4 0) has (0 : Int32) (nI k) st) (val_0 hk)) (cwV 2 hts gL_changes_X6_value rfl rfl rfl (by decide +kernel) ⟨Nat.le_of_ble_eq_true rfl, Nat.le_of_ble_eq_true rfl⟩) hE hP rfl rfl [0, 1] rfl rfl rfl hl.1 rfl (Nat.le_of_ble_eq_true rfl) ⟨Nat.le_of_ble_eq_true rfl, Nat.le_of_ble_eq_true rfl⟩ dL_changes_3 ?_
            refine lv_istore_n (lv' := [(3, .int ((st.1 k))), (0, .ref qx), (1, .int ((nI k))), (2, .int v)]) hx hb dL_changes_6 rfl hl (by decide) rfl (fun ls hl => ?_)
            refine lv_aload_n hx hb dL_changes_7 rfl (lv_at hl 1 rfl) ?_
            refine lv_iconst (v := (0 : Int32)) hx hb dL_changes_8 (by decide +kernel) ?_
            refine bRV (W0 := wO cI cS qx a0 a1 a2 a3 b3 a4 sn sc has ([]) (st, tr, hi)) (wc := [(qx, .inr (6, [.ref (a0 0), .ref (a1 0), .ref (a2 0), .ref (a3 0), .ref (a4 0), .int has]))] :: wSt cI a0 st :: []) (r := (3 : Int32)) ⟨hx, hb, hml, hown, hts⟩ (KR.eq (kX6_copy l D cI cS qx a0 (a1 0) (a2 0) (a3 0) (a4 0) has (0 : Int32) st) ((cp_0 st).trans hph)) (cwV 1 hts gL_changes_X6_copy rfl rfl rfl (by decide +kernel) ⟨Nat.le_of_ble_eq_true rfl, Nat.le_of_ble_eq_true rfl⟩) hE hP rfl rfl [0, 1] rfl rfl rfl hl.1 rfl (Nat.le_of_ble_eq_true rfl) ⟨Nat.le_of_ble_eq_true rfl, Nat.le_of_ble_eq_true rfl⟩ dL_changes_9 ?_
            refine lv_istore (lv' := [(4, .int ((3 : Int32))), (3, .int ((st.1 k))), (0, .ref qx), (1, .int ((nI k))), (2, .int v)]) hx hb dL_changes_12 hl (by decide) rfl (fun ls hl => ?_)
            refine lv_aload_n hx hb dL_changes_14 rfl (lv_at hl 2 rfl) ?_
            refine lv_iconst (v := (4 : Int32)) hx hb dL_changes_15 (by decide +kernel) ?_
            refine bRV (W0 := wO cI cS qx a0 a1 a2 a3 b3 a4 sn sc has ([]) (st, tr, hi)) (wc := [(qx, .inr (6, [.ref (a0 0), .ref (a1 0), .ref (a2 0), .ref (a3 0), .ref (a4 0), .int has]))] :: wSt cI a0 st :: []) (r := st.2.2.2.1.2.1.2.2.2) ⟨hx, hb, hml, hown, hts⟩ (KR.eq (kX6_copy l D cI cS qx a0 (a1 0) (a2 0) (a3 0) (a4 0) has (4 : Int32) st) (cp_4 h0)) (cwV 1 hts gL_changes_X6_copy rfl rfl rfl (by decide +kernel) ⟨Nat.le_of_ble_eq_true rfl, Nat.le_of_ble_eq_true rfl⟩) hE hP rfl rfl [0, 1] rfl rfl rfl hl.1 rfl (Nat.le_of_ble_eq_true rfl) ⟨Nat.le_of_ble_eq_true rfl, Nat.le_of_ble_eq_true rfl⟩ dL_changes_16 ?_
            refine lv_istore (lv' := [(5, .int st.2.2.2.1.2.1.2.2.2), (4, .int ((3 : Int32))), (3, .int ((st.1 k))), (0, .ref qx), (1, .int ((nI k))), (2, .int v)]) hx hb dL_changes_19 hl (by decide) rfl (fun ls hl => ?_)
            refine lv_aload_n hx hb dL_changes_21 rfl (lv_at hl 3 rfl) ?_
            refine lv_iconst (v := (2 : Int32)) hx hb dL_changes_22 (by decide +kernel) ?_
            refine bRV (W0 := wO cI cS qx a0 a1 a2 a3 b3 a4 sn sc has ([]) (st, tr, hi)) (wc := [(qx, .inr (6, [.ref (a0 0), .ref (a1 0), .ref (a2 0), .ref (a3 0), .ref (a4 0), .int has]))] :: wSt cI a0 st :: []) (r := (st.2.2.2.2.2 2)) ⟨hx, hb, hml, hown, hts⟩ (KR.eq (kX6_total l D cI cS qx a0 (a1 0) (a2 0) (a3 0) (a4 0) has (2 : Int32) st) (tot_i (i := 2) (by omega))) (cwV 1 hts gL_changes_X6_total rfl rfl rfl (by decide +kernel) ⟨Nat.le_of_ble_eq_true rfl, Nat.le_of_ble_eq_true rfl⟩) hE hP rfl rfl [0, 1] rfl rfl rfl hl.1 rfl (Nat.le_of_ble_eq_true rfl) ⟨Nat.le_of_ble_eq_true rfl, Nat.le_of_ble_eq_true rfl⟩ dL_changes_23 ?_
            refine lv_istore (lv' := [(6, .int ((st.2.2.2.2.2 2))), (5, .int st.2.2.2.1.2.1.2.2.2), (4, .int ((3 : Int32))), (3, .int ((st.1 k))), (0, .ref qx), (1, .int ((nI k))), (2, .int v)]) hx hb dL_changes_26 hl (by decide) rfl (fun ls hl => ?_)
            refine lv_iload hx hb dL_changes_28 (lv_at hl 1 rfl) ?_
            refine lv_bipush (v := (24 : Int32)) hx hb dL_changes_30 (by decide +kernel) ?_
            refine lv_icmp_ne (tgt := 47) hx hb dL_changes_32 (by decide) (fun c => absurd hz c) (fun _ => ?_)
            refine lv_iload_n hx hb dL_changes_35 rfl (lv_at hl 6 rfl) ?_
            refine lv_if_ge (tgt := 43) hx hb dL_changes_36 (by decide) (fun c => absurd c (Int32.not_le.mpr hvn)) (fun _ => ?_)
            refine lv_iload_n hx hb dL_changes_39 rfl (lv_at hl 3 rfl) ?_
            refine lv_if_lt (tgt := 47) hx hb dL_changes_40 (by decide) (fun c => absurd c hhp) (fun _ => ?_)
            refine lv_iconst (v := (1 : Int32)) hx hb dL_changes_43 (by decide +kernel) ?_
            refine lv_goto (tgt := 48) hx hb dL_changes_44 (by decide) ?_
            refine lv_istore (lv' := [(7, .int ((1 : Int32))), (6, .int ((st.2.2.2.2.2 2))), (5, .int st.2.2.2.1.2.1.2.2.2), (4, .int ((3 : Int32))), (3, .int ((st.1 k))), (0, .ref qx), (1, .int ((nI k))), (2, .int v)]) hx hb dL_changes_48 hl (by decide) rfl (fun ls hl => ?_)
            refine lv_aload_n hx hb dL_changes_50 rfl (lv_at hl 5 rfl) ?_
            refine lv_iconst (v := (3 : Int32)) hx hb dL_changes_51 (by decide +kernel) ?_
            refine bRV (W0 := wO cI cS qx a0 a1 a2 a3 b3 a4 sn sc has ([]) (st, tr, hi)) (wc := [(qx, .inr (6, [.ref (a0 0), .ref (a1 0), .ref (a2 0), .ref (a3 0), .ref (a4 0), .int has]))] :: wSt cI a0 st :: []) (r := (st.2.2.2.2.1 3)) ⟨hx, hb, hml, hown, hts⟩ (KR.eq (kX6_setting l D cI cS qx a0 (a1 0) (a2 0) (a3 0) (a4 0) has (3 : Int32) st) (set_i (i := 3) (by omega))) (cwV 1 hts gL_changes_X6_setting rfl rfl rfl (by decide +kernel) ⟨Nat.le_of_ble_eq_true rfl, Nat.le_of_ble_eq_true rfl⟩) hE hP rfl rfl [0, 1] rfl rfl rfl hl.1 rfl (Nat.le_of_ble_eq_true rfl) ⟨Nat.le_of_ble_eq_true rfl, Nat.le_of_ble_eq_true rfl⟩ dL_changes_52 ?_
            refine lv_iconst (v := (1 : Int32)) hx hb dL_changes_55 (by decide +kernel) ?_
            refine lv_icmp_ne (tgt := 63) hx hb dL_changes_56 (by decide) (fun c_56 => ?_) (fun c_56 => ?_)
            · refine lv_iconst (v := (0 : Int32)) hx hb dL_changes_63 (by decide +kernel) ?_
              refine lv_istore (lv' := [(8, .int ((0 : Int32))), (7, .int ((1 : Int32))), (6, .int ((st.2.2.2.2.2 2))), (5, .int st.2.2.2.1.2.1.2.2.2), (4, .int ((3 : Int32))), (3, .int ((st.1 k))), (0, .ref qx), (1, .int ((nI k))), (2, .int v)]) hx hb dL_changes_64 hl (by decide) rfl (fun ls hl => ?_)
              refine lv_iload_n hx hb dL_changes_66 rfl (lv_at hl 8 rfl) ?_
              refine lv_if_ge (tgt := 78) hx hb dL_changes_67 (by decide) (fun c => absurd c (Int32.not_le.mpr hvn)) (fun _ => ?_)
              have eR : fX5_eraseRow (nI k) st = ((-4 : Int32), st) := erase_3 hk hph
              have eT : fX6_erase (nI k) (st, hi) = ((-4 : Int32), (st, hiR hi st (-4 : Int32))) := by rw [erase_eq, eR]
              refine lv_aload_n hx hb dL_changes_70 rfl (lv_at hl 6 rfl) ?_
              refine lv_iload_n hx hb dL_changes_71 rfl (lv_at hl 7 rfl) ?_
              refine bIV (W0 := wO cI cS qx a0 a1 a2 a3 b3 a4 sn sc has ([]) (st, tr, hi)) (wc := [(qx, .inr (6, [.ref (a0 0), .ref (a1 0), .ref (a2 0), .ref (a3 0), .ref (a4 0), .int has]))] :: wSt cI a0 st :: wHi cI cS a3 b3 hi []) (w1 := fun u : TPT => [(qx, .inr (6, [.ref (a0 0), .ref (a1 0), .ref (a2 0), .ref (a3 0), .ref (a4 0), .int has]))] :: wSt cI a0 u.1 :: wHi cI cS a3 b3 u.2 []) ⟨hx, hb, hml, hown, hts⟩ (kX6_erase l D cI cS qx a0 a3 b3 (a1 0) (a2 0) (a4 0) has (nI k) (st, hi) hI.ws hh) (cwV 1 hts gL_changes_X6_erase rfl rfl rfl (by decide +kernel) ⟨Nat.le_of_ble_eq_true rfl, Nat.le_of_ble_eq_true rfl⟩) hE hP hD hS rfl rfl [0, 1, 4, 5, 6, 7, 8, 9, 10, 11] rfl rfl (fun _ => rfl) (fun _ => rfl) rfl hl.1 rfl (Nat.le_of_ble_eq_true rfl) ⟨Nat.le_of_ble_eq_true rfl, Nat.le_of_ble_eq_true rfl⟩ dL_changes_72 (fun r_72 u_72 H locs e_72 hP hD hS => ?_)
              have hP : va_P D vwCl (fl (wO cI cS qx a0 a1 a2 a3 b3 a4 sn sc has ([]) (u_72.1, tr, u_72.2))) H := hP
              have hD : va_D A (fl (wO cI cS qx a0 a1 a2 a3 b3 a4 sn sc has ([]) (u_72.1, tr, u_72.2))) := hD
              rw [eT] at e_72
              cases e_72
              have hP : va_P D vwCl (fl (wO cI cS qx a0 a1 a2 a3 b3 a4 sn sc has ([]) (st, tr, (hiR hi st (-4 : Int32))))) H := hP
              have hD : va_D A (fl (wO cI cS qx a0 a1 a2 a3 b3 a4 sn sc has ([]) (st, tr, (hiR hi st (-4 : Int32))))) := hD
              refine lv_goto (tgt := 84) hx hb dL_changes_75 (by decide) ?_
              refine lv_istore (lv' := [(9, .int ((-4 : Int32))), (8, .int ((0 : Int32))), (7, .int ((1 : Int32))), (6, .int ((st.2.2.2.2.2 2))), (5, .int st.2.2.2.1.2.1.2.2.2), (4, .int ((3 : Int32))), (3, .int ((st.1 k))), (0, .ref qx), (1, .int ((nI k))), (2, .int v)]) hx hb dL_changes_84 hl (by decide) rfl (fun ls hl => ?_)
              refine lv_iload hx hb dL_changes_86 (lv_at hl 5 rfl) ?_
              refine lv_iconst (v := (3 : Int32)) hx hb dL_changes_88 (by decide +kernel) ?_
              refine lv_icmp_ne (tgt := 115) hx hb dL_changes_89 (by decide) (fun c => absurd (show (3 : Int32) = (3 : Int32) by decide) c) (fun _ => ?_)
              refine lv_iload hx hb dL_changes_92 (lv_at hl 0 rfl) ?_
              refine lv_bipush (v := (-4 : Int32)) hx hb dL_changes_94 (by decide +kernel) ?_
              refine lv_icmp_ne (tgt := 113) hx hb dL_changes_96 (by decide) (fun c => absurd (show (-4 : Int32) = (-4 : Int32) by decide) c) (fun _ => ?_)
              refine lv_aload_n hx hb dL_changes_99 rfl (lv_at hl 7 rfl) ?_
              refine lv_iconst (v := (0 : Int32)) hx hb dL_changes_100 (by decide +kernel) ?_
              refine lv_iload_n hx hb dL_changes_101 rfl (lv_at hl 8 rfl) ?_
              refine bRV (W0 := wO cI cS qx a0 a1 a2 a3 b3 a4 sn sc has ([]) (st, tr, (hiR hi st (-4 : Int32)))) (wc := [(qx, .inr (6, [.ref (a0 0), .ref (a1 0), .ref (a2 0), .ref (a3 0), .ref (a4 0), .int has]))] :: wSt cI a0 st :: []) (r := (st.1 k)) ⟨hx, hb, hml, hown, hts⟩ (KR.eq (kX6_value l D cI cS qx a0 (a1 0) (a2 0) (a3 0) (a4 0) has (0 : Int32) (nI k) st) (val_0 hk)) (cwV 2 hts gL_changes_X6_value rfl rfl rfl (by decide +kernel) ⟨Nat.le_of_ble_eq_true rfl, Nat.le_of_ble_eq_true rfl⟩) hE hP rfl rfl [0, 1] rfl rfl rfl hl.1 rfl (Nat.le_of_ble_eq_true rfl) ⟨Nat.le_of_ble_eq_true rfl, Nat.le_of_ble_eq_true rfl⟩ dL_changes_102 ?_
              refine lv_iload_n hx hb dL_changes_105 rfl (lv_at hl 6 rfl) ?_
              refine lv_icmp_ne (tgt := 113) hx hb dL_changes_106 (by decide) (fun c => absurd rfl c) (fun _ => ?_)
              refine lv_iconst (v := (1 : Int32)) hx hb dL_changes_109 (by decide +kernel) ?_
              refine lv_goto (tgt := 114) hx hb dL_changes_110 (by decide) ?_
              exact hend _ _ _ (st, (hiR hi st (-4 : Int32))) _ _ _ _ dL_changes_114 rfl (Nat.le_refl _) (Nat.le_refl _) ⟨rfl, hI, (hh.rec hbo (-4 : Int32))⟩ hP hS
            · refine lv_iconst (v := (1 : Int32)) hx hb dL_changes_59 (by decide +kernel) ?_
              refine lv_goto (tgt := 64) hx hb dL_changes_60 (by decide) ?_
              refine lv_istore (lv' := [(8, .int ((1 : Int32))), (7, .int ((1 : Int32))), (6, .int ((st.2.2.2.2.2 2))), (5, .int st.2.2.2.1.2.1.2.2.2), (4, .int ((3 : Int32))), (3, .int ((st.1 k))), (0, .ref qx), (1, .int ((nI k))), (2, .int v)]) hx hb dL_changes_64 hl (by decide) rfl (fun ls hl => ?_)
              refine lv_iload_n hx hb dL_changes_66 rfl (lv_at hl 8 rfl) ?_
              refine lv_if_ge (tgt := 78) hx hb dL_changes_67 (by decide) (fun c => absurd c (Int32.not_le.mpr hvn)) (fun _ => ?_)
              have eR : fX5_eraseRow (nI k) st = ((-4 : Int32), st) := erase_3 hk hph
              have eT : fX6_erase (nI k) (st, hi) = ((-4 : Int32), (st, hiR hi st (-4 : Int32))) := by rw [erase_eq, eR]
              refine lv_aload_n hx hb dL_changes_70 rfl (lv_at hl 6 rfl) ?_
              refine lv_iload_n hx hb dL_changes_71 rfl (lv_at hl 7 rfl) ?_
              refine bIV (W0 := wO cI cS qx a0 a1 a2 a3 b3 a4 sn sc has ([]) (st, tr, hi)) (wc := [(qx, .inr (6, [.ref (a0 0), .ref (a1 0), .ref (a2 0), .ref (a3 0), .ref (a4 0), .int has]))] :: wSt cI a0 st :: wHi cI cS a3 b3 hi []) (w1 := fun u : TPT => [(qx, .inr (6, [.ref (a0 0), .ref (a1 0), .ref (a2 0), .ref (a3 0), .ref (a4 0), .int has]))] :: wSt cI a0 u.1 :: wHi cI cS a3 b3 u.2 []) ⟨hx, hb, hml, hown, hts⟩ (kX6_erase l D cI cS qx a0 a3 b3 (a1 0) (a2 0) (a4 0) has (nI k) (st, hi) hI.ws hh) (cwV 1 hts gL_changes_X6_erase rfl rfl rfl (by decide +kernel) ⟨Nat.le_of_ble_eq_true rfl, Nat.le_of_ble_eq_true rfl⟩) hE hP hD hS rfl rfl [0, 1, 4, 5, 6, 7, 8, 9, 10, 11] rfl rfl (fun _ => rfl) (fun _ => rfl) rfl hl.1 rfl (Nat.le_of_ble_eq_true rfl) ⟨Nat.le_of_ble_eq_true rfl, Nat.le_of_ble_eq_true rfl⟩ dL_changes_72 (fun r_72 u_72 H locs e_72 hP hD hS => ?_)
              have hP : va_P D vwCl (fl (wO cI cS qx a0 a1 a2 a3 b3 a4 sn sc has ([]) (u_72.1, tr, u_72.2))) H := hP
              have hD : va_D A (fl (wO cI cS qx a0 a1 a2 a3 b3 a4 sn sc has ([]) (u_72.1, tr, u_72.2))) := hD
              rw [eT] at e_72
              cases e_72
              have hP : va_P D vwCl (fl (wO cI cS qx a0 a1 a2 a3 b3 a4 sn sc has ([]) (st, tr, (hiR hi st (-4 : Int32))))) H := hP
              have hD : va_D A (fl (wO cI cS qx a0 a1 a2 a3 b3 a4 sn sc has ([]) (st, tr, (hiR hi st (-4 : Int32))))) := hD
              refine lv_goto (tgt := 84) hx hb dL_changes_75 (by decide) ?_
              refine lv_istore (lv' := [(9, .int ((-4 : Int32))), (8, .int ((1 : Int32))), (7, .int ((1 : Int32))), (6, .int ((st.2.2.2.2.2 2))), (5, .int st.2.2.2.1.2.1.2.2.2), (4, .int ((3 : Int32))), (3, .int ((st.1 k))), (0, .ref qx), (1, .int ((nI k))), (2, .int v)]) hx hb dL_changes_84 hl (by decide) rfl (fun ls hl => ?_)
              refine lv_iload hx hb dL_changes_86 (lv_at hl 5 rfl) ?_
              refine lv_iconst (v := (3 : Int32)) hx hb dL_changes_88 (by decide +kernel) ?_
              refine lv_icmp_ne (tgt := 115) hx hb dL_changes_89 (by decide) (fun c => absurd (show (3 : Int32) = (3 : Int32) by decide) c) (fun _ => ?_)
              refine lv_iload hx hb dL_changes_92 (lv_at hl 0 rfl) ?_
              refine lv_bipush (v := (-4 : Int32)) hx hb dL_changes_94 (by decide +kernel) ?_
              refine lv_icmp_ne (tgt := 113) hx hb dL_changes_96 (by decide) (fun c => absurd (show (-4 : Int32) = (-4 : Int32) by decide) c) (fun _ => ?_)
              refine lv_aload_n hx hb dL_changes_99 rfl (lv_at hl 7 rfl) ?_
              refine lv_iconst (v := (0 : Int32)) hx hb dL_changes_100 (by decide +kernel) ?_
              refine lv_iload_n hx hb dL_changes_101 rfl (lv_at hl 8 rfl) ?_
              refine bRV (W0 := wO cI cS qx a0 a1 a2 a3 b3 a4 sn sc has ([]) (st, tr, (hiR hi st (-4 : Int32)))) (wc := [(qx, .inr (6, [.ref (a0 0), .ref (a1 0), .ref (a2 0), .ref (a3 0), .ref (a4 0), .int has]))] :: wSt cI a0 st :: []) (r := (st.1 k)) ⟨hx, hb, hml, hown, hts⟩ (KR.eq (kX6_value l D cI cS qx a0 (a1 0) (a2 0) (a3 0) (a4 0) has (0 : Int32) (nI k) st) (val_0 hk)) (cwV 2 hts gL_changes_X6_value rfl rfl rfl (by decide +kernel) ⟨Nat.le_of_ble_eq_true rfl, Nat.le_of_ble_eq_true rfl⟩) hE hP rfl rfl [0, 1] rfl rfl rfl hl.1 rfl (Nat.le_of_ble_eq_true rfl) ⟨Nat.le_of_ble_eq_true rfl, Nat.le_of_ble_eq_true rfl⟩ dL_changes_102 ?_
              refine lv_iload_n hx hb dL_changes_105 rfl (lv_at hl 6 rfl) ?_
              refine lv_icmp_ne (tgt := 113) hx hb dL_changes_106 (by decide) (fun c => absurd rfl c) (fun _ => ?_)
              refine lv_iconst (v := (1 : Int32)) hx hb dL_changes_109 (by decide +kernel) ?_
              refine lv_goto (tgt := 114) hx hb dL_changes_110 (by decide) ?_
              exact hend _ _ _ (st, (hiR hi st (-4 : Int32))) _ _ _ _ dL_changes_114 rfl (Nat.le_refl _) (Nat.le_refl _) ⟨rfl, hI, (hh.rec hbo (-4 : Int32))⟩ hP hS
        · have hvp : (0 : Int32) ≤ v := Int32.not_lt.mp hvq
          have hvb : Bd v 99 := rw_pos hv hvq
          refine lv_aload_n hx hb dL_changes_0 rfl (lv_at hl 0 rfl) ?_
          refine lv_iconst (v := (0 : Int32)) hx hb dL_changes_1 (by decide +kernel) ?_
          refine lv_iload_n hx hb dL_changes_2 rfl (lv_at hl 1 rfl) ?_
          refine bRV (W0 := wO cI cS qx a0 a1 a2 a3 b3 a4 sn sc has ([]) (st, tr, hi)) (wc := [(qx, .inr (6, [.ref (a0 0), .ref (a1 0), .ref (a2 0), .ref (a3 0), .ref (a4 0), .int has]))] :: wSt cI a0 st :: []) (r := (st.1 k)) ⟨hx, hb, hml, hown, hts⟩ (KR.eq (kX6_value l D cI cS qx a0 (a1 0) (a2 0) (a3 0) (a4 0) has (0 : Int32) (nI k) st) (val_0 hk)) (cwV 2 hts gL_changes_X6_value rfl rfl rfl (by decide +kernel) ⟨Nat.le_of_ble_eq_true rfl, Nat.le_of_ble_eq_true rfl⟩) hE hP rfl rfl [0, 1] rfl rfl rfl hl.1 rfl (Nat.le_of_ble_eq_true rfl) ⟨Nat.le_of_ble_eq_true rfl, Nat.le_of_ble_eq_true rfl⟩ dL_changes_3 ?_
          refine lv_istore_n (lv' := [(3, .int ((st.1 k))), (0, .ref qx), (1, .int ((nI k))), (2, .int v)]) hx hb dL_changes_6 rfl hl (by decide) rfl (fun ls hl => ?_)
          refine lv_aload_n hx hb dL_changes_7 rfl (lv_at hl 1 rfl) ?_
          refine lv_iconst (v := (0 : Int32)) hx hb dL_changes_8 (by decide +kernel) ?_
          refine bRV (W0 := wO cI cS qx a0 a1 a2 a3 b3 a4 sn sc has ([]) (st, tr, hi)) (wc := [(qx, .inr (6, [.ref (a0 0), .ref (a1 0), .ref (a2 0), .ref (a3 0), .ref (a4 0), .int has]))] :: wSt cI a0 st :: []) (r := (3 : Int32)) ⟨hx, hb, hml, hown, hts⟩ (KR.eq (kX6_copy l D cI cS qx a0 (a1 0) (a2 0) (a3 0) (a4 0) has (0 : Int32) st) ((cp_0 st).trans hph)) (cwV 1 hts gL_changes_X6_copy rfl rfl rfl (by decide +kernel) ⟨Nat.le_of_ble_eq_true rfl, Nat.le_of_ble_eq_true rfl⟩) hE hP rfl rfl [0, 1] rfl rfl rfl hl.1 rfl (Nat.le_of_ble_eq_true rfl) ⟨Nat.le_of_ble_eq_true rfl, Nat.le_of_ble_eq_true rfl⟩ dL_changes_9 ?_
          refine lv_istore (lv' := [(4, .int ((3 : Int32))), (3, .int ((st.1 k))), (0, .ref qx), (1, .int ((nI k))), (2, .int v)]) hx hb dL_changes_12 hl (by decide) rfl (fun ls hl => ?_)
          refine lv_aload_n hx hb dL_changes_14 rfl (lv_at hl 2 rfl) ?_
          refine lv_iconst (v := (4 : Int32)) hx hb dL_changes_15 (by decide +kernel) ?_
          refine bRV (W0 := wO cI cS qx a0 a1 a2 a3 b3 a4 sn sc has ([]) (st, tr, hi)) (wc := [(qx, .inr (6, [.ref (a0 0), .ref (a1 0), .ref (a2 0), .ref (a3 0), .ref (a4 0), .int has]))] :: wSt cI a0 st :: []) (r := st.2.2.2.1.2.1.2.2.2) ⟨hx, hb, hml, hown, hts⟩ (KR.eq (kX6_copy l D cI cS qx a0 (a1 0) (a2 0) (a3 0) (a4 0) has (4 : Int32) st) (cp_4 h0)) (cwV 1 hts gL_changes_X6_copy rfl rfl rfl (by decide +kernel) ⟨Nat.le_of_ble_eq_true rfl, Nat.le_of_ble_eq_true rfl⟩) hE hP rfl rfl [0, 1] rfl rfl rfl hl.1 rfl (Nat.le_of_ble_eq_true rfl) ⟨Nat.le_of_ble_eq_true rfl, Nat.le_of_ble_eq_true rfl⟩ dL_changes_16 ?_
          refine lv_istore (lv' := [(5, .int st.2.2.2.1.2.1.2.2.2), (4, .int ((3 : Int32))), (3, .int ((st.1 k))), (0, .ref qx), (1, .int ((nI k))), (2, .int v)]) hx hb dL_changes_19 hl (by decide) rfl (fun ls hl => ?_)
          refine lv_aload_n hx hb dL_changes_21 rfl (lv_at hl 3 rfl) ?_
          refine lv_iconst (v := (2 : Int32)) hx hb dL_changes_22 (by decide +kernel) ?_
          refine bRV (W0 := wO cI cS qx a0 a1 a2 a3 b3 a4 sn sc has ([]) (st, tr, hi)) (wc := [(qx, .inr (6, [.ref (a0 0), .ref (a1 0), .ref (a2 0), .ref (a3 0), .ref (a4 0), .int has]))] :: wSt cI a0 st :: []) (r := (st.2.2.2.2.2 2)) ⟨hx, hb, hml, hown, hts⟩ (KR.eq (kX6_total l D cI cS qx a0 (a1 0) (a2 0) (a3 0) (a4 0) has (2 : Int32) st) (tot_i (i := 2) (by omega))) (cwV 1 hts gL_changes_X6_total rfl rfl rfl (by decide +kernel) ⟨Nat.le_of_ble_eq_true rfl, Nat.le_of_ble_eq_true rfl⟩) hE hP rfl rfl [0, 1] rfl rfl rfl hl.1 rfl (Nat.le_of_ble_eq_true rfl) ⟨Nat.le_of_ble_eq_true rfl, Nat.le_of_ble_eq_true rfl⟩ dL_changes_23 ?_
          refine lv_istore (lv' := [(6, .int ((st.2.2.2.2.2 2))), (5, .int st.2.2.2.1.2.1.2.2.2), (4, .int ((3 : Int32))), (3, .int ((st.1 k))), (0, .ref qx), (1, .int ((nI k))), (2, .int v)]) hx hb dL_changes_26 hl (by decide) rfl (fun ls hl => ?_)
          refine lv_iload hx hb dL_changes_28 (lv_at hl 1 rfl) ?_
          refine lv_bipush (v := (24 : Int32)) hx hb dL_changes_30 (by decide +kernel) ?_
          refine lv_icmp_ne (tgt := 47) hx hb dL_changes_32 (by decide) (fun c => absurd hz c) (fun _ => ?_)
          refine lv_iload_n hx hb dL_changes_35 rfl (lv_at hl 6 rfl) ?_
          refine lv_if_ge (tgt := 43) hx hb dL_changes_36 (by decide) (fun _ => ?_) (fun c => absurd hvp c)
          refine lv_iconst (v := (1 : Int32)) hx hb dL_changes_43 (by decide +kernel) ?_
          refine lv_goto (tgt := 48) hx hb dL_changes_44 (by decide) ?_
          refine lv_istore (lv' := [(7, .int ((1 : Int32))), (6, .int ((st.2.2.2.2.2 2))), (5, .int st.2.2.2.1.2.1.2.2.2), (4, .int ((3 : Int32))), (3, .int ((st.1 k))), (0, .ref qx), (1, .int ((nI k))), (2, .int v)]) hx hb dL_changes_48 hl (by decide) rfl (fun ls hl => ?_)
          refine lv_aload_n hx hb dL_changes_50 rfl (lv_at hl 5 rfl) ?_
          refine lv_iconst (v := (3 : Int32)) hx hb dL_changes_51 (by decide +kernel) ?_
          refine bRV (W0 := wO cI cS qx a0 a1 a2 a3 b3 a4 sn sc has ([]) (st, tr, hi)) (wc := [(qx, .inr (6, [.ref (a0 0), .ref (a1 0), .ref (a2 0), .ref (a3 0), .ref (a4 0), .int has]))] :: wSt cI a0 st :: []) (r := (st.2.2.2.2.1 3)) ⟨hx, hb, hml, hown, hts⟩ (KR.eq (kX6_setting l D cI cS qx a0 (a1 0) (a2 0) (a3 0) (a4 0) has (3 : Int32) st) (set_i (i := 3) (by omega))) (cwV 1 hts gL_changes_X6_setting rfl rfl rfl (by decide +kernel) ⟨Nat.le_of_ble_eq_true rfl, Nat.le_of_ble_eq_true rfl⟩) hE hP rfl rfl [0, 1] rfl rfl rfl hl.1 rfl (Nat.le_of_ble_eq_true rfl) ⟨Nat.le_of_ble_eq_true rfl, Nat.le_of_ble_eq_true rfl⟩ dL_changes_52 ?_
          refine lv_iconst (v := (1 : Int32)) hx hb dL_changes_55 (by decide +kernel) ?_
          refine lv_icmp_ne (tgt := 63) hx hb dL_changes_56 (by decide) (fun c_56 => ?_) (fun c_56 => ?_)
          · refine lv_iconst (v := (0 : Int32)) hx hb dL_changes_63 (by decide +kernel) ?_
            refine lv_istore (lv' := [(8, .int ((0 : Int32))), (7, .int ((1 : Int32))), (6, .int ((st.2.2.2.2.2 2))), (5, .int st.2.2.2.1.2.1.2.2.2), (4, .int ((3 : Int32))), (3, .int ((st.1 k))), (0, .ref qx), (1, .int ((nI k))), (2, .int v)]) hx hb dL_changes_64 hl (by decide) rfl (fun ls hl => ?_)
            refine lv_iload_n hx hb dL_changes_66 rfl (lv_at hl 8 rfl) ?_
            refine lv_if_ge (tgt := 78) hx hb dL_changes_67 (by decide) (fun _ => ?_) (fun c => absurd hvp c)
            have eR : fX5_putRow (nI k) v st = ((-4 : Int32), st) := put_3 hk hvb hph
            have eT : fX6_put (nI k) v (st, hi) = ((-4 : Int32), (st, hiR hi st (-4 : Int32))) := by rw [put_eq, eR]
            refine lv_aload_n hx hb dL_changes_78 rfl (lv_at hl 6 rfl) ?_
            refine lv_iload_n hx hb dL_changes_79 rfl (lv_at hl 7 rfl) ?_
            refine lv_iload_n hx hb dL_changes_80 rfl (lv_at hl 8 rfl) ?_
            refine bIV (W0 := wO cI cS qx a0 a1 a2 a3 b3 a4 sn sc has ([]) (st, tr, hi)) (wc := [(qx, .inr (6, [.ref (a0 0), .ref (a1 0), .ref (a2 0), .ref (a3 0), .ref (a4 0), .int has]))] :: wSt cI a0 st :: wHi cI cS a3 b3 hi []) (w1 := fun u : TPT => [(qx, .inr (6, [.ref (a0 0), .ref (a1 0), .ref (a2 0), .ref (a3 0), .ref (a4 0), .int has]))] :: wSt cI a0 u.1 :: wHi cI cS a3 b3 u.2 []) ⟨hx, hb, hml, hown, hts⟩ (kX6_put l D cI cS qx a0 a3 b3 (a1 0) (a2 0) (a4 0) has (nI k) v (st, hi) hI.ws hh) (cwV 2 hts gL_changes_X6_put rfl rfl rfl (by decide +kernel) ⟨Nat.le_of_ble_eq_true rfl, Nat.le_of_ble_eq_true rfl⟩) hE hP hD hS rfl rfl [0, 1, 4, 5, 6, 7, 8, 9, 10, 11] rfl rfl (fun _ => rfl) (fun _ => rfl) rfl hl.1 rfl (Nat.le_of_ble_eq_true rfl) ⟨Nat.le_of_ble_eq_true rfl, Nat.le_of_ble_eq_true rfl⟩ dL_changes_81 (fun r_81 u_81 H locs e_81 hP hD hS => ?_)
            have hP : va_P D vwCl (fl (wO cI cS qx a0 a1 a2 a3 b3 a4 sn sc has ([]) (u_81.1, tr, u_81.2))) H := hP
            have hD : va_D A (fl (wO cI cS qx a0 a1 a2 a3 b3 a4 sn sc has ([]) (u_81.1, tr, u_81.2))) := hD
            rw [eT] at e_81
            cases e_81
            have hP : va_P D vwCl (fl (wO cI cS qx a0 a1 a2 a3 b3 a4 sn sc has ([]) (st, tr, (hiR hi st (-4 : Int32))))) H := hP
            have hD : va_D A (fl (wO cI cS qx a0 a1 a2 a3 b3 a4 sn sc has ([]) (st, tr, (hiR hi st (-4 : Int32))))) := hD
            refine lv_istore (lv' := [(9, .int ((-4 : Int32))), (8, .int ((0 : Int32))), (7, .int ((1 : Int32))), (6, .int ((st.2.2.2.2.2 2))), (5, .int st.2.2.2.1.2.1.2.2.2), (4, .int ((3 : Int32))), (3, .int ((st.1 k))), (0, .ref qx), (1, .int ((nI k))), (2, .int v)]) hx hb dL_changes_84 hl (by decide) rfl (fun ls hl => ?_)
            refine lv_iload hx hb dL_changes_86 (lv_at hl 5 rfl) ?_
            refine lv_iconst (v := (3 : Int32)) hx hb dL_changes_88 (by decide +kernel) ?_
            refine lv_icmp_ne (tgt := 115) hx hb dL_changes_89 (by decide) (fun c => absurd (show (3 : Int32) = (3 : Int32) by decide) c) (fun _ => ?_)
            refine lv_iload hx hb dL_changes_92 (lv_at hl 0 rfl) ?_
            refine lv_bipush (v := (-4 : Int32)) hx hb dL_changes_94 (by decide +kernel) ?_
            refine lv_icmp_ne (tgt := 113) hx hb dL_changes_96 (by decide) (fun c => absurd (show (-4 : Int32) = (-4 : Int32) by decide) c) (fun _ => ?_)
            refine lv_aload_n hx hb dL_changes_99 rfl (lv_at hl 7 rfl) ?_
            refine lv_iconst (v := (0 : Int32)) hx hb dL_changes_100 (by decide +kernel) ?_
            refine lv_iload_n hx hb dL_changes_101 rfl (lv_at hl 8 rfl) ?_
            refine bRV (W0 := wO cI cS qx a0 a1 a2 a3 b3 a4 sn sc has ([]) (st, tr, (hiR hi st (-4 : Int32)))) (wc := [(qx, .inr (6, [.ref (a0 0), .ref (a1 0), .ref (a2 0), .ref (a3 0), .ref (a4 0), .int has]))] :: wSt cI a0 st :: []) (r := (st.1 k)) ⟨hx, hb, hml, hown, hts⟩ (KR.eq (kX6_value l D cI cS qx a0 (a1 0) (a2 0) (a3 0) (a4 0) has (0 : Int32) (nI k) st) (val_0 hk)) (cwV 2 hts gL_changes_X6_value rfl rfl rfl (by decide +kernel) ⟨Nat.le_of_ble_eq_true rfl, Nat.le_of_ble_eq_true rfl⟩) hE hP rfl rfl [0, 1] rfl rfl rfl hl.1 rfl (Nat.le_of_ble_eq_true rfl) ⟨Nat.le_of_ble_eq_true rfl, Nat.le_of_ble_eq_true rfl⟩ dL_changes_102 ?_
            refine lv_iload_n hx hb dL_changes_105 rfl (lv_at hl 6 rfl) ?_
            refine lv_icmp_ne (tgt := 113) hx hb dL_changes_106 (by decide) (fun c => absurd rfl c) (fun _ => ?_)
            refine lv_iconst (v := (1 : Int32)) hx hb dL_changes_109 (by decide +kernel) ?_
            refine lv_goto (tgt := 114) hx hb dL_changes_110 (by decide) ?_
            exact hend _ _ _ (st, (hiR hi st (-4 : Int32))) _ _ _ _ dL_changes_114 rfl (Nat.le_refl _) (Nat.le_refl _) ⟨rfl, hI, (hh.rec hbo (-4 : Int32))⟩ hP hS
          · refine lv_iconst (v := (1 : Int32)) hx hb dL_changes_59 (by decide +kernel) ?_
            refine lv_goto (tgt := 64) hx hb dL_changes_60 (by decide) ?_
            refine lv_istore (lv' := [(8, .int ((1 : Int32))), (7, .int ((1 : Int32))), (6, .int ((st.2.2.2.2.2 2))), (5, .int st.2.2.2.1.2.1.2.2.2), (4, .int ((3 : Int32))), (3, .int ((st.1 k))), (0, .ref qx), (1, .int ((nI k))), (2, .int v)]) hx hb dL_changes_64 hl (by decide) rfl (fun ls hl => ?_)
            refine lv_iload_n hx hb dL_changes_66 rfl (lv_at hl 8 rfl) ?_
            refine lv_if_ge (tgt := 78) hx hb dL_changes_67 (by decide) (fun _ => ?_) (fun c => absurd hvp c)
            have eR : fX5_putRow (nI k) v st = ((-4 : Int32), st) := put_3 hk hvb hph
            have eT : fX6_put (nI k) v (st, hi) = ((-4 : Int32), (st, hiR hi st (-4 : Int32))) := by rw [put_eq, eR]
            refine lv_aload_n hx hb dL_changes_78 rfl (lv_at hl 6 rfl) ?_
            refine lv_iload_n hx hb dL_changes_79 rfl (lv_at hl 7 rfl) ?_
            refine lv_iload_n hx hb dL_changes_80 rfl (lv_at hl 8 rfl) ?_
            refine bIV (W0 := wO cI cS qx a0 a1 a2 a3 b3 a4 sn sc has ([]) (st, tr, hi)) (wc := [(qx, .inr (6, [.ref (a0 0), .ref (a1 0), .ref (a2 0), .ref (a3 0), .ref (a4 0), .int has]))] :: wSt cI a0 st :: wHi cI cS a3 b3 hi []) (w1 := fun u : TPT => [(qx, .inr (6, [.ref (a0 0), .ref (a1 0), .ref (a2 0), .ref (a3 0), .ref (a4 0), .int has]))] :: wSt cI a0 u.1 :: wHi cI cS a3 b3 u.2 []) ⟨hx, hb, hml, hown, hts⟩ (kX6_put l D cI cS qx a0 a3 b3 (a1 0) (a2 0) (a4 0) has (nI k) v (st, hi) hI.ws hh) (cwV 2 hts gL_changes_X6_put rfl rfl rfl (by decide +kernel) ⟨Nat.le_of_ble_eq_true rfl, Nat.le_of_ble_eq_true rfl⟩) hE hP hD hS rfl rfl [0, 1, 4, 5, 6, 7, 8, 9, 10, 11] rfl rfl (fun _ => rfl) (fun _ => rfl) rfl hl.1 rfl (Nat.le_of_ble_eq_true rfl) ⟨Nat.le_of_ble_eq_true rfl, Nat.le_of_ble_eq_true rfl⟩ dL_changes_81 (fun r_81 u_81 H locs e_81 hP hD hS => ?_)
            have hP : va_P D vwCl (fl (wO cI cS qx a0 a1 a2 a3 b3 a4 sn sc has ([]) (u_81.1, tr, u_81.2))) H := hP
            have hD : va_D A (fl (wO cI cS qx a0 a1 a2 a3 b3 a4 sn sc has ([]) (u_81.1, tr, u_81.2))) := hD
            rw [eT] at e_81
            cases e_81
            have hP : va_P D vwCl (fl (wO cI cS qx a0 a1 a2 a3 b3 a4 sn sc has ([]) (st, tr, (hiR hi st (-4 : Int32))))) H := hP
            have hD : va_D A (fl (wO cI cS qx a0 a1 a2 a3 b3 a4 sn sc has ([]) (st, tr, (hiR hi st (-4 : Int32))))) := hD
            refine lv_istore (lv' := [(9, .int ((-4 : Int32))), (8, .int ((1 : Int32))), (7, .int ((1 : Int32))), (6, .int ((st.2.2.2.2.2 2))), (5, .int st.2.2.2.1.2.1.2.2.2), (4, .int ((3 : Int32))), (3, .int ((st.1 k))), (0, .ref qx), (1, .int ((nI k))), (2, .int v)]) hx hb dL_changes_84 hl (by decide) rfl (fun ls hl => ?_)
            refine lv_iload hx hb dL_changes_86 (lv_at hl 5 rfl) ?_
            refine lv_iconst (v := (3 : Int32)) hx hb dL_changes_88 (by decide +kernel) ?_
            refine lv_icmp_ne (tgt := 115) hx hb dL_changes_89 (by decide) (fun c => absurd (show (3 : Int32) = (3 : Int32) by decide) c) (fun _ => ?_)
            refine lv_iload hx hb dL_changes_92 (lv_at hl 0 rfl) ?_
            refine lv_bipush (v := (-4 : Int32)) hx hb dL_changes_94 (by decide +kernel) ?_
            refine lv_icmp_ne (tgt := 113) hx hb dL_changes_96 (by decide) (fun c => absurd (show (-4 : Int32) = (-4 : Int32) by decide) c) (fun _ => ?_)
            refine lv_aload_n hx hb dL_changes_99 rfl (lv_at hl 7 rfl) ?_
            refine lv_iconst (v := (0 : Int32)) hx hb dL_changes_100 (by decide +kernel) ?_
            refine lv_iload_n hx hb dL_changes_101 rfl (lv_at hl 8 rfl) ?_
            refine bRV (W0 := wO cI cS qx a0 a1 a2 a3 b3 a4 sn sc has ([]) (st, tr, (hiR hi st (-4 : Int32)))) (wc := [(qx, .inr (6, [.ref (a0 0), .ref (a1 0), .ref (a2 0), .ref (a3 0), .ref (a4 0), .int has]))] :: wSt cI a0 st :: []) (r := (st.1 k)) ⟨hx, hb, hml, hown, hts⟩ (KR.eq (kX6_value l D cI cS qx a0 (a1 0) (a2 0) (a3 0) (a4 0) has (0 : Int32) (nI k) st) (val_0 hk)) (cwV 2 hts gL_changes_X6_value rfl rfl rfl (by decide +kernel) ⟨Nat.le_of_ble_eq_true rfl, Nat.le_of_ble_eq_true rfl⟩) hE hP rfl rfl [0, 1] rfl rfl rfl hl.1 rfl (Nat.le_of_ble_eq_true rfl) ⟨Nat.le_of_ble_eq_true rfl, Nat.le_of_ble_eq_true rfl⟩ dL_changes_102 ?_
            refine lv_iload_n hx hb dL_changes_105 rfl (lv_at hl 6 rfl) ?_
            refine lv_icmp_ne (tgt := 113) hx hb dL_changes_106 (by decide) (fun c => absurd rfl c) (fun _ => ?_)
            refine lv_iconst (v := (1 : Int32)) hx hb dL_changes_109 (by decide +kernel) ?_
            refine lv_goto (tgt := 114) hx hb dL_changes_110 (by decide) ?_
            exact hend _ _ _ (st, (hiR hi st (-4 : Int32))) _ _ _ _ dL_changes_114 rfl (Nat.le_refl _) (Nat.le_refl _) ⟨rfl, hI, (hh.rec hbo (-4 : Int32))⟩ hP hS
      · refine (Decidable.em (v < (0 : Int32))).elim (fun hvn => ?_) (fun hvq => ?_)
        · have hv5 : v = (-5 : Int32) := rw_neg hv hvn
          refine (Decidable.em ((st.1 k) < (0 : Int32))).elim (fun hhn => ?_) (fun hhp => ?_)
          · have hh5 : (st.1 k) = (-5 : Int32) := rw_neg hr hhn
            refine lv_aload_n hx hb dL_changes_0 rfl (lv_at hl 0 rfl) ?_
            refine lv_iconst (v := (0 : Int32)) hx hb dL_changes_1 (by decide +kernel) ?_
            refine lv_iload_n hx hb dL_changes_2 rfl (lv_at hl 1 rfl) ?_
            refine bRV (W0 := wO cI cS qx a0 a1 a2 a3 b3 a4 sn sc has ([]) (st, tr, hi)) (wc := [(qx, .inr (6, [.ref (a0 0), .ref (a1 0), .ref (a2 0), .ref (a3 0), .ref (a4 0), .int has]))] :: wSt cI a0 st :: []) (r := (st.1 k)) ⟨hx, hb, hml, hown, hts⟩ (KR.eq (kX6_value l D cI cS qx a0 (a1 0) (a2 0) (a3 0) (a4 0) has (0 : Int32) (nI k) st) (val_0 hk)) (cwV 2 hts gL_changes_X6_value rfl rfl rfl (by decide +kernel) ⟨Nat.le_of_ble_eq_true rfl, Nat.le_of_ble_eq_true rfl⟩) hE hP rfl rfl [0, 1] rfl rfl rfl hl.1 rfl (Nat.le_of_ble_eq_true rfl) ⟨Nat.le_of_ble_eq_true rfl, Nat.le_of_ble_eq_true rfl⟩ dL_changes_3 ?_
            refine lv_istore_n (lv' := [(3, .int ((st.1 k))), (0, .ref qx), (1, .int ((nI k))), (2, .int v)]) hx hb dL_changes_6 rfl hl (by decide) rfl (fun ls hl => ?_)
            refine lv_aload_n hx hb dL_changes_7 rfl (lv_at hl 1 rfl) ?_
            refine lv_iconst (v := (0 : Int32)) hx hb dL_changes_8 (by decide +kernel) ?_
            refine bRV (W0 := wO cI cS qx a0 a1 a2 a3 b3 a4 sn sc has ([]) (st, tr, hi)) (wc := [(qx, .inr (6, [.ref (a0 0), .ref (a1 0), .ref (a2 0), .ref (a3 0), .ref (a4 0), .int has]))] :: wSt cI a0 st :: []) (r := (3 : Int32)) ⟨hx, hb, hml, hown, hts⟩ (KR.eq (kX6_copy l D cI cS qx a0 (a1 0) (a2 0) (a3 0) (a4 0) has (0 : Int32) st) ((cp_0 st).trans hph)) (cwV 1 hts gL_changes_X6_copy rfl rfl rfl (by decide +kernel) ⟨Nat.le_of_ble_eq_true rfl, Nat.le_of_ble_eq_true rfl⟩) hE hP rfl rfl [0, 1] rfl rfl rfl hl.1 rfl (Nat.le_of_ble_eq_true rfl) ⟨Nat.le_of_ble_eq_true rfl, Nat.le_of_ble_eq_true rfl⟩ dL_changes_9 ?_
            refine lv_istore (lv' := [(4, .int ((3 : Int32))), (3, .int ((st.1 k))), (0, .ref qx), (1, .int ((nI k))), (2, .int v)]) hx hb dL_changes_12 hl (by decide) rfl (fun ls hl => ?_)
            refine lv_aload_n hx hb dL_changes_14 rfl (lv_at hl 2 rfl) ?_
            refine lv_iconst (v := (4 : Int32)) hx hb dL_changes_15 (by decide +kernel) ?_
            refine bRV (W0 := wO cI cS qx a0 a1 a2 a3 b3 a4 sn sc has ([]) (st, tr, hi)) (wc := [(qx, .inr (6, [.ref (a0 0), .ref (a1 0), .ref (a2 0), .ref (a3 0), .ref (a4 0), .int has]))] :: wSt cI a0 st :: []) (r := st.2.2.2.1.2.1.2.2.2) ⟨hx, hb, hml, hown, hts⟩ (KR.eq (kX6_copy l D cI cS qx a0 (a1 0) (a2 0) (a3 0) (a4 0) has (4 : Int32) st) (cp_4 h0)) (cwV 1 hts gL_changes_X6_copy rfl rfl rfl (by decide +kernel) ⟨Nat.le_of_ble_eq_true rfl, Nat.le_of_ble_eq_true rfl⟩) hE hP rfl rfl [0, 1] rfl rfl rfl hl.1 rfl (Nat.le_of_ble_eq_true rfl) ⟨Nat.le_of_ble_eq_true rfl, Nat.le_of_ble_eq_true rfl⟩ dL_changes_16 ?_
            refine lv_istore (lv' := [(5, .int st.2.2.2.1.2.1.2.2.2), (4, .int ((3 : Int32))), (3, .int ((st.1 k))), (0, .ref qx), (1, .int ((nI k))), (2, .int v)]) hx hb dL_changes_19 hl (by decide) rfl (fun ls hl => ?_)
            refine lv_aload_n hx hb dL_changes_21 rfl (lv_at hl 3 rfl) ?_
            refine lv_iconst (v := (2 : Int32)) hx hb dL_changes_22 (by decide +kernel) ?_
            refine bRV (W0 := wO cI cS qx a0 a1 a2 a3 b3 a4 sn sc has ([]) (st, tr, hi)) (wc := [(qx, .inr (6, [.ref (a0 0), .ref (a1 0), .ref (a2 0), .ref (a3 0), .ref (a4 0), .int has]))] :: wSt cI a0 st :: []) (r := (st.2.2.2.2.2 2)) ⟨hx, hb, hml, hown, hts⟩ (KR.eq (kX6_total l D cI cS qx a0 (a1 0) (a2 0) (a3 0) (a4 0) has (2 : Int32) st) (tot_i (i := 2) (by omega))) (cwV 1 hts gL_changes_X6_total rfl rfl rfl (by decide +kernel) ⟨Nat.le_of_ble_eq_true rfl, Nat.le_of_ble_eq_true rfl⟩) hE hP rfl rfl [0, 1] rfl rfl rfl hl.1 rfl (Nat.le_of_ble_eq_true rfl) ⟨Nat.le_of_ble_eq_true rfl, Nat.le_of_ble_eq_true rfl⟩ dL_changes_23 ?_
            refine lv_istore (lv' := [(6, .int ((st.2.2.2.2.2 2))), (5, .int st.2.2.2.1.2.1.2.2.2), (4, .int ((3 : Int32))), (3, .int ((st.1 k))), (0, .ref qx), (1, .int ((nI k))), (2, .int v)]) hx hb dL_changes_26 hl (by decide) rfl (fun ls hl => ?_)
            refine lv_iload hx hb dL_changes_28 (lv_at hl 1 rfl) ?_
            refine lv_bipush (v := (24 : Int32)) hx hb dL_changes_30 (by decide +kernel) ?_
            refine lv_icmp_ne (tgt := 47) hx hb dL_changes_32 (by decide) (fun _ => ?_) (fun c => absurd c hz)
            refine lv_iconst (v := (0 : Int32)) hx hb dL_changes_47 (by decide +kernel) ?_
            refine lv_istore (lv' := [(7, .int ((0 : Int32))), (6, .int ((st.2.2.2.2.2 2))), (5, .int st.2.2.2.1.2.1.2.2.2), (4, .int ((3 : Int32))), (3, .int ((st.1 k))), (0, .ref qx), (1, .int ((nI k))), (2, .int v)]) hx hb dL_changes_48 hl (by decide) rfl (fun ls hl => ?_)
            refine lv_aload_n hx hb dL_changes_50 rfl (lv_at hl 5 rfl) ?_
            refine lv_iconst (v := (3 : Int32)) hx hb dL_changes_51 (by decide +kernel) ?_
            refine bRV (W0 := wO cI cS qx a0 a1 a2 a3 b3 a4 sn sc has ([]) (st, tr, hi)) (wc := [(qx, .inr (6, [.ref (a0 0), .ref (a1 0), .ref (a2 0), .ref (a3 0), .ref (a4 0), .int has]))] :: wSt cI a0 st :: []) (r := (st.2.2.2.2.1 3)) ⟨hx, hb, hml, hown, hts⟩ (KR.eq (kX6_setting l D cI cS qx a0 (a1 0) (a2 0) (a3 0) (a4 0) has (3 : Int32) st) (set_i (i := 3) (by omega))) (cwV 1 hts gL_changes_X6_setting rfl rfl rfl (by decide +kernel) ⟨Nat.le_of_ble_eq_true rfl, Nat.le_of_ble_eq_true rfl⟩) hE hP rfl rfl [0, 1] rfl rfl rfl hl.1 rfl (Nat.le_of_ble_eq_true rfl) ⟨Nat.le_of_ble_eq_true rfl, Nat.le_of_ble_eq_true rfl⟩ dL_changes_52 ?_
            refine lv_iconst (v := (1 : Int32)) hx hb dL_changes_55 (by decide +kernel) ?_
            refine lv_icmp_ne (tgt := 63) hx hb dL_changes_56 (by decide) (fun c_56 => ?_) (fun c_56 => ?_)
            · refine lv_iconst (v := (0 : Int32)) hx hb dL_changes_63 (by decide +kernel) ?_
              refine lv_istore (lv' := [(8, .int ((0 : Int32))), (7, .int ((0 : Int32))), (6, .int ((st.2.2.2.2.2 2))), (5, .int st.2.2.2.1.2.1.2.2.2), (4, .int ((3 : Int32))), (3, .int ((st.1 k))), (0, .ref qx), (1, .int ((nI k))), (2, .int v)]) hx hb dL_changes_64 hl (by decide) rfl (fun ls hl => ?_)
              refine lv_iload_n hx hb dL_changes_66 rfl (lv_at hl 8 rfl) ?_
              refine lv_if_ge (tgt := 78) hx hb dL_changes_67 (by decide) (fun c => absurd c (Int32.not_le.mpr hvn)) (fun _ => ?_)
              have eR : fX5_eraseRow (nI k) st = ((-4 : Int32), st) := erase_3 hk hph
              have eT : fX6_erase (nI k) (st, hi) = ((-4 : Int32), (st, hiR hi st (-4 : Int32))) := by rw [erase_eq, eR]
              refine lv_aload_n hx hb dL_changes_70 rfl (lv_at hl 6 rfl) ?_
              refine lv_iload_n hx hb dL_changes_71 rfl (lv_at hl 7 rfl) ?_
              refine bIV (W0 := wO cI cS qx a0 a1 a2 a3 b3 a4 sn sc has ([]) (st, tr, hi)) (wc := [(qx, .inr (6, [.ref (a0 0), .ref (a1 0), .ref (a2 0), .ref (a3 0), .ref (a4 0), .int has]))] :: wSt cI a0 st :: wHi cI cS a3 b3 hi []) (w1 := fun u : TPT => [(qx, .inr (6, [.ref (a0 0), .ref (a1 0), .ref (a2 0), .ref (a3 0), .ref (a4 0), .int has]))] :: wSt cI a0 u.1 :: wHi cI cS a3 b3 u.2 []) ⟨hx, hb, hml, hown, hts⟩ (kX6_erase l D cI cS qx a0 a3 b3 (a1 0) (a2 0) (a4 0) has (nI k) (st, hi) hI.ws hh) (cwV 1 hts gL_changes_X6_erase rfl rfl rfl (by decide +kernel) ⟨Nat.le_of_ble_eq_true rfl, Nat.le_of_ble_eq_true rfl⟩) hE hP hD hS rfl rfl [0, 1, 4, 5, 6, 7, 8, 9, 10, 11] rfl rfl (fun _ => rfl) (fun _ => rfl) rfl hl.1 rfl (Nat.le_of_ble_eq_true rfl) ⟨Nat.le_of_ble_eq_true rfl, Nat.le_of_ble_eq_true rfl⟩ dL_changes_72 (fun r_72 u_72 H locs e_72 hP hD hS => ?_)
              have hP : va_P D vwCl (fl (wO cI cS qx a0 a1 a2 a3 b3 a4 sn sc has ([]) (u_72.1, tr, u_72.2))) H := hP
              have hD : va_D A (fl (wO cI cS qx a0 a1 a2 a3 b3 a4 sn sc has ([]) (u_72.1, tr, u_72.2))) := hD
              rw [eT] at e_72
              cases e_72
              have hP : va_P D vwCl (fl (wO cI cS qx a0 a1 a2 a3 b3 a4 sn sc has ([]) (st, tr, (hiR hi st (-4 : Int32))))) H := hP
              have hD : va_D A (fl (wO cI cS qx a0 a1 a2 a3 b3 a4 sn sc has ([]) (st, tr, (hiR hi st (-4 : Int32))))) := hD
              refine lv_goto (tgt := 84) hx hb dL_changes_75 (by decide) ?_
              refine lv_istore (lv' := [(9, .int ((-4 : Int32))), (8, .int ((0 : Int32))), (7, .int ((0 : Int32))), (6, .int ((st.2.2.2.2.2 2))), (5, .int st.2.2.2.1.2.1.2.2.2), (4, .int ((3 : Int32))), (3, .int ((st.1 k))), (0, .ref qx), (1, .int ((nI k))), (2, .int v)]) hx hb dL_changes_84 hl (by decide) rfl (fun ls hl => ?_)
              refine lv_iload hx hb dL_changes_86 (lv_at hl 5 rfl) ?_
              refine lv_iconst (v := (3 : Int32)) hx hb dL_changes_88 (by decide +kernel) ?_
              refine lv_icmp_ne (tgt := 115) hx hb dL_changes_89 (by decide) (fun c => absurd (show (3 : Int32) = (3 : Int32) by decide) c) (fun _ => ?_)
              refine lv_iload hx hb dL_changes_92 (lv_at hl 0 rfl) ?_
              refine lv_bipush (v := (-4 : Int32)) hx hb dL_changes_94 (by decide +kernel) ?_
              refine lv_icmp_ne (tgt := 113) hx hb dL_changes_96 (by decide) (fun c => absurd (show (-4 : Int32) = (-4 : Int32) by decide) c) (fun _ => ?_)
              refine lv_aload_n hx hb dL_changes_99 rfl (lv_at hl 7 rfl) ?_
              refine lv_iconst (v := (0 : Int32)) hx hb dL_changes_100 (by decide +kernel) ?_
              refine lv_iload_n hx hb dL_changes_101 rfl (lv_at hl 8 rfl) ?_
              refine bRV (W0 := wO cI cS qx a0 a1 a2 a3 b3 a4 sn sc has ([]) (st, tr, (hiR hi st (-4 : Int32)))) (wc := [(qx, .inr (6, [.ref (a0 0), .ref (a1 0), .ref (a2 0), .ref (a3 0), .ref (a4 0), .int has]))] :: wSt cI a0 st :: []) (r := (st.1 k)) ⟨hx, hb, hml, hown, hts⟩ (KR.eq (kX6_value l D cI cS qx a0 (a1 0) (a2 0) (a3 0) (a4 0) has (0 : Int32) (nI k) st) (val_0 hk)) (cwV 2 hts gL_changes_X6_value rfl rfl rfl (by decide +kernel) ⟨Nat.le_of_ble_eq_true rfl, Nat.le_of_ble_eq_true rfl⟩) hE hP rfl rfl [0, 1] rfl rfl rfl hl.1 rfl (Nat.le_of_ble_eq_true rfl) ⟨Nat.le_of_ble_eq_true rfl, Nat.le_of_ble_eq_true rfl⟩ dL_changes_102 ?_
              refine lv_iload_n hx hb dL_changes_105 rfl (lv_at hl 6 rfl) ?_
              refine lv_icmp_ne (tgt := 113) hx hb dL_changes_106 (by decide) (fun c => absurd rfl c) (fun _ => ?_)
              refine lv_iconst (v := (1 : Int32)) hx hb dL_changes_109 (by decide +kernel) ?_
              refine lv_goto (tgt := 114) hx hb dL_changes_110 (by decide) ?_
              exact hend _ _ _ (st, (hiR hi st (-4 : Int32))) _ _ _ _ dL_changes_114 rfl (Nat.le_refl _) (Nat.le_refl _) ⟨rfl, hI, (hh.rec hbo (-4 : Int32))⟩ hP hS
            · refine lv_iconst (v := (1 : Int32)) hx hb dL_changes_59 (by decide +kernel) ?_
              refine lv_goto (tgt := 64) hx hb dL_changes_60 (by decide) ?_
              refine lv_istore (lv' := [(8, .int ((1 : Int32))), (7, .int ((0 : Int32))), (6, .int ((st.2.2.2.2.2 2))), (5, .int st.2.2.2.1.2.1.2.2.2), (4, .int ((3 : Int32))), (3, .int ((st.1 k))), (0, .ref qx), (1, .int ((nI k))), (2, .int v)]) hx hb dL_changes_64 hl (by decide) rfl (fun ls hl => ?_)
              refine lv_iload_n hx hb dL_changes_66 rfl (lv_at hl 8 rfl) ?_
              refine lv_if_ge (tgt := 78) hx hb dL_changes_67 (by decide) (fun c => absurd c (Int32.not_le.mpr hvn)) (fun _ => ?_)
              have eR : fX5_eraseRow (nI k) st = ((-4 : Int32), st) := erase_3 hk hph
              have eT : fX6_erase (nI k) (st, hi) = ((-4 : Int32), (st, hiR hi st (-4 : Int32))) := by rw [erase_eq, eR]
              refine lv_aload_n hx hb dL_changes_70 rfl (lv_at hl 6 rfl) ?_
              refine lv_iload_n hx hb dL_changes_71 rfl (lv_at hl 7 rfl) ?_
              refine bIV (W0 := wO cI cS qx a0 a1 a2 a3 b3 a4 sn sc has ([]) (st, tr, hi)) (wc := [(qx, .inr (6, [.ref (a0 0), .ref (a1 0), .ref (a2 0), .ref (a3 0), .ref (a4 0), .int has]))] :: wSt cI a0 st :: wHi cI cS a3 b3 hi []) (w1 := fun u : TPT => [(qx, .inr (6, [.ref (a0 0), .ref (a1 0), .ref (a2 0), .ref (a3 0), .ref (a4 0), .int has]))] :: wSt cI a0 u.1 :: wHi cI cS a3 b3 u.2 []) ⟨hx, hb, hml, hown, hts⟩ (kX6_erase l D cI cS qx a0 a3 b3 (a1 0) (a2 0) (a4 0) has (nI k) (st, hi) hI.ws hh) (cwV 1 hts gL_changes_X6_erase rfl rfl rfl (by decide +kernel) ⟨Nat.le_of_ble_eq_true rfl, Nat.le_of_ble_eq_true rfl⟩) hE hP hD hS rfl rfl [0, 1, 4, 5, 6, 7, 8, 9, 10, 11] rfl rfl (fun _ => rfl) (fun _ => rfl) rfl hl.1 rfl (Nat.le_of_ble_eq_true rfl) ⟨Nat.le_of_ble_eq_true rfl, Nat.le_of_ble_eq_true rfl⟩ dL_changes_72 (fun r_72 u_72 H locs e_72 hP hD hS => ?_)
              have hP : va_P D vwCl (fl (wO cI cS qx a0 a1 a2 a3 b3 a4 sn sc has ([]) (u_72.1, tr, u_72.2))) H := hP
              have hD : va_D A (fl (wO cI cS qx a0 a1 a2 a3 b3 a4 sn sc has ([]) (u_72.1, tr, u_72.2))) := hD
              rw [eT] at e_72
              cases e_72
              have hP : va_P D vwCl (fl (wO cI cS qx a0 a1 a2 a3 b3 a4 sn sc has ([]) (st, tr, (hiR hi st (-4 : Int32))))) H := hP
              have hD : va_D A (fl (wO cI cS qx a0 a1 a2 a3 b3 a4 sn sc has ([]) (st, tr, (hiR hi st (-4 : Int32))))) := hD
              refine lv_goto (tgt := 84) hx hb dL_changes_75 (by decide) ?_
              refine lv_istore (lv' := [(9, .int ((-4 : Int32))), (8, .int ((1 : Int32))), (7, .int ((0 : Int32))), (6, .int ((st.2.2.2.2.2 2))), (5, .int st.2.2.2.1.2.1.2.2.2), (4, .int ((3 : Int32))), (3, .int ((st.1 k))), (0, .ref qx), (1, .int ((nI k))), (2, .int v)]) hx hb dL_changes_84 hl (by decide) rfl (fun ls hl => ?_)
              refine lv_iload hx hb dL_changes_86 (lv_at hl 5 rfl) ?_
              refine lv_iconst (v := (3 : Int32)) hx hb dL_changes_88 (by decide +kernel) ?_
              refine lv_icmp_ne (tgt := 115) hx hb dL_changes_89 (by decide) (fun c => absurd (show (3 : Int32) = (3 : Int32) by decide) c) (fun _ => ?_)
              refine lv_iload hx hb dL_changes_92 (lv_at hl 0 rfl) ?_
              refine lv_bipush (v := (-4 : Int32)) hx hb dL_changes_94 (by decide +kernel) ?_
              refine lv_icmp_ne (tgt := 113) hx hb dL_changes_96 (by decide) (fun c => absurd (show (-4 : Int32) = (-4 : Int32) by decide) c) (fun _ => ?_)
              refine lv_aload_n hx hb dL_changes_99 rfl (lv_at hl 7 rfl) ?_
              refine lv_iconst (v := (0 : Int32)) hx hb dL_changes_100 (by decide +kernel) ?_
              refine lv_iload_n hx hb dL_changes_101 rfl (lv_at hl 8 rfl) ?_
              refine bRV (W0 := wO cI cS qx a0 a1 a2 a3 b3 a4 sn sc has ([]) (st, tr, (hiR hi st (-4 : Int32)))) (wc := [(qx, .inr (6, [.ref (a0 0), .ref (a1 0), .ref (a2 0), .ref (a3 0), .ref (a4 0), .int has]))] :: wSt cI a0 st :: []) (r := (st.1 k)) ⟨hx, hb, hml, hown, hts⟩ (KR.eq (kX6_value l D cI cS qx a0 (a1 0) (a2 0) (a3 0) (a4 0) has (0 : Int32) (nI k) st) (val_0 hk)) (cwV 2 hts gL_changes_X6_value rfl rfl rfl (by decide +kernel) ⟨Nat.le_of_ble_eq_true rfl, Nat.le_of_ble_eq_true rfl⟩) hE hP rfl rfl [0, 1] rfl rfl rfl hl.1 rfl (Nat.le_of_ble_eq_true rfl) ⟨Nat.le_of_ble_eq_true rfl, Nat.le_of_ble_eq_true rfl⟩ dL_changes_102 ?_
              refine lv_iload_n hx hb dL_changes_105 rfl (lv_at hl 6 rfl) ?_
              refine lv_icmp_ne (tgt := 113) hx hb dL_changes_106 (by decide) (fun c => absurd rfl c) (fun _ => ?_)
              refine lv_iconst (v := (1 : Int32)) hx hb dL_changes_109 (by decide +kernel) ?_
              refine lv_goto (tgt := 114) hx hb dL_changes_110 (by decide) ?_
              exact hend _ _ _ (st, (hiR hi st (-4 : Int32))) _ _ _ _ dL_changes_114 rfl (Nat.le_refl _) (Nat.le_refl _) ⟨rfl, hI, (hh.rec hbo (-4 : Int32))⟩ hP hS
          · have hn5 : ¬ (st.1 k) = (-5 : Int32) := fun q => hhp (by rw [q]; decide)
            refine lv_aload_n hx hb dL_changes_0 rfl (lv_at hl 0 rfl) ?_
            refine lv_iconst (v := (0 : Int32)) hx hb dL_changes_1 (by decide +kernel) ?_
            refine lv_iload_n hx hb dL_changes_2 rfl (lv_at hl 1 rfl) ?_
            refine bRV (W0 := wO cI cS qx a0 a1 a2 a3 b3 a4 sn sc has ([]) (st, tr, hi)) (wc := [(qx, .inr (6, [.ref (a0 0), .ref (a1 0), .ref (a2 0), .ref (a3 0), .ref (a4 0), .int has]))] :: wSt cI a0 st :: []) (r := (st.1 k)) ⟨hx, hb, hml, hown, hts⟩ (KR.eq (kX6_value l D cI cS qx a0 (a1 0) (a2 0) (a3 0) (a4 0) has (0 : Int32) (nI k) st) (val_0 hk)) (cwV 2 hts gL_changes_X6_value rfl rfl rfl (by decide +kernel) ⟨Nat.le_of_ble_eq_true rfl, Nat.le_of_ble_eq_true rfl⟩) hE hP rfl rfl [0, 1] rfl rfl rfl hl.1 rfl (Nat.le_of_ble_eq_true rfl) ⟨Nat.le_of_ble_eq_true rfl, Nat.le_of_ble_eq_true rfl⟩ dL_changes_3 ?_
            refine lv_istore_n (lv' := [(3, .int ((st.1 k))), (0, .ref qx), (1, .int ((nI k))), (2, .int v)]) hx hb dL_changes_6 rfl hl (by decide) rfl (fun ls hl => ?_)
            refine lv_aload_n hx hb dL_changes_7 rfl (lv_at hl 1 rfl) ?_
            refine lv_iconst (v := (0 : Int32)) hx hb dL_changes_8 (by decide +kernel) ?_
            refine bRV (W0 := wO cI cS qx a0 a1 a2 a3 b3 a4 sn sc has ([]) (st, tr, hi)) (wc := [(qx, .inr (6, [.ref (a0 0), .ref (a1 0), .ref (a2 0), .ref (a3 0), .ref (a4 0), .int has]))] :: wSt cI a0 st :: []) (r := (3 : Int32)) ⟨hx, hb, hml, hown, hts⟩ (KR.eq (kX6_copy l D cI cS qx a0 (a1 0) (a2 0) (a3 0) (a4 0) has (0 : Int32) st) ((cp_0 st).trans hph)) (cwV 1 hts gL_changes_X6_copy rfl rfl rfl (by decide +kernel) ⟨Nat.le_of_ble_eq_true rfl, Nat.le_of_ble_eq_true rfl⟩) hE hP rfl rfl [0, 1] rfl rfl rfl hl.1 rfl (Nat.le_of_ble_eq_true rfl) ⟨Nat.le_of_ble_eq_true rfl, Nat.le_of_ble_eq_true rfl⟩ dL_changes_9 ?_
            refine lv_istore (lv' := [(4, .int ((3 : Int32))), (3, .int ((st.1 k))), (0, .ref qx), (1, .int ((nI k))), (2, .int v)]) hx hb dL_changes_12 hl (by decide) rfl (fun ls hl => ?_)
            refine lv_aload_n hx hb dL_changes_14 rfl (lv_at hl 2 rfl) ?_
            refine lv_iconst (v := (4 : Int32)) hx hb dL_changes_15 (by decide +kernel) ?_
            refine bRV (W0 := wO cI cS qx a0 a1 a2 a3 b3 a4 sn sc has ([]) (st, tr, hi)) (wc := [(qx, .inr (6, [.ref (a0 0), .ref (a1 0), .ref (a2 0), .ref (a3 0), .ref (a4 0), .int has]))] :: wSt cI a0 st :: []) (r := st.2.2.2.1.2.1.2.2.2) ⟨hx, hb, hml, hown, hts⟩ (KR.eq (kX6_copy l D cI cS qx a0 (a1 0) (a2 0) (a3 0) (a4 0) has (4 : Int32) st) (cp_4 h0)) (cwV 1 hts gL_changes_X6_copy rfl rfl rfl (by decide +kernel) ⟨Nat.le_of_ble_eq_true rfl, Nat.le_of_ble_eq_true rfl⟩) hE hP rfl rfl [0, 1] rfl rfl rfl hl.1 rfl (Nat.le_of_ble_eq_true rfl) ⟨Nat.le_of_ble_eq_true rfl, Nat.le_of_ble_eq_true rfl⟩ dL_changes_16 ?_
            refine lv_istore (lv' := [(5, .int st.2.2.2.1.2.1.2.2.2), (4, .int ((3 : Int32))), (3, .int ((st.1 k))), (0, .ref qx), (1, .int ((nI k))), (2, .int v)]) hx hb dL_changes_19 hl (by decide) rfl (fun ls hl => ?_)
            refine lv_aload_n hx hb dL_changes_21 rfl (lv_at hl 3 rfl) ?_
            refine lv_iconst (v := (2 : Int32)) hx hb dL_changes_22 (by decide +kernel) ?_
            refine bRV (W0 := wO cI cS qx a0 a1 a2 a3 b3 a4 sn sc has ([]) (st, tr, hi)) (wc := [(qx, .inr (6, [.ref (a0 0), .ref (a1 0), .ref (a2 0), .ref (a3 0), .ref (a4 0), .int has]))] :: wSt cI a0 st :: []) (r := (st.2.2.2.2.2 2)) ⟨hx, hb, hml, hown, hts⟩ (KR.eq (kX6_total l D cI cS qx a0 (a1 0) (a2 0) (a3 0) (a4 0) has (2 : Int32) st) (tot_i (i := 2) (by omega))) (cwV 1 hts gL_changes_X6_total rfl rfl rfl (by decide +kernel) ⟨Nat.le_of_ble_eq_true rfl, Nat.le_of_ble_eq_true rfl⟩) hE hP rfl rfl [0, 1] rfl rfl rfl hl.1 rfl (Nat.le_of_ble_eq_true rfl) ⟨Nat.le_of_ble_eq_true rfl, Nat.le_of_ble_eq_true rfl⟩ dL_changes_23 ?_
            refine lv_istore (lv' := [(6, .int ((st.2.2.2.2.2 2))), (5, .int st.2.2.2.1.2.1.2.2.2), (4, .int ((3 : Int32))), (3, .int ((st.1 k))), (0, .ref qx), (1, .int ((nI k))), (2, .int v)]) hx hb dL_changes_26 hl (by decide) rfl (fun ls hl => ?_)
            refine lv_iload hx hb dL_changes_28 (lv_at hl 1 rfl) ?_
            refine lv_bipush (v := (24 : Int32)) hx hb dL_changes_30 (by decide +kernel) ?_
            refine lv_icmp_ne (tgt := 47) hx hb dL_changes_32 (by decide) (fun _ => ?_) (fun c => absurd c hz)
            refine lv_iconst (v := (0 : Int32)) hx hb dL_changes_47 (by decide +kernel) ?_
            refine lv_istore (lv' := [(7, .int ((0 : Int32))), (6, .int ((st.2.2.2.2.2 2))), (5, .int st.2.2.2.1.2.1.2.2.2), (4, .int ((3 : Int32))), (3, .int ((st.1 k))), (0, .ref qx), (1, .int ((nI k))), (2, .int v)]) hx hb dL_changes_48 hl (by decide) rfl (fun ls hl => ?_)
            refine lv_aload_n hx hb dL_changes_50 rfl (lv_at hl 5 rfl) ?_
            refine lv_iconst (v := (3 : Int32)) hx hb dL_changes_51 (by decide +kernel) ?_
            refine bRV (W0 := wO cI cS qx a0 a1 a2 a3 b3 a4 sn sc has ([]) (st, tr, hi)) (wc := [(qx, .inr (6, [.ref (a0 0), .ref (a1 0), .ref (a2 0), .ref (a3 0), .ref (a4 0), .int has]))] :: wSt cI a0 st :: []) (r := (st.2.2.2.2.1 3)) ⟨hx, hb, hml, hown, hts⟩ (KR.eq (kX6_setting l D cI cS qx a0 (a1 0) (a2 0) (a3 0) (a4 0) has (3 : Int32) st) (set_i (i := 3) (by omega))) (cwV 1 hts gL_changes_X6_setting rfl rfl rfl (by decide +kernel) ⟨Nat.le_of_ble_eq_true rfl, Nat.le_of_ble_eq_true rfl⟩) hE hP rfl rfl [0, 1] rfl rfl rfl hl.1 rfl (Nat.le_of_ble_eq_true rfl) ⟨Nat.le_of_ble_eq_true rfl, Nat.le_of_ble_eq_true rfl⟩ dL_changes_52 ?_
            refine lv_iconst (v := (1 : Int32)) hx hb dL_changes_55 (by decide +kernel) ?_
            refine lv_icmp_ne (tgt := 63) hx hb dL_changes_56 (by decide) (fun c_56 => ?_) (fun c_56 => ?_)
            · refine lv_iconst (v := (0 : Int32)) hx hb dL_changes_63 (by decide +kernel) ?_
              refine lv_istore (lv' := [(8, .int ((0 : Int32))), (7, .int ((0 : Int32))), (6, .int ((st.2.2.2.2.2 2))), (5, .int st.2.2.2.1.2.1.2.2.2), (4, .int ((3 : Int32))), (3, .int ((st.1 k))), (0, .ref qx), (1, .int ((nI k))), (2, .int v)]) hx hb dL_changes_64 hl (by decide) rfl (fun ls hl => ?_)
              refine lv_iload_n hx hb dL_changes_66 rfl (lv_at hl 8 rfl) ?_
              refine lv_if_ge (tgt := 78) hx hb dL_changes_67 (by decide) (fun c => absurd c (Int32.not_le.mpr hvn)) (fun _ => ?_)
              have eR : fX5_eraseRow (nI k) st = ((-4 : Int32), st) := erase_3 hk hph
              have eT : fX6_erase (nI k) (st, hi) = ((-4 : Int32), (st, hiR hi st (-4 : Int32))) := by rw [erase_eq, eR]
              refine lv_aload_n hx hb dL_changes_70 rfl (lv_at hl 6 rfl) ?_
              refine lv_iload_n hx hb dL_changes_71 rfl (lv_at hl 7 rfl) ?_
              refine bIV (W0 := wO cI cS qx a0 a1 a2 a3 b3 a4 sn sc has ([]) (st, tr, hi)) (wc := [(qx, .inr (6, [.ref (a0 0), .ref (a1 0), .ref (a2 0), .ref (a3 0), .ref (a4 0), .int has]))] :: wSt cI a0 st :: wHi cI cS a3 b3 hi []) (w1 := fun u : TPT => [(qx, .inr (6, [.ref (a0 0), .ref (a1 0), .ref (a2 0), .ref (a3 0), .ref (a4 0), .int has]))] :: wSt cI a0 u.1 :: wHi cI cS a3 b3 u.2 []) ⟨hx, hb, hml, hown, hts⟩ (kX6_erase l D cI cS qx a0 a3 b3 (a1 0) (a2 0) (a4 0) has (nI k) (st, hi) hI.ws hh) (cwV 1 hts gL_changes_X6_erase rfl rfl rfl (by decide +kernel) ⟨Nat.le_of_ble_eq_true rfl, Nat.le_of_ble_eq_true rfl⟩) hE hP hD hS rfl rfl [0, 1, 4, 5, 6, 7, 8, 9, 10, 11] rfl rfl (fun _ => rfl) (fun _ => rfl) rfl hl.1 rfl (Nat.le_of_ble_eq_true rfl) ⟨Nat.le_of_ble_eq_true rfl, Nat.le_of_ble_eq_true rfl⟩ dL_changes_72 (fun r_72 u_72 H locs e_72 hP hD hS => ?_)
              have hP : va_P D vwCl (fl (wO cI cS qx a0 a1 a2 a3 b3 a4 sn sc has ([]) (u_72.1, tr, u_72.2))) H := hP
              have hD : va_D A (fl (wO cI cS qx a0 a1 a2 a3 b3 a4 sn sc has ([]) (u_72.1, tr, u_72.2))) := hD
              rw [eT] at e_72
              cases e_72
              have hP : va_P D vwCl (fl (wO cI cS qx a0 a1 a2 a3 b3 a4 sn sc has ([]) (st, tr, (hiR hi st (-4 : Int32))))) H := hP
              have hD : va_D A (fl (wO cI cS qx a0 a1 a2 a3 b3 a4 sn sc has ([]) (st, tr, (hiR hi st (-4 : Int32))))) := hD
              refine lv_goto (tgt := 84) hx hb dL_changes_75 (by decide) ?_
              refine lv_istore (lv' := [(9, .int ((-4 : Int32))), (8, .int ((0 : Int32))), (7, .int ((0 : Int32))), (6, .int ((st.2.2.2.2.2 2))), (5, .int st.2.2.2.1.2.1.2.2.2), (4, .int ((3 : Int32))), (3, .int ((st.1 k))), (0, .ref qx), (1, .int ((nI k))), (2, .int v)]) hx hb dL_changes_84 hl (by decide) rfl (fun ls hl => ?_)
              refine lv_iload hx hb dL_changes_86 (lv_at hl 5 rfl) ?_
              refine lv_iconst (v := (3 : Int32)) hx hb dL_changes_88 (by decide +kernel) ?_
              refine lv_icmp_ne (tgt := 115) hx hb dL_changes_89 (by decide) (fun c => absurd (show (3 : Int32) = (3 : Int32) by decide) c) (fun _ => ?_)
              refine lv_iload hx hb dL_changes_92 (lv_at hl 0 rfl) ?_
              refine lv_bipush (v := (-4 : Int32)) hx hb dL_changes_94 (by decide +kernel) ?_
              refine lv_icmp_ne (tgt := 113) hx hb dL_changes_96 (by decide) (fun c => absurd (show (-4 : Int32) = (-4 : Int32) by decide) c) (fun _ => ?_)
              refine lv_aload_n hx hb dL_changes_99 rfl (lv_at hl 7 rfl) ?_
              refine lv_iconst (v := (0 : Int32)) hx hb dL_changes_100 (by decide +kernel) ?_
              refine lv_iload_n hx hb dL_changes_101 rfl (lv_at hl 8 rfl) ?_
              refine bRV (W0 := wO cI cS qx a0 a1 a2 a3 b3 a4 sn sc has ([]) (st, tr, (hiR hi st (-4 : Int32)))) (wc := [(qx, .inr (6, [.ref (a0 0), .ref (a1 0), .ref (a2 0), .ref (a3 0), .ref (a4 0), .int has]))] :: wSt cI a0 st :: []) (r := (st.1 k)) ⟨hx, hb, hml, hown, hts⟩ (KR.eq (kX6_value l D cI cS qx a0 (a1 0) (a2 0) (a3 0) (a4 0) has (0 : Int32) (nI k) st) (val_0 hk)) (cwV 2 hts gL_changes_X6_value rfl rfl rfl (by decide +kernel) ⟨Nat.le_of_ble_eq_true rfl, Nat.le_of_ble_eq_true rfl⟩) hE hP rfl rfl [0, 1] rfl rfl rfl hl.1 rfl (Nat.le_of_ble_eq_true rfl) ⟨Nat.le_of_ble_eq_true rfl, Nat.le_of_ble_eq_true rfl⟩ dL_changes_102 ?_
              refine lv_iload_n hx hb dL_changes_105 rfl (lv_at hl 6 rfl) ?_
              refine lv_icmp_ne (tgt := 113) hx hb dL_changes_106 (by decide) (fun c => absurd rfl c) (fun _ => ?_)
              refine lv_iconst (v := (1 : Int32)) hx hb dL_changes_109 (by decide +kernel) ?_
              refine lv_goto (tgt := 114) hx hb dL_changes_110 (by decide) ?_
              exact hend _ _ _ (st, (hiR hi st (-4 : Int32))) _ _ _ _ dL_changes_114 rfl (Nat.le_refl _) (Nat.le_refl _) ⟨rfl, hI, (hh.rec hbo (-4 : Int32))⟩ hP hS
            · refine lv_iconst (v := (1 : Int32)) hx hb dL_changes_59 (by decide +kernel) ?_
              refine lv_goto (tgt := 64) hx hb dL_changes_60 (by decide) ?_
              refine lv_istore (lv' := [(8, .int ((1 : Int32))), (7, .int ((0 : Int32))), (6, .int ((st.2.2.2.2.2 2))), (5, .int st.2.2.2.1.2.1.2.2.2), (4, .int ((3 : Int32))), (3, .int ((st.1 k))), (0, .ref qx), (1, .int ((nI k))), (2, .int v)]) hx hb dL_changes_64 hl (by decide) rfl (fun ls hl => ?_)
              refine lv_iload_n hx hb dL_changes_66 rfl (lv_at hl 8 rfl) ?_
              refine lv_if_ge (tgt := 78) hx hb dL_changes_67 (by decide) (fun c => absurd c (Int32.not_le.mpr hvn)) (fun _ => ?_)
              have eR : fX5_eraseRow (nI k) st = ((-4 : Int32), st) := erase_3 hk hph
              have eT : fX6_erase (nI k) (st, hi) = ((-4 : Int32), (st, hiR hi st (-4 : Int32))) := by rw [erase_eq, eR]
              refine lv_aload_n hx hb dL_changes_70 rfl (lv_at hl 6 rfl) ?_
              refine lv_iload_n hx hb dL_changes_71 rfl (lv_at hl 7 rfl) ?_
              refine bIV (W0 := wO cI cS qx a0 a1 a2 a3 b3 a4 sn sc has ([]) (st, tr, hi)) (wc := [(qx, .inr (6, [.ref (a0 0), .ref (a1 0), .ref (a2 0), .ref (a3 0), .ref (a4 0), .int has]))] :: wSt cI a0 st :: wHi cI cS a3 b3 hi []) (w1 := fun u : TPT => [(qx, .inr (6, [.ref (a0 0), .ref (a1 0), .ref (a2 0), .ref (a3 0), .ref (a4 0), .int has]))] :: wSt cI a0 u.1 :: wHi cI cS a3 b3 u.2 []) ⟨hx, hb, hml, hown, hts⟩ (kX6_erase l D cI cS qx a0 a3 b3 (a1 0) (a2 0) (a4 0) has (nI k) (st, hi) hI.ws hh) (cwV 1 hts gL_changes_X6_erase rfl rfl rfl (by decide +kernel) ⟨Nat.le_of_ble_eq_true rfl, Nat.le_of_ble_eq_true rfl⟩) hE hP hD hS rfl rfl [0, 1, 4, 5, 6, 7, 8, 9, 10, 11] rfl rfl (fun _ => rfl) (fun _ => rfl) rfl hl.1 rfl (Nat.le_of_ble_eq_true rfl) ⟨Nat.le_of_ble_eq_true rfl, Nat.le_of_ble_eq_true rfl⟩ dL_changes_72 (fun r_72 u_72 H locs e_72 hP hD hS => ?_)
              have hP : va_P D vwCl (fl (wO cI cS qx a0 a1 a2 a3 b3 a4 sn sc has ([]) (u_72.1, tr, u_72.2))) H := hP
              have hD : va_D A (fl (wO cI cS qx a0 a1 a2 a3 b3 a4 sn sc has ([]) (u_72.1, tr, u_72.2))) := hD
              rw [eT] at e_72
              cases e_72
              have hP : va_P D vwCl (fl (wO cI cS qx a0 a1 a2 a3 b3 a4 sn sc has ([]) (st, tr, (hiR hi st (-4 : Int32))))) H := hP
              have hD : va_D A (fl (wO cI cS qx a0 a1 a2 a3 b3 a4 sn sc has ([]) (st, tr, (hiR hi st (-4 : Int32))))) := hD
              refine lv_goto (tgt := 84) hx hb dL_changes_75 (by decide) ?_
              refine lv_istore (lv' := [(9, .int ((-4 : Int32))), (8, .int ((1 : Int32))), (7, .int ((0 : Int32))), (6, .int ((st.2.2.2.2.2 2))), (5, .int st.2.2.2.1.2.1.2.2.2), (4, .int ((3 : Int32))), (3, .int ((st.1 k))), (0, .ref qx), (1, .int ((nI k))), (2, .int v)]) hx hb dL_changes_84 hl (by decide) rfl (fun ls hl => ?_)
              refine lv_iload hx hb dL_changes_86 (lv_at hl 5 rfl) ?_
              refine lv_iconst (v := (3 : Int32)) hx hb dL_changes_88 (by decide +kernel) ?_
              refine lv_icmp_ne (tgt := 115) hx hb dL_changes_89 (by decide) (fun c => absurd (show (3 : Int32) = (3 : Int32) by decide) c) (fun _ => ?_)
              refine lv_iload hx hb dL_changes_92 (lv_at hl 0 rfl) ?_
              refine lv_bipush (v := (-4 : Int32)) hx hb dL_changes_94 (by decide +kernel) ?_
              refine lv_icmp_ne (tgt := 113) hx hb dL_changes_96 (by decide) (fun c => absurd (show (-4 : Int32) = (-4 : Int32) by decide) c) (fun _ => ?_)
              refine lv_aload_n hx hb dL_changes_99 rfl (lv_at hl 7 rfl) ?_
              refine lv_iconst (v := (0 : Int32)) hx hb dL_changes_100 (by decide +kernel) ?_
              refine lv_iload_n hx hb dL_changes_101 rfl (lv_at hl 8 rfl) ?_
              refine bRV (W0 := wO cI cS qx a0 a1 a2 a3 b3 a4 sn sc has ([]) (st, tr, (hiR hi st (-4 : Int32)))) (wc := [(qx, .inr (6, [.ref (a0 0), .ref (a1 0), .ref (a2 0), .ref (a3 0), .ref (a4 0), .int has]))] :: wSt cI a0 st :: []) (r := (st.1 k)) ⟨hx, hb, hml, hown, hts⟩ (KR.eq (kX6_value l D cI cS qx a0 (a1 0) (a2 0) (a3 0) (a4 0) has (0 : Int32) (nI k) st) (val_0 hk)) (cwV 2 hts gL_changes_X6_value rfl rfl rfl (by decide +kernel) ⟨Nat.le_of_ble_eq_true rfl, Nat.le_of_ble_eq_true rfl⟩) hE hP rfl rfl [0, 1] rfl rfl rfl hl.1 rfl (Nat.le_of_ble_eq_true rfl) ⟨Nat.le_of_ble_eq_true rfl, Nat.le_of_ble_eq_true rfl⟩ dL_changes_102 ?_
              refine lv_iload_n hx hb dL_changes_105 rfl (lv_at hl 6 rfl) ?_
              refine lv_icmp_ne (tgt := 113) hx hb dL_changes_106 (by decide) (fun c => absurd rfl c) (fun _ => ?_)
              refine lv_iconst (v := (1 : Int32)) hx hb dL_changes_109 (by decide +kernel) ?_
              refine lv_goto (tgt := 114) hx hb dL_changes_110 (by decide) ?_
              exact hend _ _ _ (st, (hiR hi st (-4 : Int32))) _ _ _ _ dL_changes_114 rfl (Nat.le_refl _) (Nat.le_refl _) ⟨rfl, hI, (hh.rec hbo (-4 : Int32))⟩ hP hS
        · have hvp : (0 : Int32) ≤ v := Int32.not_lt.mp hvq
          have hvb : Bd v 99 := rw_pos hv hvq
          refine lv_aload_n hx hb dL_changes_0 rfl (lv_at hl 0 rfl) ?_
          refine lv_iconst (v := (0 : Int32)) hx hb dL_changes_1 (by decide +kernel) ?_
          refine lv_iload_n hx hb dL_changes_2 rfl (lv_at hl 1 rfl) ?_
          refine bRV (W0 := wO cI cS qx a0 a1 a2 a3 b3 a4 sn sc has ([]) (st, tr, hi)) (wc := [(qx, .inr (6, [.ref (a0 0), .ref (a1 0), .ref (a2 0), .ref (a3 0), .ref (a4 0), .int has]))] :: wSt cI a0 st :: []) (r := (st.1 k)) ⟨hx, hb, hml, hown, hts⟩ (KR.eq (kX6_value l D cI cS qx a0 (a1 0) (a2 0) (a3 0) (a4 0) has (0 : Int32) (nI k) st) (val_0 hk)) (cwV 2 hts gL_changes_X6_value rfl rfl rfl (by decide +kernel) ⟨Nat.le_of_ble_eq_true rfl, Nat.le_of_ble_eq_true rfl⟩) hE hP rfl rfl [0, 1] rfl rfl rfl hl.1 rfl (Nat.le_of_ble_eq_true rfl) ⟨Nat.le_of_ble_eq_true rfl, Nat.le_of_ble_eq_true rfl⟩ dL_changes_3 ?_
          refine lv_istore_n (lv' := [(3, .int ((st.1 k))), (0, .ref qx), (1, .int ((nI k))), (2, .int v)]) hx hb dL_changes_6 rfl hl (by decide) rfl (fun ls hl => ?_)
          refine lv_aload_n hx hb dL_changes_7 rfl (lv_at hl 1 rfl) ?_
          refine lv_iconst (v := (0 : Int32)) hx hb dL_changes_8 (by decide +kernel) ?_
          refine bRV (W0 := wO cI cS qx a0 a1 a2 a3 b3 a4 sn sc has ([]) (st, tr, hi)) (wc := [(qx, .inr (6, [.ref (a0 0), .ref (a1 0), .ref (a2 0), .ref (a3 0), .ref (a4 0), .int has]))] :: wSt cI a0 st :: []) (r := (3 : Int32)) ⟨hx, hb, hml, hown, hts⟩ (KR.eq (kX6_copy l D cI cS qx a0 (a1 0) (a2 0) (a3 0) (a4 0) has (0 : Int32) st) ((cp_0 st).trans hph)) (cwV 1 hts gL_changes_X6_copy rfl rfl rfl (by decide +kernel) ⟨Nat.le_of_ble_eq_true rfl, Nat.le_of_ble_eq_true rfl⟩) hE hP rfl rfl [0, 1] rfl rfl rfl hl.1 rfl (Nat.le_of_ble_eq_true rfl) ⟨Nat.le_of_ble_eq_true rfl, Nat.le_of_ble_eq_true rfl⟩ dL_changes_9 ?_
          refine lv_istore (lv' := [(4, .int ((3 : Int32))), (3, .int ((st.1 k))), (0, .ref qx), (1, .int ((nI k))), (2, .int v)]) hx hb dL_changes_12 hl (by decide) rfl (fun ls hl => ?_)
          refine lv_aload_n hx hb dL_changes_14 rfl (lv_at hl 2 rfl) ?_
          refine lv_iconst (v := (4 : Int32)) hx hb dL_changes_15 (by decide +kernel) ?_
          refine bRV (W0 := wO cI cS qx a0 a1 a2 a3 b3 a4 sn sc has ([]) (st, tr, hi)) (wc := [(qx, .inr (6, [.ref (a0 0), .ref (a1 0), .ref (a2 0), .ref (a3 0), .ref (a4 0), .int has]))] :: wSt cI a0 st :: []) (r := st.2.2.2.1.2.1.2.2.2) ⟨hx, hb, hml, hown, hts⟩ (KR.eq (kX6_copy l D cI cS qx a0 (a1 0) (a2 0) (a3 0) (a4 0) has (4 : Int32) st) (cp_4 h0)) (cwV 1 hts gL_changes_X6_copy rfl rfl rfl (by decide +kernel) ⟨Nat.le_of_ble_eq_true rfl, Nat.le_of_ble_eq_true rfl⟩) hE hP rfl rfl [0, 1] rfl rfl rfl hl.1 rfl (Nat.le_of_ble_eq_true rfl) ⟨Nat.le_of_ble_eq_true rfl, Nat.le_of_ble_eq_true rfl⟩ dL_changes_16 ?_
          refine lv_istore (lv' := [(5, .int st.2.2.2.1.2.1.2.2.2), (4, .int ((3 : Int32))), (3, .int ((st.1 k))), (0, .ref qx), (1, .int ((nI k))), (2, .int v)]) hx hb dL_changes_19 hl (by decide) rfl (fun ls hl => ?_)
          refine lv_aload_n hx hb dL_changes_21 rfl (lv_at hl 3 rfl) ?_
          refine lv_iconst (v := (2 : Int32)) hx hb dL_changes_22 (by decide +kernel) ?_
          refine bRV (W0 := wO cI cS qx a0 a1 a2 a3 b3 a4 sn sc has ([]) (st, tr, hi)) (wc := [(qx, .inr (6, [.ref (a0 0), .ref (a1 0), .ref (a2 0), .ref (a3 0), .ref (a4 0), .int has]))] :: wSt cI a0 st :: []) (r := (st.2.2.2.2.2 2)) ⟨hx, hb, hml, hown, hts⟩ (KR.eq (kX6_total l D cI cS qx a0 (a1 0) (a2 0) (a3 0) (a4 0) has (2 : Int32) st) (tot_i (i := 2) (by omega))) (cwV 1 hts gL_changes_X6_total rfl rfl rfl (by decide +kernel) ⟨Nat.le_of_ble_eq_true rfl, Nat.le_of_ble_eq_true rfl⟩) hE hP rfl rfl [0, 1] rfl rfl rfl hl.1 rfl (Nat.le_of_ble_eq_true rfl) ⟨Nat.le_of_ble_eq_true rfl, Nat.le_of_ble_eq_true rfl⟩ dL_changes_23 ?_
          refine lv_istore (lv' := [(6, .int ((st.2.2.2.2.2 2))), (5, .int st.2.2.2.1.2.1.2.2.2), (4, .int ((3 : Int32))), (3, .int ((st.1 k))), (0, .ref qx), (1, .int ((nI k))), (2, .int v)]) hx hb dL_changes_26 hl (by decide) rfl (fun ls hl => ?_)
          refine lv_iload hx hb dL_changes_28 (lv_at hl 1 rfl) ?_
          refine lv_bipush (v := (24 : Int32)) hx hb dL_changes_30 (by decide +kernel) ?_
          refine lv_icmp_ne (tgt := 47) hx hb dL_changes_32 (by decide) (fun _ => ?_) (fun c => absurd c hz)
          refine lv_iconst (v := (0 : Int32)) hx hb dL_changes_47 (by decide +kernel) ?_
          refine lv_istore (lv' := [(7, .int ((0 : Int32))), (6, .int ((st.2.2.2.2.2 2))), (5, .int st.2.2.2.1.2.1.2.2.2), (4, .int ((3 : Int32))), (3, .int ((st.1 k))), (0, .ref qx), (1, .int ((nI k))), (2, .int v)]) hx hb dL_changes_48 hl (by decide) rfl (fun ls hl => ?_)
          refine lv_aload_n hx hb dL_changes_50 rfl (lv_at hl 5 rfl) ?_
          refine lv_iconst (v := (3 : Int32)) hx hb dL_changes_51 (by decide +kernel) ?_
          refine bRV (W0 := wO cI cS qx a0 a1 a2 a3 b3 a4 sn sc has ([]) (st, tr, hi)) (wc := [(qx, .inr (6, [.ref (a0 0), .ref (a1 0), .ref (a2 0), .ref (a3 0), .ref (a4 0), .int has]))] :: wSt cI a0 st :: []) (r := (st.2.2.2.2.1 3)) ⟨hx, hb, hml, hown, hts⟩ (KR.eq (kX6_setting l D cI cS qx a0 (a1 0) (a2 0) (a3 0) (a4 0) has (3 : Int32) st) (set_i (i := 3) (by omega))) (cwV 1 hts gL_changes_X6_setting rfl rfl rfl (by decide +kernel) ⟨Nat.le_of_ble_eq_true rfl, Nat.le_of_ble_eq_true rfl⟩) hE hP rfl rfl [0, 1] rfl rfl rfl hl.1 rfl (Nat.le_of_ble_eq_true rfl) ⟨Nat.le_of_ble_eq_true rfl, Nat.le_of_ble_eq_true rfl⟩ dL_changes_52 ?_
          refine lv_iconst (v := (1 : Int32)) hx hb dL_changes_55 (by decide +kernel) ?_
          refine lv_icmp_ne (tgt := 63) hx hb dL_changes_56 (by decide) (fun c_56 => ?_) (fun c_56 => ?_)
          · refine lv_iconst (v := (0 : Int32)) hx hb dL_changes_63 (by decide +kernel) ?_
            refine lv_istore (lv' := [(8, .int ((0 : Int32))), (7, .int ((0 : Int32))), (6, .int ((st.2.2.2.2.2 2))), (5, .int st.2.2.2.1.2.1.2.2.2), (4, .int ((3 : Int32))), (3, .int ((st.1 k))), (0, .ref qx), (1, .int ((nI k))), (2, .int v)]) hx hb dL_changes_64 hl (by decide) rfl (fun ls hl => ?_)
            refine lv_iload_n hx hb dL_changes_66 rfl (lv_at hl 8 rfl) ?_
            refine lv_if_ge (tgt := 78) hx hb dL_changes_67 (by decide) (fun _ => ?_) (fun c => absurd hvp c)
            have eR : fX5_putRow (nI k) v st = ((-4 : Int32), st) := put_3 hk hvb hph
            have eT : fX6_put (nI k) v (st, hi) = ((-4 : Int32), (st, hiR hi st (-4 : Int32))) := by rw [put_eq, eR]
            refine lv_aload_n hx hb dL_changes_78 rfl (lv_at hl 6 rfl) ?_
            refine lv_iload_n hx hb dL_changes_79 rfl (lv_at hl 7 rfl) ?_
            refine lv_iload_n hx hb dL_changes_80 rfl (lv_at hl 8 rfl) ?_
            refine bIV (W0 := wO cI cS qx a0 a1 a2 a3 b3 a4 sn sc has ([]) (st, tr, hi)) (wc := [(qx, .inr (6, [.ref (a0 0), .ref (a1 0), .ref (a2 0), .ref (a3 0), .ref (a4 0), .int has]))] :: wSt cI a0 st :: wHi cI cS a3 b3 hi []) (w1 := fun u : TPT => [(qx, .inr (6, [.ref (a0 0), .ref (a1 0), .ref (a2 0), .ref (a3 0), .ref (a4 0), .int has]))] :: wSt cI a0 u.1 :: wHi cI cS a3 b3 u.2 []) ⟨hx, hb, hml, hown, hts⟩ (kX6_put l D cI cS qx a0 a3 b3 (a1 0) (a2 0) (a4 0) has (nI k) v (st, hi) hI.ws hh) (cwV 2 hts gL_changes_X6_put rfl rfl rfl (by decide +kernel) ⟨Nat.le_of_ble_eq_true rfl, Nat.le_of_ble_eq_true rfl⟩) hE hP hD hS rfl rfl [0, 1, 4, 5, 6, 7, 8, 9, 10, 11] rfl rfl (fun _ => rfl) (fun _ => rfl) rfl hl.1 rfl (Nat.le_of_ble_eq_true rfl) ⟨Nat.le_of_ble_eq_true rfl, Nat.le_of_ble_eq_true rfl⟩ dL_changes_81 (fun r_81 u_81 H locs e_81 hP hD hS => ?_)
            have hP : va_P D vwCl (fl (wO cI cS qx a0 a1 a2 a3 b3 a4 sn sc has ([]) (u_81.1, tr, u_81.2))) H := hP
            have hD : va_D A (fl (wO cI cS qx a0 a1 a2 a3 b3 a4 sn sc has ([]) (u_81.1, tr, u_81.2))) := hD
            rw [eT] at e_81
            cases e_81
            have hP : va_P D vwCl (fl (wO cI cS qx a0 a1 a2 a3 b3 a4 sn sc has ([]) (st, tr, (hiR hi st (-4 : Int32))))) H := hP
            have hD : va_D A (fl (wO cI cS qx a0 a1 a2 a3 b3 a4 sn sc has ([]) (st, tr, (hiR hi st (-4 : Int32))))) := hD
            refine lv_istore (lv' := [(9, .int ((-4 : Int32))), (8, .int ((0 : Int32))), (7, .int ((0 : Int32))), (6, .int ((st.2.2.2.2.2 2))), (5, .int st.2.2.2.1.2.1.2.2.2), (4, .int ((3 : Int32))), (3, .int ((st.1 k))), (0, .ref qx), (1, .int ((nI k))), (2, .int v)]) hx hb dL_changes_84 hl (by decide) rfl (fun ls hl => ?_)
            refine lv_iload hx hb dL_changes_86 (lv_at hl 5 rfl) ?_
            refine lv_iconst (v := (3 : Int32)) hx hb dL_changes_88 (by decide +kernel) ?_
            refine lv_icmp_ne (tgt := 115) hx hb dL_changes_89 (by decide) (fun c => absurd (show (3 : Int32) = (3 : Int32) by decide) c) (fun _ => ?_)
            refine lv_iload hx hb dL_changes_92 (lv_at hl 0 rfl) ?_
            refine lv_bipush (v := (-4 : Int32)) hx hb dL_changes_94 (by decide +kernel) ?_
            refine lv_icmp_ne (tgt := 113) hx hb dL_changes_96 (by decide) (fun c => absurd (show (-4 : Int32) = (-4 : Int32) by decide) c) (fun _ => ?_)
            refine lv_aload_n hx hb dL_changes_99 rfl (lv_at hl 7 rfl) ?_
            refine lv_iconst (v := (0 : Int32)) hx hb dL_changes_100 (by decide +kernel) ?_
            refine lv_iload_n hx hb dL_changes_101 rfl (lv_at hl 8 rfl) ?_
            refine bRV (W0 := wO cI cS qx a0 a1 a2 a3 b3 a4 sn sc has ([]) (st, tr, (hiR hi st (-4 : Int32)))) (wc := [(qx, .inr (6, [.ref (a0 0), .ref (a1 0), .ref (a2 0), .ref (a3 0), .ref (a4 0), .int has]))] :: wSt cI a0 st :: []) (r := (st.1 k)) ⟨hx, hb, hml, hown, hts⟩ (KR.eq (kX6_value l D cI cS qx a0 (a1 0) (a2 0) (a3 0) (a4 0) has (0 : Int32) (nI k) st) (val_0 hk)) (cwV 2 hts gL_changes_X6_value rfl rfl rfl (by decide +kernel) ⟨Nat.le_of_ble_eq_true rfl, Nat.le_of_ble_eq_true rfl⟩) hE hP rfl rfl [0, 1] rfl rfl rfl hl.1 rfl (Nat.le_of_ble_eq_true rfl) ⟨Nat.le_of_ble_eq_true rfl, Nat.le_of_ble_eq_true rfl⟩ dL_changes_102 ?_
            refine lv_iload_n hx hb dL_changes_105 rfl (lv_at hl 6 rfl) ?_
            refine lv_icmp_ne (tgt := 113) hx hb dL_changes_106 (by decide) (fun c => absurd rfl c) (fun _ => ?_)
            refine lv_iconst (v := (1 : Int32)) hx hb dL_changes_109 (by decide +kernel) ?_
            refine lv_goto (tgt := 114) hx hb dL_changes_110 (by decide) ?_
            exact hend _ _ _ (st, (hiR hi st (-4 : Int32))) _ _ _ _ dL_changes_114 rfl (Nat.le_refl _) (Nat.le_refl _) ⟨rfl, hI, (hh.rec hbo (-4 : Int32))⟩ hP hS
          · refine lv_iconst (v := (1 : Int32)) hx hb dL_changes_59 (by decide +kernel) ?_
            refine lv_goto (tgt := 64) hx hb dL_changes_60 (by decide) ?_
            refine lv_istore (lv' := [(8, .int ((1 : Int32))), (7, .int ((0 : Int32))), (6, .int ((st.2.2.2.2.2 2))), (5, .int st.2.2.2.1.2.1.2.2.2), (4, .int ((3 : Int32))), (3, .int ((st.1 k))), (0, .ref qx), (1, .int ((nI k))), (2, .int v)]) hx hb dL_changes_64 hl (by decide) rfl (fun ls hl => ?_)
            refine lv_iload_n hx hb dL_changes_66 rfl (lv_at hl 8 rfl) ?_
            refine lv_if_ge (tgt := 78) hx hb dL_changes_67 (by decide) (fun _ => ?_) (fun c => absurd hvp c)
            have eR : fX5_putRow (nI k) v st = ((-4 : Int32), st) := put_3 hk hvb hph
            have eT : fX6_put (nI k) v (st, hi) = ((-4 : Int32), (st, hiR hi st (-4 : Int32))) := by rw [put_eq, eR]
            refine lv_aload_n hx hb dL_changes_78 rfl (lv_at hl 6 rfl) ?_
            refine lv_iload_n hx hb dL_changes_79 rfl (lv_at hl 7 rfl) ?_
            refine lv_iload_n hx hb dL_changes_80 rfl (lv_at hl 8 rfl) ?_
            refine bIV (W0 := wO cI cS qx a0 a1 a2 a3 b3 a4 sn sc has ([]) (st, tr, hi)) (wc := [(qx, .inr (6, [.ref (a0 0), .ref (a1 0), .ref (a2 0), .ref (a3 0), .ref (a4 0), .int has]))] :: wSt cI a0 st :: wHi cI cS a3 b3 hi []) (w1 := fun u : TPT => [(qx, .inr (6, [.ref (a0 0), .ref (a1 0), .ref (a2 0), .ref (a3 0), .ref (a4 0), .int has]))] :: wSt cI a0 u.1 :: wHi cI cS a3 b3 u.2 []) ⟨hx, hb, hml, hown, hts⟩ (kX6_put l D cI cS qx a0 a3 b3 (a1 0) (a2 0) (a4 0) has (nI k) v (st, hi) hI.ws hh) (cwV 2 hts gL_changes_X6_put rfl rfl rfl (by decide +kernel) ⟨Nat.le_of_ble_eq_true rfl, Nat.le_of_ble_eq_true rfl⟩) hE hP hD hS rfl rfl [0, 1, 4, 5, 6, 7, 8, 9, 10, 11] rfl rfl (fun _ => rfl) (fun _ => rfl) rfl hl.1 rfl (Nat.le_of_ble_eq_true rfl) ⟨Nat.le_of_ble_eq_true rfl, Nat.le_of_ble_eq_true rfl⟩ dL_changes_81 (fun r_81 u_81 H locs e_81 hP hD hS => ?_)
            have hP : va_P D vwCl (fl (wO cI cS qx a0 a1 a2 a3 b3 a4 sn sc has ([]) (u_81.1, tr, u_81.2))) H := hP
            have hD : va_D A (fl (wO cI cS qx a0 a1 a2 a3 b3 a4 sn sc has ([]) (u_81.1, tr, u_81.2))) := hD
            rw [eT] at e_81
            cases e_81
            have hP : va_P D vwCl (fl (wO cI cS qx a0 a1 a2 a3 b3 a4 sn sc has ([]) (st, tr, (hiR hi st (-4 : Int32))))) H := hP
            have hD : va_D A (fl (wO cI cS qx a0 a1 a2 a3 b3 a4 sn sc has ([]) (st, tr, (hiR hi st (-4 : Int32))))) := hD
            refine lv_istore (lv' := [(9, .int ((-4 : Int32))), (8, .int ((1 : Int32))), (7, .int ((0 : Int32))), (6, .int ((st.2.2.2.2.2 2))), (5, .int st.2.2.2.1.2.1.2.2.2), (4, .int ((3 : Int32))), (3, .int ((st.1 k))), (0, .ref qx), (1, .int ((nI k))), (2, .int v)]) hx hb dL_changes_84 hl (by decide) rfl (fun ls hl => ?_)
            refine lv_iload hx hb dL_changes_86 (lv_at hl 5 rfl) ?_
            refine lv_iconst (v := (3 : Int32)) hx hb dL_changes_88 (by decide +kernel) ?_
            refine lv_icmp_ne (tgt := 115) hx hb dL_changes_89 (by decide) (fun c => absurd (show (3 : Int32) = (3 : Int32) by decide) c) (fun _ => ?_)
            refine lv_iload hx hb dL_changes_92 (lv_at hl 0 rfl) ?_
            refine lv_bipush (v := (-4 : Int32)) hx hb dL_changes_94 (by decide +kernel) ?_
            refine lv_icmp_ne (tgt := 113) hx hb dL_changes_96 (by decide) (fun c => absurd (show (-4 : Int32) = (-4 : Int32) by decide) c) (fun _ => ?_)
            refine lv_aload_n hx hb dL_changes_99 rfl (lv_at hl 7 rfl) ?_
            refine lv_iconst (v := (0 : Int32)) hx hb dL_changes_100 (by decide +kernel) ?_
            refine lv_iload_n hx hb dL_changes_101 rfl (lv_at hl 8 rfl) ?_
            refine bRV (W0 := wO cI cS qx a0 a1 a2 a3 b3 a4 sn sc has ([]) (st, tr, (hiR hi st (-4 : Int32)))) (wc := [(qx, .inr (6, [.ref (a0 0), .ref (a1 0), .ref (a2 0), .ref (a3 0), .ref (a4 0), .int has]))] :: wSt cI a0 st :: []) (r := (st.1 k)) ⟨hx, hb, hml, hown, hts⟩ (KR.eq (kX6_value l D cI cS qx a0 (a1 0) (a2 0) (a3 0) (a4 0) has (0 : Int32) (nI k) st) (val_0 hk)) (cwV 2 hts gL_changes_X6_value rfl rfl rfl (by decide +kernel) ⟨Nat.le_of_ble_eq_true rfl, Nat.le_of_ble_eq_true rfl⟩) hE hP rfl rfl [0, 1] rfl rfl rfl hl.1 rfl (Nat.le_of_ble_eq_true rfl) ⟨Nat.le_of_ble_eq_true rfl, Nat.le_of_ble_eq_true rfl⟩ dL_changes_102 ?_
            refine lv_iload_n hx hb dL_changes_105 rfl (lv_at hl 6 rfl) ?_
            refine lv_icmp_ne (tgt := 113) hx hb dL_changes_106 (by decide) (fun c => absurd rfl c) (fun _ => ?_)
            refine lv_iconst (v := (1 : Int32)) hx hb dL_changes_109 (by decide +kernel) ?_
            refine lv_goto (tgt := 114) hx hb dL_changes_110 (by decide) ?_
            exact hend _ _ _ (st, (hiR hi st (-4 : Int32))) _ _ _ _ dL_changes_114 rfl (Nat.le_refl _) (Nat.le_refl _) ⟨rfl, hI, (hh.rec hbo (-4 : Int32))⟩ hP hS
    · refine (Decidable.em (st.2.2.2.1.2.1.2.2.2 = (24 : Int32))).elim (fun hz => ?_) (fun hz => ?_)
      · refine (Decidable.em (v < (0 : Int32))).elim (fun hvn => ?_) (fun hvq => ?_)
        · have hv5 : v = (-5 : Int32) := rw_neg hv hvn
          refine (Decidable.em ((st.1 k) < (0 : Int32))).elim (fun hhn => ?_) (fun hhp => ?_)
          · have hh5 : (st.1 k) = (-5 : Int32) := rw_neg hr hhn
            refine lv_aload_n hx hb dL_changes_0 rfl (lv_at hl 0 rfl) ?_
            refine lv_iconst (v := (0 : Int32)) hx hb dL_changes_1 (by decide +kernel) ?_
            refine lv_iload_n hx hb dL_changes_2 rfl (lv_at hl 1 rfl) ?_
            refine bRV (W0 := wO cI cS qx a0 a1 a2 a3 b3 a4 sn sc has ([]) (st, tr, hi)) (wc := [(qx, .inr (6, [.ref (a0 0), .ref (a1 0), .ref (a2 0), .ref (a3 0), .ref (a4 0), .int has]))] :: wSt cI a0 st :: []) (r := (st.1 k)) ⟨hx, hb, hml, hown, hts⟩ (KR.eq (kX6_value l D cI cS qx a0 (a1 0) (a2 0) (a3 0) (a4 0) has (0 : Int32) (nI k) st) (val_0 hk)) (cwV 2 hts gL_changes_X6_value rfl rfl rfl (by decide +kernel) ⟨Nat.le_of_ble_eq_true rfl, Nat.le_of_ble_eq_true rfl⟩) hE hP rfl rfl [0, 1] rfl rfl rfl hl.1 rfl (Nat.le_of_ble_eq_true rfl) ⟨Nat.le_of_ble_eq_true rfl, Nat.le_of_ble_eq_true rfl⟩ dL_changes_3 ?_
            refine lv_istore_n (lv' := [(3, .int ((st.1 k))), (0, .ref qx), (1, .int ((nI k))), (2, .int v)]) hx hb dL_changes_6 rfl hl (by decide) rfl (fun ls hl => ?_)
            refine lv_aload_n hx hb dL_changes_7 rfl (lv_at hl 1 rfl) ?_
            refine lv_iconst (v := (0 : Int32)) hx hb dL_changes_8 (by decide +kernel) ?_
            refine bRV (W0 := wO cI cS qx a0 a1 a2 a3 b3 a4 sn sc has ([]) (st, tr, hi)) (wc := [(qx, .inr (6, [.ref (a0 0), .ref (a1 0), .ref (a2 0), .ref (a3 0), .ref (a4 0), .int has]))] :: wSt cI a0 st :: []) (r := st.2.2.2.1.2.2.1) ⟨hx, hb, hml, hown, hts⟩ (KR.eq (kX6_copy l D cI cS qx a0 (a1 0) (a2 0) (a3 0) (a4 0) has (0 : Int32) st) (cp_0 st)) (cwV 1 hts gL_changes_X6_copy rfl rfl rfl (by decide +kernel) ⟨Nat.le_of_ble_eq_true rfl, Nat.le_of_ble_eq_true rfl⟩) hE hP rfl rfl [0, 1] rfl rfl rfl hl.1 rfl (Nat.le_of_ble_eq_true rfl) ⟨Nat.le_of_ble_eq_true rfl, Nat.le_of_ble_eq_true rfl⟩ dL_changes_9 ?_
            refine lv_istore (lv' := [(4, .int st.2.2.2.1.2.2.1), (3, .int ((st.1 k))), (0, .ref qx), (1, .int ((nI k))), (2, .int v)]) hx hb dL_changes_12 hl (by decide) rfl (fun ls hl => ?_)
            refine lv_aload_n hx hb dL_changes_14 rfl (lv_at hl 2 rfl) ?_
            refine lv_iconst (v := (4 : Int32)) hx hb dL_changes_15 (by decide +kernel) ?_
            refine bRV (W0 := wO cI cS qx a0 a1 a2 a3 b3 a4 sn sc has ([]) (st, tr, hi)) (wc := [(qx, .inr (6, [.ref (a0 0), .ref (a1 0), .ref (a2 0), .ref (a3 0), .ref (a4 0), .int has]))] :: wSt cI a0 st :: []) (r := st.2.2.2.1.2.1.2.2.2) ⟨hx, hb, hml, hown, hts⟩ (KR.eq (kX6_copy l D cI cS qx a0 (a1 0) (a2 0) (a3 0) (a4 0) has (4 : Int32) st) (cp_4 h0)) (cwV 1 hts gL_changes_X6_copy rfl rfl rfl (by decide +kernel) ⟨Nat.le_of_ble_eq_true rfl, Nat.le_of_ble_eq_true rfl⟩) hE hP rfl rfl [0, 1] rfl rfl rfl hl.1 rfl (Nat.le_of_ble_eq_true rfl) ⟨Nat.le_of_ble_eq_true rfl, Nat.le_of_ble_eq_true rfl⟩ dL_changes_16 ?_
            refine lv_istore (lv' := [(5, .int st.2.2.2.1.2.1.2.2.2), (4, .int st.2.2.2.1.2.2.1), (3, .int ((st.1 k))), (0, .ref qx), (1, .int ((nI k))), (2, .int v)]) hx hb dL_changes_19 hl (by decide) rfl (fun ls hl => ?_)
            refine lv_aload_n hx hb dL_changes_21 rfl (lv_at hl 3 rfl) ?_
            refine lv_iconst (v := (2 : Int32)) hx hb dL_changes_22 (by decide +kernel) ?_
            refine bRV (W0 := wO cI cS qx a0 a1 a2 a3 b3 a4 sn sc has ([]) (st, tr, hi)) (wc := [(qx, .inr (6, [.ref (a0 0), .ref (a1 0), .ref (a2 0), .ref (a3 0), .ref (a4 0), .int has]))] :: wSt cI a0 st :: []) (r := (st.2.2.2.2.2 2)) ⟨hx, hb, hml, hown, hts⟩ (KR.eq (kX6_total l D cI cS qx a0 (a1 0) (a2 0) (a3 0) (a4 0) has (2 : Int32) st) (tot_i (i := 2) (by omega))) (cwV 1 hts gL_changes_X6_total rfl rfl rfl (by decide +kernel) ⟨Nat.le_of_ble_eq_true rfl, Nat.le_of_ble_eq_true rfl⟩) hE hP rfl rfl [0, 1] rfl rfl rfl hl.1 rfl (Nat.le_of_ble_eq_true rfl) ⟨Nat.le_of_ble_eq_true rfl, Nat.le_of_ble_eq_true rfl⟩ dL_changes_23 ?_
            refine lv_istore (lv' := [(6, .int ((st.2.2.2.2.2 2))), (5, .int st.2.2.2.1.2.1.2.2.2), (4, .int st.2.2.2.1.2.2.1), (3, .int ((st.1 k))), (0, .ref qx), (1, .int ((nI k))), (2, .int v)]) hx hb dL_changes_26 hl (by decide) rfl (fun ls hl => ?_)
            refine lv_iload hx hb dL_changes_28 (lv_at hl 1 rfl) ?_
            refine lv_bipush (v := (24 : Int32)) hx hb dL_changes_30 (by decide +kernel) ?_
            refine lv_icmp_ne (tgt := 47) hx hb dL_changes_32 (by decide) (fun c => absurd hz c) (fun _ => ?_)
            refine lv_iload_n hx hb dL_changes_35 rfl (lv_at hl 6 rfl) ?_
            refine lv_if_ge (tgt := 43) hx hb dL_changes_36 (by decide) (fun c => absurd c (Int32.not_le.mpr hvn)) (fun _ => ?_)
            refine lv_iload_n hx hb dL_changes_39 rfl (lv_at hl 3 rfl) ?_
            refine lv_if_lt (tgt := 47) hx hb dL_changes_40 (by decide) (fun _ => ?_) (fun c => absurd hhn c)
            refine lv_iconst (v := (0 : Int32)) hx hb dL_changes_47 (by decide +kernel) ?_
            refine lv_istore (lv' := [(7, .int ((0 : Int32))), (6, .int ((st.2.2.2.2.2 2))), (5, .int st.2.2.2.1.2.1.2.2.2), (4, .int st.2.2.2.1.2.2.1), (3, .int ((st.1 k))), (0, .ref qx), (1, .int ((nI k))), (2, .int v)]) hx hb dL_changes_48 hl (by decide) rfl (fun ls hl => ?_)
            refine lv_aload_n hx hb dL_changes_50 rfl (lv_at hl 5 rfl) ?_
            refine lv_iconst (v := (3 : Int32)) hx hb dL_changes_51 (by decide +kernel) ?_
            refine bRV (W0 := wO cI cS qx a0 a1 a2 a3 b3 a4 sn sc has ([]) (st, tr, hi)) (wc := [(qx, .inr (6, [.ref (a0 0), .ref (a1 0), .ref (a2 0), .ref (a3 0), .ref (a4 0), .int has]))] :: wSt cI a0 st :: []) (r := (st.2.2.2.2.1 3)) ⟨hx, hb, hml, hown, hts⟩ (KR.eq (kX6_setting l D cI cS qx a0 (a1 0) (a2 0) (a3 0) (a4 0) has (3 : Int32) st) (set_i (i := 3) (by omega))) (cwV 1 hts gL_changes_X6_setting rfl rfl rfl (by decide +kernel) ⟨Nat.le_of_ble_eq_true rfl, Nat.le_of_ble_eq_true rfl⟩) hE hP rfl rfl [0, 1] rfl rfl rfl hl.1 rfl (Nat.le_of_ble_eq_true rfl) ⟨Nat.le_of_ble_eq_true rfl, Nat.le_of_ble_eq_true rfl⟩ dL_changes_52 ?_
            refine lv_iconst (v := (1 : Int32)) hx hb dL_changes_55 (by decide +kernel) ?_
            refine lv_icmp_ne (tgt := 63) hx hb dL_changes_56 (by decide) (fun c_56 => ?_) (fun c_56 => ?_)
            · refine lv_iconst (v := (0 : Int32)) hx hb dL_changes_63 (by decide +kernel) ?_
              refine lv_istore (lv' := [(8, .int ((0 : Int32))), (7, .int ((0 : Int32))), (6, .int ((st.2.2.2.2.2 2))), (5, .int st.2.2.2.1.2.1.2.2.2), (4, .int st.2.2.2.1.2.2.1), (3, .int ((st.1 k))), (0, .ref qx), (1, .int ((nI k))), (2, .int v)]) hx hb dL_changes_64 hl (by decide) rfl (fun ls hl => ?_)
              refine lv_iload_n hx hb dL_changes_66 rfl (lv_at hl 8 rfl) ?_
              refine lv_if_ge (tgt := 78) hx hb dL_changes_67 (by decide) (fun c => absurd c (Int32.not_le.mpr hvn)) (fun _ => ?_)
              have eR : fX5_eraseRow (nI k) st = ((st.1 k), st) := erase_n hk h3 hh5
              have eT : fX6_erase (nI k) (st, hi) = ((st.1 k), (st, hiR hi st (st.1 k))) := by rw [erase_eq, eR]
              refine lv_aload_n hx hb dL_changes_70 rfl (lv_at hl 6 rfl) ?_
              refine lv_iload_n hx hb dL_changes_71 rfl (lv_at hl 7 rfl) ?_
              refine bIV (W0 := wO cI cS qx a0 a1 a2 a3 b3 a4 sn sc has ([]) (st, tr, hi)) (wc := [(qx, .inr (6, [.ref (a0 0), .ref (a1 0), .ref (a2 0), .ref (a3 0), .ref (a4 0), .int has]))] :: wSt cI a0 st :: wHi cI cS a3 b3 hi []) (w1 := fun u : TPT => [(qx, .inr (6, [.ref (a0 0), .ref (a1 0), .ref (a2 0), .ref (a3 0), .ref (a4 0), .int has]))] :: wSt cI a0 u.1 :: wHi cI cS a3 b3 u.2 []) ⟨hx, hb, hml, hown, hts⟩ (kX6_erase l D cI cS qx a0 a3 b3 (a1 0) (a2 0) (a4 0) has (nI k) (st, hi) hI.ws hh) (cwV 1 hts gL_changes_X6_erase rfl rfl rfl (by decide +kernel) ⟨Nat.le_of_ble_eq_true rfl, Nat.le_of_ble_eq_true rfl⟩) hE hP hD hS rfl rfl [0, 1, 4, 5, 6, 7, 8, 9, 10, 11] rfl rfl (fun _ => rfl) (fun _ => rfl) rfl hl.1 rfl (Nat.le_of_ble_eq_true rfl) ⟨Nat.le_of_ble_eq_true rfl, Nat.le_of_ble_eq_true rfl⟩ dL_changes_72 (fun r_72 u_72 H locs e_72 hP hD hS => ?_)
              have hP : va_P D vwCl (fl (wO cI cS qx a0 a1 a2 a3 b3 a4 sn sc has ([]) (u_72.1, tr, u_72.2))) H := hP
              have hD : va_D A (fl (wO cI cS qx a0 a1 a2 a3 b3 a4 sn sc has ([]) (u_72.1, tr, u_72.2))) := hD
              rw [eT] at e_72
              cases e_72
              have hP : va_P D vwCl (fl (wO cI cS qx a0 a1 a2 a3 b3 a4 sn sc has ([]) (st, tr, (hiR hi st (st.1 k))))) H := hP
              have hD : va_D A (fl (wO cI cS qx a0 a1 a2 a3 b3 a4 sn sc has ([]) (st, tr, (hiR hi st (st.1 k))))) := hD
              refine lv_goto (tgt := 84) hx hb dL_changes_75 (by decide) ?_
              refine lv_istore (lv' := [(9, .int ((st.1 k))), (8, .int ((0 : Int32))), (7, .int ((0 : Int32))), (6, .int ((st.2.2.2.2.2 2))), (5, .int st.2.2.2.1.2.1.2.2.2), (4, .int st.2.2.2.1.2.2.1), (3, .int ((st.1 k))), (0, .ref qx), (1, .int ((nI k))), (2, .int v)]) hx hb dL_changes_84 hl (by decide) rfl (fun ls hl => ?_)
              refine lv_iload hx hb dL_changes_86 (lv_at hl 5 rfl) ?_
              refine lv_iconst (v := (3 : Int32)) hx hb dL_changes_88 (by decide +kernel) ?_
              refine lv_icmp_ne (tgt := 115) hx hb dL_changes_89 (by decide) (fun _ => ?_) (fun c => absurd c h3)
              refine lv_iload hx hb dL_changes_115 (lv_at hl 2 rfl) ?_
              refine lv_if_eq (tgt := 158) hx hb dL_changes_117 (by decide) (fun _ => ?_) (fun c => absurd (show (0 : Int32) = (0 : Int32) by decide) c)
              refine lv_iload hx hb dL_changes_158 (lv_at hl 0 rfl) ?_
              refine lv_iload_n hx hb dL_changes_160 rfl (lv_at hl 6 rfl) ?_
              refine lv_icmp_ne (tgt := 199) hx hb dL_changes_161 (by decide) (fun c => absurd rfl c) (fun _ => ?_)
              refine lv_aload_n hx hb dL_changes_164 rfl (lv_at hl 7 rfl) ?_
              refine lv_iconst (v := (0 : Int32)) hx hb dL_changes_165 (by decide +kernel) ?_
              refine lv_iload_n hx hb dL_changes_166 rfl (lv_at hl 8 rfl) ?_
              refine bRV (W0 := wO cI cS qx a0 a1 a2 a3 b3 a4 sn sc has ([]) (st, tr, (hiR hi st (st.1 k)))) (wc := [(qx, .inr (6, [.ref (a0 0), .ref (a1 0), .ref (a2 0), .ref (a3 0), .ref (a4 0), .int has]))] :: wSt cI a0 st :: []) (r := v) ⟨hx, hb, hml, hown, hts⟩ (KR.eq (kX6_value l D cI cS qx a0 (a1 0) (a2 0) (a3 0) (a4 0) has (0 : Int32) (nI k) st) ((val_0 hk).trans (hh5.trans hv5.symm))) (cwV 2 hts gL_changes_X6_value rfl rfl rfl (by decide +kernel) ⟨Nat.le_of_ble_eq_true rfl, Nat.le_of_ble_eq_true rfl⟩) hE hP rfl rfl [0, 1] rfl rfl rfl hl.1 rfl (Nat.le_of_ble_eq_true rfl) ⟨Nat.le_of_ble_eq_true rfl, Nat.le_of_ble_eq_true rfl⟩ dL_changes_167 ?_
              refine lv_iload_n hx hb dL_changes_170 rfl (lv_at hl 9 rfl) ?_
              refine lv_icmp_ne (tgt := 199) hx hb dL_changes_171 (by decide) (fun c => absurd rfl c) (fun _ => ?_)
              refine lv_aload_n hx hb dL_changes_174 rfl (lv_at hl 7 rfl) ?_
              refine lv_iconst (v := (2 : Int32)) hx hb dL_changes_175 (by decide +kernel) ?_
              refine bRV (W0 := wO cI cS qx a0 a1 a2 a3 b3 a4 sn sc has ([]) (st, tr, (hiR hi st (st.1 k)))) (wc := [(qx, .inr (6, [.ref (a0 0), .ref (a1 0), .ref (a2 0), .ref (a3 0), .ref (a4 0), .int has]))] :: wSt cI a0 st :: []) (r := (st.2.2.2.2.2 2)) ⟨hx, hb, hml, hown, hts⟩ (KR.eq (kX6_total l D cI cS qx a0 (a1 0) (a2 0) (a3 0) (a4 0) has (2 : Int32) st) (tot_i (i := 2) (by omega))) (cwV 1 hts gL_changes_X6_total rfl rfl rfl (by decide +kernel) ⟨Nat.le_of_ble_eq_true rfl, Nat.le_of_ble_eq_true rfl⟩) hE hP rfl rfl [0, 1] rfl rfl rfl hl.1 rfl (Nat.le_of_ble_eq_true rfl) ⟨Nat.le_of_ble_eq_true rfl, Nat.le_of_ble_eq_true rfl⟩ dL_changes_176 ?_
              refine lv_iload hx hb dL_changes_179 (lv_at hl 3 rfl) ?_
              refine lv_iload hx hb dL_changes_181 (lv_at hl 2 rfl) ?_
              refine lv_if_eq (tgt := 190) hx hb dL_changes_183 (by decide) (fun _ => ?_) (fun c => absurd (show (0 : Int32) = (0 : Int32) by decide) c)
              refine lv_iconst (v := (0 : Int32)) hx hb dL_changes_190 (by decide +kernel) ?_
              refine lv_iadd hx hb dL_changes_191 ?_
              refine lv_icmp_ne (tgt := 199) hx hb dL_changes_192 (by decide) (fun c => absurd (i_add0 _).symm c) (fun _ => ?_)
              refine lv_iconst (v := (1 : Int32)) hx hb dL_changes_195 (by decide +kernel) ?_
              refine lv_goto (tgt := 200) hx hb dL_changes_196 (by decide) ?_
              refine lv_istore (lv' := [(10, .int ((1 : Int32))), (9, .int ((st.1 k))), (8, .int ((0 : Int32))), (7, .int ((0 : Int32))), (6, .int ((st.2.2.2.2.2 2))), (5, .int st.2.2.2.1.2.1.2.2.2), (4, .int st.2.2.2.1.2.2.1), (3, .int ((st.1 k))), (0, .ref qx), (1, .int ((nI k))), (2, .int v)]) hx hb dL_changes_200 hl (by decide) rfl (fun ls hl => ?_)
              refine lv_iload hx hb dL_changes_202 (lv_at hl 0 rfl) ?_
              refine lv_if_eq (tgt := 256) hx hb dL_changes_204 (by decide) (fun c => absurd c (show ¬ (1 : Int32) = (0 : Int32) by decide)) (fun _ => ?_)
              refine lv_iload hx hb dL_changes_207 (lv_at hl 6 rfl) ?_
              refine lv_if_eq (tgt := 252) hx hb dL_changes_209 (by decide) (fun c => absurd c h0) (fun _ => ?_)
              refine lv_iload hx hb dL_changes_212 (lv_at hl 3 rfl) ?_
              refine lv_if_eq (tgt := 228) hx hb dL_changes_214 (by decide) (fun _ => ?_) (fun c => absurd (show (0 : Int32) = (0 : Int32) by decide) c)
              refine lv_aload_n hx hb dL_changes_228 rfl (lv_at hl 8 rfl) ?_
              refine lv_iconst (v := (4 : Int32)) hx hb dL_changes_229 (by decide +kernel) ?_
              refine bRV (W0 := wO cI cS qx a0 a1 a2 a3 b3 a4 sn sc has ([]) (st, tr, (hiR hi st (st.1 k)))) (wc := [(qx, .inr (6, [.ref (a0 0), .ref (a1 0), .ref (a2 0), .ref (a3 0), .ref (a4 0), .int has]))] :: wSt cI a0 st :: []) (r := st.2.2.2.1.2.1.2.2.2) ⟨hx, hb, hml, hown, hts⟩ (KR.eq (kX6_copy l D cI cS qx a0 (a1 0) (a2 0) (a3 0) (a4 0) has (4 : Int32) st) (cp_4 h0)) (cwV 1 hts gL_changes_X6_copy rfl rfl rfl (by decide +kernel) ⟨Nat.le_of_ble_eq_true rfl, Nat.le_of_ble_eq_true rfl⟩) hE hP rfl rfl [0, 1] rfl rfl rfl hl.1 rfl (Nat.le_of_ble_eq_true rfl) ⟨Nat.le_of_ble_eq_true rfl, Nat.le_of_ble_eq_true rfl⟩ dL_changes_230 ?_
              refine lv_iload hx hb dL_changes_233 (lv_at hl 5 rfl) ?_
              refine lv_iload_n hx hb dL_changes_235 rfl (lv_at hl 10 rfl) ?_
              refine lv_if_ge (tgt := 243) hx hb dL_changes_236 (by decide) (fun c => absurd c (Int32.not_le.mpr hvn)) (fun _ => ?_)
              refine lv_iload_n hx hb dL_changes_239 rfl (lv_at hl 7 rfl) ?_
              refine lv_if_lt (tgt := 247) hx hb dL_changes_240 (by decide) (fun _ => ?_) (fun c => absurd hhn c)
              refine lv_iconst (v := (0 : Int32)) hx hb dL_changes_247 (by decide +kernel) ?_
              refine lv_iadd hx hb dL_changes_248 ?_
              refine lv_icmp_ne (tgt := 256) hx hb dL_changes_249 (by decide) (fun c => absurd (i_add0 _).symm c) (fun _ => ?_)
              refine lv_iconst (v := (1 : Int32)) hx hb dL_changes_252 (by decide +kernel) ?_
              refine lv_goto (tgt := 257) hx hb dL_changes_253 (by decide) ?_
              exact hend _ _ _ (st, (hiR hi st (st.1 k))) _ _ _ _ dL_changes_257 rfl (Nat.le_refl _) (Nat.le_refl _) ⟨rfl, hI, (hh.rec hbo (st.1 k))⟩ hP hS
            · refine lv_iconst (v := (1 : Int32)) hx hb dL_changes_59 (by decide +kernel) ?_
              refine lv_goto (tgt := 64) hx hb dL_changes_60 (by decide) ?_
              refine lv_istore (lv' := [(8, .int ((1 : Int32))), (7, .int ((0 : Int32))), (6, .int ((st.2.2.2.2.2 2))), (5, .int st.2.2.2.1.2.1.2.2.2), (4, .int st.2.2.2.1.2.2.1), (3, .int ((st.1 k))), (0, .ref qx), (1, .int ((nI k))), (2, .int v)]) hx hb dL_changes_64 hl (by decide) rfl (fun ls hl => ?_)
              refine lv_iload_n hx hb dL_changes_66 rfl (lv_at hl 8 rfl) ?_
              refine lv_if_ge (tgt := 78) hx hb dL_changes_67 (by decide) (fun c => absurd c (Int32.not_le.mpr hvn)) (fun _ => ?_)
              have eR : fX5_eraseRow (nI k) st = ((st.1 k), st) := erase_n hk h3 hh5
              have eT : fX6_erase (nI k) (st, hi) = ((st.1 k), (st, hiR hi st (st.1 k))) := by rw [erase_eq, eR]
              refine lv_aload_n hx hb dL_changes_70 rfl (lv_at hl 6 rfl) ?_
              refine lv_iload_n hx hb dL_changes_71 rfl (lv_at hl 7 rfl) ?_
              refine bIV (W0 := wO cI cS qx a0 a1 a2 a3 b3 a4 sn sc has ([]) (st, tr, hi)) (wc := [(qx, .inr (6, [.ref (a0 0), .ref (a1 0), .ref (a2 0), .ref (a3 0), .ref (a4 0), .int has]))] :: wSt cI a0 st :: wHi cI cS a3 b3 hi []) (w1 := fun u : TPT => [(qx, .inr (6, [.ref (a0 0), .ref (a1 0), .ref (a2 0), .ref (a3 0), .ref (a4 0), .int has]))] :: wSt cI a0 u.1 :: wHi cI cS a3 b3 u.2 []) ⟨hx, hb, hml, hown, hts⟩ (kX6_erase l D cI cS qx a0 a3 b3 (a1 0) (a2 0) (a4 0) has (nI k) (st, hi) hI.ws hh) (cwV 1 hts gL_changes_X6_erase rfl rfl rfl (by decide +kernel) ⟨Nat.le_of_ble_eq_true rfl, Nat.le_of_ble_eq_true rfl⟩) hE hP hD hS rfl rfl [0, 1, 4, 5, 6, 7, 8, 9, 10, 11] rfl rfl (fun _ => rfl) (fun _ => rfl) rfl hl.1 rfl (Nat.le_of_ble_eq_true rfl) ⟨Nat.le_of_ble_eq_true rfl, Nat.le_of_ble_eq_true rfl⟩ dL_changes_72 (fun r_72 u_72 H locs e_72 hP hD hS => ?_)
              have hP : va_P D vwCl (fl (wO cI cS qx a0 a1 a2 a3 b3 a4 sn sc has ([]) (u_72.1, tr, u_72.2))) H := hP
              have hD : va_D A (fl (wO cI cS qx a0 a1 a2 a3 b3 a4 sn sc has ([]) (u_72.1, tr, u_72.2))) := hD
              rw [eT] at e_72
              cases e_72
              have hP : va_P D vwCl (fl (wO cI cS qx a0 a1 a2 a3 b3 a4 sn sc has ([]) (st, tr, (hiR hi st (st.1 k))))) H := hP
              have hD : va_D A (fl (wO cI cS qx a0 a1 a2 a3 b3 a4 sn sc has ([]) (st, tr, (hiR hi st (st.1 k))))) := hD
              refine lv_goto (tgt := 84) hx hb dL_changes_75 (by decide) ?_
              refine lv_istore (lv' := [(9, .int ((st.1 k))), (8, .int ((1 : Int32))), (7, .int ((0 : Int32))), (6, .int ((st.2.2.2.2.2 2))), (5, .int st.2.2.2.1.2.1.2.2.2), (4, .int st.2.2.2.1.2.2.1), (3, .int ((st.1 k))), (0, .ref qx), (1, .int ((nI k))), (2, .int v)]) hx hb dL_changes_84 hl (by decide) rfl (fun ls hl => ?_)
              refine lv_iload hx hb dL_changes_86 (lv_at hl 5 rfl) ?_
              refine lv_iconst (v := (3 : Int32)) hx hb dL_changes_88 (by decide +kernel) ?_
              refine lv_icmp_ne (tgt := 115) hx hb dL_changes_89 (by decide) (fun _ => ?_) (fun c => absurd c h3)
              refine lv_iload hx hb dL_changes_115 (lv_at hl 2 rfl) ?_
              refine lv_if_eq (tgt := 158) hx hb dL_changes_117 (by decide) (fun _ => ?_) (fun c => absurd (show (0 : Int32) = (0 : Int32) by decide) c)
              refine lv_iload hx hb dL_changes_158 (lv_at hl 0 rfl) ?_
              refine lv_iload_n hx hb dL_changes_160 rfl (lv_at hl 6 rfl) ?_
              refine lv_icmp_ne (tgt := 199) hx hb dL_changes_161 (by decide) (fun c => absurd rfl c) (fun _ => ?_)
              refine lv_aload_n hx hb dL_changes_164 rfl (lv_at hl 7 rfl) ?_
              refine lv_iconst (v := (0 : Int32)) hx hb dL_changes_165 (by decide +kernel) ?_
              refine lv_iload_n hx hb dL_changes_166 rfl (lv_at hl 8 rfl) ?_
              refine bRV (W0 := wO cI cS qx a0 a1 a2 a3 b3 a4 sn sc has ([]) (st, tr, (hiR hi st (st.1 k)))) (wc := [(qx, .inr (6, [.ref (a0 0), .ref (a1 0), .ref (a2 0), .ref (a3 0), .ref (a4 0), .int has]))] :: wSt cI a0 st :: []) (r := v) ⟨hx, hb, hml, hown, hts⟩ (KR.eq (kX6_value l D cI cS qx a0 (a1 0) (a2 0) (a3 0) (a4 0) has (0 : Int32) (nI k) st) ((val_0 hk).trans (hh5.trans hv5.symm))) (cwV 2 hts gL_changes_X6_value rfl rfl rfl (by decide +kernel) ⟨Nat.le_of_ble_eq_true rfl, Nat.le_of_ble_eq_true rfl⟩) hE hP rfl rfl [0, 1] rfl rfl rfl hl.1 rfl (Nat.le_of_ble_eq_true rfl) ⟨Nat.le_of_ble_eq_true rfl, Nat.le_of_ble_eq_true rfl⟩ dL_changes_167 ?_
              refine lv_iload_n hx hb dL_changes_170 rfl (lv_at hl 9 rfl) ?_
              refine lv_icmp_ne (tgt := 199) hx hb dL_changes_171 (by decide) (fun c => absurd rfl c) (fun _ => ?_)
              refine lv_aload_n hx hb dL_changes_174 rfl (lv_at hl 7 rfl) ?_
              refine lv_iconst (v := (2 : Int32)) hx hb dL_changes_175 (by decide +kernel) ?_
              refine bRV (W0 := wO cI cS qx a0 a1 a2 a3 b3 a4 sn sc has ([]) (st, tr, (hiR hi st (st.1 k)))) (wc := [(qx, .inr (6, [.ref (a0 0), .ref (a1 0), .ref (a2 0), .ref (a3 0), .ref (a4 0), .int has]))] :: wSt cI a0 st :: []) (r := (st.2.2.2.2.2 2)) ⟨hx, hb, hml, hown, hts⟩ (KR.eq (kX6_total l D cI cS qx a0 (a1 0) (a2 0) (a3 0) (a4 0) has (2 : Int32) st) (tot_i (i := 2) (by omega))) (cwV 1 hts gL_changes_X6_total rfl rfl rfl (by decide +kernel) ⟨Nat.le_of_ble_eq_true rfl, Nat.le_of_ble_eq_true rfl⟩) hE hP rfl rfl [0, 1] rfl rfl rfl hl.1 rfl (Nat.le_of_ble_eq_true rfl) ⟨Nat.le_of_ble_eq_true rfl, Nat.le_of_ble_eq_true rfl⟩ dL_changes_176 ?_
              refine lv_iload hx hb dL_changes_179 (lv_at hl 3 rfl) ?_
              refine lv_iload hx hb dL_changes_181 (lv_at hl 2 rfl) ?_
              refine lv_if_eq (tgt := 190) hx hb dL_changes_183 (by decide) (fun _ => ?_) (fun c => absurd (show (0 : Int32) = (0 : Int32) by decide) c)
              refine lv_iconst (v := (0 : Int32)) hx hb dL_changes_190 (by decide +kernel) ?_
              refine lv_iadd hx hb dL_changes_191 ?_
              refine lv_icmp_ne (tgt := 199) hx hb dL_changes_192 (by decide) (fun c => absurd (i_add0 _).symm c) (fun _ => ?_)
              refine lv_iconst (v := (1 : Int32)) hx hb dL_changes_195 (by decide +kernel) ?_
              refine lv_goto (tgt := 200) hx hb dL_changes_196 (by decide) ?_
              refine lv_istore (lv' := [(10, .int ((1 : Int32))), (9, .int ((st.1 k))), (8, .int ((1 : Int32))), (7, .int ((0 : Int32))), (6, .int ((st.2.2.2.2.2 2))), (5, .int st.2.2.2.1.2.1.2.2.2), (4, .int st.2.2.2.1.2.2.1), (3, .int ((st.1 k))), (0, .ref qx), (1, .int ((nI k))), (2, .int v)]) hx hb dL_changes_200 hl (by decide) rfl (fun ls hl => ?_)
              refine lv_iload hx hb dL_changes_202 (lv_at hl 0 rfl) ?_
              refine lv_if_eq (tgt := 256) hx hb dL_changes_204 (by decide) (fun c => absurd c (show ¬ (1 : Int32) = (0 : Int32) by decide)) (fun _ => ?_)
              refine lv_iload hx hb dL_changes_207 (lv_at hl 6 rfl) ?_
              refine lv_if_eq (tgt := 252) hx hb dL_changes_209 (by decide) (fun c => absurd c h0) (fun _ => ?_)
              refine lv_iload hx hb dL_changes_212 (lv_at hl 3 rfl) ?_
              refine lv_if_eq (tgt := 228) hx hb dL_changes_214 (by decide) (fun _ => ?_) (fun c => absurd (show (0 : Int32) = (0 : Int32) by decide) c)
              refine lv_aload_n hx hb dL_changes_228 rfl (lv_at hl 8 rfl) ?_
              refine lv_iconst (v := (4 : Int32)) hx hb dL_changes_229 (by decide +kernel) ?_
              refine bRV (W0 := wO cI cS qx a0 a1 a2 a3 b3 a4 sn sc has ([]) (st, tr, (hiR hi st (st.1 k)))) (wc := [(qx, .inr (6, [.ref (a0 0), .ref (a1 0), .ref (a2 0), .ref (a3 0), .ref (a4 0), .int has]))] :: wSt cI a0 st :: []) (r := st.2.2.2.1.2.1.2.2.2) ⟨hx, hb, hml, hown, hts⟩ (KR.eq (kX6_copy l D cI cS qx a0 (a1 0) (a2 0) (a3 0) (a4 0) has (4 : Int32) st) (cp_4 h0)) (cwV 1 hts gL_changes_X6_copy rfl rfl rfl (by decide +kernel) ⟨Nat.le_of_ble_eq_true rfl, Nat.le_of_ble_eq_true rfl⟩) hE hP rfl rfl [0, 1] rfl rfl rfl hl.1 rfl (Nat.le_of_ble_eq_true rfl) ⟨Nat.le_of_ble_eq_true rfl, Nat.le_of_ble_eq_true rfl⟩ dL_changes_230 ?_
              refine lv_iload hx hb dL_changes_233 (lv_at hl 5 rfl) ?_
              refine lv_iload_n hx hb dL_changes_235 rfl (lv_at hl 10 rfl) ?_
              refine lv_if_ge (tgt := 243) hx hb dL_changes_236 (by decide) (fun c => absurd c (Int32.not_le.mpr hvn)) (fun _ => ?_)
              refine lv_iload_n hx hb dL_changes_239 rfl (lv_at hl 7 rfl) ?_
              refine lv_if_lt (tgt := 247) hx hb dL_changes_240 (by decide) (fun _ => ?_) (fun c => absurd hhn c)
              refine lv_iconst (v := (0 : Int32)) hx hb dL_changes_247 (by decide +kernel) ?_
              refine lv_iadd hx hb dL_changes_248 ?_
              refine lv_icmp_ne (tgt := 256) hx hb dL_changes_249 (by decide) (fun c => absurd (i_add0 _).symm c) (fun _ => ?_)
              refine lv_iconst (v := (1 : Int32)) hx hb dL_changes_252 (by decide +kernel) ?_
              refine lv_goto (tgt := 257) hx hb dL_changes_253 (by decide) ?_
              exact hend _ _ _ (st, (hiR hi st (st.1 k))) _ _ _ _ dL_changes_257 rfl (Nat.le_refl _) (Nat.le_refl _) ⟨rfl, hI, (hh.rec hbo (st.1 k))⟩ hP hS
          · have hn5 : ¬ (st.1 k) = (-5 : Int32) := fun q => hhp (by rw [q]; decide)
            refine lv_aload_n hx hb dL_changes_0 rfl (lv_at hl 0 rfl) ?_
            refine lv_iconst (v := (0 : Int32)) hx hb dL_changes_1 (by decide +kernel) ?_
            refine lv_iload_n hx hb dL_changes_2 rfl (lv_at hl 1 rfl) ?_
            refine bRV (W0 := wO cI cS qx a0 a1 a2 a3 b3 a4 sn sc has ([]) (st, tr, hi)) (wc := [(qx, .inr (6, [.ref (a0 0), .ref (a1 0), .ref (a2 0), .ref (a3 0), .ref (a4 0), .int has]))] :: wSt cI a0 st :: []) (r := (st.1 k)) ⟨hx, hb, hml, hown, hts⟩ (KR.eq (kX6_value l D cI cS qx a0 (a1 0) (a2 0) (a3 0) (a4 0) has (0 : Int32) (nI k) st) (val_0 hk)) (cwV 2 hts gL_changes_X6_value rfl rfl rfl (by decide +kernel) ⟨Nat.le_of_ble_eq_true rfl, Nat.le_of_ble_eq_true rfl⟩) hE hP rfl rfl [0, 1] rfl rfl rfl hl.1 rfl (Nat.le_of_ble_eq_true rfl) ⟨Nat.le_of_ble_eq_true rfl, Nat.le_of_ble_eq_true rfl⟩ dL_changes_3 ?_
            refine lv_istore_n (lv' := [(3, .int ((st.1 k))), (0, .ref qx), (1, .int ((nI k))), (2, .int v)]) hx hb dL_changes_6 rfl hl (by decide) rfl (fun ls hl => ?_)
            refine lv_aload_n hx hb dL_changes_7 rfl (lv_at hl 1 rfl) ?_
            refine lv_iconst (v := (0 : Int32)) hx hb dL_changes_8 (by decide +kernel) ?_
            refine bRV (W0 := wO cI cS qx a0 a1 a2 a3 b3 a4 sn sc has ([]) (st, tr, hi)) (wc := [(qx, .inr (6, [.ref (a0 0), .ref (a1 0), .ref (a2 0), .ref (a3 0), .ref (a4 0), .int has]))] :: wSt cI a0 st :: []) (r := st.2.2.2.1.2.2.1) ⟨hx, hb, hml, hown, hts⟩ (KR.eq (kX6_copy l D cI cS qx a0 (a1 0) (a2 0) (a3 0) (a4 0) has (0 : Int32) st) (cp_0 st)) (cwV 1 hts gL_changes_X6_copy rfl rfl rfl (by decide +kernel) ⟨Nat.le_of_ble_eq_true rfl, Nat.le_of_ble_eq_true rfl⟩) hE hP rfl rfl [0, 1] rfl rfl rfl hl.1 rfl (Nat.le_of_ble_eq_true rfl) ⟨Nat.le_of_ble_eq_true rfl, Nat.le_of_ble_eq_true rfl⟩ dL_changes_9 ?_
            refine lv_istore (lv' := [(4, .int st.2.2.2.1.2.2.1), (3, .int ((st.1 k))), (0, .ref qx), (1, .int ((nI k))), (2, .int v)]) hx hb dL_changes_12 hl (by decide) rfl (fun ls hl => ?_)
            refine lv_aload_n hx hb dL_changes_14 rfl (lv_at hl 2 rfl) ?_
            refine lv_iconst (v := (4 : Int32)) hx hb dL_changes_15 (by decide +kernel) ?_
            refine bRV (W0 := wO cI cS qx a0 a1 a2 a3 b3 a4 sn sc has ([]) (st, tr, hi)) (wc := [(qx, .inr (6, [.ref (a0 0), .ref (a1 0), .ref (a2 0), .ref (a3 0), .ref (a4 0), .int has]))] :: wSt cI a0 st :: []) (r := st.2.2.2.1.2.1.2.2.2) ⟨hx, hb, hml, hown, hts⟩ (KR.eq (kX6_copy l D cI cS qx a0 (a1 0) (a2 0) (a3 0) (a4 0) has (4 : Int32) st) (cp_4 h0)) (cwV 1 hts gL_changes_X6_copy rfl rfl rfl (by decide +kernel) ⟨Nat.le_of_ble_eq_true rfl, Nat.le_of_ble_eq_true rfl⟩) hE hP rfl rfl [0, 1] rfl rfl rfl hl.1 rfl (Nat.le_of_ble_eq_true rfl) ⟨Nat.le_of_ble_eq_true rfl, Nat.le_of_ble_eq_true rfl⟩ dL_changes_16 ?_
            refine lv_istore (lv' := [(5, .int st.2.2.2.1.2.1.2.2.2), (4, .int st.2.2.2.1.2.2.1), (3, .int ((st.1 k))), (0, .ref qx), (1, .int ((nI k))), (2, .int v)]) hx hb dL_changes_19 hl (by decide) rfl (fun ls hl => ?_)
            refine lv_aload_n hx hb dL_changes_21 rfl (lv_at hl 3 rfl) ?_
            refine lv_iconst (v := (2 : Int32)) hx hb dL_changes_22 (by decide +kernel) ?_
            refine bRV (W0 := wO cI cS qx a0 a1 a2 a3 b3 a4 sn sc has ([]) (st, tr, hi)) (wc := [(qx, .inr (6, [.ref (a0 0), .ref (a1 0), .ref (a2 0), .ref (a3 0), .ref (a4 0), .int has]))] :: wSt cI a0 st :: []) (r := (st.2.2.2.2.2 2)) ⟨hx, hb, hml, hown, hts⟩ (KR.eq (kX6_total l D cI cS qx a0 (a1 0) (a2 0) (a3 0) (a4 0) has (2 : Int32) st) (tot_i (i := 2) (by omega))) (cwV 1 hts gL_changes_X6_total rfl rfl rfl (by decide +kernel) ⟨Nat.le_of_ble_eq_true rfl, Nat.le_of_ble_eq_true rfl⟩) hE hP rfl rfl [0, 1] rfl rfl rfl hl.1 rfl (Nat.le_of_ble_eq_true rfl) ⟨Nat.le_of_ble_eq_true rfl, Nat.le_of_ble_eq_true rfl⟩ dL_changes_23 ?_
            refine lv_istore (lv' := [(6, .int ((st.2.2.2.2.2 2))), (5, .int st.2.2.2.1.2.1.2.2.2), (4, .int st.2.2.2.1.2.2.1), (3, .int ((st.1 k))), (0, .ref qx), (1, .int ((nI k))), (2, .int v)]) hx hb dL_changes_26 hl (by decide) rfl (fun ls hl => ?_)
            refine lv_iload hx hb dL_changes_28 (lv_at hl 1 rfl) ?_
            refine lv_bipush (v := (24 : Int32)) hx hb dL_changes_30 (by decide +kernel) ?_
            refine lv_icmp_ne (tgt := 47) hx hb dL_changes_32 (by decide) (fun c => absurd hz c) (fun _ => ?_)
            refine lv_iload_n hx hb dL_changes_35 rfl (lv_at hl 6 rfl) ?_
            refine lv_if_ge (tgt := 43) hx hb dL_changes_36 (by decide) (fun c => absurd c (Int32.not_le.mpr hvn)) (fun _ => ?_)
            refine lv_iload_n hx hb dL_changes_39 rfl (lv_at hl 3 rfl) ?_
            refine lv_if_lt (tgt := 47) hx hb dL_changes_40 (by decide) (fun c => absurd c hhp) (fun _ => ?_)
            refine lv_iconst (v := (1 : Int32)) hx hb dL_changes_43 (by decide +kernel) ?_
            refine lv_goto (tgt := 48) hx hb dL_changes_44 (by decide) ?_
            refine lv_istore (lv' := [(7, .int ((1 : Int32))), (6, .int ((st.2.2.2.2.2 2))), (5, .int st.2.2.2.1.2.1.2.2.2), (4, .int st.2.2.2.1.2.2.1), (3, .int ((st.1 k))), (0, .ref qx), (1, .int ((nI k))), (2, .int v)]) hx hb dL_changes_48 hl (by decide) rfl (fun ls hl => ?_)
            refine lv_aload_n hx hb dL_changes_50 rfl (lv_at hl 5 rfl) ?_
            refine lv_iconst (v := (3 : Int32)) hx hb dL_changes_51 (by decide +kernel) ?_
            refine bRV (W0 := wO cI cS qx a0 a1 a2 a3 b3 a4 sn sc has ([]) (st, tr, hi)) (wc := [(qx, .inr (6, [.ref (a0 0), .ref (a1 0), .ref (a2 0), .ref (a3 0), .ref (a4 0), .int has]))] :: wSt cI a0 st :: []) (r := (st.2.2.2.2.1 3)) ⟨hx, hb, hml, hown, hts⟩ (KR.eq (kX6_setting l D cI cS qx a0 (a1 0) (a2 0) (a3 0) (a4 0) has (3 : Int32) st) (set_i (i := 3) (by omega))) (cwV 1 hts gL_changes_X6_setting rfl rfl rfl (by decide +kernel) ⟨Nat.le_of_ble_eq_true rfl, Nat.le_of_ble_eq_true rfl⟩) hE hP rfl rfl [0, 1] rfl rfl rfl hl.1 rfl (Nat.le_of_ble_eq_true rfl) ⟨Nat.le_of_ble_eq_true rfl, Nat.le_of_ble_eq_true rfl⟩ dL_changes_52 ?_
            refine lv_iconst (v := (1 : Int32)) hx hb dL_changes_55 (by decide +kernel) ?_
            refine lv_icmp_ne (tgt := 63) hx hb dL_changes_56 (by decide) (fun c_56 => ?_) (fun c_56 => ?_)
            · refine lv_iconst (v := (0 : Int32)) hx hb dL_changes_63 (by decide +kernel) ?_
              refine lv_istore (lv' := [(8, .int ((0 : Int32))), (7, .int ((1 : Int32))), (6, .int ((st.2.2.2.2.2 2))), (5, .int st.2.2.2.1.2.1.2.2.2), (4, .int st.2.2.2.1.2.2.1), (3, .int ((st.1 k))), (0, .ref qx), (1, .int ((nI k))), (2, .int v)]) hx hb dL_changes_64 hl (by decide) rfl (fun ls hl => ?_)
              refine lv_iload_n hx hb dL_changes_66 rfl (lv_at hl 8 rfl) ?_
              refine lv_if_ge (tgt := 78) hx hb dL_changes_67 (by decide) (fun c => absurd c (Int32.not_le.mpr hvn)) (fun _ => ?_)
              obtain ⟨u1, eC, hI1, y1, y0, y2⟩ := ch_B hI hk hv h0 h3 hz c_56
              have eR : fX5_eraseRow (nI k) st = ((st.1 k), u1) := (erase_c hk h3 hn5 hv5).trans eC
              have eT : fX6_erase (nI k) (st, hi) = ((st.1 k), (u1, hiR hi st (st.1 k))) := by rw [erase_eq, eR]
              refine lv_aload_n hx hb dL_changes_70 rfl (lv_at hl 6 rfl) ?_
              refine lv_iload_n hx hb dL_changes_71 rfl (lv_at hl 7 rfl) ?_
              refine bIV (W0 := wO cI cS qx a0 a1 a2 a3 b3 a4 sn sc has ([]) (st, tr, hi)) (wc := [(qx, .inr (6, [.ref (a0 0), .ref (a1 0), .ref (a2 0), .ref (a3 0), .ref (a4 0), .int has]))] :: wSt cI a0 st :: wHi cI cS a3 b3 hi []) (w1 := fun u : TPT => [(qx, .inr (6, [.ref (a0 0), .ref (a1 0), .ref (a2 0), .ref (a3 0), .ref (a4 0), .int has]))] :: wSt cI a0 u.1 :: wHi cI cS a3 b3 u.2 []) ⟨hx, hb, hml, hown, hts⟩ (kX6_erase l D cI cS qx a0 a3 b3 (a1 0) (a2 0) (a4 0) has (nI k) (st, hi) hI.ws hh) (cwV 1 hts gL_changes_X6_erase rfl rfl rfl (by decide +kernel) ⟨Nat.le_of_ble_eq_true rfl, Nat.le_of_ble_eq_true rfl⟩) hE hP hD hS rfl rfl [0, 1, 4, 5, 6, 7, 8, 9, 10, 11] rfl rfl (fun _ => rfl) (fun _ => rfl) rfl hl.1 rfl (Nat.le_of_ble_eq_true rfl) ⟨Nat.le_of_ble_eq_true rfl, Nat.le_of_ble_eq_true rfl⟩ dL_changes_72 (fun r_72 u_72 H locs e_72 hP hD hS => ?_)
              have hP : va_P D vwCl (fl (wO cI cS qx a0 a1 a2 a3 b3 a4 sn sc has ([]) (u_72.1, tr, u_72.2))) H := hP
              have hD : va_D A (fl (wO cI cS qx a0 a1 a2 a3 b3 a4 sn sc has ([]) (u_72.1, tr, u_72.2))) := hD
              rw [eT] at e_72
              cases e_72
              have hP : va_P D vwCl (fl (wO cI cS qx a0 a1 a2 a3 b3 a4 sn sc has ([]) (u1, tr, (hiR hi st (st.1 k))))) H := hP
              have hD : va_D A (fl (wO cI cS qx a0 a1 a2 a3 b3 a4 sn sc has ([]) (u1, tr, (hiR hi st (st.1 k))))) := hD
              refine lv_goto (tgt := 84) hx hb dL_changes_75 (by decide) ?_
              refine lv_istore (lv' := [(9, .int ((st.1 k))), (8, .int ((0 : Int32))), (7, .int ((1 : Int32))), (6, .int ((st.2.2.2.2.2 2))), (5, .int st.2.2.2.1.2.1.2.2.2), (4, .int st.2.2.2.1.2.2.1), (3, .int ((st.1 k))), (0, .ref qx), (1, .int ((nI k))), (2, .int v)]) hx hb dL_changes_84 hl (by decide) rfl (fun ls hl => ?_)
              refine lv_iload hx hb dL_changes_86 (lv_at hl 5 rfl) ?_
              refine lv_iconst (v := (3 : Int32)) hx hb dL_changes_88 (by decide +kernel) ?_
              refine lv_icmp_ne (tgt := 115) hx hb dL_changes_89 (by decide) (fun _ => ?_) (fun c => absurd c h3)
              refine lv_iload hx hb dL_changes_115 (lv_at hl 2 rfl) ?_
              refine lv_if_eq (tgt := 158) hx hb dL_changes_117 (by decide) (fun c => absurd c (show ¬ (1 : Int32) = (0 : Int32) by decide)) (fun _ => ?_)
              refine lv_iload hx hb dL_changes_120 (lv_at hl 1 rfl) ?_
              refine lv_if_eq (tgt := 158) hx hb dL_changes_122 (by decide) (fun _ => ?_) (fun c => absurd (show (0 : Int32) = (0 : Int32) by decide) c)
              refine lv_iload hx hb dL_changes_158 (lv_at hl 0 rfl) ?_
              refine lv_iload_n hx hb dL_changes_160 rfl (lv_at hl 6 rfl) ?_
              refine lv_icmp_ne (tgt := 199) hx hb dL_changes_161 (by decide) (fun c => absurd rfl c) (fun _ => ?_)
              refine lv_aload_n hx hb dL_changes_164 rfl (lv_at hl 7 rfl) ?_
              refine lv_iconst (v := (0 : Int32)) hx hb dL_changes_165 (by decide +kernel) ?_
              refine lv_iload_n hx hb dL_changes_166 rfl (lv_at hl 8 rfl) ?_
              refine bRV (W0 := wO cI cS qx a0 a1 a2 a3 b3 a4 sn sc has ([]) (u1, tr, (hiR hi st (st.1 k)))) (wc := [(qx, .inr (6, [.ref (a0 0), .ref (a1 0), .ref (a2 0), .ref (a3 0), .ref (a4 0), .int has]))] :: wSt cI a0 u1 :: []) (r := v) ⟨hx, hb, hml, hown, hts⟩ (KR.eq (kX6_value l D cI cS qx a0 (a1 0) (a2 0) (a3 0) (a4 0) has (0 : Int32) (nI k) u1) ((val_0 hk).trans y1)) (cwV 2 hts gL_changes_X6_value rfl rfl rfl (by decide +kernel) ⟨Nat.le_of_ble_eq_true rfl, Nat.le_of_ble_eq_true rfl⟩) hE hP rfl rfl [0, 1] rfl rfl rfl hl.1 rfl (Nat.le_of_ble_eq_true rfl) ⟨Nat.le_of_ble_eq_true rfl, Nat.le_of_ble_eq_true rfl⟩ dL_changes_167 ?_
              refine lv_iload_n hx hb dL_changes_170 rfl (lv_at hl 9 rfl) ?_
              refine lv_icmp_ne (tgt := 199) hx hb dL_changes_171 (by decide) (fun c => absurd rfl c) (fun _ => ?_)
              refine lv_aload_n hx hb dL_changes_174 rfl (lv_at hl 7 rfl) ?_
              refine lv_iconst (v := (2 : Int32)) hx hb dL_changes_175 (by decide +kernel) ?_
              refine bRV (W0 := wO cI cS qx a0 a1 a2 a3 b3 a4 sn sc has ([]) (u1, tr, (hiR hi st (st.1 k)))) (wc := [(qx, .inr (6, [.ref (a0 0), .ref (a1 0), .ref (a2 0), .ref (a3 0), .ref (a4 0), .int has]))] :: wSt cI a0 u1 :: []) (r := ((st.2.2.2.2.2 2) + (1 : Int32))) ⟨hx, hb, hml, hown, hts⟩ (KR.eq (kX6_total l D cI cS qx a0 (a1 0) (a2 0) (a3 0) (a4 0) has (2 : Int32) u1) ((tot_i (i := 2) (by omega)).trans y2)) (cwV 1 hts gL_changes_X6_total rfl rfl rfl (by decide +kernel) ⟨Nat.le_of_ble_eq_true rfl, Nat.le_of_ble_eq_true rfl⟩) hE hP rfl rfl [0, 1] rfl rfl rfl hl.1 rfl (Nat.le_of_ble_eq_true rfl) ⟨Nat.le_of_ble_eq_true rfl, Nat.le_of_ble_eq_true rfl⟩ dL_changes_176 ?_
              refine lv_iload hx hb dL_changes_179 (lv_at hl 3 rfl) ?_
              refine lv_iload hx hb dL_changes_181 (lv_at hl 2 rfl) ?_
              refine lv_if_eq (tgt := 190) hx hb dL_changes_183 (by decide) (fun c => absurd c (show ¬ (1 : Int32) = (0 : Int32) by decide)) (fun _ => ?_)
              refine lv_iconst (v := (1 : Int32)) hx hb dL_changes_186 (by decide +kernel) ?_
              refine lv_goto (tgt := 191) hx hb dL_changes_187 (by decide) ?_
              refine lv_iadd hx hb dL_changes_191 ?_
              refine lv_icmp_ne (tgt := 199) hx hb dL_changes_192 (by decide) (fun c => absurd rfl c) (fun _ => ?_)
              refine lv_iconst (v := (1 : Int32)) hx hb dL_changes_195 (by decide +kernel) ?_
              refine lv_goto (tgt := 200) hx hb dL_changes_196 (by decide) ?_
              refine lv_istore (lv' := [(10, .int ((1 : Int32))), (9, .int ((st.1 k))), (8, .int ((0 : Int32))), (7, .int ((1 : Int32))), (6, .int ((st.2.2.2.2.2 2))), (5, .int st.2.2.2.1.2.1.2.2.2), (4, .int st.2.2.2.1.2.2.1), (3, .int ((st.1 k))), (0, .ref qx), (1, .int ((nI k))), (2, .int v)]) hx hb dL_changes_200 hl (by decide) rfl (fun ls hl => ?_)
              refine lv_iload hx hb dL_changes_202 (lv_at hl 0 rfl) ?_
              refine lv_if_eq (tgt := 256) hx hb dL_changes_204 (by decide) (fun c => absurd c (show ¬ (1 : Int32) = (0 : Int32) by decide)) (fun _ => ?_)
              refine lv_iload hx hb dL_changes_207 (lv_at hl 6 rfl) ?_
              refine lv_if_eq (tgt := 252) hx hb dL_changes_209 (by decide) (fun c => absurd c h0) (fun _ => ?_)
              refine lv_iload hx hb dL_changes_212 (lv_at hl 3 rfl) ?_
              refine lv_if_eq (tgt := 228) hx hb dL_changes_214 (by decide) (fun c => absurd c (show ¬ (1 : Int32) = (0 : Int32) by decide)) (fun _ => ?_)
              refine lv_aload_n hx hb dL_changes_217 rfl (lv_at hl 8 rfl) ?_
              refine lv_iconst (v := (0 : Int32)) hx hb dL_changes_218 (by decide +kernel) ?_
              refine bRV (W0 := wO cI cS qx a0 a1 a2 a3 b3 a4 sn sc has ([]) (u1, tr, (hiR hi st (st.1 k)))) (wc := [(qx, .inr (6, [.ref (a0 0), .ref (a1 0), .ref (a2 0), .ref (a3 0), .ref (a4 0), .int has]))] :: wSt cI a0 u1 :: []) (r := (0 : Int32)) ⟨hx, hb, hml, hown, hts⟩ (KR.eq (kX6_copy l D cI cS qx a0 (a1 0) (a2 0) (a3 0) (a4 0) has (0 : Int32) u1) ((cp_0 u1).trans y0)) (cwV 1 hts gL_changes_X6_copy rfl rfl rfl (by decide +kernel) ⟨Nat.le_of_ble_eq_true rfl, Nat.le_of_ble_eq_true rfl⟩) hE hP rfl rfl [0, 1] rfl rfl rfl hl.1 rfl (Nat.le_of_ble_eq_true rfl) ⟨Nat.le_of_ble_eq_true rfl, Nat.le_of_ble_eq_true rfl⟩ dL_changes_219 ?_
              refine lv_if_ne (tgt := 256) hx hb dL_changes_222 (by decide) (fun c => absurd (show (0 : Int32) = (0 : Int32) by decide) c) (fun _ => ?_)
              refine lv_goto (tgt := 252) hx hb dL_changes_225 (by decide) ?_
              refine lv_iconst (v := (1 : Int32)) hx hb dL_changes_252 (by decide +kernel) ?_
              refine lv_goto (tgt := 257) hx hb dL_changes_253 (by decide) ?_
              exact hend _ _ _ (u1, (hiR hi st (st.1 k))) _ _ _ _ dL_changes_257 rfl (Nat.le_refl _) (Nat.le_refl _) ⟨rfl, hI1, (hh.rec hbo (st.1 k))⟩ hP hS
            · refine lv_iconst (v := (1 : Int32)) hx hb dL_changes_59 (by decide +kernel) ?_
              refine lv_goto (tgt := 64) hx hb dL_changes_60 (by decide) ?_
              refine lv_istore (lv' := [(8, .int ((1 : Int32))), (7, .int ((1 : Int32))), (6, .int ((st.2.2.2.2.2 2))), (5, .int st.2.2.2.1.2.1.2.2.2), (4, .int st.2.2.2.1.2.2.1), (3, .int ((st.1 k))), (0, .ref qx), (1, .int ((nI k))), (2, .int v)]) hx hb dL_changes_64 hl (by decide) rfl (fun ls hl => ?_)
              refine lv_iload_n hx hb dL_changes_66 rfl (lv_at hl 8 rfl) ?_
              refine lv_if_ge (tgt := 78) hx hb dL_changes_67 (by decide) (fun c => absurd c (Int32.not_le.mpr hvn)) (fun _ => ?_)
              have eC := ch_S hI hk hv h0 h3 hz c_56
              have eR : fX5_eraseRow (nI k) st = ((-3 : Int32), st) := (erase_c hk h3 hn5 hv5).trans eC
              have eT : fX6_erase (nI k) (st, hi) = ((-3 : Int32), (st, hiR hi st (-3 : Int32))) := by rw [erase_eq, eR]
              refine lv_aload_n hx hb dL_changes_70 rfl (lv_at hl 6 rfl) ?_
              refine lv_iload_n hx hb dL_changes_71 rfl (lv_at hl 7 rfl) ?_
              refine bIV (W0 := wO cI cS qx a0 a1 a2 a3 b3 a4 sn sc has ([]) (st, tr, hi)) (wc := [(qx, .inr (6, [.ref (a0 0), .ref (a1 0), .ref (a2 0), .ref (a3 0), .ref (a4 0), .int has]))] :: wSt cI a0 st :: wHi cI cS a3 b3 hi []) (w1 := fun u : TPT => [(qx, .inr (6, [.ref (a0 0), .ref (a1 0), .ref (a2 0), .ref (a3 0), .ref (a4 0), .int has]))] :: wSt cI a0 u.1 :: wHi cI cS a3 b3 u.2 []) ⟨hx, hb, hml, hown, hts⟩ (kX6_erase l D cI cS qx a0 a3 b3 (a1 0) (a2 0) (a4 0) has (nI k) (st, hi) hI.ws hh) (cwV 1 hts gL_changes_X6_erase rfl rfl rfl (by decide +kernel) ⟨Nat.le_of_ble_eq_true rfl, Nat.le_of_ble_eq_true rfl⟩) hE hP hD hS rfl rfl [0, 1, 4, 5, 6, 7, 8, 9, 10, 11] rfl rfl (fun _ => rfl) (fun _ => rfl) rfl hl.1 rfl (Nat.le_of_ble_eq_true rfl) ⟨Nat.le_of_ble_eq_true rfl, Nat.le_of_ble_eq_true rfl⟩ dL_changes_72 (fun r_72 u_72 H locs e_72 hP hD hS => ?_)
              have hP : va_P D vwCl (fl (wO cI cS qx a0 a1 a2 a3 b3 a4 sn sc has ([]) (u_72.1, tr, u_72.2))) H := hP
              have hD : va_D A (fl (wO cI cS qx a0 a1 a2 a3 b3 a4 sn sc has ([]) (u_72.1, tr, u_72.2))) := hD
              rw [eT] at e_72
              cases e_72
              have hP : va_P D vwCl (fl (wO cI cS qx a0 a1 a2 a3 b3 a4 sn sc has ([]) (st, tr, (hiR hi st (-3 : Int32))))) H := hP
              have hD : va_D A (fl (wO cI cS qx a0 a1 a2 a3 b3 a4 sn sc has ([]) (st, tr, (hiR hi st (-3 : Int32))))) := hD
              refine lv_goto (tgt := 84) hx hb dL_changes_75 (by decide) ?_
              refine lv_istore (lv' := [(9, .int ((-3 : Int32))), (8, .int ((1 : Int32))), (7, .int ((1 : Int32))), (6, .int ((st.2.2.2.2.2 2))), (5, .int st.2.2.2.1.2.1.2.2.2), (4, .int st.2.2.2.1.2.2.1), (3, .int ((st.1 k))), (0, .ref qx), (1, .int ((nI k))), (2, .int v)]) hx hb dL_changes_84 hl (by decide) rfl (fun ls hl => ?_)
              refine lv_iload hx hb dL_changes_86 (lv_at hl 5 rfl) ?_
              refine lv_iconst (v := (3 : Int32)) hx hb dL_changes_88 (by decide +kernel) ?_
              refine lv_icmp_ne (tgt := 115) hx hb dL_changes_89 (by decide) (fun _ => ?_) (fun c => absurd c h3)
              refine lv_iload hx hb dL_changes_115 (lv_at hl 2 rfl) ?_
              refine lv_if_eq (tgt := 158) hx hb dL_changes_117 (by decide) (fun c => absurd c (show ¬ (1 : Int32) = (0 : Int32) by decide)) (fun _ => ?_)
              refine lv_iload hx hb dL_changes_120 (lv_at hl 1 rfl) ?_
              refine lv_if_eq (tgt := 158) hx hb dL_changes_122 (by decide) (fun c => absurd c (show ¬ (1 : Int32) = (0 : Int32) by decide)) (fun _ => ?_)
              refine lv_iload hx hb dL_changes_125 (lv_at hl 0 rfl) ?_
              refine lv_bipush (v := (-3 : Int32)) hx hb dL_changes_127 (by decide +kernel) ?_
              refine lv_icmp_ne (tgt := 156) hx hb dL_changes_129 (by decide) (fun c => absurd (show (-3 : Int32) = (-3 : Int32) by decide) c) (fun _ => ?_)
              refine lv_aload_n hx hb dL_changes_132 rfl (lv_at hl 7 rfl) ?_
              refine lv_iconst (v := (0 : Int32)) hx hb dL_changes_133 (by decide +kernel) ?_
              refine lv_iload_n hx hb dL_changes_134 rfl (lv_at hl 8 rfl) ?_
              refine bRV (W0 := wO cI cS qx a0 a1 a2 a3 b3 a4 sn sc has ([]) (st, tr, (hiR hi st (-3 : Int32)))) (wc := [(qx, .inr (6, [.ref (a0 0), .ref (a1 0), .ref (a2 0), .ref (a3 0), .ref (a4 0), .int has]))] :: wSt cI a0 st :: []) (r := (st.1 k)) ⟨hx, hb, hml, hown, hts⟩ (KR.eq (kX6_value l D cI cS qx a0 (a1 0) (a2 0) (a3 0) (a4 0) has (0 : Int32) (nI k) st) (val_0 hk)) (cwV 2 hts gL_changes_X6_value rfl rfl rfl (by decide +kernel) ⟨Nat.le_of_ble_eq_true rfl, Nat.le_of_ble_eq_true rfl⟩) hE hP rfl rfl [0, 1] rfl rfl rfl hl.1 rfl (Nat.le_of_ble_eq_true rfl) ⟨Nat.le_of_ble_eq_true rfl, Nat.le_of_ble_eq_true rfl⟩ dL_changes_135 ?_
              refine lv_iload_n hx hb dL_changes_138 rfl (lv_at hl 6 rfl) ?_
              refine lv_icmp_ne (tgt := 156) hx hb dL_changes_139 (by decide) (fun c => absurd rfl c) (fun _ => ?_)
              refine lv_aload_n hx hb dL_changes_142 rfl (lv_at hl 7 rfl) ?_
              refine lv_iconst (v := (4 : Int32)) hx hb dL_changes_143 (by decide +kernel) ?_
              refine bRV (W0 := wO cI cS qx a0 a1 a2 a3 b3 a4 sn sc has ([]) (st, tr, (hiR hi st (-3 : Int32)))) (wc := [(qx, .inr (6, [.ref (a0 0), .ref (a1 0), .ref (a2 0), .ref (a3 0), .ref (a4 0), .int has]))] :: wSt cI a0 st :: []) (r := (24 : Int32)) ⟨hx, hb, hml, hown, hts⟩ (KR.eq (kX6_copy l D cI cS qx a0 (a1 0) (a2 0) (a3 0) (a4 0) has (4 : Int32) st) ((cp_4 h0).trans hz)) (cwV 1 hts gL_changes_X6_copy rfl rfl rfl (by decide +kernel) ⟨Nat.le_of_ble_eq_true rfl, Nat.le_of_ble_eq_true rfl⟩) hE hP rfl rfl [0, 1] rfl rfl rfl hl.1 rfl (Nat.le_of_ble_eq_true rfl) ⟨Nat.le_of_ble_eq_true rfl, Nat.le_of_ble_eq_true rfl⟩ dL_changes_144 ?_
              refine lv_bipush (v := (24 : Int32)) hx hb dL_changes_147 (by decide +kernel) ?_
              refine lv_icmp_ne (tgt := 156) hx hb dL_changes_149 (by decide) (fun c => absurd (show (24 : Int32) = (24 : Int32) by decide) c) (fun _ => ?_)
              refine lv_iconst (v := (1 : Int32)) hx hb dL_changes_152 (by decide +kernel) ?_
              refine lv_goto (tgt := 157) hx hb dL_changes_153 (by decide) ?_
              exact hend _ _ _ (st, (hiR hi st (-3 : Int32))) _ _ _ _ dL_changes_157 rfl (Nat.le_refl _) (Nat.le_refl _) ⟨rfl, hI, (hh.rec hbo (-3 : Int32))⟩ hP hS
        · have hvp : (0 : Int32) ≤ v := Int32.not_lt.mp hvq
          have hvb : Bd v 99 := rw_pos hv hvq
          refine lv_aload_n hx hb dL_changes_0 rfl (lv_at hl 0 rfl) ?_
          refine lv_iconst (v := (0 : Int32)) hx hb dL_changes_1 (by decide +kernel) ?_
          refine lv_iload_n hx hb dL_changes_2 rfl (lv_at hl 1 rfl) ?_
          refine bRV (W0 := wO cI cS qx a0 a1 a2 a3 b3 a4 sn sc has ([]) (st, tr, hi)) (wc := [(qx, .inr (6, [.ref (a0 0), .ref (a1 0), .ref (a2 0), .ref (a3 0), .ref (a4 0), .int has]))] :: wSt cI a0 st :: []) (r := (st.1 k)) ⟨hx, hb, hml, hown, hts⟩ (KR.eq (kX6_value l D cI cS qx a0 (a1 0) (a2 0) (a3 0) (a4 0) has (0 : Int32) (nI k) st) (val_0 hk)) (cwV 2 hts gL_changes_X6_value rfl rfl rfl (by decide +kernel) ⟨Nat.le_of_ble_eq_true rfl, Nat.le_of_ble_eq_true rfl⟩) hE hP rfl rfl [0, 1] rfl rfl rfl hl.1 rfl (Nat.le_of_ble_eq_true rfl) ⟨Nat.le_of_ble_eq_true rfl, Nat.le_of_ble_eq_true rfl⟩ dL_changes_3 ?_
          refine lv_istore_n (lv' := [(3, .int ((st.1 k))), (0, .ref qx), (1, .int ((nI k))), (2, .int v)]) hx hb dL_changes_6 rfl hl (by decide) rfl (fun ls hl => ?_)
          refine lv_aload_n hx hb dL_changes_7 rfl (lv_at hl 1 rfl) ?_
          refine lv_iconst (v := (0 : Int32)) hx hb dL_changes_8 (by decide +kernel) ?_
          refine bRV (W0 := wO cI cS qx a0 a1 a2 a3 b3 a4 sn sc has ([]) (st, tr, hi)) (wc := [(qx, .inr (6, [.ref (a0 0), .ref (a1 0), .ref (a2 0), .ref (a3 0), .ref (a4 0), .int has]))] :: wSt cI a0 st :: []) (r := st.2.2.2.1.2.2.1) ⟨hx, hb, hml, hown, hts⟩ (KR.eq (kX6_copy l D cI cS qx a0 (a1 0) (a2 0) (a3 0) (a4 0) has (0 : Int32) st) (cp_0 st)) (cwV 1 hts gL_changes_X6_copy rfl rfl rfl (by decide +kernel) ⟨Nat.le_of_ble_eq_true rfl, Nat.le_of_ble_eq_true rfl⟩) hE hP rfl rfl [0, 1] rfl rfl rfl hl.1 rfl (Nat.le_of_ble_eq_true rfl) ⟨Nat.le_of_ble_eq_true rfl, Nat.le_of_ble_eq_true rfl⟩ dL_changes_9 ?_
          refine lv_istore (lv' := [(4, .int st.2.2.2.1.2.2.1), (3, .int ((st.1 k))), (0, .ref qx), (1, .int ((nI k))), (2, .int v)]) hx hb dL_changes_12 hl (by decide) rfl (fun ls hl => ?_)
          refine lv_aload_n hx hb dL_changes_14 rfl (lv_at hl 2 rfl) ?_
          refine lv_iconst (v := (4 : Int32)) hx hb dL_changes_15 (by decide +kernel) ?_
          refine bRV (W0 := wO cI cS qx a0 a1 a2 a3 b3 a4 sn sc has ([]) (st, tr, hi)) (wc := [(qx, .inr (6, [.ref (a0 0), .ref (a1 0), .ref (a2 0), .ref (a3 0), .ref (a4 0), .int has]))] :: wSt cI a0 st :: []) (r := st.2.2.2.1.2.1.2.2.2) ⟨hx, hb, hml, hown, hts⟩ (KR.eq (kX6_copy l D cI cS qx a0 (a1 0) (a2 0) (a3 0) (a4 0) has (4 : Int32) st) (cp_4 h0)) (cwV 1 hts gL_changes_X6_copy rfl rfl rfl (by decide +kernel) ⟨Nat.le_of_ble_eq_true rfl, Nat.le_of_ble_eq_true rfl⟩) hE hP rfl rfl [0, 1] rfl rfl rfl hl.1 rfl (Nat.le_of_ble_eq_true rfl) ⟨Nat.le_of_ble_eq_true rfl, Nat.le_of_ble_eq_true rfl⟩ dL_changes_16 ?_
          refine lv_istore (lv' := [(5, .int st.2.2.2.1.2.1.2.2.2), (4, .int st.2.2.2.1.2.2.1), (3, .int ((st.1 k))), (0, .ref qx), (1, .int ((nI k))), (2, .int v)]) hx hb dL_changes_19 hl (by decide) rfl (fun ls hl => ?_)
          refine lv_aload_n hx hb dL_changes_21 rfl (lv_at hl 3 rfl) ?_
          refine lv_iconst (v := (2 : Int32)) hx hb dL_changes_22 (by decide +kernel) ?_
          refine bRV (W0 := wO cI cS qx a0 a1 a2 a3 b3 a4 sn sc has ([]) (st, tr, hi)) (wc := [(qx, .inr (6, [.ref (a0 0), .ref (a1 0), .ref (a2 0), .ref (a3 0), .ref (a4 0), .int has]))] :: wSt cI a0 st :: []) (r := (st.2.2.2.2.2 2)) ⟨hx, hb, hml, hown, hts⟩ (KR.eq (kX6_total l D cI cS qx a0 (a1 0) (a2 0) (a3 0) (a4 0) has (2 : Int32) st) (tot_i (i := 2) (by omega))) (cwV 1 hts gL_changes_X6_total rfl rfl rfl (by decide +kernel) ⟨Nat.le_of_ble_eq_true rfl, Nat.le_of_ble_eq_true rfl⟩) hE hP rfl rfl [0, 1] rfl rfl rfl hl.1 rfl (Nat.le_of_ble_eq_true rfl) ⟨Nat.le_of_ble_eq_true rfl, Nat.le_of_ble_eq_true rfl⟩ dL_changes_23 ?_
          refine lv_istore (lv' := [(6, .int ((st.2.2.2.2.2 2))), (5, .int st.2.2.2.1.2.1.2.2.2), (4, .int st.2.2.2.1.2.2.1), (3, .int ((st.1 k))), (0, .ref qx), (1, .int ((nI k))), (2, .int v)]) hx hb dL_changes_26 hl (by decide) rfl (fun ls hl => ?_)
          refine lv_iload hx hb dL_changes_28 (lv_at hl 1 rfl) ?_
          refine lv_bipush (v := (24 : Int32)) hx hb dL_changes_30 (by decide +kernel) ?_
          refine lv_icmp_ne (tgt := 47) hx hb dL_changes_32 (by decide) (fun c => absurd hz c) (fun _ => ?_)
          refine lv_iload_n hx hb dL_changes_35 rfl (lv_at hl 6 rfl) ?_
          refine lv_if_ge (tgt := 43) hx hb dL_changes_36 (by decide) (fun _ => ?_) (fun c => absurd hvp c)
          refine lv_iconst (v := (1 : Int32)) hx hb dL_changes_43 (by decide +kernel) ?_
          refine lv_goto (tgt := 48) hx hb dL_changes_44 (by decide) ?_
          refine lv_istore (lv' := [(7, .int ((1 : Int32))), (6, .int ((st.2.2.2.2.2 2))), (5, .int st.2.2.2.1.2.1.2.2.2), (4, .int st.2.2.2.1.2.2.1), (3, .int ((st.1 k))), (0, .ref qx), (1, .int ((nI k))), (2, .int v)]) hx hb dL_changes_48 hl (by decide) rfl (fun ls hl => ?_)
          refine lv_aload_n hx hb dL_changes_50 rfl (lv_at hl 5 rfl) ?_
          refine lv_iconst (v := (3 : Int32)) hx hb dL_changes_51 (by decide +kernel) ?_
          refine bRV (W0 := wO cI cS qx a0 a1 a2 a3 b3 a4 sn sc has ([]) (st, tr, hi)) (wc := [(qx, .inr (6, [.ref (a0 0), .ref (a1 0), .ref (a2 0), .ref (a3 0), .ref (a4 0), .int has]))] :: wSt cI a0 st :: []) (r := (st.2.2.2.2.1 3)) ⟨hx, hb, hml, hown, hts⟩ (KR.eq (kX6_setting l D cI cS qx a0 (a1 0) (a2 0) (a3 0) (a4 0) has (3 : Int32) st) (set_i (i := 3) (by omega))) (cwV 1 hts gL_changes_X6_setting rfl rfl rfl (by decide +kernel) ⟨Nat.le_of_ble_eq_true rfl, Nat.le_of_ble_eq_true rfl⟩) hE hP rfl rfl [0, 1] rfl rfl rfl hl.1 rfl (Nat.le_of_ble_eq_true rfl) ⟨Nat.le_of_ble_eq_true rfl, Nat.le_of_ble_eq_true rfl⟩ dL_changes_52 ?_
          refine lv_iconst (v := (1 : Int32)) hx hb dL_changes_55 (by decide +kernel) ?_
          refine lv_icmp_ne (tgt := 63) hx hb dL_changes_56 (by decide) (fun c_56 => ?_) (fun c_56 => ?_)
          · refine lv_iconst (v := (0 : Int32)) hx hb dL_changes_63 (by decide +kernel) ?_
            refine lv_istore (lv' := [(8, .int ((0 : Int32))), (7, .int ((1 : Int32))), (6, .int ((st.2.2.2.2.2 2))), (5, .int st.2.2.2.1.2.1.2.2.2), (4, .int st.2.2.2.1.2.2.1), (3, .int ((st.1 k))), (0, .ref qx), (1, .int ((nI k))), (2, .int v)]) hx hb dL_changes_64 hl (by decide) rfl (fun ls hl => ?_)
            refine lv_iload_n hx hb dL_changes_66 rfl (lv_at hl 8 rfl) ?_
            refine lv_if_ge (tgt := 78) hx hb dL_changes_67 (by decide) (fun _ => ?_) (fun c => absurd hvp c)
            obtain ⟨u1, eC, hI1, y1, y0, y2⟩ := ch_B hI hk hv h0 h3 hz c_56
            have eR : fX5_putRow (nI k) v st = ((st.1 k), u1) := (put_c hk hvb h3).trans eC
            have eT : fX6_put (nI k) v (st, hi) = ((st.1 k), (u1, hiR hi st (st.1 k))) := by rw [put_eq, eR]
            refine lv_aload_n hx hb dL_changes_78 rfl (lv_at hl 6 rfl) ?_
            refine lv_iload_n hx hb dL_changes_79 rfl (lv_at hl 7 rfl) ?_
            refine lv_iload_n hx hb dL_changes_80 rfl (lv_at hl 8 rfl) ?_
            refine bIV (W0 := wO cI cS qx a0 a1 a2 a3 b3 a4 sn sc has ([]) (st, tr, hi)) (wc := [(qx, .inr (6, [.ref (a0 0), .ref (a1 0), .ref (a2 0), .ref (a3 0), .ref (a4 0), .int has]))] :: wSt cI a0 st :: wHi cI cS a3 b3 hi []) (w1 := fun u : TPT => [(qx, .inr (6, [.ref (a0 0), .ref (a1 0), .ref (a2 0), .ref (a3 0), .ref (a4 0), .int has]))] :: wSt cI a0 u.1 :: wHi cI cS a3 b3 u.2 []) ⟨hx, hb, hml, hown, hts⟩ (kX6_put l D cI cS qx a0 a3 b3 (a1 0) (a2 0) (a4 0) has (nI k) v (st, hi) hI.ws hh) (cwV 2 hts gL_changes_X6_put rfl rfl rfl (by decide +kernel) ⟨Nat.le_of_ble_eq_true rfl, Nat.le_of_ble_eq_true rfl⟩) hE hP hD hS rfl rfl [0, 1, 4, 5, 6, 7, 8, 9, 10, 11] rfl rfl (fun _ => rfl) (fun _ => rfl) rfl hl.1 rfl (Nat.le_of_ble_eq_true rfl) ⟨Nat.le_of_ble_eq_true rfl, Nat.le_of_ble_eq_true rfl⟩ dL_changes_81 (fun r_81 u_81 H locs e_81 hP hD hS => ?_)
            have hP : va_P D vwCl (fl (wO cI cS qx a0 a1 a2 a3 b3 a4 sn sc has ([]) (u_81.1, tr, u_81.2))) H := hP
            have hD : va_D A (fl (wO cI cS qx a0 a1 a2 a3 b3 a4 sn sc has ([]) (u_81.1, tr, u_81.2))) := hD
            rw [eT] at e_81
            cases e_81
            have hP : va_P D vwCl (fl (wO cI cS qx a0 a1 a2 a3 b3 a4 sn sc has ([]) (u1, tr, (hiR hi st (st.1 k))))) H := hP
            have hD : va_D A (fl (wO cI cS qx a0 a1 a2 a3 b3 a4 sn sc has ([]) (u1, tr, (hiR hi st (st.1 k))))) := hD
            refine lv_istore (lv' := [(9, .int ((st.1 k))), (8, .int ((0 : Int32))), (7, .int ((1 : Int32))), (6, .int ((st.2.2.2.2.2 2))), (5, .int st.2.2.2.1.2.1.2.2.2), (4, .int st.2.2.2.1.2.2.1), (3, .int ((st.1 k))), (0, .ref qx), (1, .int ((nI k))), (2, .int v)]) hx hb dL_changes_84 hl (by decide) rfl (fun ls hl => ?_)
            refine lv_iload hx hb dL_changes_86 (lv_at hl 5 rfl) ?_
            refine lv_iconst (v := (3 : Int32)) hx hb dL_changes_88 (by decide +kernel) ?_
            refine lv_icmp_ne (tgt := 115) hx hb dL_changes_89 (by decide) (fun _ => ?_) (fun c => absurd c h3)
            refine lv_iload hx hb dL_changes_115 (lv_at hl 2 rfl) ?_
            refine lv_if_eq (tgt := 158) hx hb dL_changes_117 (by decide) (fun c => absurd c (show ¬ (1 : Int32) = (0 : Int32) by decide)) (fun _ => ?_)
            refine lv_iload hx hb dL_changes_120 (lv_at hl 1 rfl) ?_
            refine lv_if_eq (tgt := 158) hx hb dL_changes_122 (by decide) (fun _ => ?_) (fun c => absurd (show (0 : Int32) = (0 : Int32) by decide) c)
            refine lv_iload hx hb dL_changes_158 (lv_at hl 0 rfl) ?_
            refine lv_iload_n hx hb dL_changes_160 rfl (lv_at hl 6 rfl) ?_
            refine lv_icmp_ne (tgt := 199) hx hb dL_changes_161 (by decide) (fun c => absurd rfl c) (fun _ => ?_)
            refine lv_aload_n hx hb dL_changes_164 rfl (lv_at hl 7 rfl) ?_
            refine lv_iconst (v := (0 : Int32)) hx hb dL_changes_165 (by decide +kernel) ?_
            refine lv_iload_n hx hb dL_changes_166 rfl (lv_at hl 8 rfl) ?_
            refine bRV (W0 := wO cI cS qx a0 a1 a2 a3 b3 a4 sn sc has ([]) (u1, tr, (hiR hi st (st.1 k)))) (wc := [(qx, .inr (6, [.ref (a0 0), .ref (a1 0), .ref (a2 0), .ref (a3 0), .ref (a4 0), .int has]))] :: wSt cI a0 u1 :: []) (r := v) ⟨hx, hb, hml, hown, hts⟩ (KR.eq (kX6_value l D cI cS qx a0 (a1 0) (a2 0) (a3 0) (a4 0) has (0 : Int32) (nI k) u1) ((val_0 hk).trans y1)) (cwV 2 hts gL_changes_X6_value rfl rfl rfl (by decide +kernel) ⟨Nat.le_of_ble_eq_true rfl, Nat.le_of_ble_eq_true rfl⟩) hE hP rfl rfl [0, 1] rfl rfl rfl hl.1 rfl (Nat.le_of_ble_eq_true rfl) ⟨Nat.le_of_ble_eq_true rfl, Nat.le_of_ble_eq_true rfl⟩ dL_changes_167 ?_
            refine lv_iload_n hx hb dL_changes_170 rfl (lv_at hl 9 rfl) ?_
            refine lv_icmp_ne (tgt := 199) hx hb dL_changes_171 (by decide) (fun c => absurd rfl c) (fun _ => ?_)
            refine lv_aload_n hx hb dL_changes_174 rfl (lv_at hl 7 rfl) ?_
            refine lv_iconst (v := (2 : Int32)) hx hb dL_changes_175 (by decide +kernel) ?_
            refine bRV (W0 := wO cI cS qx a0 a1 a2 a3 b3 a4 sn sc has ([]) (u1, tr, (hiR hi st (st.1 k)))) (wc := [(qx, .inr (6, [.ref (a0 0), .ref (a1 0), .ref (a2 0), .ref (a3 0), .ref (a4 0), .int has]))] :: wSt cI a0 u1 :: []) (r := ((st.2.2.2.2.2 2) + (1 : Int32))) ⟨hx, hb, hml, hown, hts⟩ (KR.eq (kX6_total l D cI cS qx a0 (a1 0) (a2 0) (a3 0) (a4 0) has (2 : Int32) u1) ((tot_i (i := 2) (by omega)).trans y2)) (cwV 1 hts gL_changes_X6_total rfl rfl rfl (by decide +kernel) ⟨Nat.le_of_ble_eq_true rfl, Nat.le_of_ble_eq_true rfl⟩) hE hP rfl rfl [0, 1] rfl rfl rfl hl.1 rfl (Nat.le_of_ble_eq_true rfl) ⟨Nat.le_of_ble_eq_true rfl, Nat.le_of_ble_eq_true rfl⟩ dL_changes_176 ?_
            refine lv_iload hx hb dL_changes_179 (lv_at hl 3 rfl) ?_
            refine lv_iload hx hb dL_changes_181 (lv_at hl 2 rfl) ?_
            refine lv_if_eq (tgt := 190) hx hb dL_changes_183 (by decide) (fun c => absurd c (show ¬ (1 : Int32) = (0 : Int32) by decide)) (fun _ => ?_)
            refine lv_iconst (v := (1 : Int32)) hx hb dL_changes_186 (by decide +kernel) ?_
            refine lv_goto (tgt := 191) hx hb dL_changes_187 (by decide) ?_
            refine lv_iadd hx hb dL_changes_191 ?_
            refine lv_icmp_ne (tgt := 199) hx hb dL_changes_192 (by decide) (fun c => absurd rfl c) (fun _ => ?_)
            refine lv_iconst (v := (1 : Int32)) hx hb dL_changes_195 (by decide +kernel) ?_
            refine lv_goto (tgt := 200) hx hb dL_changes_196 (by decide) ?_
            refine lv_istore (lv' := [(10, .int ((1 : Int32))), (9, .int ((st.1 k))), (8, .int ((0 : Int32))), (7, .int ((1 : Int32))), (6, .int ((st.2.2.2.2.2 2))), (5, .int st.2.2.2.1.2.1.2.2.2), (4, .int st.2.2.2.1.2.2.1), (3, .int ((st.1 k))), (0, .ref qx), (1, .int ((nI k))), (2, .int v)]) hx hb dL_changes_200 hl (by decide) rfl (fun ls hl => ?_)
            refine lv_iload hx hb dL_changes_202 (lv_at hl 0 rfl) ?_
            refine lv_if_eq (tgt := 256) hx hb dL_changes_204 (by decide) (fun c => absurd c (show ¬ (1 : Int32) = (0 : Int32) by decide)) (fun _ => ?_)
            refine lv_iload hx hb dL_changes_207 (lv_at hl 6 rfl) ?_
            refine lv_if_eq (tgt := 252) hx hb dL_changes_209 (by decide) (fun c => absurd c h0) (fun _ => ?_)
            refine lv_iload hx hb dL_changes_212 (lv_at hl 3 rfl) ?_
            refine lv_if_eq (tgt := 228) hx hb dL_changes_214 (by decide) (fun c => absurd c (show ¬ (1 : Int32) = (0 : Int32) by decide)) (fun _ => ?_)
            refine lv_aload_n hx hb dL_changes_217 rfl (lv_at hl 8 rfl) ?_
            refine lv_iconst (v := (0 : Int32)) hx hb dL_changes_218 (by decide +kernel) ?_
            refine bRV (W0 := wO cI cS qx a0 a1 a2 a3 b3 a4 sn sc has ([]) (u1, tr, (hiR hi st (st.1 k)))) (wc := [(qx, .inr (6, [.ref (a0 0), .ref (a1 0), .ref (a2 0), .ref (a3 0), .ref (a4 0), .int has]))] :: wSt cI a0 u1 :: []) (r := (0 : Int32)) ⟨hx, hb, hml, hown, hts⟩ (KR.eq (kX6_copy l D cI cS qx a0 (a1 0) (a2 0) (a3 0) (a4 0) has (0 : Int32) u1) ((cp_0 u1).trans y0)) (cwV 1 hts gL_changes_X6_copy rfl rfl rfl (by decide +kernel) ⟨Nat.le_of_ble_eq_true rfl, Nat.le_of_ble_eq_true rfl⟩) hE hP rfl rfl [0, 1] rfl rfl rfl hl.1 rfl (Nat.le_of_ble_eq_true rfl) ⟨Nat.le_of_ble_eq_true rfl, Nat.le_of_ble_eq_true rfl⟩ dL_changes_219 ?_
            refine lv_if_ne (tgt := 256) hx hb dL_changes_222 (by decide) (fun c => absurd (show (0 : Int32) = (0 : Int32) by decide) c) (fun _ => ?_)
            refine lv_goto (tgt := 252) hx hb dL_changes_225 (by decide) ?_
            refine lv_iconst (v := (1 : Int32)) hx hb dL_changes_252 (by decide +kernel) ?_
            refine lv_goto (tgt := 257) hx hb dL_changes_253 (by decide) ?_
            exact hend _ _ _ (u1, (hiR hi st (st.1 k))) _ _ _ _ dL_changes_257 rfl (Nat.le_refl _) (Nat.le_refl _) ⟨rfl, hI1, (hh.rec hbo (st.1 k))⟩ hP hS
          · refine lv_iconst (v := (1 : Int32)) hx hb dL_changes_59 (by decide +kernel) ?_
            refine lv_goto (tgt := 64) hx hb dL_changes_60 (by decide) ?_
            refine lv_istore (lv' := [(8, .int ((1 : Int32))), (7, .int ((1 : Int32))), (6, .int ((st.2.2.2.2.2 2))), (5, .int st.2.2.2.1.2.1.2.2.2), (4, .int st.2.2.2.1.2.2.1), (3, .int ((st.1 k))), (0, .ref qx), (1, .int ((nI k))), (2, .int v)]) hx hb dL_changes_64 hl (by decide) rfl (fun ls hl => ?_)
            refine lv_iload_n hx hb dL_changes_66 rfl (lv_at hl 8 rfl) ?_
            refine lv_if_ge (tgt := 78) hx hb dL_changes_67 (by decide) (fun _ => ?_) (fun c => absurd hvp c)
            have eC := ch_S hI hk hv h0 h3 hz c_56
            have eR : fX5_putRow (nI k) v st = ((-3 : Int32), st) := (put_c hk hvb h3).trans eC
            have eT : fX6_put (nI k) v (st, hi) = ((-3 : Int32), (st, hiR hi st (-3 : Int32))) := by rw [put_eq, eR]
            refine lv_aload_n hx hb dL_changes_78 rfl (lv_at hl 6 rfl) ?_
            refine lv_iload_n hx hb dL_changes_79 rfl (lv_at hl 7 rfl) ?_
            refine lv_iload_n hx hb dL_changes_80 rfl (lv_at hl 8 rfl) ?_
            refine bIV (W0 := wO cI cS qx a0 a1 a2 a3 b3 a4 sn sc has ([]) (st, tr, hi)) (wc := [(qx, .inr (6, [.ref (a0 0), .ref (a1 0), .ref (a2 0), .ref (a3 0), .ref (a4 0), .int has]))] :: wSt cI a0 st :: wHi cI cS a3 b3 hi []) (w1 := fun u : TPT => [(qx, .inr (6, [.ref (a0 0), .ref (a1 0), .ref (a2 0), .ref (a3 0), .ref (a4 0), .int has]))] :: wSt cI a0 u.1 :: wHi cI cS a3 b3 u.2 []) ⟨hx, hb, hml, hown, hts⟩ (kX6_put l D cI cS qx a0 a3 b3 (a1 0) (a2 0) (a4 0) has (nI k) v (st, hi) hI.ws hh) (cwV 2 hts gL_changes_X6_put rfl rfl rfl (by decide +kernel) ⟨Nat.le_of_ble_eq_true rfl, Nat.le_of_ble_eq_true rfl⟩) hE hP hD hS rfl rfl [0, 1, 4, 5, 6, 7, 8, 9, 10, 11] rfl rfl (fun _ => rfl) (fun _ => rfl) rfl hl.1 rfl (Nat.le_of_ble_eq_true rfl) ⟨Nat.le_of_ble_eq_true rfl, Nat.le_of_ble_eq_true rfl⟩ dL_changes_81 (fun r_81 u_81 H locs e_81 hP hD hS => ?_)
            have hP : va_P D vwCl (fl (wO cI cS qx a0 a1 a2 a3 b3 a4 sn sc has ([]) (u_81.1, tr, u_81.2))) H := hP
            have hD : va_D A (fl (wO cI cS qx a0 a1 a2 a3 b3 a4 sn sc has ([]) (u_81.1, tr, u_81.2))) := hD
            rw [eT] at e_81
            cases e_81
            have hP : va_P D vwCl (fl (wO cI cS qx a0 a1 a2 a3 b3 a4 sn sc has ([]) (st, tr, (hiR hi st (-3 : Int32))))) H := hP
            have hD : va_D A (fl (wO cI cS qx a0 a1 a2 a3 b3 a4 sn sc has ([]) (st, tr, (hiR hi st (-3 : Int32))))) := hD
            refine lv_istore (lv' := [(9, .int ((-3 : Int32))), (8, .int ((1 : Int32))), (7, .int ((1 : Int32))), (6, .int ((st.2.2.2.2.2 2))), (5, .int st.2.2.2.1.2.1.2.2.2), (4, .int st.2.2.2.1.2.2.1), (3, .int ((st.1 k))), (0, .ref qx), (1, .int ((nI k))), (2, .int v)]) hx hb dL_changes_84 hl (by decide) rfl (fun ls hl => ?_)
            refine lv_iload hx hb dL_changes_86 (lv_at hl 5 rfl) ?_
            refine lv_iconst (v := (3 : Int32)) hx hb dL_changes_88 (by decide +kernel) ?_
            refine lv_icmp_ne (tgt := 115) hx hb dL_changes_89 (by decide) (fun _ => ?_) (fun c => absurd c h3)
            refine lv_iload hx hb dL_changes_115 (lv_at hl 2 rfl) ?_
            refine lv_if_eq (tgt := 158) hx hb dL_changes_117 (by decide) (fun c => absurd c (show ¬ (1 : Int32) = (0 : Int32) by decide)) (fun _ => ?_)
            refine lv_iload hx hb dL_changes_120 (lv_at hl 1 rfl) ?_
            refine lv_if_eq (tgt := 158) hx hb dL_changes_122 (by decide) (fun c => absurd c (show ¬ (1 : Int32) = (0 : Int32) by decide)) (fun _ => ?_)
            refine lv_iload hx hb dL_changes_125 (lv_at hl 0 rfl) ?_
            refine lv_bipush (v := (-3 : Int32)) hx hb dL_changes_127 (by decide +kernel) ?_
            refine lv_icmp_ne (tgt := 156) hx hb dL_changes_129 (by decide) (fun c => absurd (show (-3 : Int32) = (-3 : Int32) by decide) c) (fun _ => ?_)
            refine lv_aload_n hx hb dL_changes_132 rfl (lv_at hl 7 rfl) ?_
            refine lv_iconst (v := (0 : Int32)) hx hb dL_changes_133 (by decide +kernel) ?_
            refine lv_iload_n hx hb dL_changes_134 rfl (lv_at hl 8 rfl) ?_
            refine bRV (W0 := wO cI cS qx a0 a1 a2 a3 b3 a4 sn sc has ([]) (st, tr, (hiR hi st (-3 : Int32)))) (wc := [(qx, .inr (6, [.ref (a0 0), .ref (a1 0), .ref (a2 0), .ref (a3 0), .ref (a4 0), .int has]))] :: wSt cI a0 st :: []) (r := (st.1 k)) ⟨hx, hb, hml, hown, hts⟩ (KR.eq (kX6_value l D cI cS qx a0 (a1 0) (a2 0) (a3 0) (a4 0) has (0 : Int32) (nI k) st) (val_0 hk)) (cwV 2 hts gL_changes_X6_value rfl rfl rfl (by decide +kernel) ⟨Nat.le_of_ble_eq_true rfl, Nat.le_of_ble_eq_true rfl⟩) hE hP rfl rfl [0, 1] rfl rfl rfl hl.1 rfl (Nat.le_of_ble_eq_true rfl) ⟨Nat.le_of_ble_eq_true rfl, Nat.le_of_ble_eq_true rfl⟩ dL_changes_135 ?_
            refine lv_iload_n hx hb dL_changes_138 rfl (lv_at hl 6 rfl) ?_
            refine lv_icmp_ne (tgt := 156) hx hb dL_changes_139 (by decide) (fun c => absurd rfl c) (fun _ => ?_)
            refine lv_aload_n hx hb dL_changes_142 rfl (lv_at hl 7 rfl) ?_
            refine lv_iconst (v := (4 : Int32)) hx hb dL_changes_143 (by decide +kernel) ?_
            refine bRV (W0 := wO cI cS qx a0 a1 a2 a3 b3 a4 sn sc has ([]) (st, tr, (hiR hi st (-3 : Int32)))) (wc := [(qx, .inr (6, [.ref (a0 0), .ref (a1 0), .ref (a2 0), .ref (a3 0), .ref (a4 0), .int has]))] :: wSt cI a0 st :: []) (r := (24 : Int32)) ⟨hx, hb, hml, hown, hts⟩ (KR.eq (kX6_copy l D cI cS qx a0 (a1 0) (a2 0) (a3 0) (a4 0) has (4 : Int32) st) ((cp_4 h0).trans hz)) (cwV 1 hts gL_changes_X6_copy rfl rfl rfl (by decide +kernel) ⟨Nat.le_of_ble_eq_true rfl, Nat.le_of_ble_eq_true rfl⟩) hE hP rfl rfl [0, 1] rfl rfl rfl hl.1 rfl (Nat.le_of_ble_eq_true rfl) ⟨Nat.le_of_ble_eq_true rfl, Nat.le_of_ble_eq_true rfl⟩ dL_changes_144 ?_
            refine lv_bipush (v := (24 : Int32)) hx hb dL_changes_147 (by decide +kernel) ?_
            refine lv_icmp_ne (tgt := 156) hx hb dL_changes_149 (by decide) (fun c => absurd (show (24 : Int32) = (24 : Int32) by decide) c) (fun _ => ?_)
            refine lv_iconst (v := (1 : Int32)) hx hb dL_changes_152 (by decide +kernel) ?_
            refine lv_goto (tgt := 157) hx hb dL_changes_153 (by decide) ?_
            exact hend _ _ _ (st, (hiR hi st (-3 : Int32))) _ _ _ _ dL_changes_157 rfl (Nat.le_refl _) (Nat.le_refl _) ⟨rfl, hI, (hh.rec hbo (-3 : Int32))⟩ hP hS
      · refine (Decidable.em (v < (0 : Int32))).elim (fun hvn => ?_) (fun hvq => ?_)
        · have hv5 : v = (-5 : Int32) := rw_neg hv hvn
          refine (Decidable.em ((st.1 k) < (0 : Int32))).elim (fun hhn => ?_) (fun hhp => ?_)
          · have hh5 : (st.1 k) = (-5 : Int32) := rw_neg hr hhn
            refine lv_aload_n hx hb dL_changes_0 rfl (lv_at hl 0 rfl) ?_
            refine lv_iconst (v := (0 : Int32)) hx hb dL_changes_1 (by decide +kernel) ?_
            refine lv_iload_n hx hb dL_changes_2 rfl (lv_at hl 1 rfl) ?_
            refine bRV (W0 := wO cI cS qx a0 a1 a2 a3 b3 a4 sn sc has ([]) (st, tr, hi)) (wc := [(qx, .inr (6, [.ref (a0 0), .ref (a1 0), .ref (a2 0), .ref (a3 0), .ref (a4 0), .int has]))] :: wSt cI a0 st :: []) (r := (st.1 k)) ⟨hx, hb, hml, hown, hts⟩ (KR.eq (kX6_value l D cI cS qx a0 (a1 0) (a2 0) (a3 0) (a4 0) has (0 : Int32) (nI k) st) (val_0 hk)) (cwV 2 hts gL_changes_X6_value rfl rfl rfl (by decide +kernel) ⟨Nat.le_of_ble_eq_true rfl, Nat.le_of_ble_eq_true rfl⟩) hE hP rfl rfl [0, 1] rfl rfl rfl hl.1 rfl (Nat.le_of_ble_eq_true rfl) ⟨Nat.le_of_ble_eq_true rfl, Nat.le_of_ble_eq_true rfl⟩ dL_changes_3 ?_
            refine lv_istore_n (lv' := [(3, .int ((st.1 k))), (0, .ref qx), (1, .int ((nI k))), (2, .int v)]) hx hb dL_changes_6 rfl hl (by decide) rfl (fun ls hl => ?_)
            refine lv_aload_n hx hb dL_changes_7 rfl (lv_at hl 1 rfl) ?_
            refine lv_iconst (v := (0 : Int32)) hx hb dL_changes_8 (by decide +kernel) ?_
            refine bRV (W0 := wO cI cS qx a0 a1 a2 a3 b3 a4 sn sc has ([]) (st, tr, hi)) (wc := [(qx, .inr (6, [.ref (a0 0), .ref (a1 0), .ref (a2 0), .ref (a3 0), .ref (a4 0), .int has]))] :: wSt cI a0 st :: []) (r := st.2.2.2.1.2.2.1) ⟨hx, hb, hml, hown, hts⟩ (KR.eq (kX6_copy l D cI cS qx a0 (a1 0) (a2 0) (a3 0) (a4 0) has (0 : Int32) st) (cp_0 st)) (cwV 1 hts gL_changes_X6_copy rfl rfl rfl (by decide +kernel) ⟨Nat.le_of_ble_eq_true rfl, Nat.le_of_ble_eq_true rfl⟩) hE hP rfl rfl [0, 1] rfl rfl rfl hl.1 rfl (Nat.le_of_ble_eq_true rfl) ⟨Nat.le_of_ble_eq_true rfl, Nat.le_of_ble_eq_true rfl⟩ dL_changes_9 ?_
            refine lv_istore (lv' := [(4, .int st.2.2.2.1.2.2.1), (3, .int ((st.1 k))), (0, .ref qx), (1, .int ((nI k))), (2, .int v)]) hx hb dL_changes_12 hl (by decide) rfl (fun ls hl => ?_)
            refine lv_aload_n hx hb dL_changes_14 rfl (lv_at hl 2 rfl) ?_
            refine lv_iconst (v := (4 : Int32)) hx hb dL_changes_15 (by decide +kernel) ?_
            refine bRV (W0 := wO cI cS qx a0 a1 a2 a3 b3 a4 sn sc has ([]) (st, tr, hi)) (wc := [(qx, .inr (6, [.ref (a0 0), .ref (a1 0), .ref (a2 0), .ref (a3 0), .ref (a4 0), .int has]))] :: wSt cI a0 st :: []) (r := st.2.2.2.1.2.1.2.2.2) ⟨hx, hb, hml, hown, hts⟩ (KR.eq (kX6_copy l D cI cS qx a0 (a1 0) (a2 0) (a3 0) (a4 0) has (4 : Int32) st) (cp_4 h0)) (cwV 1 hts gL_changes_X6_copy rfl rfl rfl (by decide +kernel) ⟨Nat.le_of_ble_eq_true rfl, Nat.le_of_ble_eq_true rfl⟩) hE hP rfl rfl [0, 1] rfl rfl rfl hl.1 rfl (Nat.le_of_ble_eq_true rfl) ⟨Nat.le_of_ble_eq_true rfl, Nat.le_of_ble_eq_true rfl⟩ dL_changes_16 ?_
            refine lv_istore (lv' := [(5, .int st.2.2.2.1.2.1.2.2.2), (4, .int st.2.2.2.1.2.2.1), (3, .int ((st.1 k))), (0, .ref qx), (1, .int ((nI k))), (2, .int v)]) hx hb dL_changes_19 hl (by decide) rfl (fun ls hl => ?_)
            refine lv_aload_n hx hb dL_changes_21 rfl (lv_at hl 3 rfl) ?_
            refine lv_iconst (v := (2 : Int32)) hx hb dL_changes_22 (by decide +kernel) ?_
            refine bRV (W0 := wO cI cS qx a0 a1 a2 a3 b3 a4 sn sc has ([]) (st, tr, hi)) (wc := [(qx, .inr (6, [.ref (a0 0), .ref (a1 0), .ref (a2 0), .ref (a3 0), .ref (a4 0), .int has]))] :: wSt cI a0 st :: []) (r := (st.2.2.2.2.2 2)) ⟨hx, hb, hml, hown, hts⟩ (KR.eq (kX6_total l D cI cS qx a0 (a1 0) (a2 0) (a3 0) (a4 0) has (2 : Int32) st) (tot_i (i := 2) (by omega))) (cwV 1 hts gL_changes_X6_total rfl rfl rfl (by decide +kernel) ⟨Nat.le_of_ble_eq_true rfl, Nat.le_of_ble_eq_true rfl⟩) hE hP rfl rfl [0, 1] rfl rfl rfl hl.1 rfl (Nat.le_of_ble_eq_true rfl) ⟨Nat.le_of_ble_eq_true rfl, Nat.le_of_ble_eq_true rfl⟩ dL_changes_23 ?_
            refine lv_istore (lv' := [(6, .int ((st.2.2.2.2.2 2))), (5, .int st.2.2.2.1.2.1.2.2.2), (4, .int st.2.2.2.1.2.2.1), (3, .int ((st.1 k))), (0, .ref qx), (1, .int ((nI k))), (2, .int v)]) hx hb dL_changes_26 hl (by decide) rfl (fun ls hl => ?_)
            refine lv_iload hx hb dL_changes_28 (lv_at hl 1 rfl) ?_
            refine lv_bipush (v := (24 : Int32)) hx hb dL_changes_30 (by decide +kernel) ?_
            refine lv_icmp_ne (tgt := 47) hx hb dL_changes_32 (by decide) (fun _ => ?_) (fun c => absurd c hz)
            refine lv_iconst (v := (0 : Int32)) hx hb dL_changes_47 (by decide +kernel) ?_
            refine lv_istore (lv' := [(7, .int ((0 : Int32))), (6, .int ((st.2.2.2.2.2 2))), (5, .int st.2.2.2.1.2.1.2.2.2), (4, .int st.2.2.2.1.2.2.1), (3, .int ((st.1 k))), (0, .ref qx), (1, .int ((nI k))), (2, .int v)]) hx hb dL_changes_48 hl (by decide) rfl (fun ls hl => ?_)
            refine lv_aload_n hx hb dL_changes_50 rfl (lv_at hl 5 rfl) ?_
            refine lv_iconst (v := (3 : Int32)) hx hb dL_changes_51 (by decide +kernel) ?_
            refine bRV (W0 := wO cI cS qx a0 a1 a2 a3 b3 a4 sn sc has ([]) (st, tr, hi)) (wc := [(qx, .inr (6, [.ref (a0 0), .ref (a1 0), .ref (a2 0), .ref (a3 0), .ref (a4 0), .int has]))] :: wSt cI a0 st :: []) (r := (st.2.2.2.2.1 3)) ⟨hx, hb, hml, hown, hts⟩ (KR.eq (kX6_setting l D cI cS qx a0 (a1 0) (a2 0) (a3 0) (a4 0) has (3 : Int32) st) (set_i (i := 3) (by omega))) (cwV 1 hts gL_changes_X6_setting rfl rfl rfl (by decide +kernel) ⟨Nat.le_of_ble_eq_true rfl, Nat.le_of_ble_eq_true rfl⟩) hE hP rfl rfl [0, 1] rfl rfl rfl hl.1 rfl (Nat.le_of_ble_eq_true rfl) ⟨Nat.le_of_ble_eq_true rfl, Nat.le_of_ble_eq_true rfl⟩ dL_changes_52 ?_
            refine lv_iconst (v := (1 : Int32)) hx hb dL_changes_55 (by decide +kernel) ?_
            refine lv_icmp_ne (tgt := 63) hx hb dL_changes_56 (by decide) (fun c_56 => ?_) (fun c_56 => ?_)
            · refine lv_iconst (v := (0 : Int32)) hx hb dL_changes_63 (by decide +kernel) ?_
              refine lv_istore (lv' := [(8, .int ((0 : Int32))), (7, .int ((0 : Int32))), (6, .int ((st.2.2.2.2.2 2))), (5, .int st.2.2.2.1.2.1.2.2.2), (4, .int st.2.2.2.1.2.2.1), (3, .int ((st.1 k))), (0, .ref qx), (1, .int ((nI k))), (2, .int v)]) hx hb dL_changes_64 hl (by decide) rfl (fun ls hl => ?_)
              refine lv_iload_n hx hb dL_changes_66 rfl (lv_at hl 8 rfl) ?_
              refine lv_if_ge (tgt := 78) hx hb dL_changes_67 (by decide) (fun c => absurd c (Int32.not_le.mpr hvn)) (fun _ => ?_)
              have eR : fX5_eraseRow (nI k) st = ((st.1 k), st) := erase_n hk h3 hh5
              have eT : fX6_erase (nI k) (st, hi) = ((st.1 k), (st, hiR hi st (st.1 k))) := by rw [erase_eq, eR]
              refine lv_aload_n hx hb dL_changes_70 rfl (lv_at hl 6 rfl) ?_
              refine lv_iload_n hx hb dL_changes_71 rfl (lv_at hl 7 rfl) ?_
              refine bIV (W0 := wO cI cS qx a0 a1 a2 a3 b3 a4 sn sc has ([]) (st, tr, hi)) (wc := [(qx, .inr (6, [.ref (a0 0), .ref (a1 0), .ref (a2 0), .ref (a3 0), .ref (a4 0), .int has]))] :: wSt cI a0 st :: wHi cI cS a3 b3 hi []) (w1 := fun u : TPT => [(qx, .inr (6, [.ref (a0 0), .ref (a1 0), .ref (a2 0), .ref (a3 0), .ref (a4 0), .int has]))] :: wSt cI a0 u.1 :: wHi cI cS a3 b3 u.2 []) ⟨hx, hb, hml, hown, hts⟩ (kX6_erase l D cI cS qx a0 a3 b3 (a1 0) (a2 0) (a4 0) has (nI k) (st, hi) hI.ws hh) (cwV 1 hts gL_changes_X6_erase rfl rfl rfl (by decide +kernel) ⟨Nat.le_of_ble_eq_true rfl, Nat.le_of_ble_eq_true rfl⟩) hE hP hD hS rfl rfl [0, 1, 4, 5, 6, 7, 8, 9, 10, 11] rfl rfl (fun _ => rfl) (fun _ => rfl) rfl hl.1 rfl (Nat.le_of_ble_eq_true rfl) ⟨Nat.le_of_ble_eq_true rfl, Nat.le_of_ble_eq_true rfl⟩ dL_changes_72 (fun r_72 u_72 H locs e_72 hP hD hS => ?_)
              have hP : va_P D vwCl (fl (wO cI cS qx a0 a1 a2 a3 b3 a4 sn sc has ([]) (u_72.1, tr, u_72.2))) H := hP
              have hD : va_D A (fl (wO cI cS qx a0 a1 a2 a3 b3 a4 sn sc has ([]) (u_72.1, tr, u_72.2))) := hD
              rw [eT] at e_72
              cases e_72
              have hP : va_P D vwCl (fl (wO cI cS qx a0 a1 a2 a3 b3 a4 sn sc has ([]) (st, tr, (hiR hi st (st.1 k))))) H := hP
              have hD : va_D A (fl (wO cI cS qx a0 a1 a2 a3 b3 a4 sn sc has ([]) (st, tr, (hiR hi st (st.1 k))))) := hD
              refine lv_goto (tgt := 84) hx hb dL_changes_75 (by decide) ?_
              refine lv_istore (lv' := [(9, .int ((st.1 k))), (8, .int ((0 : Int32))), (7, .int ((0 : Int32))), (6, .int ((st.2.2.2.2.2 2))), (5, .int st.2.2.2.1.2.1.2.2.2), (4, .int st.2.2.2.1.2.2.1), (3, .int ((st.1 k))), (0, .ref qx), (1, .int ((nI k))), (2, .int v)]) hx hb dL_changes_84 hl (by decide) rfl (fun ls hl => ?_)
              refine lv_iload hx hb dL_changes_86 (lv_at hl 5 rfl) ?_
              refine lv_iconst (v := (3 : Int32)) hx hb dL_changes_88 (by decide +kernel) ?_
              refine lv_icmp_ne (tgt := 115) hx hb dL_changes_89 (by decide) (fun _ => ?_) (fun c => absurd c h3)
              refine lv_iload hx hb dL_changes_115 (lv_at hl 2 rfl) ?_
              refine lv_if_eq (tgt := 158) hx hb dL_changes_117 (by decide) (fun _ => ?_) (fun c => absurd (show (0 : Int32) = (0 : Int32) by decide) c)
              refine lv_iload hx hb dL_changes_158 (lv_at hl 0 rfl) ?_
              refine lv_iload_n hx hb dL_changes_160 rfl (lv_at hl 6 rfl) ?_
              refine lv_icmp_ne (tgt := 199) hx hb dL_changes_161 (by decide) (fun c => absurd rfl c) (fun _ => ?_)
              refine lv_aload_n hx hb dL_changes_164 rfl (lv_at hl 7 rfl) ?_
              refine lv_iconst (v := (0 : Int32)) hx hb dL_changes_165 (by decide +kernel) ?_
              refine lv_iload_n hx hb dL_changes_166 rfl (lv_at hl 8 rfl) ?_
              refine bRV (W0 := wO cI cS qx a0 a1 a2 a3 b3 a4 sn sc has ([]) (st, tr, (hiR hi st (st.1 k)))) (wc := [(qx, .inr (6, [.ref (a0 0), .ref (a1 0), .ref (a2 0), .ref (a3 0), .ref (a4 0), .int has]))] :: wSt cI a0 st :: []) (r := v) ⟨hx, hb, hml, hown, hts⟩ (KR.eq (kX6_value l D cI cS qx a0 (a1 0) (a2 0) (a3 0) (a4 0) has (0 : Int32) (nI k) st) ((val_0 hk).trans (hh5.trans hv5.symm))) (cwV 2 hts gL_changes_X6_value rfl rfl rfl (by decide +kernel) ⟨Nat.le_of_ble_eq_true rfl, Nat.le_of_ble_eq_true rfl⟩) hE hP rfl rfl [0, 1] rfl rfl rfl hl.1 rfl (Nat.le_of_ble_eq_true rfl) ⟨Nat.le_of_ble_eq_true rfl, Nat.le_of_ble_eq_true rfl⟩ dL_changes_167 ?_
              refine lv_iload_n hx hb dL_changes_170 rfl (lv_at hl 9 rfl) ?_
              refine lv_icmp_ne (tgt := 199) hx hb dL_changes_171 (by decide) (fun c => absurd rfl c) (fun _ => ?_)
              refine lv_aload_n hx hb dL_changes_174 rfl (lv_at hl 7 rfl) ?_
              refine lv_iconst (v := (2 : Int32)) hx hb dL_changes_175 (by decide +kernel) ?_
              refine bRV (W0 := wO cI cS qx a0 a1 a2 a3 b3 a4 sn sc has ([]) (st, tr, (hiR hi st (st.1 k)))) (wc := [(qx, .inr (6, [.ref (a0 0), .ref (a1 0), .ref (a2 0), .ref (a3 0), .ref (a4 0), .int has]))] :: wSt cI a0 st :: []) (r := (st.2.2.2.2.2 2)) ⟨hx, hb, hml, hown, hts⟩ (KR.eq (kX6_total l D cI cS qx a0 (a1 0) (a2 0) (a3 0) (a4 0) has (2 : Int32) st) (tot_i (i := 2) (by omega))) (cwV 1 hts gL_changes_X6_total rfl rfl rfl (by decide +kernel) ⟨Nat.le_of_ble_eq_true rfl, Nat.le_of_ble_eq_true rfl⟩) hE hP rfl rfl [0, 1] rfl rfl rfl hl.1 rfl (Nat.le_of_ble_eq_true rfl) ⟨Nat.le_of_ble_eq_true rfl, Nat.le_of_ble_eq_true rfl⟩ dL_changes_176 ?_
              refine lv_iload hx hb dL_changes_179 (lv_at hl 3 rfl) ?_
              refine lv_iload hx hb dL_changes_181 (lv_at hl 2 rfl) ?_
              refine lv_if_eq (tgt := 190) hx hb dL_changes_183 (by decide) (fun _ => ?_) (fun c => absurd (show (0 : Int32) = (0 : Int32) by decide) c)
              refine lv_iconst (v := (0 : Int32)) hx hb dL_changes_190 (by decide +kernel) ?_
              refine lv_iadd hx hb dL_changes_191 ?_
              refine lv_icmp_ne (tgt := 199) hx hb dL_changes_192 (by decide) (fun c => absurd (i_add0 _).symm c) (fun _ => ?_)
              refine lv_iconst (v := (1 : Int32)) hx hb dL_changes_195 (by decide +kernel) ?_
              refine lv_goto (tgt := 200) hx hb dL_changes_196 (by decide) ?_
              refine lv_istore (lv' := [(10, .int ((1 : Int32))), (9, .int ((st.1 k))), (8, .int ((0 : Int32))), (7, .int ((0 : Int32))), (6, .int ((st.2.2.2.2.2 2))), (5, .int st.2.2.2.1.2.1.2.2.2), (4, .int st.2.2.2.1.2.2.1), (3, .int ((st.1 k))), (0, .ref qx), (1, .int ((nI k))), (2, .int v)]) hx hb dL_changes_200 hl (by decide) rfl (fun ls hl => ?_)
              refine lv_iload hx hb dL_changes_202 (lv_at hl 0 rfl) ?_
              refine lv_if_eq (tgt := 256) hx hb dL_changes_204 (by decide) (fun c => absurd c (show ¬ (1 : Int32) = (0 : Int32) by decide)) (fun _ => ?_)
              refine lv_iload hx hb dL_changes_207 (lv_at hl 6 rfl) ?_
              refine lv_if_eq (tgt := 252) hx hb dL_changes_209 (by decide) (fun c => absurd c h0) (fun _ => ?_)
              refine lv_iload hx hb dL_changes_212 (lv_at hl 3 rfl) ?_
              refine lv_if_eq (tgt := 228) hx hb dL_changes_214 (by decide) (fun _ => ?_) (fun c => absurd (show (0 : Int32) = (0 : Int32) by decide) c)
              refine lv_aload_n hx hb dL_changes_228 rfl (lv_at hl 8 rfl) ?_
              refine lv_iconst (v := (4 : Int32)) hx hb dL_changes_229 (by decide +kernel) ?_
              refine bRV (W0 := wO cI cS qx a0 a1 a2 a3 b3 a4 sn sc has ([]) (st, tr, (hiR hi st (st.1 k)))) (wc := [(qx, .inr (6, [.ref (a0 0), .ref (a1 0), .ref (a2 0), .ref (a3 0), .ref (a4 0), .int has]))] :: wSt cI a0 st :: []) (r := st.2.2.2.1.2.1.2.2.2) ⟨hx, hb, hml, hown, hts⟩ (KR.eq (kX6_copy l D cI cS qx a0 (a1 0) (a2 0) (a3 0) (a4 0) has (4 : Int32) st) (cp_4 h0)) (cwV 1 hts gL_changes_X6_copy rfl rfl rfl (by decide +kernel) ⟨Nat.le_of_ble_eq_true rfl, Nat.le_of_ble_eq_true rfl⟩) hE hP rfl rfl [0, 1] rfl rfl rfl hl.1 rfl (Nat.le_of_ble_eq_true rfl) ⟨Nat.le_of_ble_eq_true rfl, Nat.le_of_ble_eq_true rfl⟩ dL_changes_230 ?_
              refine lv_iload hx hb dL_changes_233 (lv_at hl 5 rfl) ?_
              refine lv_iload_n hx hb dL_changes_235 rfl (lv_at hl 10 rfl) ?_
              refine lv_if_ge (tgt := 243) hx hb dL_changes_236 (by decide) (fun c => absurd c (Int32.not_le.mpr hvn)) (fun _ => ?_)
              refine lv_iload_n hx hb dL_changes_239 rfl (lv_at hl 7 rfl) ?_
              refine lv_if_lt (tgt := 247) hx hb dL_changes_240 (by decide) (fun _ => ?_) (fun c => absurd hhn c)
              refine lv_iconst (v := (0 : Int32)) hx hb dL_changes_247 (by decide +kernel) ?_
              refine lv_iadd hx hb dL_changes_248 ?_
              refine lv_icmp_ne (tgt := 256) hx hb dL_changes_249 (by decide) (fun c => absurd (i_add0 _).symm c) (fun _ => ?_)
              refine lv_iconst (v := (1 : Int32)) hx hb dL_changes_252 (by decide +kernel) ?_
              refine lv_goto (tgt := 257) hx hb dL_changes_253 (by decide) ?_
              exact hend _ _ _ (st, (hiR hi st (st.1 k))) _ _ _ _ dL_changes_257 rfl (Nat.le_refl _) (Nat.le_refl _) ⟨rfl, hI, (hh.rec hbo (st.1 k))⟩ hP hS
            · refine lv_iconst (v := (1 : Int32)) hx hb dL_changes_59 (by decide +kernel) ?_
              refine lv_goto (tgt := 64) hx hb dL_changes_60 (by decide) ?_
              refine lv_istore (lv' := [(8, .int ((1 : Int32))), (7, .int ((0 : Int32))), (6, .int ((st.2.2.2.2.2 2))), (5, .int st.2.2.2.1.2.1.2.2.2), (4, .int st.2.2.2.1.2.2.1), (3, .int ((st.1 k))), (0, .ref qx), (1, .int ((nI k))), (2, .int v)]) hx hb dL_changes_64 hl (by decide) rfl (fun ls hl => ?_)
              refine lv_iload_n hx hb dL_changes_66 rfl (lv_at hl 8 rfl) ?_
              refine lv_if_ge (tgt := 78) hx hb dL_changes_67 (by decide) (fun c => absurd c (Int32.not_le.mpr hvn)) (fun _ => ?_)
              have eR : fX5_eraseRow (nI k) st = ((st.1 k), st) := erase_n hk h3 hh5
              have eT : fX6_erase (nI k) (st, hi) = ((st.1 k), (st, hiR hi st (st.1 k))) := by rw [erase_eq, eR]
              refine lv_aload_n hx hb dL_changes_70 rfl (lv_at hl 6 rfl) ?_
              refine lv_iload_n hx hb dL_changes_71 rfl (lv_at hl 7 rfl) ?_
              refine bIV (W0 := wO cI cS qx a0 a1 a2 a3 b3 a4 sn sc has ([]) (st, tr, hi)) (wc := [(qx, .inr (6, [.ref (a0 0), .ref (a1 0), .ref (a2 0), .ref (a3 0), .ref (a4 0), .int has]))] :: wSt cI a0 st :: wHi cI cS a3 b3 hi []) (w1 := fun u : TPT => [(qx, .inr (6, [.ref (a0 0), .ref (a1 0), .ref (a2 0), .ref (a3 0), .ref (a4 0), .int has]))] :: wSt cI a0 u.1 :: wHi cI cS a3 b3 u.2 []) ⟨hx, hb, hml, hown, hts⟩ (kX6_erase l D cI cS qx a0 a3 b3 (a1 0) (a2 0) (a4 0) has (nI k) (st, hi) hI.ws hh) (cwV 1 hts gL_changes_X6_erase rfl rfl rfl (by decide +kernel) ⟨Nat.le_of_ble_eq_true rfl, Nat.le_of_ble_eq_true rfl⟩) hE hP hD hS rfl rfl [0, 1, 4, 5, 6, 7, 8, 9, 10, 11] rfl rfl (fun _ => rfl) (fun _ => rfl) rfl hl.1 rfl (Nat.le_of_ble_eq_true rfl) ⟨Nat.le_of_ble_eq_true rfl, Nat.le_of_ble_eq_true rfl⟩ dL_changes_72 (fun r_72 u_72 H locs e_72 hP hD hS => ?_)
              have hP : va_P D vwCl (fl (wO cI cS qx a0 a1 a2 a3 b3 a4 sn sc has ([]) (u_72.1, tr, u_72.2))) H := hP
              have hD : va_D A (fl (wO cI cS qx a0 a1 a2 a3 b3 a4 sn sc has ([]) (u_72.1, tr, u_72.2))) := hD
              rw [eT] at e_72
              cases e_72
              have hP : va_P D vwCl (fl (wO cI cS qx a0 a1 a2 a3 b3 a4 sn sc has ([]) (st, tr, (hiR hi st (st.1 k))))) H := hP
              have hD : va_D A (fl (wO cI cS qx a0 a1 a2 a3 b3 a4 sn sc has ([]) (st, tr, (hiR hi st (st.1 k))))) := hD
              refine lv_goto (tgt := 84) hx hb dL_changes_75 (by decide) ?_
              refine lv_istore (lv' := [(9, .int ((st.1 k))), (8, .int ((1 : Int32))), (7, .int ((0 : Int32))), (6, .int ((st.2.2.2.2.2 2))), (5, .int st.2.2.2.1.2.1.2.2.2), (4, .int st.2.2.2.1.2.2.1), (3, .int ((st.1 k))), (0, .ref qx), (1, .int ((nI k))), (2, .int v)]) hx hb dL_changes_84 hl (by decide) rfl (fun ls hl => ?_)
              refine lv_iload hx hb dL_changes_86 (lv_at hl 5 rfl) ?_
              refine lv_iconst (v := (3 : Int32)) hx hb dL_changes_88 (by decide +kernel) ?_
              refine lv_icmp_ne (tgt := 115) hx hb dL_changes_89 (by decide) (fun _ => ?_) (fun c => absurd c h3)
              refine lv_iload hx hb dL_changes_115 (lv_at hl 2 rfl) ?_
              refine lv_if_eq (tgt := 158) hx hb dL_changes_117 (by decide) (fun _ => ?_) (fun c => absurd (show (0 : Int32) = (0 : Int32) by decide) c)
              refine lv_iload hx hb dL_changes_158 (lv_at hl 0 rfl) ?_
              refine lv_iload_n hx hb dL_changes_160 rfl (lv_at hl 6 rfl) ?_
              refine lv_icmp_ne (tgt := 199) hx hb dL_changes_161 (by decide) (fun c => absurd rfl c) (fun _ => ?_)
              refine lv_aload_n hx hb dL_changes_164 rfl (lv_at hl 7 rfl) ?_
              refine lv_iconst (v := (0 : Int32)) hx hb dL_changes_165 (by decide +kernel) ?_
              refine lv_iload_n hx hb dL_changes_166 rfl (lv_at hl 8 rfl) ?_
              refine bRV (W0 := wO cI cS qx a0 a1 a2 a3 b3 a4 sn sc has ([]) (st, tr, (hiR hi st (st.1 k)))) (wc := [(qx, .inr (6, [.ref (a0 0), .ref (a1 0), .ref (a2 0), .ref (a3 0), .ref (a4 0), .int has]))] :: wSt cI a0 st :: []) (r := v) ⟨hx, hb, hml, hown, hts⟩ (KR.eq (kX6_value l D cI cS qx a0 (a1 0) (a2 0) (a3 0) (a4 0) has (0 : Int32) (nI k) st) ((val_0 hk).trans (hh5.trans hv5.symm))) (cwV 2 hts gL_changes_X6_value rfl rfl rfl (by decide +kernel) ⟨Nat.le_of_ble_eq_true rfl, Nat.le_of_ble_eq_true rfl⟩) hE hP rfl rfl [0, 1] rfl rfl rfl hl.1 rfl (Nat.le_of_ble_eq_true rfl) ⟨Nat.le_of_ble_eq_true rfl, Nat.le_of_ble_eq_true rfl⟩ dL_changes_167 ?_
              refine lv_iload_n hx hb dL_changes_170 rfl (lv_at hl 9 rfl) ?_
              refine lv_icmp_ne (tgt := 199) hx hb dL_changes_171 (by decide) (fun c => absurd rfl c) (fun _ => ?_)
              refine lv_aload_n hx hb dL_changes_174 rfl (lv_at hl 7 rfl) ?_
              refine lv_iconst (v := (2 : Int32)) hx hb dL_changes_175 (by decide +kernel) ?_
              refine bRV (W0 := wO cI cS qx a0 a1 a2 a3 b3 a4 sn sc has ([]) (st, tr, (hiR hi st (st.1 k)))) (wc := [(qx, .inr (6, [.ref (a0 0), .ref (a1 0), .ref (a2 0), .ref (a3 0), .ref (a4 0), .int has]))] :: wSt cI a0 st :: []) (r := (st.2.2.2.2.2 2)) ⟨hx, hb, hml, hown, hts⟩ (KR.eq (kX6_total l D cI cS qx a0 (a1 0) (a2 0) (a3 0) (a4 0) has (2 : Int32) st) (tot_i (i := 2) (by omega))) (cwV 1 hts gL_changes_X6_total rfl rfl rfl (by decide +kernel) ⟨Nat.le_of_ble_eq_true rfl, Nat.le_of_ble_eq_true rfl⟩) hE hP rfl rfl [0, 1] rfl rfl rfl hl.1 rfl (Nat.le_of_ble_eq_true rfl) ⟨Nat.le_of_ble_eq_true rfl, Nat.le_of_ble_eq_true rfl⟩ dL_changes_176 ?_
              refine lv_iload hx hb dL_changes_179 (lv_at hl 3 rfl) ?_
              refine lv_iload hx hb dL_changes_181 (lv_at hl 2 rfl) ?_
              refine lv_if_eq (tgt := 190) hx hb dL_changes_183 (by decide) (fun _ => ?_) (fun c => absurd (show (0 : Int32) = (0 : Int32) by decide) c)
              refine lv_iconst (v := (0 : Int32)) hx hb dL_changes_190 (by decide +kernel) ?_
              refine lv_iadd hx hb dL_changes_191 ?_
              refine lv_icmp_ne (tgt := 199) hx hb dL_changes_192 (by decide) (fun c => absurd (i_add0 _).symm c) (fun _ => ?_)
              refine lv_iconst (v := (1 : Int32)) hx hb dL_changes_195 (by decide +kernel) ?_
              refine lv_goto (tgt := 200) hx hb dL_changes_196 (by decide) ?_
              refine lv_istore (lv' := [(10, .int ((1 : Int32))), (9, .int ((st.1 k))), (8, .int ((1 : Int32))), (7, .int ((0 : Int32))), (6, .int ((st.2.2.2.2.2 2))), (5, .int st.2.2.2.1.2.1.2.2.2), (4, .int st.2.2.2.1.2.2.1), (3, .int ((st.1 k))), (0, .ref qx), (1, .int ((nI k))), (2, .int v)]) hx hb dL_changes_200 hl (by decide) rfl (fun ls hl => ?_)
              refine lv_iload hx hb dL_changes_202 (lv_at hl 0 rfl) ?_
              refine lv_if_eq (tgt := 256) hx hb dL_changes_204 (by decide) (fun c => absurd c (show ¬ (1 : Int32) = (0 : Int32) by decide)) (fun _ => ?_)
              refine lv_iload hx hb dL_changes_207 (lv_at hl 6 rfl) ?_
              refine lv_if_eq (tgt := 252) hx hb dL_changes_209 (by decide) (fun c => absurd c h0) (fun _ => ?_)
              refine lv_iload hx hb dL_changes_212 (lv_at hl 3 rfl) ?_
              refine lv_if_eq (tgt := 228) hx hb dL_changes_214 (by decide) (fun _ => ?_) (fun c => absurd (show (0 : Int32) = (0 : Int32) by decide) c)
              refine lv_aload_n hx hb dL_changes_228 rfl (lv_at hl 8 rfl) ?_
              refine lv_iconst (v := (4 : Int32)) hx hb dL_changes_229 (by decide +kernel) ?_
              refine bRV (W0 := wO cI cS qx a0 a1 a2 a3 b3 a4 sn sc has ([]) (st, tr, (hiR hi st (st.1 k)))) (wc := [(qx, .inr (6, [.ref (a0 0), .ref (a1 0), .ref (a2 0), .ref (a3 0), .ref (a4 0), .int has]))] :: wSt cI a0 st :: []) (r := st.2.2.2.1.2.1.2.2.2) ⟨hx, hb, hml, hown, hts⟩ (KR.eq (kX6_copy l D cI cS qx a0 (a1 0) (a2 0) (a3 0) (a4 0) has (4 : Int32) st) (cp_4 h0)) (cwV 1 hts gL_changes_X6_copy rfl rfl rfl (by decide +kernel) ⟨Nat.le_of_ble_eq_true rfl, Nat.le_of_ble_eq_true rfl⟩) hE hP rfl rfl [0, 1] rfl rfl rfl hl.1 rfl (Nat.le_of_ble_eq_true rfl) ⟨Nat.le_of_ble_eq_true rfl, Nat.le_of_ble_eq_true rfl⟩ dL_changes_230 ?_
              refine lv_iload hx hb dL_changes_233 (lv_at hl 5 rfl) ?_
              refine lv_iload_n hx hb dL_changes_235 rfl (lv_at hl 10 rfl) ?_
              refine lv_if_ge (tgt := 243) hx hb dL_changes_236 (by decide) (fun c => absurd c (Int32.not_le.mpr hvn)) (fun _ => ?_)
              refine lv_iload_n hx hb dL_changes_239 rfl (lv_at hl 7 rfl) ?_
              refine lv_if_lt (tgt := 247) hx hb dL_changes_240 (by decide) (fun _ => ?_) (fun c => absurd hhn c)
              refine lv_iconst (v := (0 : Int32)) hx hb dL_changes_247 (by decide +kernel) ?_
              refine lv_iadd hx hb dL_changes_248 ?_
              refine lv_icmp_ne (tgt := 256) hx hb dL_changes_249 (by decide) (fun c => absurd (i_add0 _).symm c) (fun _ => ?_)
              refine lv_iconst (v := (1 : Int32)) hx hb dL_changes_252 (by decide +kernel) ?_
              refine lv_goto (tgt := 257) hx hb dL_changes_253 (by decide) ?_
              exact hend _ _ _ (st, (hiR hi st (st.1 k))) _ _ _ _ dL_changes_257 rfl (Nat.le_refl _) (Nat.le_refl _) ⟨rfl, hI, (hh.rec hbo (st.1 k))⟩ hP hS
          · have hn5 : ¬ (st.1 k) = (-5 : Int32) := fun q => hhp (by rw [q]; decide)
            refine lv_aload_n hx hb dL_changes_0 rfl (lv_at hl 0 rfl) ?_
            refine lv_iconst (v := (0 : Int32)) hx hb dL_changes_1 (by decide +kernel) ?_
            refine lv_iload_n hx hb dL_changes_2 rfl (lv_at hl 1 rfl) ?_
            refine bRV (W0 := wO cI cS qx a0 a1 a2 a3 b3 a4 sn sc has ([]) (st, tr, hi)) (wc := [(qx, .inr (6, [.ref (a0 0), .ref (a1 0), .ref (a2 0), .ref (a3 0), .ref (a4 0), .int has]))] :: wSt cI a0 st :: []) (r := (st.1 k)) ⟨hx, hb, hml, hown, hts⟩ (KR.eq (kX6_value l D cI cS qx a0 (a1 0) (a2 0) (a3 0) (a4 0) has (0 : Int32) (nI k) st) (val_0 hk)) (cwV 2 hts gL_changes_X6_value rfl rfl rfl (by decide +kernel) ⟨Nat.le_of_ble_eq_true rfl, Nat.le_of_ble_eq_true rfl⟩) hE hP rfl rfl [0, 1] rfl rfl rfl hl.1 rfl (Nat.le_of_ble_eq_true rfl) ⟨Nat.le_of_ble_eq_true rfl, Nat.le_of_ble_eq_true rfl⟩ dL_changes_3 ?_
            refine lv_istore_n (lv' := [(3, .int ((st.1 k))), (0, .ref qx), (1, .int ((nI k))), (2, .int v)]) hx hb dL_changes_6 rfl hl (by decide) rfl (fun ls hl => ?_)
            refine lv_aload_n hx hb dL_changes_7 rfl (lv_at hl 1 rfl) ?_
            refine lv_iconst (v := (0 : Int32)) hx hb dL_changes_8 (by decide +kernel) ?_
            refine bRV (W0 := wO cI cS qx a0 a1 a2 a3 b3 a4 sn sc has ([]) (st, tr, hi)) (wc := [(qx, .inr (6, [.ref (a0 0), .ref (a1 0), .ref (a2 0), .ref (a3 0), .ref (a4 0), .int has]))] :: wSt cI a0 st :: []) (r := st.2.2.2.1.2.2.1) ⟨hx, hb, hml, hown, hts⟩ (KR.eq (kX6_copy l D cI cS qx a0 (a1 0) (a2 0) (a3 0) (a4 0) has (0 : Int32) st) (cp_0 st)) (cwV 1 hts gL_changes_X6_copy rfl rfl rfl (by decide +kernel) ⟨Nat.le_of_ble_eq_true rfl, Nat.le_of_ble_eq_true rfl⟩) hE hP rfl rfl [0, 1] rfl rfl rfl hl.1 rfl (Nat.le_of_ble_eq_true rfl) ⟨Nat.le_of_ble_eq_true rfl, Nat.le_of_ble_eq_true rfl⟩ dL_changes_9 ?_
            refine lv_istore (lv' := [(4, .int st.2.2.2.1.2.2.1), (3, .int ((st.1 k))), (0, .ref qx), (1, .int ((nI k))), (2, .int v)]) hx hb dL_changes_12 hl (by decide) rfl (fun ls hl => ?_)
            refine lv_aload_n hx hb dL_changes_14 rfl (lv_at hl 2 rfl) ?_
            refine lv_iconst (v := (4 : Int32)) hx hb dL_changes_15 (by decide +kernel) ?_
            refine bRV (W0 := wO cI cS qx a0 a1 a2 a3 b3 a4 sn sc has ([]) (st, tr, hi)) (wc := [(qx, .inr (6, [.ref (a0 0), .ref (a1 0), .ref (a2 0), .ref (a3 0), .ref (a4 0), .int has]))] :: wSt cI a0 st :: []) (r := st.2.2.2.1.2.1.2.2.2) ⟨hx, hb, hml, hown, hts⟩ (KR.eq (kX6_copy l D cI cS qx a0 (a1 0) (a2 0) (a3 0) (a4 0) has (4 : Int32) st) (cp_4 h0)) (cwV 1 hts gL_changes_X6_copy rfl rfl rfl (by decide +kernel) ⟨Nat.le_of_ble_eq_true rfl, Nat.le_of_ble_eq_true rfl⟩) hE hP rfl rfl [0, 1] rfl rfl rfl hl.1 rfl (Nat.le_of_ble_eq_true rfl) ⟨Nat.le_of_ble_eq_true rfl, Nat.le_of_ble_eq_true rfl⟩ dL_changes_16 ?_
            refine lv_istore (lv' := [(5, .int st.2.2.2.1.2.1.2.2.2), (4, .int st.2.2.2.1.2.2.1), (3, .int ((st.1 k))), (0, .ref qx), (1, .int ((nI k))), (2, .int v)]) hx hb dL_changes_19 hl (by decide) rfl (fun ls hl => ?_)
            refine lv_aload_n hx hb dL_changes_21 rfl (lv_at hl 3 rfl) ?_
            refine lv_iconst (v := (2 : Int32)) hx hb dL_changes_22 (by decide +kernel) ?_
            refine bRV (W0 := wO cI cS qx a0 a1 a2 a3 b3 a4 sn sc has ([]) (st, tr, hi)) (wc := [(qx, .inr (6, [.ref (a0 0), .ref (a1 0), .ref (a2 0), .ref (a3 0), .ref (a4 0), .int has]))] :: wSt cI a0 st :: []) (r := (st.2.2.2.2.2 2)) ⟨hx, hb, hml, hown, hts⟩ (KR.eq (kX6_total l D cI cS qx a0 (a1 0) (a2 0) (a3 0) (a4 0) has (2 : Int32) st) (tot_i (i := 2) (by omega))) (cwV 1 hts gL_changes_X6_total rfl rfl rfl (by decide +kernel) ⟨Nat.le_of_ble_eq_true rfl, Nat.le_of_ble_eq_true rfl⟩) hE hP rfl rfl [0, 1] rfl rfl rfl hl.1 rfl (Nat.le_of_ble_eq_true rfl) ⟨Nat.le_of_ble_eq_true rfl, Nat.le_of_ble_eq_true rfl⟩ dL_changes_23 ?_
            refine lv_istore (lv' := [(6, .int ((st.2.2.2.2.2 2))), (5, .int st.2.2.2.1.2.1.2.2.2), (4, .int st.2.2.2.1.2.2.1), (3, .int ((st.1 k))), (0, .ref qx), (1, .int ((nI k))), (2, .int v)]) hx hb dL_changes_26 hl (by decide) rfl (fun ls hl => ?_)
            refine lv_iload hx hb dL_changes_28 (lv_at hl 1 rfl) ?_
            refine lv_bipush (v := (24 : Int32)) hx hb dL_changes_30 (by decide +kernel) ?_
            refine lv_icmp_ne (tgt := 47) hx hb dL_changes_32 (by decide) (fun _ => ?_) (fun c => absurd c hz)
            refine lv_iconst (v := (0 : Int32)) hx hb dL_changes_47 (by decide +kernel) ?_
            refine lv_istore (lv' := [(7, .int ((0 : Int32))), (6, .int ((st.2.2.2.2.2 2))), (5, .int st.2.2.2.1.2.1.2.2.2), (4, .int st.2.2.2.1.2.2.1), (3, .int ((st.1 k))), (0, .ref qx), (1, .int ((nI k))), (2, .int v)]) hx hb dL_changes_48 hl (by decide) rfl (fun ls hl => ?_)
            refine lv_aload_n hx hb dL_changes_50 rfl (lv_at hl 5 rfl) ?_
            refine lv_iconst (v := (3 : Int32)) hx hb dL_changes_51 (by decide +kernel) ?_
            refine bRV (W0 := wO cI cS qx a0 a1 a2 a3 b3 a4 sn sc has ([]) (st, tr, hi)) (wc := [(qx, .inr (6, [.ref (a0 0), .ref (a1 0), .ref (a2 0), .ref (a3 0), .ref (a4 0), .int has]))] :: wSt cI a0 st :: []) (r := (st.2.2.2.2.1 3)) ⟨hx, hb, hml, hown, hts⟩ (KR.eq (kX6_setting l D cI cS qx a0 (a1 0) (a2 0) (a3 0) (a4 0) has (3 : Int32) st) (set_i (i := 3) (by omega))) (cwV 1 hts gL_changes_X6_setting rfl rfl rfl (by decide +kernel) ⟨Nat.le_of_ble_eq_true rfl, Nat.le_of_ble_eq_true rfl⟩) hE hP rfl rfl [0, 1] rfl rfl rfl hl.1 rfl (Nat.le_of_ble_eq_true rfl) ⟨Nat.le_of_ble_eq_true rfl, Nat.le_of_ble_eq_true rfl⟩ dL_changes_52 ?_
            refine lv_iconst (v := (1 : Int32)) hx hb dL_changes_55 (by decide +kernel) ?_
            refine lv_icmp_ne (tgt := 63) hx hb dL_changes_56 (by decide) (fun c_56 => ?_) (fun c_56 => ?_)
            · refine lv_iconst (v := (0 : Int32)) hx hb dL_changes_63 (by decide +kernel) ?_
              refine lv_istore (lv' := [(8, .int ((0 : Int32))), (7, .int ((0 : Int32))), (6, .int ((st.2.2.2.2.2 2))), (5, .int st.2.2.2.1.2.1.2.2.2), (4, .int st.2.2.2.1.2.2.1), (3, .int ((st.1 k))), (0, .ref qx), (1, .int ((nI k))), (2, .int v)]) hx hb dL_changes_64 hl (by decide) rfl (fun ls hl => ?_)
              refine lv_iload_n hx hb dL_changes_66 rfl (lv_at hl 8 rfl) ?_
              refine lv_if_ge (tgt := 78) hx hb dL_changes_67 (by decide) (fun c => absurd c (Int32.not_le.mpr hvn)) (fun _ => ?_)
              obtain ⟨u1, eC, hI1, y1, y0, y2, yz⟩ := ch_C hI hk hv h0 h3 hz
              have eR : fX5_eraseRow (nI k) st = ((st.1 k), u1) := (erase_c hk h3 hn5 hv5).trans eC
              have eT : fX6_erase (nI k) (st, hi) = ((st.1 k), (u1, hiR hi st (st.1 k))) := by rw [erase_eq, eR]
              refine lv_aload_n hx hb dL_changes_70 rfl (lv_at hl 6 rfl) ?_
              refine lv_iload_n hx hb dL_changes_71 rfl (lv_at hl 7 rfl) ?_
              refine bIV (W0 := wO cI cS qx a0 a1 a2 a3 b3 a4 sn sc has ([]) (st, tr, hi)) (wc := [(qx, .inr (6, [.ref (a0 0), .ref (a1 0), .ref (a2 0), .ref (a3 0), .ref (a4 0), .int has]))] :: wSt cI a0 st :: wHi cI cS a3 b3 hi []) (w1 := fun u : TPT => [(qx, .inr (6, [.ref (a0 0), .ref (a1 0), .ref (a2 0), .ref (a3 0), .ref (a4 0), .int has]))] :: wSt cI a0 u.1 :: wHi cI cS a3 b3 u.2 []) ⟨hx, hb, hml, hown, hts⟩ (kX6_erase l D cI cS qx a0 a3 b3 (a1 0) (a2 0) (a4 0) has (nI k) (st, hi) hI.ws hh) (cwV 1 hts gL_changes_X6_erase rfl rfl rfl (by decide +kernel) ⟨Nat.le_of_ble_eq_true rfl, Nat.le_of_ble_eq_true rfl⟩) hE hP hD hS rfl rfl [0, 1, 4, 5, 6, 7, 8, 9, 10, 11] rfl rfl (fun _ => rfl) (fun _ => rfl) rfl hl.1 rfl (Nat.le_of_ble_eq_true rfl) ⟨Nat.le_of_ble_eq_true rfl, Nat.le_of_ble_eq_true rfl⟩ dL_changes_72 (fun r_72 u_72 H locs e_72 hP hD hS => ?_)
              have hP : va_P D vwCl (fl (wO cI cS qx a0 a1 a2 a3 b3 a4 sn sc has ([]) (u_72.1, tr, u_72.2))) H := hP
              have hD : va_D A (fl (wO cI cS qx a0 a1 a2 a3 b3 a4 sn sc has ([]) (u_72.1, tr, u_72.2))) := hD
              rw [eT] at e_72
              cases e_72
              have hP : va_P D vwCl (fl (wO cI cS qx a0 a1 a2 a3 b3 a4 sn sc has ([]) (u1, tr, (hiR hi st (st.1 k))))) H := hP
              have hD : va_D A (fl (wO cI cS qx a0 a1 a2 a3 b3 a4 sn sc has ([]) (u1, tr, (hiR hi st (st.1 k))))) := hD
              refine lv_goto (tgt := 84) hx hb dL_changes_75 (by decide) ?_
              refine lv_istore (lv' := [(9, .int ((st.1 k))), (8, .int ((0 : Int32))), (7, .int ((0 : Int32))), (6, .int ((st.2.2.2.2.2 2))), (5, .int st.2.2.2.1.2.1.2.2.2), (4, .int st.2.2.2.1.2.2.1), (3, .int ((st.1 k))), (0, .ref qx), (1, .int ((nI k))), (2, .int v)]) hx hb dL_changes_84 hl (by decide) rfl (fun ls hl => ?_)
              refine lv_iload hx hb dL_changes_86 (lv_at hl 5 rfl) ?_
              refine lv_iconst (v := (3 : Int32)) hx hb dL_changes_88 (by decide +kernel) ?_
              refine lv_icmp_ne (tgt := 115) hx hb dL_changes_89 (by decide) (fun _ => ?_) (fun c => absurd c h3)
              refine lv_iload hx hb dL_changes_115 (lv_at hl 2 rfl) ?_
              refine lv_if_eq (tgt := 158) hx hb dL_changes_117 (by decide) (fun _ => ?_) (fun c => absurd (show (0 : Int32) = (0 : Int32) by decide) c)
              refine lv_iload hx hb dL_changes_158 (lv_at hl 0 rfl) ?_
              refine lv_iload_n hx hb dL_changes_160 rfl (lv_at hl 6 rfl) ?_
              refine lv_icmp_ne (tgt := 199) hx hb dL_changes_161 (by decide) (fun c => absurd rfl c) (fun _ => ?_)
              refine lv_aload_n hx hb dL_changes_164 rfl (lv_at hl 7 rfl) ?_
              refine lv_iconst (v := (0 : Int32)) hx hb dL_changes_165 (by decide +kernel) ?_
              refine lv_iload_n hx hb dL_changes_166 rfl (lv_at hl 8 rfl) ?_
              refine bRV (W0 := wO cI cS qx a0 a1 a2 a3 b3 a4 sn sc has ([]) (u1, tr, (hiR hi st (st.1 k)))) (wc := [(qx, .inr (6, [.ref (a0 0), .ref (a1 0), .ref (a2 0), .ref (a3 0), .ref (a4 0), .int has]))] :: wSt cI a0 u1 :: []) (r := v) ⟨hx, hb, hml, hown, hts⟩ (KR.eq (kX6_value l D cI cS qx a0 (a1 0) (a2 0) (a3 0) (a4 0) has (0 : Int32) (nI k) u1) ((val_0 hk).trans y1)) (cwV 2 hts gL_changes_X6_value rfl rfl rfl (by decide +kernel) ⟨Nat.le_of_ble_eq_true rfl, Nat.le_of_ble_eq_true rfl⟩) hE hP rfl rfl [0, 1] rfl rfl rfl hl.1 rfl (Nat.le_of_ble_eq_true rfl) ⟨Nat.le_of_ble_eq_true rfl, Nat.le_of_ble_eq_true rfl⟩ dL_changes_167 ?_
              refine lv_iload_n hx hb dL_changes_170 rfl (lv_at hl 9 rfl) ?_
              refine lv_icmp_ne (tgt := 199) hx hb dL_changes_171 (by decide) (fun c => absurd rfl c) (fun _ => ?_)
              refine lv_aload_n hx hb dL_changes_174 rfl (lv_at hl 7 rfl) ?_
              refine lv_iconst (v := (2 : Int32)) hx hb dL_changes_175 (by decide +kernel) ?_
              refine bRV (W0 := wO cI cS qx a0 a1 a2 a3 b3 a4 sn sc has ([]) (u1, tr, (hiR hi st (st.1 k)))) (wc := [(qx, .inr (6, [.ref (a0 0), .ref (a1 0), .ref (a2 0), .ref (a3 0), .ref (a4 0), .int has]))] :: wSt cI a0 u1 :: []) (r := (st.2.2.2.2.2 2)) ⟨hx, hb, hml, hown, hts⟩ (KR.eq (kX6_total l D cI cS qx a0 (a1 0) (a2 0) (a3 0) (a4 0) has (2 : Int32) u1) ((tot_i (i := 2) (by omega)).trans y2)) (cwV 1 hts gL_changes_X6_total rfl rfl rfl (by decide +kernel) ⟨Nat.le_of_ble_eq_true rfl, Nat.le_of_ble_eq_true rfl⟩) hE hP rfl rfl [0, 1] rfl rfl rfl hl.1 rfl (Nat.le_of_ble_eq_true rfl) ⟨Nat.le_of_ble_eq_true rfl, Nat.le_of_ble_eq_true rfl⟩ dL_changes_176 ?_
              refine lv_iload hx hb dL_changes_179 (lv_at hl 3 rfl) ?_
              refine lv_iload hx hb dL_changes_181 (lv_at hl 2 rfl) ?_
              refine lv_if_eq (tgt := 190) hx hb dL_changes_183 (by decide) (fun _ => ?_) (fun c => absurd (show (0 : Int32) = (0 : Int32) by decide) c)
              refine lv_iconst (v := (0 : Int32)) hx hb dL_changes_190 (by decide +kernel) ?_
              refine lv_iadd hx hb dL_changes_191 ?_
              refine lv_icmp_ne (tgt := 199) hx hb dL_changes_192 (by decide) (fun c => absurd (i_add0 _).symm c) (fun _ => ?_)
              refine lv_iconst (v := (1 : Int32)) hx hb dL_changes_195 (by decide +kernel) ?_
              refine lv_goto (tgt := 200) hx hb dL_changes_196 (by decide) ?_
              refine lv_istore (lv' := [(10, .int ((1 : Int32))), (9, .int ((st.1 k))), (8, .int ((0 : Int32))), (7, .int ((0 : Int32))), (6, .int ((st.2.2.2.2.2 2))), (5, .int st.2.2.2.1.2.1.2.2.2), (4, .int st.2.2.2.1.2.2.1), (3, .int ((st.1 k))), (0, .ref qx), (1, .int ((nI k))), (2, .int v)]) hx hb dL_changes_200 hl (by decide) rfl (fun ls hl => ?_)
              refine lv_iload hx hb dL_changes_202 (lv_at hl 0 rfl) ?_
              refine lv_if_eq (tgt := 256) hx hb dL_changes_204 (by decide) (fun c => absurd c (show ¬ (1 : Int32) = (0 : Int32) by decide)) (fun _ => ?_)
              refine lv_iload hx hb dL_changes_207 (lv_at hl 6 rfl) ?_
              refine lv_if_eq (tgt := 252) hx hb dL_changes_209 (by decide) (fun c => absurd c h0) (fun _ => ?_)
              refine lv_iload hx hb dL_changes_212 (lv_at hl 3 rfl) ?_
              refine lv_if_eq (tgt := 228) hx hb dL_changes_214 (by decide) (fun _ => ?_) (fun c => absurd (show (0 : Int32) = (0 : Int32) by decide) c)
              refine lv_aload_n hx hb dL_changes_228 rfl (lv_at hl 8 rfl) ?_
              refine lv_iconst (v := (4 : Int32)) hx hb dL_changes_229 (by decide +kernel) ?_
              refine bRV (W0 := wO cI cS qx a0 a1 a2 a3 b3 a4 sn sc has ([]) (u1, tr, (hiR hi st (st.1 k)))) (wc := [(qx, .inr (6, [.ref (a0 0), .ref (a1 0), .ref (a2 0), .ref (a3 0), .ref (a4 0), .int has]))] :: wSt cI a0 u1 :: []) (r := (st.2.2.2.1.2.1.2.2.2 + (1 : Int32))) ⟨hx, hb, hml, hown, hts⟩ (KR.eq (kX6_copy l D cI cS qx a0 (a1 0) (a2 0) (a3 0) (a4 0) has (4 : Int32) u1) ((cp_4 (by rw [y0]; exact h0)).trans yz)) (cwV 1 hts gL_changes_X6_copy rfl rfl rfl (by decide +kernel) ⟨Nat.le_of_ble_eq_true rfl, Nat.le_of_ble_eq_true rfl⟩) hE hP rfl rfl [0, 1] rfl rfl rfl hl.1 rfl (Nat.le_of_ble_eq_true rfl) ⟨Nat.le_of_ble_eq_true rfl, Nat.le_of_ble_eq_true rfl⟩ dL_changes_230 ?_
              refine lv_iload hx hb dL_changes_233 (lv_at hl 5 rfl) ?_
              refine lv_iload_n hx hb dL_changes_235 rfl (lv_at hl 10 rfl) ?_
              refine lv_if_ge (tgt := 243) hx hb dL_changes_236 (by decide) (fun c => absurd c (Int32.not_le.mpr hvn)) (fun _ => ?_)
              refine lv_iload_n hx hb dL_changes_239 rfl (lv_at hl 7 rfl) ?_
              refine lv_if_lt (tgt := 247) hx hb dL_changes_240 (by decide) (fun c => absurd c hhp) (fun _ => ?_)
              refine lv_iconst (v := (1 : Int32)) hx hb dL_changes_243 (by decide +kernel) ?_
              refine lv_goto (tgt := 248) hx hb dL_changes_244 (by decide) ?_
              refine lv_iadd hx hb dL_changes_248 ?_
              refine lv_icmp_ne (tgt := 256) hx hb dL_changes_249 (by decide) (fun c => absurd rfl c) (fun _ => ?_)
              refine lv_iconst (v := (1 : Int32)) hx hb dL_changes_252 (by decide +kernel) ?_
              refine lv_goto (tgt := 257) hx hb dL_changes_253 (by decide) ?_
              exact hend _ _ _ (u1, (hiR hi st (st.1 k))) _ _ _ _ dL_changes_257 rfl (Nat.le_refl _) (Nat.le_refl _) ⟨rfl, hI1, (hh.rec hbo (st.1 k))⟩ hP hS
            · refine lv_iconst (v := (1 : Int32)) hx hb dL_changes_59 (by decide +kernel) ?_
              refine lv_goto (tgt := 64) hx hb dL_changes_60 (by decide) ?_
              refine lv_istore (lv' := [(8, .int ((1 : Int32))), (7, .int ((0 : Int32))), (6, .int ((st.2.2.2.2.2 2))), (5, .int st.2.2.2.1.2.1.2.2.2), (4, .int st.2.2.2.1.2.2.1), (3, .int ((st.1 k))), (0, .ref qx), (1, .int ((nI k))), (2, .int v)]) hx hb dL_changes_64 hl (by decide) rfl (fun ls hl => ?_)
              refine lv_iload_n hx hb dL_changes_66 rfl (lv_at hl 8 rfl) ?_
              refine lv_if_ge (tgt := 78) hx hb dL_changes_67 (by decide) (fun c => absurd c (Int32.not_le.mpr hvn)) (fun _ => ?_)
              obtain ⟨u1, eC, hI1, y1, y0, y2, yz⟩ := ch_C hI hk hv h0 h3 hz
              have eR : fX5_eraseRow (nI k) st = ((st.1 k), u1) := (erase_c hk h3 hn5 hv5).trans eC
              have eT : fX6_erase (nI k) (st, hi) = ((st.1 k), (u1, hiR hi st (st.1 k))) := by rw [erase_eq, eR]
              refine lv_aload_n hx hb dL_changes_70 rfl (lv_at hl 6 rfl) ?_
              refine lv_iload_n hx hb dL_changes_71 rfl (lv_at hl 7 rfl) ?_
              refine bIV (W0 := wO cI cS qx a0 a1 a2 a3 b3 a4 sn sc has ([]) (st, tr, hi)) (wc := [(qx, .inr (6, [.ref (a0 0), .ref (a1 0), .ref (a2 0), .ref (a3 0), .ref (a4 0), .int has]))] :: wSt cI a0 st :: wHi cI cS a3 b3 hi []) (w1 := fun u : TPT => [(qx, .inr (6, [.ref (a0 0), .ref (a1 0), .ref (a2 0), .ref (a3 0), .ref (a4 0), .int has]))] :: wSt cI a0 u.1 :: wHi cI cS a3 b3 u.2 []) ⟨hx, hb, hml, hown, hts⟩ (kX6_erase l D cI cS qx a0 a3 b3 (a1 0) (a2 0) (a4 0) has (nI k) (st, hi) hI.ws hh) (cwV 1 hts gL_changes_X6_erase rfl rfl rfl (by decide +kernel) ⟨Nat.le_of_ble_eq_true rfl, Nat.le_of_ble_eq_true rfl⟩) hE hP hD hS rfl rfl [0, 1, 4, 5, 6, 7, 8, 9, 10, 11] rfl rfl (fun _ => rfl) (fun _ => rfl) rfl hl.1 rfl (Nat.le_of_ble_eq_true rfl) ⟨Nat.le_of_ble_eq_true rfl, Nat.le_of_ble_eq_true rfl⟩ dL_changes_72 (fun r_72 u_72 H locs e_72 hP hD hS => ?_)
              have hP : va_P D vwCl (fl (wO cI cS qx a0 a1 a2 a3 b3 a4 sn sc has ([]) (u_72.1, tr, u_72.2))) H := hP
              have hD : va_D A (fl (wO cI cS qx a0 a1 a2 a3 b3 a4 sn sc has ([]) (u_72.1, tr, u_72.2))) := hD
              rw [eT] at e_72
              cases e_72
              have hP : va_P D vwCl (fl (wO cI cS qx a0 a1 a2 a3 b3 a4 sn sc has ([]) (u1, tr, (hiR hi st (st.1 k))))) H := hP
              have hD : va_D A (fl (wO cI cS qx a0 a1 a2 a3 b3 a4 sn sc has ([]) (u1, tr, (hiR hi st (st.1 k))))) := hD
              refine lv_goto (tgt := 84) hx hb dL_changes_75 (by decide) ?_
              refine lv_istore (lv' := [(9, .int ((st.1 k))), (8, .int ((1 : Int32))), (7, .int ((0 : Int32))), (6, .int ((st.2.2.2.2.2 2))), (5, .int st.2.2.2.1.2.1.2.2.2), (4, .int st.2.2.2.1.2.2.1), (3, .int ((st.1 k))), (0, .ref qx), (1, .int ((nI k))), (2, .int v)]) hx hb dL_changes_84 hl (by decide) rfl (fun ls hl => ?_)
              refine lv_iload hx hb dL_changes_86 (lv_at hl 5 rfl) ?_
              refine lv_iconst (v := (3 : Int32)) hx hb dL_changes_88 (by decide +kernel) ?_
              refine lv_icmp_ne (tgt := 115) hx hb dL_changes_89 (by decide) (fun _ => ?_) (fun c => absurd c h3)
              refine lv_iload hx hb dL_changes_115 (lv_at hl 2 rfl) ?_
              refine lv_if_eq (tgt := 158) hx hb dL_changes_117 (by decide) (fun _ => ?_) (fun c => absurd (show (0 : Int32) = (0 : Int32) by decide) c)
              refine lv_iload hx hb dL_changes_158 (lv_at hl 0 rfl) ?_
              refine lv_iload_n hx hb dL_changes_160 rfl (lv_at hl 6 rfl) ?_
              refine lv_icmp_ne (tgt := 199) hx hb dL_changes_161 (by decide) (fun c => absurd rfl c) (fun _ => ?_)
              refine lv_aload_n hx hb dL_changes_164 rfl (lv_at hl 7 rfl) ?_
              refine lv_iconst (v := (0 : Int32)) hx hb dL_changes_165 (by decide +kernel) ?_
              refine lv_iload_n hx hb dL_changes_166 rfl (lv_at hl 8 rfl) ?_
              refine bRV (W0 := wO cI cS qx a0 a1 a2 a3 b3 a4 sn sc has ([]) (u1, tr, (hiR hi st (st.1 k)))) (wc := [(qx, .inr (6, [.ref (a0 0), .ref (a1 0), .ref (a2 0), .ref (a3 0), .ref (a4 0), .int has]))] :: wSt cI a0 u1 :: []) (r := v) ⟨hx, hb, hml, hown, hts⟩ (KR.eq (kX6_value l D cI cS qx a0 (a1 0) (a2 0) (a3 0) (a4 0) has (0 : Int32) (nI k) u1) ((val_0 hk).trans y1)) (cwV 2 hts gL_changes_X6_value rfl rfl rfl (by decide +kernel) ⟨Nat.le_of_ble_eq_true rfl, Nat.le_of_ble_eq_true rfl⟩) hE hP rfl rfl [0, 1] rfl rfl rfl hl.1 rfl (Nat.le_of_ble_eq_true rfl) ⟨Nat.le_of_ble_eq_true rfl, Nat.le_of_ble_eq_true rfl⟩ dL_changes_167 ?_
              refine lv_iload_n hx hb dL_changes_170 rfl (lv_at hl 9 rfl) ?_
              refine lv_icmp_ne (tgt := 199) hx hb dL_changes_171 (by decide) (fun c => absurd rfl c) (fun _ => ?_)
              refine lv_aload_n hx hb dL_changes_174 rfl (lv_at hl 7 rfl) ?_
              refine lv_iconst (v := (2 : Int32)) hx hb dL_changes_175 (by decide +kernel) ?_
              refine bRV (W0 := wO cI cS qx a0 a1 a2 a3 b3 a4 sn sc has ([]) (u1, tr, (hiR hi st (st.1 k)))) (wc := [(qx, .inr (6, [.ref (a0 0), .ref (a1 0), .ref (a2 0), .ref (a3 0), .ref (a4 0), .int has]))] :: wSt cI a0 u1 :: []) (r := (st.2.2.2.2.2 2)) ⟨hx, hb, hml, hown, hts⟩ (KR.eq (kX6_total l D cI cS qx a0 (a1 0) (a2 0) (a3 0) (a4 0) has (2 : Int32) u1) ((tot_i (i := 2) (by omega)).trans y2)) (cwV 1 hts gL_changes_X6_total rfl rfl rfl (by decide +kernel) ⟨Nat.le_of_ble_eq_true rfl, Nat.le_of_ble_eq_true rfl⟩) hE hP rfl rfl [0, 1] rfl rfl rfl hl.1 rfl (Nat.le_of_ble_eq_true rfl) ⟨Nat.le_of_ble_eq_true rfl, Nat.le_of_ble_eq_true rfl⟩ dL_changes_176 ?_
              refine lv_iload hx hb dL_changes_179 (lv_at hl 3 rfl) ?_
              refine lv_iload hx hb dL_changes_181 (lv_at hl 2 rfl) ?_
              refine lv_if_eq (tgt := 190) hx hb dL_changes_183 (by decide) (fun _ => ?_) (fun c => absurd (show (0 : Int32) = (0 : Int32) by decide) c)
              refine lv_iconst (v := (0 : Int32)) hx hb dL_changes_190 (by decide +kernel) ?_
              refine lv_iadd hx hb dL_changes_191 ?_
              refine lv_icmp_ne (tgt := 199) hx hb dL_changes_192 (by decide) (fun c => absurd (i_add0 _).symm c) (fun _ => ?_)
              refine lv_iconst (v := (1 : Int32)) hx hb dL_changes_195 (by decide +kernel) ?_
              refine lv_goto (tgt := 200) hx hb dL_changes_196 (by decide) ?_
              refine lv_istore (lv' := [(10, .int ((1 : Int32))), (9, .int ((st.1 k))), (8, .int ((1 : Int32))), (7, .int ((0 : Int32))), (6, .int ((st.2.2.2.2.2 2))), (5, .int st.2.2.2.1.2.1.2.2.2), (4, .int st.2.2.2.1.2.2.1), (3, .int ((st.1 k))), (0, .ref qx), (1, .int ((nI k))), (2, .int v)]) hx hb dL_changes_200 hl (by decide) rfl (fun ls hl => ?_)
              refine lv_iload hx hb dL_changes_202 (lv_at hl 0 rfl) ?_
              refine lv_if_eq (tgt := 256) hx hb dL_changes_204 (by decide) (fun c => absurd c (show ¬ (1 : Int32) = (0 : Int32) by decide)) (fun _ => ?_)
              refine lv_iload hx hb dL_changes_207 (lv_at hl 6 rfl) ?_
              refine lv_if_eq (tgt := 252) hx hb dL_changes_209 (by decide) (fun c => absurd c h0) (fun _ => ?_)
              refine lv_iload hx hb dL_changes_212 (lv_at hl 3 rfl) ?_
              refine lv_if_eq (tgt := 228) hx hb dL_changes_214 (by decide) (fun _ => ?_) (fun c => absurd (show (0 : Int32) = (0 : Int32) by decide) c)
              refine lv_aload_n hx hb dL_changes_228 rfl (lv_at hl 8 rfl) ?_
              refine lv_iconst (v := (4 : Int32)) hx hb dL_changes_229 (by decide +kernel) ?_
              refine bRV (W0 := wO cI cS qx a0 a1 a2 a3 b3 a4 sn sc has ([]) (u1, tr, (hiR hi st (st.1 k)))) (wc := [(qx, .inr (6, [.ref (a0 0), .ref (a1 0), .ref (a2 0), .ref (a3 0), .ref (a4 0), .int has]))] :: wSt cI a0 u1 :: []) (r := (st.2.2.2.1.2.1.2.2.2 + (1 : Int32))) ⟨hx, hb, hml, hown, hts⟩ (KR.eq (kX6_copy l D cI cS qx a0 (a1 0) (a2 0) (a3 0) (a4 0) has (4 : Int32) u1) ((cp_4 (by rw [y0]; exact h0)).trans yz)) (cwV 1 hts gL_changes_X6_copy rfl rfl rfl (by decide +kernel) ⟨Nat.le_of_ble_eq_true rfl, Nat.le_of_ble_eq_true rfl⟩) hE hP rfl rfl [0, 1] rfl rfl rfl hl.1 rfl (Nat.le_of_ble_eq_true rfl) ⟨Nat.le_of_ble_eq_true rfl, Nat.le_of_ble_eq_true rfl⟩ dL_changes_230 ?_
              refine lv_iload hx hb dL_changes_233 (lv_at hl 5 rfl) ?_
              refine lv_iload_n hx hb dL_changes_235 rfl (lv_at hl 10 rfl) ?_
              refine lv_if_ge (tgt := 243) hx hb dL_changes_236 (by decide) (fun c => absurd c (Int32.not_le.mpr hvn)) (fun _ => ?_)
              refine lv_iload_n hx hb dL_changes_239 rfl (lv_at hl 7 rfl) ?_
              refine lv_if_lt (tgt := 247) hx hb dL_changes_240 (by decide) (fun c => absurd c hhp) (fun _ => ?_)
              refine lv_iconst (v := (1 : Int32)) hx hb dL_changes_243 (by decide +kernel) ?_
              refine lv_goto (tgt := 248) hx hb dL_changes_244 (by decide) ?_
              refine lv_iadd hx hb dL_changes_248 ?_
              refine lv_icmp_ne (tgt := 256) hx hb dL_changes_249 (by decide) (fun c => absurd rfl c) (fun _ => ?_)
              refine lv_iconst (v := (1 : Int32)) hx hb dL_changes_252 (by decide +kernel) ?_
              refine lv_goto (tgt := 257) hx hb dL_changes_253 (by decide) ?_
              exact hend _ _ _ (u1, (hiR hi st (st.1 k))) _ _ _ _ dL_changes_257 rfl (Nat.le_refl _) (Nat.le_refl _) ⟨rfl, hI1, (hh.rec hbo (st.1 k))⟩ hP hS
        · have hvp : (0 : Int32) ≤ v := Int32.not_lt.mp hvq
          have hvb : Bd v 99 := rw_pos hv hvq
          refine lv_aload_n hx hb dL_changes_0 rfl (lv_at hl 0 rfl) ?_
          refine lv_iconst (v := (0 : Int32)) hx hb dL_changes_1 (by decide +kernel) ?_
          refine lv_iload_n hx hb dL_changes_2 rfl (lv_at hl 1 rfl) ?_
          refine bRV (W0 := wO cI cS qx a0 a1 a2 a3 b3 a4 sn sc has ([]) (st, tr, hi)) (wc := [(qx, .inr (6, [.ref (a0 0), .ref (a1 0), .ref (a2 0), .ref (a3 0), .ref (a4 0), .int has]))] :: wSt cI a0 st :: []) (r := (st.1 k)) ⟨hx, hb, hml, hown, hts⟩ (KR.eq (kX6_value l D cI cS qx a0 (a1 0) (a2 0) (a3 0) (a4 0) has (0 : Int32) (nI k) st) (val_0 hk)) (cwV 2 hts gL_changes_X6_value rfl rfl rfl (by decide +kernel) ⟨Nat.le_of_ble_eq_true rfl, Nat.le_of_ble_eq_true rfl⟩) hE hP rfl rfl [0, 1] rfl rfl rfl hl.1 rfl (Nat.le_of_ble_eq_true rfl) ⟨Nat.le_of_ble_eq_true rfl, Nat.le_of_ble_eq_true rfl⟩ dL_changes_3 ?_
          refine lv_istore_n (lv' := [(3, .int ((st.1 k))), (0, .ref qx), (1, .int ((nI k))), (2, .int v)]) hx hb dL_changes_6 rfl hl (by decide) rfl (fun ls hl => ?_)
          refine lv_aload_n hx hb dL_changes_7 rfl (lv_at hl 1 rfl) ?_
          refine lv_iconst (v := (0 : Int32)) hx hb dL_changes_8 (by decide +kernel) ?_
          refine bRV (W0 := wO cI cS qx a0 a1 a2 a3 b3 a4 sn sc has ([]) (st, tr, hi)) (wc := [(qx, .inr (6, [.ref (a0 0), .ref (a1 0), .ref (a2 0), .ref (a3 0), .ref (a4 0), .int has]))] :: wSt cI a0 st :: []) (r := st.2.2.2.1.2.2.1) ⟨hx, hb, hml, hown, hts⟩ (KR.eq (kX6_copy l D cI cS qx a0 (a1 0) (a2 0) (a3 0) (a4 0) has (0 : Int32) st) (cp_0 st)) (cwV 1 hts gL_changes_X6_copy rfl rfl rfl (by decide +kernel) ⟨Nat.le_of_ble_eq_true rfl, Nat.le_of_ble_eq_true rfl⟩) hE hP rfl rfl [0, 1] rfl rfl rfl hl.1 rfl (Nat.le_of_ble_eq_true rfl) ⟨Nat.le_of_ble_eq_true rfl, Nat.le_of_ble_eq_true rfl⟩ dL_changes_9 ?_
          refine lv_istore (lv' := [(4, .int st.2.2.2.1.2.2.1), (3, .int ((st.1 k))), (0, .ref qx), (1, .int ((nI k))), (2, .int v)]) hx hb dL_changes_12 hl (by decide) rfl (fun ls hl => ?_)
          refine lv_aload_n hx hb dL_changes_14 rfl (lv_at hl 2 rfl) ?_
          refine lv_iconst (v := (4 : Int32)) hx hb dL_changes_15 (by decide +kernel) ?_
          refine bRV (W0 := wO cI cS qx a0 a1 a2 a3 b3 a4 sn sc has ([]) (st, tr, hi)) (wc := [(qx, .inr (6, [.ref (a0 0), .ref (a1 0), .ref (a2 0), .ref (a3 0), .ref (a4 0), .int has]))] :: wSt cI a0 st :: []) (r := st.2.2.2.1.2.1.2.2.2) ⟨hx, hb, hml, hown, hts⟩ (KR.eq (kX6_copy l D cI cS qx a0 (a1 0) (a2 0) (a3 0) (a4 0) has (4 : Int32) st) (cp_4 h0)) (cwV 1 hts gL_changes_X6_copy rfl rfl rfl (by decide +kernel) ⟨Nat.le_of_ble_eq_true rfl, Nat.le_of_ble_eq_true rfl⟩) hE hP rfl rfl [0, 1] rfl rfl rfl hl.1 rfl (Nat.le_of_ble_eq_true rfl) ⟨Nat.le_of_ble_eq_true rfl, Nat.le_of_ble_eq_true rfl⟩ dL_changes_16 ?_
          refine lv_istore (lv' := [(5, .int st.2.2.2.1.2.1.2.2.2), (4, .int st.2.2.2.1.2.2.1), (3, .int ((st.1 k))), (0, .ref qx), (1, .int ((nI k))), (2, .int v)]) hx hb dL_changes_19 hl (by decide) rfl (fun ls hl => ?_)
          refine lv_aload_n hx hb dL_changes_21 rfl (lv_at hl 3 rfl) ?_
          refine lv_iconst (v := (2 : Int32)) hx hb dL_changes_22 (by decide +kernel) ?_
          refine bRV (W0 := wO cI cS qx a0 a1 a2 a3 b3 a4 sn sc has ([]) (st, tr, hi)) (wc := [(qx, .inr (6, [.ref (a0 0), .ref (a1 0), .ref (a2 0), .ref (a3 0), .ref (a4 0), .int has]))] :: wSt cI a0 st :: []) (r := (st.2.2.2.2.2 2)) ⟨hx, hb, hml, hown, hts⟩ (KR.eq (kX6_total l D cI cS qx a0 (a1 0) (a2 0) (a3 0) (a4 0) has (2 : Int32) st) (tot_i (i := 2) (by omega))) (cwV 1 hts gL_changes_X6_total rfl rfl rfl (by decide +kernel) ⟨Nat.le_of_ble_eq_true rfl, Nat.le_of_ble_eq_true rfl⟩) hE hP rfl rfl [0, 1] rfl rfl rfl hl.1 rfl (Nat.le_of_ble_eq_true rfl) ⟨Nat.le_of_ble_eq_true rfl, Nat.le_of_ble_eq_true rfl⟩ dL_changes_23 ?_
          refine lv_istore (lv' := [(6, .int ((st.2.2.2.2.2 2))), (5, .int st.2.2.2.1.2.1.2.2.2), (4, .int st.2.2.2.1.2.2.1), (3, .int ((st.1 k))), (0, .ref qx), (1, .int ((nI k))), (2, .int v)]) hx hb dL_changes_26 hl (by decide) rfl (fun ls hl => ?_)
          refine lv_iload hx hb dL_changes_28 (lv_at hl 1 rfl) ?_
          refine lv_bipush (v := (24 : Int32)) hx hb dL_changes_30 (by decide +kernel) ?_
          refine lv_icmp_ne (tgt := 47) hx hb dL_changes_32 (by decide) (fun _ => ?_) (fun c => absurd c hz)
          refine lv_iconst (v := (0 : Int32)) hx hb dL_changes_47 (by decide +kernel) ?_
          refine lv_istore (lv' := [(7, .int ((0 : Int32))), (6, .int ((st.2.2.2.2.2 2))), (5, .int st.2.2.2.1.2.1.2.2.2), (4, .int st.2.2.2.1.2.2.1), (3, .int ((st.1 k))), (0, .ref qx), (1, .int ((nI k))), (2, .int v)]) hx hb dL_changes_48 hl (by decide) rfl (fun ls hl => ?_)
          refine lv_aload_n hx hb dL_changes_50 rfl (lv_at hl 5 rfl) ?_
          refine lv_iconst (v := (3 : Int32)) hx hb dL_changes_51 (by decide +kernel) ?_
          refine bRV (W0 := wO cI cS qx a0 a1 a2 a3 b3 a4 sn sc has ([]) (st, tr, hi)) (wc := [(qx, .inr (6, [.ref (a0 0), .ref (a1 0), .ref (a2 0), .ref (a3 0), .ref (a4 0), .int has]))] :: wSt cI a0 st :: []) (r := (st.2.2.2.2.1 3)) ⟨hx, hb, hml, hown, hts⟩ (KR.eq (kX6_setting l D cI cS qx a0 (a1 0) (a2 0) (a3 0) (a4 0) has (3 : Int32) st) (set_i (i := 3) (by omega))) (cwV 1 hts gL_changes_X6_setting rfl rfl rfl (by decide +kernel) ⟨Nat.le_of_ble_eq_true rfl, Nat.le_of_ble_eq_true rfl⟩) hE hP rfl rfl [0, 1] rfl rfl rfl hl.1 rfl (Nat.le_of_ble_eq_true rfl) ⟨Nat.le_of_ble_eq_true rfl, Nat.le_of_ble_eq_true rfl⟩ dL_changes_52 ?_
          refine lv_iconst (v := (1 : Int32)) hx hb dL_changes_55 (by decide +kernel) ?_
          refine lv_icmp_ne (tgt := 63) hx hb dL_changes_56 (by decide) (fun c_56 => ?_) (fun c_56 => ?_)
          · refine lv_iconst (v := (0 : Int32)) hx hb dL_changes_63 (by decide +kernel) ?_
            refine lv_istore (lv' := [(8, .int ((0 : Int32))), (7, .int ((0 : Int32))), (6, .int ((st.2.2.2.2.2 2))), (5, .int st.2.2.2.1.2.1.2.2.2), (4, .int st.2.2.2.1.2.2.1), (3, .int ((st.1 k))), (0, .ref qx), (1, .int ((nI k))), (2, .int v)]) hx hb dL_changes_64 hl (by decide) rfl (fun ls hl => ?_)
            refine lv_iload_n hx hb dL_changes_66 rfl (lv_at hl 8 rfl) ?_
            refine lv_if_ge (tgt := 78) hx hb dL_changes_67 (by decide) (fun _ => ?_) (fun c => absurd hvp c)
            obtain ⟨u1, eC, hI1, y1, y0, y2, yz⟩ := ch_C hI hk hv h0 h3 hz
            have eR : fX5_putRow (nI k) v st = ((st.1 k), u1) := (put_c hk hvb h3).trans eC
            have eT : fX6_put (nI k) v (st, hi) = ((st.1 k), (u1, hiR hi st (st.1 k))) := by rw [put_eq, eR]
            refine lv_aload_n hx hb dL_changes_78 rfl (lv_at hl 6 rfl) ?_
            refine lv_iload_n hx hb dL_changes_79 rfl (lv_at hl 7 rfl) ?_
            refine lv_iload_n hx hb dL_changes_80 rfl (lv_at hl 8 rfl) ?_
            refine bIV (W0 := wO cI cS qx a0 a1 a2 a3 b3 a4 sn sc has ([]) (st, tr, hi)) (wc := [(qx, .inr (6, [.ref (a0 0), .ref (a1 0), .ref (a2 0), .ref (a3 0), .ref (a4 0), .int has]))] :: wSt cI a0 st :: wHi cI cS a3 b3 hi []) (w1 := fun u : TPT => [(qx, .inr (6, [.ref (a0 0), .ref (a1 0), .ref (a2 0), .ref (a3 0), .ref (a4 0), .int has]))] :: wSt cI a0 u.1 :: wHi cI cS a3 b3 u.2 []) ⟨hx, hb, hml, hown, hts⟩ (kX6_put l D cI cS qx a0 a3 b3 (a1 0) (a2 0) (a4 0) has (nI k) v (st, hi) hI.ws hh) (cwV 2 hts gL_changes_X6_put rfl rfl rfl (by decide +kernel) ⟨Nat.le_of_ble_eq_true rfl, Nat.le_of_ble_eq_true rfl⟩) hE hP hD hS rfl rfl [0, 1, 4, 5, 6, 7, 8, 9, 10, 11] rfl rfl (fun _ => rfl) (fun _ => rfl) rfl hl.1 rfl (Nat.le_of_ble_eq_true rfl) ⟨Nat.le_of_ble_eq_true rfl, Nat.le_of_ble_eq_true rfl⟩ dL_changes_81 (fun r_81 u_81 H locs e_81 hP hD hS => ?_)
            have hP : va_P D vwCl (fl (wO cI cS qx a0 a1 a2 a3 b3 a4 sn sc has ([]) (u_81.1, tr, u_81.2))) H := hP
            have hD : va_D A (fl (wO cI cS qx a0 a1 a2 a3 b3 a4 sn sc has ([]) (u_81.1, tr, u_81.2))) := hD
            rw [eT] at e_81
            cases e_81
            have hP : va_P D vwCl (fl (wO cI cS qx a0 a1 a2 a3 b3 a4 sn sc has ([]) (u1, tr, (hiR hi st (st.1 k))))) H := hP
            have hD : va_D A (fl (wO cI cS qx a0 a1 a2 a3 b3 a4 sn sc has ([]) (u1, tr, (hiR hi st (st.1 k))))) := hD
            refine lv_istore (lv' := [(9, .int ((st.1 k))), (8, .int ((0 : Int32))), (7, .int ((0 : Int32))), (6, .int ((st.2.2.2.2.2 2))), (5, .int st.2.2.2.1.2.1.2.2.2), (4, .int st.2.2.2.1.2.2.1), (3, .int ((st.1 k))), (0, .ref qx), (1, .int ((nI k))), (2, .int v)]) hx hb dL_changes_84 hl (by decide) rfl (fun ls hl => ?_)
            refine lv_iload hx hb dL_changes_86 (lv_at hl 5 rfl) ?_
            refine lv_iconst (v := (3 : Int32)) hx hb dL_changes_88 (by decide +kernel) ?_
            refine lv_icmp_ne (tgt := 115) hx hb dL_changes_89 (by decide) (fun _ => ?_) (fun c => absurd c h3)
            refine lv_iload hx hb dL_changes_115 (lv_at hl 2 rfl) ?_
            refine lv_if_eq (tgt := 158) hx hb dL_changes_117 (by decide) (fun _ => ?_) (fun c => absurd (show (0 : Int32) = (0 : Int32) by decide) c)
            refine lv_iload hx hb dL_changes_158 (lv_at hl 0 rfl) ?_
            refine lv_iload_n hx hb dL_changes_160 rfl (lv_at hl 6 rfl) ?_
            refine lv_icmp_ne (tgt := 199) hx hb dL_changes_161 (by decide) (fun c => absurd rfl c) (fun _ => ?_)
            refine lv_aload_n hx hb dL_changes_164 rfl (lv_at hl 7 rfl) ?_
            refine lv_iconst (v := (0 : Int32)) hx hb dL_changes_165 (by decide +kernel) ?_
            refine lv_iload_n hx hb dL_changes_166 rfl (lv_at hl 8 rfl) ?_
            refine bRV (W0 := wO cI cS qx a0 a1 a2 a3 b3 a4 sn sc has ([]) (u1, tr, (hiR hi st (st.1 k)))) (wc := [(qx, .inr (6, [.ref (a0 0), .ref (a1 0), .ref (a2 0), .ref (a3 0), .ref (a4 0), .int has]))] :: wSt cI a0 u1 :: []) (r := v) ⟨hx, hb, hml, hown, hts⟩ (KR.eq (kX6_value l D cI cS qx a0 (a1 0) (a2 0) (a3 0) (a4 0) has (0 : Int32) (nI k) u1) ((val_0 hk).trans y1)) (cwV 2 hts gL_changes_X6_value rfl rfl rfl (by decide +kernel) ⟨Nat.le_of_ble_eq_true rfl, Nat.le_of_ble_eq_true rfl⟩) hE hP rfl rfl [0, 1] rfl rfl rfl hl.1 rfl (Nat.le_of_ble_eq_true rfl) ⟨Nat.le_of_ble_eq_true rfl, Nat.le_of_ble_eq_true rfl⟩ dL_changes_167 ?_
            refine lv_iload_n hx hb dL_changes_170 rfl (lv_at hl 9 rfl) ?_
            refine lv_icmp_ne (tgt := 199) hx hb dL_changes_171 (by decide) (fun c => absurd rfl c) (fun _ => ?_)
            refine lv_aload_n hx hb dL_changes_174 rfl (lv_at hl 7 rfl) ?_
            refine lv_iconst (v := (2 : Int32)) hx hb dL_changes_175 (by decide +kernel) ?_
            refine bRV (W0 := wO cI cS qx a0 a1 a2 a3 b3 a4 sn sc has ([]) (u1, tr, (hiR hi st (st.1 k)))) (wc := [(qx, .inr (6, [.ref (a0 0), .ref (a1 0), .ref (a2 0), .ref (a3 0), .ref (a4 0), .int has]))] :: wSt cI a0 u1 :: []) (r := (st.2.2.2.2.2 2)) ⟨hx, hb, hml, hown, hts⟩ (KR.eq (kX6_total l D cI cS qx a0 (a1 0) (a2 0) (a3 0) (a4 0) has (2 : Int32) u1) ((tot_i (i := 2) (by omega)).trans y2)) (cwV 1 hts gL_changes_X6_total rfl rfl rfl (by decide +kernel) ⟨Nat.le_of_ble_eq_true rfl, Nat.le_of_ble_eq_true rfl⟩) hE hP rfl rfl [0, 1] rfl rfl rfl hl.1 rfl (Nat.le_of_ble_eq_true rfl) ⟨Nat.le_of_ble_eq_true rfl, Nat.le_of_ble_eq_true rfl⟩ dL_changes_176 ?_
            refine lv_iload hx hb dL_changes_179 (lv_at hl 3 rfl) ?_
            refine lv_iload hx hb dL_changes_181 (lv_at hl 2 rfl) ?_
            refine lv_if_eq (tgt := 190) hx hb dL_changes_183 (by decide) (fun _ => ?_) (fun c => absurd (show (0 : Int32) = (0 : Int32) by decide) c)
            refine lv_iconst (v := (0 : Int32)) hx hb dL_changes_190 (by decide +kernel) ?_
            refine lv_iadd hx hb dL_changes_191 ?_
            refine lv_icmp_ne (tgt := 199) hx hb dL_changes_192 (by decide) (fun c => absurd (i_add0 _).symm c) (fun _ => ?_)
            refine lv_iconst (v := (1 : Int32)) hx hb dL_changes_195 (by decide +kernel) ?_
            refine lv_goto (tgt := 200) hx hb dL_changes_196 (by decide) ?_
            refine lv_istore (lv' := [(10, .int ((1 : Int32))), (9, .int ((st.1 k))), (8, .int ((0 : Int32))), (7, .int ((0 : Int32))), (6, .int ((st.2.2.2.2.2 2))), (5, .int st.2.2.2.1.2.1.2.2.2), (4, .int st.2.2.2.1.2.2.1), (3, .int ((st.1 k))), (0, .ref qx), (1, .int ((nI k))), (2, .int v)]) hx hb dL_changes_200 hl (by decide) rfl (fun ls hl => ?_)
            refine lv_iload hx hb dL_changes_202 (lv_at hl 0 rfl) ?_
            refine lv_if_eq (tgt := 256) hx hb dL_changes_204 (by decide) (fun c => absurd c (show ¬ (1 : Int32) = (0 : Int32) by decide)) (fun _ => ?_)
            refine lv_iload hx hb dL_changes_207 (lv_at hl 6 rfl) ?_
            refine lv_if_eq (tgt := 252) hx hb dL_changes_209 (by decide) (fun c => absurd c h0) (fun _ => ?_)
            refine lv_iload hx hb dL_changes_212 (lv_at hl 3 rfl) ?_
            refine lv_if_eq (tgt := 228) hx hb dL_changes_214 (by decide) (fun _ => ?_) (fun c => absurd (show (0 : Int32) = (0 : Int32) by decide) c)
            refine lv_aload_n hx hb dL_changes_228 rfl (lv_at hl 8 rfl) ?_
            refine lv_iconst (v := (4 : Int32)) hx hb dL_changes_229 (by decide +kernel) ?_
            refine bRV (W0 := wO cI cS qx a0 a1 a2 a3 b3 a4 sn sc has ([]) (u1, tr, (hiR hi st (st.1 k)))) (wc := [(qx, .inr (6, [.ref (a0 0), .ref (a1 0), .ref (a2 0), .ref (a3 0), .ref (a4 0), .int has]))] :: wSt cI a0 u1 :: []) (r := (st.2.2.2.1.2.1.2.2.2 + (1 : Int32))) ⟨hx, hb, hml, hown, hts⟩ (KR.eq (kX6_copy l D cI cS qx a0 (a1 0) (a2 0) (a3 0) (a4 0) has (4 : Int32) u1) ((cp_4 (by rw [y0]; exact h0)).trans yz)) (cwV 1 hts gL_changes_X6_copy rfl rfl rfl (by decide +kernel) ⟨Nat.le_of_ble_eq_true rfl, Nat.le_of_ble_eq_true rfl⟩) hE hP rfl rfl [0, 1] rfl rfl rfl hl.1 rfl (Nat.le_of_ble_eq_true rfl) ⟨Nat.le_of_ble_eq_true rfl, Nat.le_of_ble_eq_true rfl⟩ dL_changes_230 ?_
            refine lv_iload hx hb dL_changes_233 (lv_at hl 5 rfl) ?_
            refine lv_iload_n hx hb dL_changes_235 rfl (lv_at hl 10 rfl) ?_
            refine lv_if_ge (tgt := 243) hx hb dL_changes_236 (by decide) (fun _ => ?_) (fun c => absurd hvp c)
            refine lv_iconst (v := (1 : Int32)) hx hb dL_changes_243 (by decide +kernel) ?_
            refine lv_goto (tgt := 248) hx hb dL_changes_244 (by decide) ?_
            refine lv_iadd hx hb dL_changes_248 ?_
            refine lv_icmp_ne (tgt := 256) hx hb dL_changes_249 (by decide) (fun c => absurd rfl c) (fun _ => ?_)
            refine lv_iconst (v := (1 : Int32)) hx hb dL_changes_252 (by decide +kernel) ?_
            refine lv_goto (tgt := 257) hx hb dL_changes_253 (by decide) ?_
            exact hend _ _ _ (u1, (hiR hi st (st.1 k))) _ _ _ _ dL_changes_257 rfl (Nat.le_refl _) (Nat.le_refl _) ⟨rfl, hI1, (hh.rec hbo (st.1 k))⟩ hP hS
          · refine lv_iconst (v := (1 : Int32)) hx hb dL_changes_59 (by decide +kernel) ?_
            refine lv_goto (tgt := 64) hx hb dL_changes_60 (by decide) ?_
            refine lv_istore (lv' := [(8, .int ((1 : Int32))), (7, .int ((0 : Int32))), (6, .int ((st.2.2.2.2.2 2))), (5, .int st.2.2.2.1.2.1.2.2.2), (4, .int st.2.2.2.1.2.2.1), (3, .int ((st.1 k))), (0, .ref qx), (1, .int ((nI k))), (2, .int v)]) hx hb dL_changes_64 hl (by decide) rfl (fun ls hl => ?_)
            refine lv_iload_n hx hb dL_changes_66 rfl (lv_at hl 8 rfl) ?_
            refine lv_if_ge (tgt := 78) hx hb dL_changes_67 (by decide) (fun _ => ?_) (fun c => absurd hvp c)
            obtain ⟨u1, eC, hI1, y1, y0, y2, yz⟩ := ch_C hI hk hv h0 h3 hz
            have eR : fX5_putRow (nI k) v st = ((st.1 k), u1) := (put_c hk hvb h3).trans eC
            have eT : fX6_put (nI k) v (st, hi) = ((st.1 k), (u1, hiR hi st (st.1 k))) := by rw [put_eq, eR]
            refine lv_aload_n hx hb dL_changes_78 rfl (lv_at hl 6 rfl) ?_
            refine lv_iload_n hx hb dL_changes_79 rfl (lv_at hl 7 rfl) ?_
            refine lv_iload_n hx hb dL_changes_80 rfl (lv_at hl 8 rfl) ?_
            refine bIV (W0 := wO cI cS qx a0 a1 a2 a3 b3 a4 sn sc has ([]) (st, tr, hi)) (wc := [(qx, .inr (6, [.ref (a0 0), .ref (a1 0), .ref (a2 0), .ref (a3 0), .ref (a4 0), .int has]))] :: wSt cI a0 st :: wHi cI cS a3 b3 hi []) (w1 := fun u : TPT => [(qx, .inr (6, [.ref (a0 0), .ref (a1 0), .ref (a2 0), .ref (a3 0), .ref (a4 0), .int has]))] :: wSt cI a0 u.1 :: wHi cI cS a3 b3 u.2 []) ⟨hx, hb, hml, hown, hts⟩ (kX6_put l D cI cS qx a0 a3 b3 (a1 0) (a2 0) (a4 0) has (nI k) v (st, hi) hI.ws hh) (cwV 2 hts gL_changes_X6_put rfl rfl rfl (by decide +kernel) ⟨Nat.le_of_ble_eq_true rfl, Nat.le_of_ble_eq_true rfl⟩) hE hP hD hS rfl rfl [0, 1, 4, 5, 6, 7, 8, 9, 10, 11] rfl rfl (fun _ => rfl) (fun _ => rfl) rfl hl.1 rfl (Nat.le_of_ble_eq_true rfl) ⟨Nat.le_of_ble_eq_true rfl, Nat.le_of_ble_eq_true rfl⟩ dL_changes_81 (fun r_81 u_81 H locs e_81 hP hD hS => ?_)
            have hP : va_P D vwCl (fl (wO cI cS qx a0 a1 a2 a3 b3 a4 sn sc has ([]) (u_81.1, tr, u_81.2))) H := hP
            have hD : va_D A (fl (wO cI cS qx a0 a1 a2 a3 b3 a4 sn sc has ([]) (u_81.1, tr, u_81.2))) := hD
            rw [eT] at e_81
            cases e_81
            have hP : va_P D vwCl (fl (wO cI cS qx a0 a1 a2 a3 b3 a4 sn sc has ([]) (u1, tr, (hiR hi st (st.1 k))))) H := hP
            have hD : va_D A (fl (wO cI cS qx a0 a1 a2 a3 b3 a4 sn sc has ([]) (u1, tr, (hiR hi st (st.1 k))))) := hD
            refine lv_istore (lv' := [(9, .int ((st.1 k))), (8, .int ((1 : Int32))), (7, .int ((0 : Int32))), (6, .int ((st.2.2.2.2.2 2))), (5, .int st.2.2.2.1.2.1.2.2.2), (4, .int st.2.2.2.1.2.2.1), (3, .int ((st.1 k))), (0, .ref qx), (1, .int ((nI k))), (2, .int v)]) hx hb dL_changes_84 hl (by decide) rfl (fun ls hl => ?_)
            refine lv_iload hx hb dL_changes_86 (lv_at hl 5 rfl) ?_
            refine lv_iconst (v := (3 : Int32)) hx hb dL_changes_88 (by decide +kernel) ?_
            refine lv_icmp_ne (tgt := 115) hx hb dL_changes_89 (by decide) (fun _ => ?_) (fun c => absurd c h3)
            refine lv_iload hx hb dL_changes_115 (lv_at hl 2 rfl) ?_
            refine lv_if_eq (tgt := 158) hx hb dL_changes_117 (by decide) (fun _ => ?_) (fun c => absurd (show (0 : Int32) = (0 : Int32) by decide) c)
            refine lv_iload hx hb dL_changes_158 (lv_at hl 0 rfl) ?_
            refine lv_iload_n hx hb dL_changes_160 rfl (lv_at hl 6 rfl) ?_
            refine lv_icmp_ne (tgt := 199) hx hb dL_changes_161 (by decide) (fun c => absurd rfl c) (fun _ => ?_)
            refine lv_aload_n hx hb dL_changes_164 rfl (lv_at hl 7 rfl) ?_
            refine lv_iconst (v := (0 : Int32)) hx hb dL_changes_165 (by decide +kernel) ?_
            refine lv_iload_n hx hb dL_changes_166 rfl (lv_at hl 8 rfl) ?_
            refine bRV (W0 := wO cI cS qx a0 a1 a2 a3 b3 a4 sn sc has ([]) (u1, tr, (hiR hi st (st.1 k)))) (wc := [(qx, .inr (6, [.ref (a0 0), .ref (a1 0), .ref (a2 0), .ref (a3 0), .ref (a4 0), .int has]))] :: wSt cI a0 u1 :: []) (r := v) ⟨hx, hb, hml, hown, hts⟩ (KR.eq (kX6_value l D cI cS qx a0 (a1 0) (a2 0) (a3 0) (a4 0) has (0 : Int32) (nI k) u1) ((val_0 hk).trans y1)) (cwV 2 hts gL_changes_X6_value rfl rfl rfl (by decide +kernel) ⟨Nat.le_of_ble_eq_true rfl, Nat.le_of_ble_eq_true rfl⟩) hE hP rfl rfl [0, 1] rfl rfl rfl hl.1 rfl (Nat.le_of_ble_eq_true rfl) ⟨Nat.le_of_ble_eq_true rfl, Nat.le_of_ble_eq_true rfl⟩ dL_changes_167 ?_
            refine lv_iload_n hx hb dL_changes_170 rfl (lv_at hl 9 rfl) ?_
            refine lv_icmp_ne (tgt := 199) hx hb dL_changes_171 (by decide) (fun c => absurd rfl c) (fun _ => ?_)
            refine lv_aload_n hx hb dL_changes_174 rfl (lv_at hl 7 rfl) ?_
            refine lv_iconst (v := (2 : Int32)) hx hb dL_changes_175 (by decide +kernel) ?_
            refine bRV (W0 := wO cI cS qx a0 a1 a2 a3 b3 a4 sn sc has ([]) (u1, tr, (hiR hi st (st.1 k)))) (wc := [(qx, .inr (6, [.ref (a0 0), .ref (a1 0), .ref (a2 0), .ref (a3 0), .ref (a4 0), .int has]))] :: wSt cI a0 u1 :: []) (r := (st.2.2.2.2.2 2)) ⟨hx, hb, hml, hown, hts⟩ (KR.eq (kX6_total l D cI cS qx a0 (a1 0) (a2 0) (a3 0) (a4 0) has (2 : Int32) u1) ((tot_i (i := 2) (by omega)).trans y2)) (cwV 1 hts gL_changes_X6_total rfl rfl rfl (by decide +kernel) ⟨Nat.le_of_ble_eq_true rfl, Nat.le_of_ble_eq_true rfl⟩) hE hP rfl rfl [0, 1] rfl rfl rfl hl.1 rfl (Nat.le_of_ble_eq_true rfl) ⟨Nat.le_of_ble_eq_true rfl, Nat.le_of_ble_eq_true rfl⟩ dL_changes_176 ?_
            refine lv_iload hx hb dL_changes_179 (lv_at hl 3 rfl) ?_
            refine lv_iload hx hb dL_changes_181 (lv_at hl 2 rfl) ?_
            refine lv_if_eq (tgt := 190) hx hb dL_changes_183 (by decide) (fun _ => ?_) (fun c => absurd (show (0 : Int32) = (0 : Int32) by decide) c)
            refine lv_iconst (v := (0 : Int32)) hx hb dL_changes_190 (by decide +kernel) ?_
            refine lv_iadd hx hb dL_changes_191 ?_
            refine lv_icmp_ne (tgt := 199) hx hb dL_changes_192 (by decide) (fun c => absurd (i_add0 _).symm c) (fun _ => ?_)
            refine lv_iconst (v := (1 : Int32)) hx hb dL_changes_195 (by decide +kernel) ?_
            refine lv_goto (tgt := 200) hx hb dL_changes_196 (by decide) ?_
            refine lv_istore (lv' := [(10, .int ((1 : Int32))), (9, .int ((st.1 k))), (8, .int ((1 : Int32))), (7, .int ((0 : Int32))), (6, .int ((st.2.2.2.2.2 2))), (5, .int st.2.2.2.1.2.1.2.2.2), (4, .int st.2.2.2.1.2.2.1), (3, .int ((st.1 k))), (0, .ref qx), (1, .int ((nI k))), (2, .int v)]) hx hb dL_changes_200 hl (by decide) rfl (fun ls hl => ?_)
            refine lv_iload hx hb dL_changes_202 (lv_at hl 0 rfl) ?_
            refine lv_if_eq (tgt := 256) hx hb dL_changes_204 (by decide) (fun c => absurd c (show ¬ (1 : Int32) = (0 : Int32) by decide)) (fun _ => ?_)
            refine lv_iload hx hb dL_changes_207 (lv_at hl 6 rfl) ?_
            refine lv_if_eq (tgt := 252) hx hb dL_changes_209 (by decide) (fun c => absurd c h0) (fun _ => ?_)
            refine lv_iload hx hb dL_changes_212 (lv_at hl 3 rfl) ?_
            refine lv_if_eq (tgt := 228) hx hb dL_changes_214 (by decide) (fun _ => ?_) (fun c => absurd (show (0 : Int32) = (0 : Int32) by decide) c)
            refine lv_aload_n hx hb dL_changes_228 rfl (lv_at hl 8 rfl) ?_
            refine lv_iconst (v := (4 : Int32)) hx hb dL_changes_229 (by decide +kernel) ?_
            refine bRV (W0 := wO cI cS qx a0 a1 a2 a3 b3 a4 sn sc has ([]) (u1, tr, (hiR hi st (st.1 k)))) (wc := [(qx, .inr (6, [.ref (a0 0), .ref (a1 0), .ref (a2 0), .ref (a3 0), .ref (a4 0), .int has]))] :: wSt cI a0 u1 :: []) (r := (st.2.2.2.1.2.1.2.2.2 + (1 : Int32))) ⟨hx, hb, hml, hown, hts⟩ (KR.eq (kX6_copy l D cI cS qx a0 (a1 0) (a2 0) (a3 0) (a4 0) has (4 : Int32) u1) ((cp_4 (by rw [y0]; exact h0)).trans yz)) (cwV 1 hts gL_changes_X6_copy rfl rfl rfl (by decide +kernel) ⟨Nat.le_of_ble_eq_true rfl, Nat.le_of_ble_eq_true rfl⟩) hE hP rfl rfl [0, 1] rfl rfl rfl hl.1 rfl (Nat.le_of_ble_eq_true rfl) ⟨Nat.le_of_ble_eq_true rfl, Nat.le_of_ble_eq_true rfl⟩ dL_changes_230 ?_
            refine lv_iload hx hb dL_changes_233 (lv_at hl 5 rfl) ?_
            refine lv_iload_n hx hb dL_changes_235 rfl (lv_at hl 10 rfl) ?_
            refine lv_if_ge (tgt := 243) hx hb dL_changes_236 (by decide) (fun _ => ?_) (fun c => absurd hvp c)
            refine lv_iconst (v := (1 : Int32)) hx hb dL_changes_243 (by decide +kernel) ?_
            refine lv_goto (tgt := 248) hx hb dL_changes_244 (by decide) ?_
            refine lv_iadd hx hb dL_changes_248 ?_
            refine lv_icmp_ne (tgt := 256) hx hb dL_changes_249 (by decide) (fun c => absurd rfl c) (fun _ => ?_)
            refine lv_iconst (v := (1 : Int32)) hx hb dL_changes_252 (by decide +kernel) ?_
            refine lv_goto (tgt := 257) hx hb dL_changes_253 (by decide) ?_
            exact hend _ _ _ (u1, (hiR hi st (st.1 k))) _ _ _ _ dL_changes_257 rfl (Nat.le_refl _) (Nat.le_refl _) ⟨rfl, hI1, (hh.rec hbo (st.1 k))⟩ hP hS
