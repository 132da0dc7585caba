theorem WH.act {hi : HiT} {τ : StT} (h : WH hi) (hb : BL τ.2.2.1) : WH (hiA hi τ) := by
  have hk := keep_b (s := (fX1_prepare hi τ).2) h.1 h.2.1
  exact ⟨hk.1, hk.2, h.prep hb⟩
theorem tk7_i {τ : StT} {i : Nat} (h : i ≠ 7) : (tk7 τ).2.2.2.2.2 i = τ.2.2.2.2.2 i := (pk_un h : upd τ.2.2.2.2.2 7 (τ.2.2.2.2.2 7 + (1 : Int32)) i = _)
theorem to3_n {e : Nat} {τ : StT} (h : IV e τ) (he : e < 1000) : ¬ τ.2.2.2.2.2 3 + (1 : Int32) ≤ τ.2.2.2.2.2 3 := by
  obtain ⟨b, b1, b2⟩ := h.1.2.2.2.2.2.2.2.2.2.2.2
  rw [b2, nI_1]
  exact nI_ge (by omega) (by omega)
theorem bd_leq {x y : Int32} {N : Nat} (hx : Bd x N) (hy : Bd y N) (hN : N < 2 ^ 31) (h : x.toNatClampNeg ≤ y.toNatClampNeg) : x ≤ y := by
  rw [hx.1, hy.1]
  have := hy.2
  exact nI_le h (by omega)
theorem bd_np {x : Int32} {N : Nat} (hx : Bd x N) (hN : N < 2 ^ 31) (h : ¬ x = (0 : Int32)) : ¬ x ≤ (0 : Int32) := by
  obtain ⟨j, hj, rfl⟩ := hx.num
  exact nI_nle (Nat.pos_of_ne_zero (fun q => h (by rw [q]; rfl))) (by omega)
theorem i_sub0 (x : Int32) : x - (0 : Int32) = x := Int32.sub_zero x
set_option maxHeartbeats 8000000 in
set_option maxRecDepth 100000 in
theorem kL_ticks (l : Launch) (D : va_G) (cI cS : ClassId) (qx : Nat) (a0 a1 a2 a3 : Nat → Nat) (b3 : Nat → Nat → Nat) (a4 : Nat → Nat) (sn : StT) (sc : ScT) (has : Int32) {e0 : Nat} (st tr : StT) (hi : HiT) (hI : IV e0 st) (hh : WH hi) (he : e0 < 900) (t : Nat) (ht1 : 1 ≤ t) (ht : t ≤ 9) : KQ l yL_ticks wsL_ticks { frames := 6, cells := 0, slots := 0, locals := 130 } D (tysA cI cS) [.ref qx, .int (nI t)] (fl (wO cI cS qx a0 a1 a2 a3 b3 a4 sn sc has [] (st, tr, hi))) 0 0 (fun (v : Int32) (u : TPT) => v = (1 : Int32) ∧ IV (e0 + 9) u.1 ∧ WH u.2) (fun u => fl (wO cI cS qx a0 a1 a2 a3 b3 a4 sn sc has [] (u.1, tr, u.2))) := by
  refine KQ.of (cc := cL_ticks) (maxL := 12) (ty := .boolean) (by decide) rfl (Nat.le_of_ble_eq_true rfl) rfl (fun p e s m args below meth c ls Q A hx hb hml hown hts hE hP hD hA hS hX hl hend => ?_)
  have hown : s.vm.findClass RL = some m.cls := hown
  have hl : lv_has ls 12 [(0, .ref qx), (1, .int (nI t))] := hl
  have loop_9 : ∀ (n k : Nat) (st1 : StT) (hi1 : HiT) (H : Heap) (locs : List Loc), k + n = t → IV (e0 + k) st1 → WH hi1 → st1.2.2.2.2.2 7 = st.2.2.2.2.2 7 + nI k → va_P D vwCl (fl (wO cI cS qx a0 a1 a2 a3 b3 a4 sn sc has [] (st1, tr, hi1))) H → va_D A (fl (wO cI cS qx a0 a1 a2 a3 b3 a4 sn sc has [] (st1, tr, hi1))) → va_S A s.heap H locs → ∀ ls : Array Slot, lv_has ls 12 [(0, .ref qx), (1, .int ((nI t))), (2, .int ((st.2.2.2.2.2 7))), (3, .int ((nI k)))] → W p l e { frames := 6, cells := 0, slots := 0, locals := 130 } s m args below meth c H locs 0 0 Q (F0 m 9 ls []) := by
    intro n
    induction n with
    | zero =>
      intro k st1 hi1 H locs hk hI1 hh1 h7 hP hD hS ls hl
      refine lv_iload_n hx hb dL_ticks_9 rfl (lv_at hl 3 rfl) ?_
      refine lv_iload_n hx hb dL_ticks_10 rfl (lv_at hl 1 rfl) ?_
      refine lv_icmp_ge (tgt := 221) hx hb dL_ticks_11 (by decide) (fun _ => ?_) (fun c => absurd (show (nI t) ≤ (nI k) from nI_le (by omega) (by omega)) c)
      refine lv_aload_n hx hb dL_ticks_221 rfl (lv_at hl 0 rfl) ?_
      refine lv_bipush (v := (7 : Int32)) hx hb dL_ticks_222 (by decide +kernel) ?_
      refine bRV (W0 := wO cI cS qx a0 a1 a2 a3 b3 a4 sn sc has ([]) (st1, tr, hi1)) (wc := [(qx, .inr (6, [.ref (a0 0), .ref (a1 0), .ref (a2 0), .ref (a3 0), .ref (a4 0), .int has]))] :: wSt cI a0 st1 :: []) (r := (st1.2.2.2.2.2 7)) ⟨hx, hb, hml, hown, hts⟩ (KR.eq (kX6_total l D cI cS qx a0 (a1 0) (a2 0) (a3 0) (a4 0) has (7 : Int32) st1) (tot_i (i := 7) (by omega))) (cwV 1 hts gL_ticks_X6_total rfl rfl rfl (by decide +kernel) ⟨Nat.le_of_ble_eq_true rfl, Nat.le_of_ble_eq_true rfl⟩) hE hP rfl rfl [0, 1] rfl rfl rfl hl.1 rfl (Nat.le_of_ble_eq_true rfl) ⟨Nat.le_of_ble_eq_true rfl, Nat.le_of_ble_eq_true rfl⟩ dL_ticks_224 ?_
      refine lv_iload_n hx hb dL_ticks_227 rfl (lv_at hl 2 rfl) ?_
      refine lv_iload_n hx hb dL_ticks_228 rfl (lv_at hl 1 rfl) ?_
      refine lv_iadd hx hb dL_ticks_229 ?_
      refine lv_icmp_ne (tgt := 237) hx hb dL_ticks_230 (by decide) (fun c => absurd (show st1.2.2.2.2.2 7 = ((st.2.2.2.2.2 7) + (nI t)) from by rw [h7, show k = t from by omega]) c) (fun _ => ?_)
      refine lv_iconst (v := (1 : Int32)) hx hb dL_ticks_233 (by decide +kernel) ?_
      refine lv_goto (tgt := 238) hx hb dL_ticks_234 (by decide) ?_
      exact hend _ _ _ (st1, hi1) _ _ _ _ dL_ticks_238 rfl (Nat.le_refl _) (Nat.le_refl _) ⟨rfl, hI1.mono (by omega), hh1⟩ hP hS
    | succ n ih =>
      intro k st1 hi1 H locs hk hI1 hh1 h7 hP hD hS ls hl
      have hT := tick_is hI1
      have eT : fX6_tick (1 : Int32) (st1, hi1) = ((fX5_makeTick st1).2.2.2.1.2.2.1, (fX5_makeTick st1, hiA hi1 st1)) := tickN_is (p := 1) hI1 (by omega) (by omega)
      have hh2 : WH (hiA hi1 st1) := hh1.act hI1.1.2.2.1
      generalize fX5_makeTick st1 = u1 at hT eT
      obtain ⟨g1, g2, g7, hC⟩ := hT
      have h72 : u1.2.2.2.2.2 7 = st.2.2.2.2.2 7 + nI (k + 1) := by rw [g7, h7, Int32.add_assoc, nI_1]
      rcases hC with ⟨hph, hu⟩ | ⟨hph, y2, y3, y5, blog, bcu⟩ | ⟨c0, cu0, ccu, c3, cag, m2, p2, hm2, hp2, em, ep, ez, e5⟩
      · have z0 : u1.2.2.2.1.2.2.1 = (0 : Int32) := by rw [hu]; exact hph
        have z3 : u1.2.2.2.2.2 3 = st1.2.2.2.2.2 3 := by rw [hu]; exact tk7_i (by decide)
        have z5 : u1.2.2.2.2.2 5 = st1.2.2.2.2.2 5 := by rw [hu]; exact tk7_i (by decide)
        refine lv_iload_n hx hb dL_ticks_9 rfl (lv_at hl 3 rfl) ?_
        refine lv_iload_n hx hb dL_ticks_10 rfl (lv_at hl 1 rfl) ?_
        refine lv_icmp_ge (tgt := 221) hx hb dL_ticks_11 (by decide) (fun c => absurd c (show ¬ (nI t) ≤ (nI k) from nI_ge (by omega) (by omega))) (fun _ => ?_)
        refine lv_aload_n hx hb dL_ticks_14 rfl (lv_at hl 0 rfl) ?_
        refine lv_iconst (v := (0 : Int32)) hx hb dL_ticks_15 (by decide +kernel) ?_
        refine bRV (W0 := wO cI cS qx a0 a1 a2 a3 b3 a4 sn sc has ([]) (st1, tr, hi1)) (wc := [(qx, .inr (6, [.ref (a0 0), .ref (a1 0), .ref (a2 0), .ref (a3 0), .ref (a4 0), .int has]))] :: wSt cI a0 st1 :: []) (r := (0 : Int32)) ⟨hx, hb, hml, hown, hts⟩ (KR.eq (kX6_copy l D cI cS qx a0 (a1 0) (a2 0) (a3 0) (a4 0) has (0 : Int32) st1) ((cp_0 st1).trans hph)) (cwV 1 hts gL_ticks_X6_copy rfl rfl rfl (by decide +kernel) ⟨Nat.le_of_ble_eq_true rfl, Nat.le_of_ble_eq_true rfl⟩) hE hP rfl rfl [0, 1] rfl rfl rfl hl.1 rfl (Nat.le_of_ble_eq_true rfl) ⟨Nat.le_of_ble_eq_true rfl, Nat.le_of_ble_eq_true rfl⟩ dL_ticks_16 ?_
        refine lv_istore (lv' := [(4, .int ((0 : Int32))), (0, .ref qx), (1, .int ((nI t))), (2, .int ((st.2.2.2.2.2 7))), (3, .int ((nI k)))]) hx hb dL_ticks_19 hl (by decide) rfl (fun ls hl => ?_)
        refine lv_aload_n hx hb dL_ticks_21 rfl (lv_at hl 1 rfl) ?_
        refine lv_iconst (v := (4 : Int32)) hx hb dL_ticks_22 (by decide +kernel) ?_
        refine bRV (W0 := wO cI cS qx a0 a1 a2 a3 b3 a4 sn sc has ([]) (st1, tr, hi1)) (wc := [(qx, .inr (6, [.ref (a0 0), .ref (a1 0), .ref (a2 0), .ref (a3 0), .ref (a4 0), .int has]))] :: wSt cI a0 st1 :: []) (r := (-5 : Int32)) ⟨hx, hb, hml, hown, hts⟩ (KR.eq (kX6_copy l D cI cS qx a0 (a1 0) (a2 0) (a3 0) (a4 0) has (4 : Int32) st1) (cp_n (i := 4) (by omega) (by omega) hph)) (cwV 1 hts gL_ticks_X6_copy rfl rfl rfl (by decide +kernel) ⟨Nat.le_of_ble_eq_true rfl, Nat.le_of_ble_eq_true rfl⟩) hE hP rfl rfl [0, 1] rfl rfl rfl hl.1 rfl (Nat.le_of_ble_eq_true rfl) ⟨Nat.le_of_ble_eq_true rfl, Nat.le_of_ble_eq_true rfl⟩ dL_ticks_23 ?_
        refine lv_istore (lv' := [(5, .int ((-5 : Int32))), (4, .int ((0 : Int32))), (0, .ref qx), (1, .int ((nI t))), (2, .int ((st.2.2.2.2.2 7))), (3, .int ((nI k)))]) hx hb dL_ticks_26 hl (by decide) rfl (fun ls hl => ?_)
        refine lv_aload_n hx hb dL_ticks_28 rfl (lv_at hl 2 rfl) ?_
        refine lv_iconst (v := (3 : Int32)) hx hb dL_ticks_29 (by decide +kernel) ?_
        refine bRV (W0 := wO cI cS qx a0 a1 a2 a3 b3 a4 sn sc has ([]) (st1, tr, hi1)) (wc := [(qx, .inr (6, [.ref (a0 0), .ref (a1 0), .ref (a2 0), .ref (a3 0), .ref (a4 0), .int has]))] :: wSt cI a0 st1 :: []) (r := (-5 : Int32)) ⟨hx, hb, hml, hown, hts⟩ (KR.eq (kX6_copy l D cI cS qx a0 (a1 0) (a2 0) (a3 0) (a4 0) has (3 : Int32) st1) (cp_n (i := 3) (by omega) (by omega) hph)) (cwV 1 hts gL_ticks_X6_copy rfl rfl rfl (by decide +kernel) ⟨Nat.le_of_ble_eq_true rfl, Nat.le_of_ble_eq_true rfl⟩) hE hP rfl rfl [0, 1] rfl rfl rfl hl.1 rfl (Nat.le_of_ble_eq_true rfl) ⟨Nat.le_of_ble_eq_true rfl, Nat.le_of_ble_eq_true rfl⟩ dL_ticks_30 ?_
        refine lv_istore (lv' := [(6, .int ((-5 : Int32))), (5, .int ((-5 : Int32))), (4, .int ((0 : Int32))), (0, .ref qx), (1, .int ((nI t))), (2, .int ((st.2.2.2.2.2 7))), (3, .int ((nI k)))]) hx hb dL_ticks_33 hl (by decide) rfl (fun ls hl => ?_)
        refine lv_aload_n hx hb dL_ticks_35 rfl (lv_at hl 3 rfl) ?_
        refine lv_iconst (v := (3 : Int32)) hx hb dL_ticks_36 (by decide +kernel) ?_
        refine bRV (W0 := wO cI cS qx a0 a1 a2 a3 b3 a4 sn sc has ([]) (st1, tr, hi1)) (wc := [(qx, .inr (6, [.ref (a0 0), .ref (a1 0), .ref (a2 0), .ref (a3 0), .ref (a4 0), .int has]))] :: wSt cI a0 st1 :: []) (r := (st1.2.2.2.2.2 3)) ⟨hx, hb, hml, hown, hts⟩ (KR.eq (kX6_total l D cI cS qx a0 (a1 0) (a2 0) (a3 0) (a4 0) has (3 : Int32) st1) (tot_i (i := 3) (by omega))) (cwV 1 hts gL_ticks_X6_total rfl rfl rfl (by decide +kernel) ⟨Nat.le_of_ble_eq_true rfl, Nat.le_of_ble_eq_true rfl⟩) hE hP rfl rfl [0, 1] rfl rfl rfl hl.1 rfl (Nat.le_of_ble_eq_true rfl) ⟨Nat.le_of_ble_eq_true rfl, Nat.le_of_ble_eq_true rfl⟩ dL_ticks_37 ?_
        refine lv_istore (lv' := [(7, .int ((st1.2.2.2.2.2 3))), (6, .int ((-5 : Int32))), (5, .int ((-5 : Int32))), (4, .int ((0 : Int32))), (0, .ref qx), (1, .int ((nI t))), (2, .int ((st.2.2.2.2.2 7))), (3, .int ((nI k)))]) hx hb dL_ticks_40 hl (by decide) rfl (fun ls hl => ?_)
        refine lv_aload_n hx hb dL_ticks_42 rfl (lv_at hl 4 rfl) ?_
        refine lv_iconst (v := (5 : Int32)) hx hb dL_ticks_43 (by decide +kernel) ?_
        refine bRV (W0 := wO cI cS qx a0 a1 a2 a3 b3 a4 sn sc has ([]) (st1, tr, hi1)) (wc := [(qx, .inr (6, [.ref (a0 0), .ref (a1 0), .ref (a2 0), .ref (a3 0), .ref (a4 0), .int has]))] :: wSt cI a0 st1 :: []) (r := (st1.2.2.2.2.2 5)) ⟨hx, hb, hml, hown, hts⟩ (KR.eq (kX6_total l D cI cS qx a0 (a1 0) (a2 0) (a3 0) (a4 0) has (5 : Int32) st1) (tot_i (i := 5) (by omega))) (cwV 1 hts gL_ticks_X6_total rfl rfl rfl (by decide +kernel) ⟨Nat.le_of_ble_eq_true rfl, Nat.le_of_ble_eq_true rfl⟩) hE hP rfl rfl [0, 1] rfl rfl rfl hl.1 rfl (Nat.le_of_ble_eq_true rfl) ⟨Nat.le_of_ble_eq_true rfl, Nat.le_of_ble_eq_true rfl⟩ dL_ticks_44 ?_
        refine lv_istore (lv' := [(8, .int ((st1.2.2.2.2.2 5))), (7, .int ((st1.2.2.2.2.2 3))), (6, .int ((-5 : Int32))), (5, .int ((-5 : Int32))), (4, .int ((0 : Int32))), (0, .ref qx), (1, .int ((nI t))), (2, .int ((st.2.2.2.2.2 7))), (3, .int ((nI k)))]) hx hb dL_ticks_47 hl (by decide) rfl (fun ls hl => ?_)
        refine lv_aload_n hx hb dL_ticks_49 rfl (lv_at hl 5 rfl) ?_
        refine lv_iconst (v := (1 : Int32)) hx hb dL_ticks_50 (by decide +kernel) ?_
        refine bIV (W0 := wO cI cS qx a0 a1 a2 a3 b3 a4 sn sc has ([]) (st1, tr, hi1)) (wc := [(qx, .inr (6, [.ref (a0 0), .ref (a1 0), .ref (a2 0), .ref (a3 0), .ref (a4 0), .int has]))] :: wSt cI a0 st1 :: wHi cI cS a3 b3 hi1 []) (w1 := fun u : TPT => [(qx, .inr (6, [.ref (a0 0), .ref (a1 0), .ref (a2 0), .ref (a3 0), .ref (a4 0), .int has]))] :: wSt cI a0 u.1 :: wHi cI cS a3 b3 u.2 []) ⟨hx, hb, hml, hown, hts⟩ (kX6_tick l D cI cS qx a0 a3 b3 (a1 0) (a2 0) (a4 0) has (1 : Int32) (st1, hi1) hI1.ws hh1) (cwV 1 hts gL_ticks_X6_tick rfl rfl rfl (by decide +kernel) ⟨Nat.le_of_ble_eq_true rfl, Nat.le_of_ble_eq_true rfl⟩) hE hP hD hS rfl rfl [0, 1, 4, 5, 6, 7, 8, 9, 10, 11] rfl rfl (fun _ => rfl) (fun _ => rfl) rfl hl.1 rfl (Nat.le_of_ble_eq_true rfl) ⟨Nat.le_of_ble_eq_true rfl, Nat.le_of_ble_eq_true rfl⟩ dL_ticks_51 (fun r_51 u_51 H locs e_51 hP hD hS => ?_)
        have hP : va_P D vwCl (fl (wO cI cS qx a0 a1 a2 a3 b3 a4 sn sc has ([]) (u_51.1, tr, u_51.2))) H := hP
        have hD : va_D A (fl (wO cI cS qx a0 a1 a2 a3 b3 a4 sn sc has ([]) (u_51.1, tr, u_51.2))) := hD
        rw [eT] at e_51
        cases e_51
        have hP : va_P D vwCl (fl (wO cI cS qx a0 a1 a2 a3 b3 a4 sn sc has ([]) (u1, tr, (hiA hi1 st1)))) H := hP
        have hD : va_D A (fl (wO cI cS qx a0 a1 a2 a3 b3 a4 sn sc has ([]) (u1, tr, (hiA hi1 st1)))) := hD
        rw [z0]
        refine lv_istore (lv' := [(9, .int ((0 : Int32))), (8, .int ((st1.2.2.2.2.2 5))), (7, .int ((st1.2.2.2.2.2 3))), (6, .int ((-5 : Int32))), (5, .int ((-5 : Int32))), (4, .int ((0 : Int32))), (0, .ref qx), (1, .int ((nI t))), (2, .int ((st.2.2.2.2.2 7))), (3, .int ((nI k)))]) hx hb dL_ticks_54 hl (by decide) rfl (fun ls hl => ?_)
        refine lv_iload hx hb dL_ticks_56 (lv_at hl 0 rfl) ?_
        refine lv_aload_n hx hb dL_ticks_58 rfl (lv_at hl 6 rfl) ?_
        refine lv_iconst (v := (0 : Int32)) hx hb dL_ticks_59 (by decide +kernel) ?_
        refine bRV (W0 := wO cI cS qx a0 a1 a2 a3 b3 a4 sn sc has ([]) (u1, tr, (hiA hi1 st1))) (wc := [(qx, .inr (6, [.ref (a0 0), .ref (a1 0), .ref (a2 0), .ref (a3 0), .ref (a4 0), .int has]))] :: wSt cI a0 u1 :: []) (r := (0 : Int32)) ⟨hx, hb, hml, hown, hts⟩ (KR.eq (kX6_copy l D cI cS qx a0 (a1 0) (a2 0) (a3 0) (a4 0) has (0 : Int32) u1) ((cp_0 u1).trans z0)) (cwV 1 hts gL_ticks_X6_copy rfl rfl rfl (by decide +kernel) ⟨Nat.le_of_ble_eq_true rfl, Nat.le_of_ble_eq_true rfl⟩) hE hP rfl rfl [0, 1] rfl rfl rfl hl.1 rfl (Nat.le_of_ble_eq_true rfl) ⟨Nat.le_of_ble_eq_true rfl, Nat.le_of_ble_eq_true rfl⟩ dL_ticks_60 ?_
        refine lv_icmp_eq (tgt := 68) hx hb dL_ticks_63 (by decide) (fun _ => ?_) (fun c => absurd (show (0 : Int32) = (0 : Int32) by decide) c)
        refine lv_iload hx hb dL_ticks_68 (lv_at hl 5 rfl) ?_
        refine lv_if_ne (tgt := 81) hx hb dL_ticks_70 (by decide) (fun c => absurd (show (0 : Int32) = (0 : Int32) by decide) c) (fun _ => ?_)
        refine lv_iload hx hb dL_ticks_73 (lv_at hl 0 rfl) ?_
        refine lv_if_eq (tgt := 93) hx hb dL_ticks_75 (by decide) (fun _ => ?_) (fun c => absurd (show (0 : Int32) = (0 : Int32) by decide) c)
        refine lv_aload_n hx hb dL_ticks_93 rfl (lv_at hl 6 rfl) ?_
        refine lv_iconst (v := (3 : Int32)) hx hb dL_ticks_94 (by decide +kernel) ?_
        refine bRV (W0 := wO cI cS qx a0 a1 a2 a3 b3 a4 sn sc has ([]) (u1, tr, (hiA hi1 st1))) (wc := [(qx, .inr (6, [.ref (a0 0), .ref (a1 0), .ref (a2 0), .ref (a3 0), .ref (a4 0), .int has]))] :: wSt cI a0 u1 :: []) (r := (st1.2.2.2.2.2 3)) ⟨hx, hb, hml, hown, hts⟩ (KR.eq (kX6_total l D cI cS qx a0 (a1 0) (a2 0) (a3 0) (a4 0) has (3 : Int32) u1) ((tot_i (i := 3) (by omega)).trans z3)) (cwV 1 hts gL_ticks_X6_total rfl rfl rfl (by decide +kernel) ⟨Nat.le_of_ble_eq_true rfl, Nat.le_of_ble_eq_true rfl⟩) hE hP rfl rfl [0, 1] rfl rfl rfl hl.1 rfl (Nat.le_of_ble_eq_true rfl) ⟨Nat.le_of_ble_eq_true rfl, Nat.le_of_ble_eq_true rfl⟩ dL_ticks_95 ?_
        refine lv_iload hx hb dL_ticks_98 (lv_at hl 2 rfl) ?_
        refine lv_icmp_le (tgt := 107) hx hb dL_ticks_100 (by decide) (fun _ => ?_) (fun c => absurd (Int32.le_refl _) c)
        refine lv_iconst (v := (0 : Int32)) hx hb dL_ticks_107 (by decide +kernel) ?_
        refine lv_istore (lv' := [(10, .int ((0 : Int32))), (9, .int ((0 : Int32))), (8, .int ((st1.2.2.2.2.2 5))), (7, .int ((st1.2.2.2.2.2 3))), (6, .int ((-5 : Int32))), (5, .int ((-5 : Int32))), (4, .int ((0 : Int32))), (0, .ref qx), (1, .int ((nI t))), (2, .int ((st.2.2.2.2.2 7))), (3, .int ((nI k)))]) hx hb dL_ticks_108 hl (by decide) rfl (fun ls hl => ?_)
        refine lv_iload hx hb dL_ticks_110 (lv_at hl 6 rfl) ?_
        refine lv_if_eq (tgt := 120) hx hb dL_ticks_112 (by decide) (fun _ => ?_) (fun c => absurd (show (0 : Int32) = (0 : Int32) by decide) c)
        refine lv_iconst (v := (0 : Int32)) hx hb dL_ticks_120 (by decide +kernel) ?_
        refine lv_goto (tgt := 144) hx hb dL_ticks_121 (by decide) ?_
        refine lv_istore (lv' := [(11, .int ((0 : Int32))), (10, .int ((0 : Int32))), (9, .int ((0 : Int32))), (8, .int ((st1.2.2.2.2.2 5))), (7, .int ((st1.2.2.2.2.2 3))), (6, .int ((-5 : Int32))), (5, .int ((-5 : Int32))), (4, .int ((0 : Int32))), (0, .ref qx), (1, .int ((nI t))), (2, .int ((st.2.2.2.2.2 7))), (3, .int ((nI k)))]) hx hb dL_ticks_144 hl (by decide) rfl (fun ls hl => ?_)
        refine lv_iload hx hb dL_ticks_146 (lv_at hl 1 rfl) ?_
        refine lv_if_eq (tgt := 163) hx hb dL_ticks_148 (by decide) (fun _ => ?_) (fun c => absurd (show (0 : Int32) = (0 : Int32) by decide) c)
        refine lv_aload_n hx hb dL_ticks_163 rfl (lv_at hl 8 rfl) ?_
        refine lv_iconst (v := (5 : Int32)) hx hb dL_ticks_164 (by decide +kernel) ?_
        refine bRV (W0 := wO cI cS qx a0 a1 a2 a3 b3 a4 sn sc has ([]) (u1, tr, (hiA hi1 st1))) (wc := [(qx, .inr (6, [.ref (a0 0), .ref (a1 0), .ref (a2 0), .ref (a3 0), .ref (a4 0), .int has]))] :: wSt cI a0 u1 :: []) (r := (st1.2.2.2.2.2 5)) ⟨hx, hb, hml, hown, hts⟩ (KR.eq (kX6_total l D cI cS qx a0 (a1 0) (a2 0) (a3 0) (a4 0) has (5 : Int32) u1) ((tot_i (i := 5) (by omega)).trans z5)) (cwV 1 hts gL_ticks_X6_total rfl rfl rfl (by decide +kernel) ⟨Nat.le_of_ble_eq_true rfl, Nat.le_of_ble_eq_true rfl⟩) hE hP rfl rfl [0, 1] rfl rfl rfl hl.1 rfl (Nat.le_of_ble_eq_true rfl) ⟨Nat.le_of_ble_eq_true rfl, Nat.le_of_ble_eq_true rfl⟩ dL_ticks_165 ?_
        refine lv_iload hx hb dL_ticks_168 (lv_at hl 3 rfl) ?_
        refine lv_iload hx hb dL_ticks_170 (lv_at hl 0 rfl) ?_
        refine lv_iadd hx hb dL_ticks_172 ?_
        refine lv_icmp_ne (tgt := 213) hx hb dL_ticks_173 (by decide) (fun c => absurd (i_add0 _).symm c) (fun _ => ?_)
        refine lv_iload hx hb dL_ticks_176 (lv_at hl 7 rfl) ?_
        refine lv_if_le (tgt := 194) hx hb dL_ticks_178 (by decide) (fun _ => ?_) (fun c => absurd (show (0 : Int32) ≤ (0 : Int32) by decide) c)
        refine lv_iload hx hb dL_ticks_194 (lv_at hl 2 rfl) ?_
        refine lv_iconst (v := (3 : Int32)) hx hb dL_ticks_196 (by decide +kernel) ?_
        refine lv_icmp_ne (tgt := 215) hx hb dL_ticks_197 (by decide) (fun _ => ?_) (fun c => absurd c (show ¬ (0 : Int32) = (3 : Int32) by decide))
        refine lv_iinc (v := (nI (k + 1))) (lv' := [(3, .int ((nI (k + 1)))), (11, .int ((0 : Int32))), (10, .int ((0 : Int32))), (9, .int ((0 : Int32))), (8, .int ((st1.2.2.2.2.2 5))), (7, .int ((st1.2.2.2.2.2 3))), (6, .int ((-5 : Int32))), (5, .int ((-5 : Int32))), (4, .int ((0 : Int32))), (0, .ref qx), (1, .int ((nI t))), (2, .int ((st.2.2.2.2.2 7)))]) hx hb dL_ticks_215 hl (k := 11) rfl (nI_1 _) (by decide) rfl (fun ls hl => ?_)
        refine lv_goto (tgt := 9) hx hb dL_ticks_218 (by decide) ?_
        exact ih (k + 1) u1 (hiA hi1 st1) H locs (by omega) g1 hh2 h72 hP hD hS _ (lv_sub hl [9, 10, 11, 0] rfl)
      · have h0 : ¬ st1.2.2.2.1.2.2.1 = (0 : Int32) := by rw [hph]; decide
        have h0u : ¬ u1.2.2.2.1.2.2.1 = (0 : Int32) := by rw [y2]; decide
        refine lv_iload_n hx hb dL_ticks_9 rfl (lv_at hl 3 rfl) ?_
        refine lv_iload_n hx hb dL_ticks_10 rfl (lv_at hl 1 rfl) ?_
        refine lv_icmp_ge (tgt := 221) hx hb dL_ticks_11 (by decide) (fun c => absurd c (show ¬ (nI t) ≤ (nI k) from nI_ge (by omega) (by omega))) (fun _ => ?_)
        refine lv_aload_n hx hb dL_ticks_14 rfl (lv_at hl 0 rfl) ?_
        refine lv_iconst (v := (0 : Int32)) hx hb dL_ticks_15 (by decide +kernel) ?_
        refine bRV (W0 := wO cI cS qx a0 a1 a2 a3 b3 a4 sn sc has ([]) (st1, tr, hi1)) (wc := [(qx, .inr (6, [.ref (a0 0), .ref (a1 0), .ref (a2 0), .ref (a3 0), .ref (a4 0), .int has]))] :: wSt cI a0 st1 :: []) (r := (3 : Int32)) ⟨hx, hb, hml, hown, hts⟩ (KR.eq (kX6_copy l D cI cS qx a0 (a1 0) (a2 0) (a3 0) (a4 0) has (0 : Int32) st1) ((cp_0 st1).trans hph)) (cwV 1 hts gL_ticks_X6_copy rfl rfl rfl (by decide +kernel) ⟨Nat.le_of_ble_eq_true rfl, Nat.le_of_ble_eq_true rfl⟩) hE hP rfl rfl [0, 1] rfl rfl rfl hl.1 rfl (Nat.le_of_ble_eq_true rfl) ⟨Nat.le_of_ble_eq_true rfl, Nat.le_of_ble_eq_true rfl⟩ dL_ticks_16 ?_
        refine lv_istore (lv' := [(4, .int ((3 : Int32))), (0, .ref qx), (1, .int ((nI t))), (2, .int ((st.2.2.2.2.2 7))), (3, .int ((nI k)))]) hx hb dL_ticks_19 hl (by decide) rfl (fun ls hl => ?_)
        refine lv_aload_n hx hb dL_ticks_21 rfl (lv_at hl 1 rfl) ?_
        refine lv_iconst (v := (4 : Int32)) hx hb dL_ticks_22 (by decide +kernel) ?_
        refine bRV (W0 := wO cI cS qx a0 a1 a2 a3 b3 a4 sn sc has ([]) (st1, tr, hi1)) (wc := [(qx, .inr (6, [.ref (a0 0), .ref (a1 0), .ref (a2 0), .ref (a3 0), .ref (a4 0), .int has]))] :: wSt cI a0 st1 :: []) (r := st1.2.2.2.1.2.1.2.2.2) ⟨hx, hb, hml, hown, hts⟩ (KR.eq (kX6_copy l D cI cS qx a0 (a1 0) (a2 0) (a3 0) (a4 0) has (4 : Int32) st1) (cp_4 h0)) (cwV 1 hts gL_ticks_X6_copy rfl rfl rfl (by decide +kernel) ⟨Nat.le_of_ble_eq_true rfl, Nat.le_of_ble_eq_true rfl⟩) hE hP rfl rfl [0, 1] rfl rfl rfl hl.1 rfl (Nat.le_of_ble_eq_true rfl) ⟨Nat.le_of_ble_eq_true rfl, Nat.le_of_ble_eq_true rfl⟩ dL_ticks_23 ?_
        refine lv_istore (lv' := [(5, .int st1.2.2.2.1.2.1.2.2.2), (4, .int ((3 : Int32))), (0, .ref qx), (1, .int ((nI t))), (2, .int ((st.2.2.2.2.2 7))), (3, .int ((nI k)))]) hx hb dL_ticks_26 hl (by decide) rfl (fun ls hl => ?_)
        refine lv_aload_n hx hb dL_ticks_28 rfl (lv_at hl 2 rfl) ?_
        refine lv_iconst (v := (3 : Int32)) hx hb dL_ticks_29 (by decide +kernel) ?_
        refine bRV (W0 := wO cI cS qx a0 a1 a2 a3 b3 a4 sn sc has ([]) (st1, tr, hi1)) (wc := [(qx, .inr (6, [.ref (a0 0), .ref (a1 0), .ref (a2 0), .ref (a3 0), .ref (a4 0), .int has]))] :: wSt cI a0 st1 :: []) (r := st1.2.2.2.1.2.2.2.2.2.1) ⟨hx, hb, hml, hown, hts⟩ (KR.eq (kX6_copy l D cI cS qx a0 (a1 0) (a2 0) (a3 0) (a4 0) has (3 : Int32) st1) (cp_3 h0)) (cwV 1 hts gL_ticks_X6_copy rfl rfl rfl (by decide +kernel) ⟨Nat.le_of_ble_eq_true rfl, Nat.le_of_ble_eq_true rfl⟩) hE hP rfl rfl [0, 1] rfl rfl rfl hl.1 rfl (Nat.le_of_ble_eq_true rfl) ⟨Nat.le_of_ble_eq_true rfl, Nat.le_of_ble_eq_true rfl⟩ dL_ticks_30 ?_
        refine lv_istore (lv' := [(6, .int st1.2.2.2.1.2.2.2.2.2.1), (5, .int st1.2.2.2.1.2.1.2.2.2), (4, .int ((3 : Int32))), (0, .ref qx), (1, .int ((nI t))), (2, .int ((st.2.2.2.2.2 7))), (3, .int ((nI k)))]) hx hb dL_ticks_33 hl (by decide) rfl (fun ls hl => ?_)
        refine lv_aload_n hx hb dL_ticks_35 rfl (lv_at hl 3 rfl) ?_
        refine lv_iconst (v := (3 : Int32)) hx hb dL_ticks_36 (by decide +kernel) ?_
        refine bRV (W0 := wO cI cS qx a0 a1 a2 a3 b3 a4 sn sc has ([]) (st1, tr, hi1)) (wc := [(qx, .inr (6, [.ref (a0 0), .ref (a1 0), .ref (a2 0), .ref (a3 0), .ref (a4 0), .int has]))] :: wSt cI a0 st1 :: []) (r := (st1.2.2.2.2.2 3)) ⟨hx, hb, hml, hown, hts⟩ (KR.eq (kX6_total l D cI cS qx a0 (a1 0) (a2 0) (a3 0) (a4 0) has (3 : Int32) st1) (tot_i (i := 3) (by omega))) (cwV 1 hts gL_ticks_X6_total rfl rfl rfl (by decide +kernel) ⟨Nat.le_of_ble_eq_true rfl, Nat.le_of_ble_eq_true rfl⟩) hE hP rfl rfl [0, 1] rfl rfl rfl hl.1 rfl (Nat.le_of_ble_eq_true rfl) ⟨Nat.le_of_ble_eq_true rfl, Nat.le_of_ble_eq_true rfl⟩ dL_ticks_37 ?_
        refine lv_istore (lv' := [(7, .int ((st1.2.2.2.2.2 3))), (6, .int st1.2.2.2.1.2.2.2.2.2.1), (5, .int st1.2.2.2.1.2.1.2.2.2), (4, .int ((3 : Int32))), (0, .ref qx), (1, .int ((nI t))), (2, .int ((st.2.2.2.2.2 7))), (3, .int ((nI k)))]) hx hb dL_ticks_40 hl (by decide) rfl (fun ls hl => ?_)
        refine lv_aload_n hx hb dL_ticks_42 rfl (lv_at hl 4 rfl) ?_
        refine lv_iconst (v := (5 : Int32)) hx hb dL_ticks_43 (by decide +kernel) ?_
        refine bRV (W0 := wO cI cS qx a0 a1 a2 a3 b3 a4 sn sc has ([]) (st1, tr, hi1)) (wc := [(qx, .inr (6, [.ref (a0 0), .ref (a1 0), .ref (a2 0), .ref (a3 0), .ref (a4 0), .int has]))] :: wSt cI a0 st1 :: []) (r := (st1.2.2.2.2.2 5)) ⟨hx, hb, hml, hown, hts⟩ (KR.eq (kX6_total l D cI cS qx a0 (a1 0) (a2 0) (a3 0) (a4 0) has (5 : Int32) st1) (tot_i (i := 5) (by omega))) (cwV 1 hts gL_ticks_X6_total rfl rfl rfl (by decide +kernel) ⟨Nat.le_of_ble_eq_true rfl, Nat.le_of_ble_eq_true rfl⟩) hE hP rfl rfl [0, 1] rfl rfl rfl hl.1 rfl (Nat.le_of_ble_eq_true rfl) ⟨Nat.le_of_ble_eq_true rfl, Nat.le_of_ble_eq_true rfl⟩ dL_ticks_44 ?_
        refine lv_istore (lv' := [(8, .int ((st1.2.2.2.2.2 5))), (7, .int ((st1.2.2.2.2.2 3))), (6, .int st1.2.2.2.1.2.2.2.2.2.1), (5, .int st1.2.2.2.1.2.1.2.2.2), (4, .int ((3 : Int32))), (0, .ref qx), (1, .int ((nI t))), (2, .int ((st.2.2.2.2.2 7))), (3, .int ((nI k)))]) hx hb dL_ticks_47 hl (by decide) rfl (fun ls hl => ?_)
        refine lv_aload_n hx hb dL_ticks_49 rfl (lv_at hl 5 rfl) ?_
        refine lv_iconst (v := (1 : Int32)) hx hb dL_ticks_50 (by decide +kernel) ?_
        refine bIV (W0 := wO cI cS qx a0 a1 a2 a3 b3 a4 sn sc has ([]) (st1, tr, hi1)) (wc := [(qx, .inr (6, [.ref (a0 0), .ref (a1 0), .ref (a2 0), .ref (a3 0), .ref (a4 0), .int has]))] :: wSt cI a0 st1 :: wHi cI cS a3 b3 hi1 []) (w1 := fun u : TPT => [(qx, .inr (6, [.ref (a0 0), .ref (a1 0), .ref (a2 0), .ref (a3 0), .ref (a4 0), .int has]))] :: wSt cI a0 u.1 :: wHi cI cS a3 b3 u.2 []) ⟨hx, hb, hml, hown, hts⟩ (kX6_tick l D cI cS qx a0 a3 b3 (a1 0) (a2 0) (a4 0) has (1 : Int32) (st1, hi1) hI1.ws hh1) (cwV 1 hts gL_ticks_X6_tick rfl rfl rfl (by decide +kernel) ⟨Nat.le_of_ble_eq_true rfl, Nat.le_of_ble_eq_true rfl⟩) hE hP hD hS rfl rfl [0, 1, 4, 5, 6, 7, 8, 9, 10, 11] rfl rfl (fun _ => rfl) (fun _ => rfl) rfl hl.1 rfl (Nat.le_of_ble_eq_true rfl) ⟨Nat.le_of_ble_eq_true rfl, Nat.le_of_ble_eq_true rfl⟩ dL_ticks_51 (fun r_51 u_51 H locs e_51 hP hD hS => ?_)
        have hP : va_P D vwCl (fl (wO cI cS qx a0 a1 a2 a3 b3 a4 sn sc has ([]) (u_51.1, tr, u_51.2))) H := hP
        have hD : va_D A (fl (wO cI cS qx a0 a1 a2 a3 b3 a4 sn sc has ([]) (u_51.1, tr, u_51.2))) := hD
        rw [eT] at e_51
        cases e_51
        have hP : va_P D vwCl (fl (wO cI cS qx a0 a1 a2 a3 b3 a4 sn sc has ([]) (u1, tr, (hiA hi1 st1)))) H := hP
        have hD : va_D A (fl (wO cI cS qx a0 a1 a2 a3 b3 a4 sn sc has ([]) (u1, tr, (hiA hi1 st1)))) := hD
        rw [y2]
        refine lv_istore (lv' := [(9, .int ((2 : Int32))), (8, .int ((st1.2.2.2.2.2 5))), (7, .int ((st1.2.2.2.2.2 3))), (6, .int st1.2.2.2.1.2.2.2.2.2.1), (5, .int st1.2.2.2.1.2.1.2.2.2), (4, .int ((3 : Int32))), (0, .ref qx), (1, .int ((nI t))), (2, .int ((st.2.2.2.2.2 7))), (3, .int ((nI k)))]) hx hb dL_ticks_54 hl (by decide) rfl (fun ls hl => ?_)
        refine lv_iload hx hb dL_ticks_56 (lv_at hl 0 rfl) ?_
        refine lv_aload_n hx hb dL_ticks_58 rfl (lv_at hl 6 rfl) ?_
        refine lv_iconst (v := (0 : Int32)) hx hb dL_ticks_59 (by decide +kernel) ?_
        refine bRV (W0 := wO cI cS qx a0 a1 a2 a3 b3 a4 sn sc has ([]) (u1, tr, (hiA hi1 st1))) (wc := [(qx, .inr (6, [.ref (a0 0), .ref (a1 0), .ref (a2 0), .ref (a3 0), .ref (a4 0), .int has]))] :: wSt cI a0 u1 :: []) (r := (2 : Int32)) ⟨hx, hb, hml, hown, hts⟩ (KR.eq (kX6_copy l D cI cS qx a0 (a1 0) (a2 0) (a3 0) (a4 0) has (0 : Int32) u1) ((cp_0 u1).trans y2)) (cwV 1 hts gL_ticks_X6_copy rfl rfl rfl (by decide +kernel) ⟨Nat.le_of_ble_eq_true rfl, Nat.le_of_ble_eq_true rfl⟩) hE hP rfl rfl [0, 1] rfl rfl rfl hl.1 rfl (Nat.le_of_ble_eq_true rfl) ⟨Nat.le_of_ble_eq_true rfl, Nat.le_of_ble_eq_true rfl⟩ dL_ticks_60 ?_
        refine lv_icmp_eq (tgt := 68) hx hb dL_ticks_63 (by decide) (fun _ => ?_) (fun c => absurd (show (2 : Int32) = (2 : Int32) by decide) c)
        refine lv_iload hx hb dL_ticks_68 (lv_at hl 5 rfl) ?_
        refine lv_if_ne (tgt := 81) hx hb dL_ticks_70 (by decide) (fun _ => ?_) (fun c => absurd c (show ¬ (3 : Int32) = (0 : Int32) by decide))
        refine lv_aload_n hx hb dL_ticks_81 rfl (lv_at hl 6 rfl) ?_
        refine lv_iconst (v := (3 : Int32)) hx hb dL_ticks_82 (by decide +kernel) ?_
        refine bRV (W0 := wO cI cS qx a0 a1 a2 a3 b3 a4 sn sc has ([]) (u1, tr, (hiA hi1 st1))) (wc := [(qx, .inr (6, [.ref (a0 0), .ref (a1 0), .ref (a2 0), .ref (a3 0), .ref (a4 0), .int has]))] :: wSt cI a0 u1 :: []) (r := st1.2.2.2.1.2.2.2.2.2.1) ⟨hx, hb, hml, hown, hts⟩ (KR.eq (kX6_copy l D cI cS qx a0 (a1 0) (a2 0) (a3 0) (a4 0) has (3 : Int32) u1) ((cp_3 h0u).trans bcu)) (cwV 1 hts gL_ticks_X6_copy rfl rfl rfl (by decide +kernel) ⟨Nat.le_of_ble_eq_true rfl, Nat.le_of_ble_eq_true rfl⟩) hE hP rfl rfl [0, 1] rfl rfl rfl hl.1 rfl (Nat.le_of_ble_eq_true rfl) ⟨Nat.le_of_ble_eq_true rfl, Nat.le_of_ble_eq_true rfl⟩ dL_ticks_83 ?_
        refine lv_iload hx hb dL_ticks_86 (lv_at hl 3 rfl) ?_
        refine lv_icmp_ge (tgt := 93) hx hb dL_ticks_88 (by decide) (fun _ => ?_) (fun c => absurd (Int32.le_refl _) c)
        refine lv_aload_n hx hb dL_ticks_93 rfl (lv_at hl 6 rfl) ?_
        refine lv_iconst (v := (3 : Int32)) hx hb dL_ticks_94 (by decide +kernel) ?_
        refine bRV (W0 := wO cI cS qx a0 a1 a2 a3 b3 a4 sn sc has ([]) (u1, tr, (hiA hi1 st1))) (wc := [(qx, .inr (6, [.ref (a0 0), .ref (a1 0), .ref (a2 0), .ref (a3 0), .ref (a4 0), .int has]))] :: wSt cI a0 u1 :: []) (r := ((st1.2.2.2.2.2 3) + (1 : Int32))) ⟨hx, hb, hml, hown, hts⟩ (KR.eq (kX6_total l D cI cS qx a0 (a1 0) (a2 0) (a3 0) (a4 0) has (3 : Int32) u1) ((tot_i (i := 3) (by omega)).trans y3)) (cwV 1 hts gL_ticks_X6_total rfl rfl rfl (by decide +kernel) ⟨Nat.le_of_ble_eq_true rfl, Nat.le_of_ble_eq_true rfl⟩) hE hP rfl rfl [0, 1] rfl rfl rfl hl.1 rfl (Nat.le_of_ble_eq_true rfl) ⟨Nat.le_of_ble_eq_true rfl, Nat.le_of_ble_eq_true rfl⟩ dL_ticks_95 ?_
        refine lv_iload hx hb dL_ticks_98 (lv_at hl 2 rfl) ?_
        refine lv_icmp_le (tgt := 107) hx hb dL_ticks_100 (by decide) (fun c => absurd c (to3_n hI1 (by omega))) (fun _ => ?_)
        refine lv_iconst (v := (1 : Int32)) hx hb dL_ticks_103 (by decide +kernel) ?_
        refine lv_goto (tgt := 108) hx hb dL_ticks_104 (by decide) ?_
        refine lv_istore (lv' := [(10, .int ((1 : Int32))), (9, .int ((2 : Int32))), (8, .int ((st1.2.2.2.2.2 5))), (7, .int ((st1.2.2.2.2.2 3))), (6, .int st1.2.2.2.1.2.2.2.2.2.1), (5, .int st1.2.2.2.1.2.1.2.2.2), (4, .int ((3 : Int32))), (0, .ref qx), (1, .int ((nI t))), (2, .int ((st.2.2.2.2.2 7))), (3, .int ((nI k)))]) hx hb dL_ticks_108 hl (by decide) rfl (fun ls hl => ?_)
        refine lv_iload hx hb dL_ticks_110 (lv_at hl 6 rfl) ?_
        refine lv_if_eq (tgt := 120) hx hb dL_ticks_112 (by decide) (fun c => absurd c (show ¬ (3 : Int32) = (0 : Int32) by decide)) (fun _ => ?_)
        refine lv_iload hx hb dL_ticks_115 (lv_at hl 0 rfl) ?_
        refine lv_if_eq (tgt := 124) hx hb dL_ticks_117 (by decide) (fun c => absurd c (show ¬ (1 : Int32) = (0 : Int32) by decide)) (fun _ => ?_)
        refine lv_iconst (v := (0 : Int32)) hx hb dL_ticks_120 (by decide +kernel) ?_
        refine lv_goto (tgt := 144) hx hb dL_ticks_121 (by decide) ?_
        refine lv_istore (lv' := [(11, .int ((0 : Int32))), (10, .int ((1 : Int32))), (9, .int ((2 : Int32))), (8, .int ((st1.2.2.2.2.2 5))), (7, .int ((st1.2.2.2.2.2 3))), (6, .int st1.2.2.2.1.2.2.2.2.2.1), (5, .int st1.2.2.2.1.2.1.2.2.2), (4, .int ((3 : Int32))), (0, .ref qx), (1, .int ((nI t))), (2, .int ((st.2.2.2.2.2 7))), (3, .int ((nI k)))]) hx hb dL_ticks_144 hl (by decide) rfl (fun ls hl => ?_)
        refine lv_iload hx hb dL_ticks_146 (lv_at hl 1 rfl) ?_
        refine lv_if_eq (tgt := 163) hx hb dL_ticks_148 (by decide) (fun c => absurd c (show ¬ (1 : Int32) = (0 : Int32) by decide)) (fun _ => ?_)
        refine lv_iload hx hb dL_ticks_151 (lv_at hl 7 rfl) ?_
        refine lv_iconst (v := (3 : Int32)) hx hb dL_ticks_153 (by decide +kernel) ?_
        refine lv_icmp_ne (tgt := 213) hx hb dL_ticks_154 (by decide) (fun c => absurd (show (3 : Int32) = (3 : Int32) by decide) c) (fun _ => ?_)
        refine lv_iload hx hb dL_ticks_157 (lv_at hl 2 rfl) ?_
        refine lv_iconst (v := (2 : Int32)) hx hb dL_ticks_159 (by decide +kernel) ?_
        refine lv_icmp_ne (tgt := 213) hx hb dL_ticks_160 (by decide) (fun c => absurd (show (2 : Int32) = (2 : Int32) by decide) c) (fun _ => ?_)
        refine lv_aload_n hx hb dL_ticks_163 rfl (lv_at hl 8 rfl) ?_
        refine lv_iconst (v := (5 : Int32)) hx hb dL_ticks_164 (by decide +kernel) ?_
        refine bRV (W0 := wO cI cS qx a0 a1 a2 a3 b3 a4 sn sc has ([]) (u1, tr, (hiA hi1 st1))) (wc := [(qx, .inr (6, [.ref (a0 0), .ref (a1 0), .ref (a2 0), .ref (a3 0), .ref (a4 0), .int has]))] :: wSt cI a0 u1 :: []) (r := (st1.2.2.2.2.2 5)) ⟨hx, hb, hml, hown, hts⟩ (KR.eq (kX6_total l D cI cS qx a0 (a1 0) (a2 0) (a3 0) (a4 0) has (5 : Int32) u1) ((tot_i (i := 5) (by omega)).trans y5)) (cwV 1 hts gL_ticks_X6_total rfl rfl rfl (by decide +kernel) ⟨Nat.le_of_ble_eq_true rfl, Nat.le_of_ble_eq_true rfl⟩) hE hP rfl rfl [0, 1] rfl rfl rfl hl.1 rfl (Nat.le_of_ble_eq_true rfl) ⟨Nat.le_of_ble_eq_true rfl, Nat.le_of_ble_eq_true rfl⟩ dL_ticks_165 ?_
        refine lv_iload hx hb dL_ticks_168 (lv_at hl 3 rfl) ?_
        refine lv_iload hx hb dL_ticks_170 (lv_at hl 0 rfl) ?_
        refine lv_iadd hx hb dL_ticks_172 ?_
        refine lv_icmp_ne (tgt := 213) hx hb dL_ticks_173 (by decide) (fun c => absurd (i_add0 _).symm c) (fun _ => ?_)
        refine lv_iload hx hb dL_ticks_176 (lv_at hl 7 rfl) ?_
        refine lv_if_le (tgt := 194) hx hb dL_ticks_178 (by decide) (fun c => absurd c (show ¬ (3 : Int32) ≤ (0 : Int32) by decide)) (fun _ => ?_)
        refine lv_aload_n hx hb dL_ticks_181 rfl (lv_at hl 8 rfl) ?_
        refine lv_iconst (v := (4 : Int32)) hx hb dL_ticks_182 (by decide +kernel) ?_
        refine bRV (W0 := wO cI cS qx a0 a1 a2 a3 b3 a4 sn sc has ([]) (u1, tr, (hiA hi1 st1))) (wc := [(qx, .inr (6, [.ref (a0 0), .ref (a1 0), .ref (a2 0), .ref (a3 0), .ref (a4 0), .int has]))] :: wSt cI a0 u1 :: []) (r := st1.2.2.2.1.2.1.2.2.2) ⟨hx, hb, hml, hown, hts⟩ (KR.eq (kX6_copy l D cI cS qx a0 (a1 0) (a2 0) (a3 0) (a4 0) has (4 : Int32) u1) ((cp_4 h0u).trans (congrArg (fun z => z.2.2.2) blog))) (cwV 1 hts gL_ticks_X6_copy rfl rfl rfl (by decide +kernel) ⟨Nat.le_of_ble_eq_true rfl, Nat.le_of_ble_eq_true rfl⟩) hE hP rfl rfl [0, 1] rfl rfl rfl hl.1 rfl (Nat.le_of_ble_eq_true rfl) ⟨Nat.le_of_ble_eq_true rfl, Nat.le_of_ble_eq_true rfl⟩ dL_ticks_183 ?_
        refine lv_iload hx hb dL_ticks_186 (lv_at hl 6 rfl) ?_
        refine lv_iload hx hb dL_ticks_188 (lv_at hl 0 rfl) ?_
        refine lv_isub hx hb dL_ticks_190 ?_
        refine lv_icmp_ne (tgt := 213) hx hb dL_ticks_191 (by decide) (fun c => absurd (i_sub0 _).symm c) (fun _ => ?_)
        refine lv_iload hx hb dL_ticks_194 (lv_at hl 2 rfl) ?_
        refine lv_iconst (v := (3 : Int32)) hx hb dL_ticks_196 (by decide +kernel) ?_
        refine lv_icmp_ne (tgt := 215) hx hb dL_ticks_197 (by decide) (fun _ => ?_) (fun c => absurd c (show ¬ (2 : Int32) = (3 : Int32) by decide))
        refine lv_iinc (v := (nI (k + 1))) (lv' := [(3, .int ((nI (k + 1)))), (11, .int ((0 : Int32))), (10, .int ((1 : Int32))), (9, .int ((2 : Int32))), (8, .int ((st1.2.2.2.2.2 5))), (7, .int ((st1.2.2.2.2.2 3))), (6, .int st1.2.2.2.1.2.2.2.2.2.1), (5, .int st1.2.2.2.1.2.1.2.2.2), (4, .int ((3 : Int32))), (0, .ref qx), (1, .int ((nI t))), (2, .int ((st.2.2.2.2.2 7)))]) hx hb dL_ticks_215 hl (k := 11) rfl (nI_1 _) (by decide) rfl (fun ls hl => ?_)
        refine lv_goto (tgt := 9) hx hb dL_ticks_218 (by decide) ?_
        exact ih (k + 1) u1 (hiA hi1 st1) H locs (by omega) g1 hh2 h72 hP hD hS _ (lv_sub hl [9, 10, 11, 0] rfl)
      · have hpb : Bd st1.2.2.2.1.2.2.1 3 := hI1.1.2.2.2.2.2.1
        have hcb : Bd st1.2.2.2.1.2.2.2.2.2.1 32 := hI1.1.2.1
        have hcb2 : Bd u1.2.2.2.1.2.2.2.2.2.1 32 := g1.1.2.1
        refine lv_iload_n hx hb dL_ticks_9 rfl (lv_at hl 3 rfl) ?_
        refine lv_iload_n hx hb dL_ticks_10 rfl (lv_at hl 1 rfl) ?_
        refine lv_icmp_ge (tgt := 221) hx hb dL_ticks_11 (by decide) (fun c => absurd c (show ¬ (nI t) ≤ (nI k) from nI_ge (by omega) (by omega))) (fun _ => ?_)
        refine lv_aload_n hx hb dL_ticks_14 rfl (lv_at hl 0 rfl) ?_
        refine lv_iconst (v := (0 : Int32)) hx hb dL_ticks_15 (by decide +kernel) ?_
        refine bRV (W0 := wO cI cS qx a0 a1 a2 a3 b3 a4 sn sc has ([]) (st1, tr, hi1)) (wc := [(qx, .inr (6, [.ref (a0 0), .ref (a1 0), .ref (a2 0), .ref (a3 0), .ref (a4 0), .int has]))] :: wSt cI a0 st1 :: []) (r := st1.2.2.2.1.2.2.1) ⟨hx, hb, hml, hown, hts⟩ (KR.eq (kX6_copy l D cI cS qx a0 (a1 0) (a2 0) (a3 0) (a4 0) has (0 : Int32) st1) (cp_0 st1)) (cwV 1 hts gL_ticks_X6_copy rfl rfl rfl (by decide +kernel) ⟨Nat.le_of_ble_eq_true rfl, Nat.le_of_ble_eq_true rfl⟩) hE hP rfl rfl [0, 1] rfl rfl rfl hl.1 rfl (Nat.le_of_ble_eq_true rfl) ⟨Nat.le_of_ble_eq_true rfl, Nat.le_of_ble_eq_true rfl⟩ dL_ticks_16 ?_
        refine lv_istore (lv' := [(4, .int st1.2.2.2.1.2.2.1), (0, .ref qx), (1, .int ((nI t))), (2, .int ((st.2.2.2.2.2 7))), (3, .int ((nI k)))]) hx hb dL_ticks_19 hl (by decide) rfl (fun ls hl => ?_)
        refine lv_aload_n hx hb dL_ticks_21 rfl (lv_at hl 1 rfl) ?_
        refine lv_iconst (v := (4 : Int32)) hx hb dL_ticks_22 (by decide +kernel) ?_
        refine bRV (W0 := wO cI cS qx a0 a1 a2 a3 b3 a4 sn sc has ([]) (st1, tr, hi1)) (wc := [(qx, .inr (6, [.ref (a0 0), .ref (a1 0), .ref (a2 0), .ref (a3 0), .ref (a4 0), .int has]))] :: wSt cI a0 st1 :: []) (r := (nI m2)) ⟨hx, hb, hml, hown, hts⟩ (KR.eq (kX6_copy l D cI cS qx a0 (a1 0) (a2 0) (a3 0) (a4 0) has (4 : Int32) st1) ((cp_4 c0).trans em)) (cwV 1 hts gL_ticks_X6_copy rfl rfl rfl (by decide +kernel) ⟨Nat.le_of_ble_eq_true rfl, Nat.le_of_ble_eq_true rfl⟩) hE hP rfl rfl [0, 1] rfl rfl rfl hl.1 rfl (Nat.le_of_ble_eq_true rfl) ⟨Nat.le_of_ble_eq_true rfl, Nat.le_of_ble_eq_true rfl⟩ dL_ticks_23 ?_
        refine lv_istore (lv' := [(5, .int ((nI m2))), (4, .int st1.2.2.2.1.2.2.1), (0, .ref qx), (1, .int ((nI t))), (2, .int ((st.2.2.2.2.2 7))), (3, .int ((nI k)))]) hx hb dL_ticks_26 hl (by decide) rfl (fun ls hl => ?_)
        refine lv_aload_n hx hb dL_ticks_28 rfl (lv_at hl 2 rfl) ?_
        refine lv_iconst (v := (3 : Int32)) hx hb dL_ticks_29 (by decide +kernel) ?_
        refine bRV (W0 := wO cI cS qx a0 a1 a2 a3 b3 a4 sn sc has ([]) (st1, tr, hi1)) (wc := [(qx, .inr (6, [.ref (a0 0), .ref (a1 0), .ref (a2 0), .ref (a3 0), .ref (a4 0), .int has]))] :: wSt cI a0 st1 :: []) (r := st1.2.2.2.1.2.2.2.2.2.1) ⟨hx, hb, hml, hown, hts⟩ (KR.eq (kX6_copy l D cI cS qx a0 (a1 0) (a2 0) (a3 0) (a4 0) has (3 : Int32) st1) (cp_3 c0)) (cwV 1 hts gL_ticks_X6_copy rfl rfl rfl (by decide +kernel) ⟨Nat.le_of_ble_eq_true rfl, Nat.le_of_ble_eq_true rfl⟩) hE hP rfl rfl [0, 1] rfl rfl rfl hl.1 rfl (Nat.le_of_ble_eq_true rfl) ⟨Nat.le_of_ble_eq_true rfl, Nat.le_of_ble_eq_true rfl⟩ dL_ticks_30 ?_
        refine lv_istore (lv' := [(6, .int st1.2.2.2.1.2.2.2.2.2.1), (5, .int ((nI m2))), (4, .int st1.2.2.2.1.2.2.1), (0, .ref qx), (1, .int ((nI t))), (2, .int ((st.2.2.2.2.2 7))), (3, .int ((nI k)))]) hx hb dL_ticks_33 hl (by decide) rfl (fun ls hl => ?_)
        refine lv_aload_n hx hb dL_ticks_35 rfl (lv_at hl 3 rfl) ?_
        refine lv_iconst (v := (3 : Int32)) hx hb dL_ticks_36 (by decide +kernel) ?_
        refine bRV (W0 := wO cI cS qx a0 a1 a2 a3 b3 a4 sn sc has ([]) (st1, tr, hi1)) (wc := [(qx, .inr (6, [.ref (a0 0), .ref (a1 0), .ref (a2 0), .ref (a3 0), .ref (a4 0), .int has]))] :: wSt cI a0 st1 :: []) (r := (st1.2.2.2.2.2 3)) ⟨hx, hb, hml, hown, hts⟩ (KR.eq (kX6_total l D cI cS qx a0 (a1 0) (a2 0) (a3 0) (a4 0) has (3 : Int32) st1) (tot_i (i := 3) (by omega))) (cwV 1 hts gL_ticks_X6_total rfl rfl rfl (by decide +kernel) ⟨Nat.le_of_ble_eq_true rfl, Nat.le_of_ble_eq_true rfl⟩) hE hP rfl rfl [0, 1] rfl rfl rfl hl.1 rfl (Nat.le_of_ble_eq_true rfl) ⟨Nat.le_of_ble_eq_true rfl, Nat.le_of_ble_eq_true rfl⟩ dL_ticks_37 ?_
        refine lv_istore (lv' := [(7, .int ((st1.2.2.2.2.2 3))), (6, .int st1.2.2.2.1.2.2.2.2.2.1), (5, .int ((nI m2))), (4, .int st1.2.2.2.1.2.2.1), (0, .ref qx), (1, .int ((nI t))), (2, .int ((st.2.2.2.2.2 7))), (3, .int ((nI k)))]) hx hb dL_ticks_40 hl (by decide) rfl (fun ls hl => ?_)
        refine lv_aload_n hx hb dL_ticks_42 rfl (lv_at hl 4 rfl) ?_
        refine lv_iconst (v := (5 : Int32)) hx hb dL_ticks_43 (by decide +kernel) ?_
        refine bRV (W0 := wO cI cS qx a0 a1 a2 a3 b3 a4 sn sc has ([]) (st1, tr, hi1)) (wc := [(qx, .inr (6, [.ref (a0 0), .ref (a1 0), .ref (a2 0), .ref (a3 0), .ref (a4 0), .int has]))] :: wSt cI a0 st1 :: []) (r := (st1.2.2.2.2.2 5)) ⟨hx, hb, hml, hown, hts⟩ (KR.eq (kX6_total l D cI cS qx a0 (a1 0) (a2 0) (a3 0) (a4 0) has (5 : Int32) st1) (tot_i (i := 5) (by omega))) (cwV 1 hts gL_ticks_X6_total rfl rfl rfl (by decide +kernel) ⟨Nat.le_of_ble_eq_true rfl, Nat.le_of_ble_eq_true rfl⟩) hE hP rfl rfl [0, 1] rfl rfl rfl hl.1 rfl (Nat.le_of_ble_eq_true rfl) ⟨Nat.le_of_ble_eq_true rfl, Nat.le_of_ble_eq_true rfl⟩ dL_ticks_44 ?_
        refine lv_istore (lv' := [(8, .int ((st1.2.2.2.2.2 5))), (7, .int ((st1.2.2.2.2.2 3))), (6, .int st1.2.2.2.1.2.2.2.2.2.1), (5, .int ((nI m2))), (4, .int st1.2.2.2.1.2.2.1), (0, .ref qx), (1, .int ((nI t))), (2, .int ((st.2.2.2.2.2 7))), (3, .int ((nI k)))]) hx hb dL_ticks_47 hl (by decide) rfl (fun ls hl => ?_)
        refine lv_aload_n hx hb dL_ticks_49 rfl (lv_at hl 5 rfl) ?_
        refine lv_iconst (v := (1 : Int32)) hx hb dL_ticks_50 (by decide +kernel) ?_
        refine bIV (W0 := wO cI cS qx a0 a1 a2 a3 b3 a4 sn sc has ([]) (st1, tr, hi1)) (wc := [(qx, .inr (6, [.ref (a0 0), .ref (a1 0), .ref (a2 0), .ref (a3 0), .ref (a4 0), .int has]))] :: wSt cI a0 st1 :: wHi cI cS a3 b3 hi1 []) (w1 := fun u : TPT => [(qx, .inr (6, [.ref (a0 0), .ref (a1 0), .ref (a2 0), .ref (a3 0), .ref (a4 0), .int has]))] :: wSt cI a0 u.1 :: wHi cI cS a3 b3 u.2 []) ⟨hx, hb, hml, hown, hts⟩ (kX6_tick l D cI cS qx a0 a3 b3 (a1 0) (a2 0) (a4 0) has (1 : Int32) (st1, hi1) hI1.ws hh1) (cwV 1 hts gL_ticks_X6_tick rfl rfl rfl (by decide +kernel) ⟨Nat.le_of_ble_eq_true rfl, Nat.le_of_ble_eq_true rfl⟩) hE hP hD hS rfl rfl [0, 1, 4, 5, 6, 7, 8, 9, 10, 11] rfl rfl (fun _ => rfl) (fun _ => rfl) rfl hl.1 rfl (Nat.le_of_ble_eq_true rfl) ⟨Nat.le_of_ble_eq_true rfl, Nat.le_of_ble_eq_true rfl⟩ dL_ticks_51 (fun r_51 u_51 H locs e_51 hP hD hS => ?_)
        have hP : va_P D vwCl (fl (wO cI cS qx a0 a1 a2 a3 b3 a4 sn sc has ([]) (u_51.1, tr, u_51.2))) H := hP
        have hD : va_D A (fl (wO cI cS qx a0 a1 a2 a3 b3 a4 sn sc has ([]) (u_51.1, tr, u_51.2))) := hD
        rw [eT] at e_51
        cases e_51
        have hP : va_P D vwCl (fl (wO cI cS qx a0 a1 a2 a3 b3 a4 sn sc has ([]) (u1, tr, (hiA hi1 st1)))) H := hP
        have hD : va_D A (fl (wO cI cS qx a0 a1 a2 a3 b3 a4 sn sc has ([]) (u1, tr, (hiA hi1 st1)))) := hD
        refine lv_istore (lv' := [(9, .int u1.2.2.2.1.2.2.1), (8, .int ((st1.2.2.2.2.2 5))), (7, .int ((st1.2.2.2.2.2 3))), (6, .int st1.2.2.2.1.2.2.2.2.2.1), (5, .int ((nI m2))), (4, .int st1.2.2.2.1.2.2.1), (0, .ref qx), (1, .int ((nI t))), (2, .int ((st.2.2.2.2.2 7))), (3, .int ((nI k)))]) hx hb dL_ticks_54 hl (by decide) rfl (fun ls hl => ?_)
        refine lv_iload hx hb dL_ticks_56 (lv_at hl 0 rfl) ?_
        refine lv_aload_n hx hb dL_ticks_58 rfl (lv_at hl 6 rfl) ?_
        refine lv_iconst (v := (0 : Int32)) hx hb dL_ticks_59 (by decide +kernel) ?_
        refine bRV (W0 := wO cI cS qx a0 a1 a2 a3 b3 a4 sn sc has ([]) (u1, tr, (hiA hi1 st1))) (wc := [(qx, .inr (6, [.ref (a0 0), .ref (a1 0), .ref (a2 0), .ref (a3 0), .ref (a4 0), .int has]))] :: wSt cI a0 u1 :: []) (r := u1.2.2.2.1.2.2.1) ⟨hx, hb, hml, hown, hts⟩ (KR.eq (kX6_copy l D cI cS qx a0 (a1 0) (a2 0) (a3 0) (a4 0) has (0 : Int32) u1) (cp_0 u1)) (cwV 1 hts gL_ticks_X6_copy rfl rfl rfl (by decide +kernel) ⟨Nat.le_of_ble_eq_true rfl, Nat.le_of_ble_eq_true rfl⟩) hE hP rfl rfl [0, 1] rfl rfl rfl hl.1 rfl (Nat.le_of_ble_eq_true rfl) ⟨Nat.le_of_ble_eq_true rfl, Nat.le_of_ble_eq_true rfl⟩ dL_ticks_60 ?_
        refine lv_icmp_eq (tgt := 68) hx hb dL_ticks_63 (by decide) (fun _ => ?_) (fun c => absurd rfl c)
        refine lv_iload hx hb dL_ticks_68 (lv_at hl 5 rfl) ?_
        refine lv_if_ne (tgt := 81) hx hb dL_ticks_70 (by decide) (fun _ => ?_) (fun c => absurd c c0)
        refine lv_aload_n hx hb dL_ticks_81 rfl (lv_at hl 6 rfl) ?_
        refine lv_iconst (v := (3 : Int32)) hx hb dL_ticks_82 (by decide +kernel) ?_
        refine bRV (W0 := wO cI cS qx a0 a1 a2 a3 b3 a4 sn sc has ([]) (u1, tr, (hiA hi1 st1))) (wc := [(qx, .inr (6, [.ref (a0 0), .ref (a1 0), .ref (a2 0), .ref (a3 0), .ref (a4 0), .int has]))] :: wSt cI a0 u1 :: []) (r := u1.2.2.2.1.2.2.2.2.2.1) ⟨hx, hb, hml, hown, hts⟩ (KR.eq (kX6_copy l D cI cS qx a0 (a1 0) (a2 0) (a3 0) (a4 0) has (3 : Int32) u1) (cp_3 cu0)) (cwV 1 hts gL_ticks_X6_copy rfl rfl rfl (by decide +kernel) ⟨Nat.le_of_ble_eq_true rfl, Nat.le_of_ble_eq_true rfl⟩) hE hP rfl rfl [0, 1] rfl rfl rfl hl.1 rfl (Nat.le_of_ble_eq_true rfl) ⟨Nat.le_of_ble_eq_true rfl, Nat.le_of_ble_eq_true rfl⟩ dL_ticks_83 ?_
        refine lv_iload hx hb dL_ticks_86 (lv_at hl 3 rfl) ?_
        refine lv_icmp_ge (tgt := 93) hx hb dL_ticks_88 (by decide) (fun _ => ?_) (fun c => absurd (bd_leq hcb hcb2 (by omega) ccu) c)
        refine lv_aload_n hx hb dL_ticks_93 rfl (lv_at hl 6 rfl) ?_
        refine lv_iconst (v := (3 : Int32)) hx hb dL_ticks_94 (by decide +kernel) ?_
        refine bRV (W0 := wO cI cS qx a0 a1 a2 a3 b3 a4 sn sc has ([]) (u1, tr, (hiA hi1 st1))) (wc := [(qx, .inr (6, [.ref (a0 0), .ref (a1 0), .ref (a2 0), .ref (a3 0), .ref (a4 0), .int has]))] :: wSt cI a0 u1 :: []) (r := (st1.2.2.2.2.2 3)) ⟨hx, hb, hml, hown, hts⟩ (KR.eq (kX6_total l D cI cS qx a0 (a1 0) (a2 0) (a3 0) (a4 0) has (3 : Int32) u1) ((tot_i (i := 3) (by omega)).trans c3)) (cwV 1 hts gL_ticks_X6_total rfl rfl rfl (by decide +kernel) ⟨Nat.le_of_ble_eq_true rfl, Nat.le_of_ble_eq_true rfl⟩) hE hP rfl rfl [0, 1] rfl rfl rfl hl.1 rfl (Nat.le_of_ble_eq_true rfl) ⟨Nat.le_of_ble_eq_true rfl, Nat.le_of_ble_eq_true rfl⟩ dL_ticks_95 ?_
        refine lv_iload hx hb dL_ticks_98 (lv_at hl 2 rfl) ?_
        refine lv_icmp_le (tgt := 107) hx hb dL_ticks_100 (by decide) (fun _ => ?_) (fun c => absurd (Int32.le_refl _) c)
        refine lv_iconst (v := (0 : Int32)) hx hb dL_ticks_107 (by decide +kernel) ?_
        refine lv_istore (lv' := [(10, .int ((0 : Int32))), (9, .int u1.2.2.2.1.2.2.1), (8, .int ((st1.2.2.2.2.2 5))), (7, .int ((st1.2.2.2.2.2 3))), (6, .int st1.2.2.2.1.2.2.2.2.2.1), (5, .int ((nI m2))), (4, .int st1.2.2.2.1.2.2.1), (0, .ref qx), (1, .int ((nI t))), (2, .int ((st.2.2.2.2.2 7))), (3, .int ((nI k)))]) hx hb dL_ticks_108 hl (by decide) rfl (fun ls hl => ?_)
        refine lv_iload hx hb dL_ticks_110 (lv_at hl 6 rfl) ?_
        refine lv_if_eq (tgt := 120) hx hb dL_ticks_112 (by decide) (fun c => absurd c c0) (fun _ => ?_)
        refine lv_iload hx hb dL_ticks_115 (lv_at hl 0 rfl) ?_
        refine lv_if_eq (tgt := 124) hx hb dL_ticks_117 (by decide) (fun _ => ?_) (fun c => absurd (show (0 : Int32) = (0 : Int32) by decide) c)
        refine lv_iload hx hb dL_ticks_124 (lv_at hl 5 rfl) ?_
        refine lv_aload_n hx hb dL_ticks_126 rfl (lv_at hl 7 rfl) ?_
        refine lv_iconst (v := (0 : Int32)) hx hb dL_ticks_127 (by decide +kernel) ?_
        refine bRV (W0 := wO cI cS qx a0 a1 a2 a3 b3 a4 sn sc has ([]) (u1, tr, (hiA hi1 st1))) (wc := [(qx, .inr (6, [.ref (a0 0), .ref (a1 0), .ref (a2 0), .ref (a3 0), .ref (a4 0), .int has]))] :: wSt cI a0 u1 :: []) (r := (nI p2)) ⟨hx, hb, hml, hown, hts⟩ (KR.eq (kX6_setting l D cI cS qx a0 (a1 0) (a2 0) (a3 0) (a4 0) has (0 : Int32) u1) ((set_i (i := 0) (by omega)).trans ((congrFun g2 0).trans ep))) (cwV 1 hts gL_ticks_X6_setting rfl rfl rfl (by decide +kernel) ⟨Nat.le_of_ble_eq_true rfl, Nat.le_of_ble_eq_true rfl⟩) hE hP rfl rfl [0, 1] rfl rfl rfl hl.1 rfl (Nat.le_of_ble_eq_true rfl) ⟨Nat.le_of_ble_eq_true rfl, Nat.le_of_ble_eq_true rfl⟩ dL_ticks_128 ?_
        refine lv_icmp_ge (tgt := 139) hx hb dL_ticks_131 (by decide) (fun c_131 => ?_) (fun c_131 => ?_)
        · have hmp : min p2 m2 = p2 := Nat.min_eq_left ((nI_leI (by omega) (by omega)).mp c_131)
          refine lv_aload_n hx hb dL_ticks_139 rfl (lv_at hl 7 rfl) ?_
          refine lv_iconst (v := (0 : Int32)) hx hb dL_ticks_140 (by decide +kernel) ?_
          refine bRV (W0 := wO cI cS qx a0 a1 a2 a3 b3 a4 sn sc has ([]) (u1, tr, (hiA hi1 st1))) (wc := [(qx, .inr (6, [.ref (a0 0), .ref (a1 0), .ref (a2 0), .ref (a3 0), .ref (a4 0), .int has]))] :: wSt cI a0 u1 :: []) (r := (nI p2)) ⟨hx, hb, hml, hown, hts⟩ (KR.eq (kX6_setting l D cI cS qx a0 (a1 0) (a2 0) (a3 0) (a4 0) has (0 : Int32) u1) ((set_i (i := 0) (by omega)).trans ((congrFun g2 0).trans ep))) (cwV 1 hts gL_ticks_X6_setting rfl rfl rfl (by decide +kernel) ⟨Nat.le_of_ble_eq_true rfl, Nat.le_of_ble_eq_true rfl⟩) hE hP rfl rfl [0, 1] rfl rfl rfl hl.1 rfl (Nat.le_of_ble_eq_true rfl) ⟨Nat.le_of_ble_eq_true rfl, Nat.le_of_ble_eq_true rfl⟩ dL_ticks_141 ?_
          refine lv_istore (lv' := [(11, .int ((nI p2))), (10, .int ((0 : Int32))), (9, .int u1.2.2.2.1.2.2.1), (8, .int ((st1.2.2.2.2.2 5))), (7, .int ((st1.2.2.2.2.2 3))), (6, .int st1.2.2.2.1.2.2.2.2.2.1), (5, .int ((nI m2))), (4, .int st1.2.2.2.1.2.2.1), (0, .ref qx), (1, .int ((nI t))), (2, .int ((st.2.2.2.2.2 7))), (3, .int ((nI k)))]) hx hb dL_ticks_144 hl (by decide) rfl (fun ls hl => ?_)
          refine lv_iload hx hb dL_ticks_146 (lv_at hl 1 rfl) ?_
          refine lv_if_eq (tgt := 163) hx hb dL_ticks_148 (by decide) (fun _ => ?_) (fun c => absurd (show (0 : Int32) = (0 : Int32) by decide) c)
          refine lv_aload_n hx hb dL_ticks_163 rfl (lv_at hl 8 rfl) ?_
          refine lv_iconst (v := (5 : Int32)) hx hb dL_ticks_164 (by decide +kernel) ?_
          refine bRV (W0 := wO cI cS qx a0 a1 a2 a3 b3 a4 sn sc has ([]) (u1, tr, (hiA hi1 st1))) (wc := [(qx, .inr (6, [.ref (a0 0), .ref (a1 0), .ref (a2 0), .ref (a3 0), .ref (a4 0), .int has]))] :: wSt cI a0 u1 :: []) (r := ((st1.2.2.2.2.2 5) + (nI p2))) ⟨hx, hb, hml, hown, hts⟩ (KR.eq (kX6_total l D cI cS qx a0 (a1 0) (a2 0) (a3 0) (a4 0) has (5 : Int32) u1) ((tot_i (i := 5) (by omega)).trans (e5.trans (by rw [hmp])))) (cwV 1 hts gL_ticks_X6_total rfl rfl rfl (by decide +kernel) ⟨Nat.le_of_ble_eq_true rfl, Nat.le_of_ble_eq_true rfl⟩) hE hP rfl rfl [0, 1] rfl rfl rfl hl.1 rfl (Nat.le_of_ble_eq_true rfl) ⟨Nat.le_of_ble_eq_true rfl, Nat.le_of_ble_eq_true rfl⟩ dL_ticks_165 ?_
          refine lv_iload hx hb dL_ticks_168 (lv_at hl 3 rfl) ?_
          refine lv_iload hx hb dL_ticks_170 (lv_at hl 0 rfl) ?_
          refine lv_iadd hx hb dL_ticks_172 ?_
          refine lv_icmp_ne (tgt := 213) hx hb dL_ticks_173 (by decide) (fun c => absurd rfl c) (fun _ => ?_)
          refine lv_iload hx hb dL_ticks_176 (lv_at hl 7 rfl) ?_
          refine lv_if_le (tgt := 194) hx hb dL_ticks_178 (by decide) (fun c => absurd c (bd_np hpb (by omega) c0)) (fun _ => ?_)
          refine lv_aload_n hx hb dL_ticks_181 rfl (lv_at hl 8 rfl) ?_
          refine lv_iconst (v := (4 : Int32)) hx hb dL_ticks_182 (by decide +kernel) ?_
          refine bRV (W0 := wO cI cS qx a0 a1 a2 a3 b3 a4 sn sc has ([]) (u1, tr, (hiA hi1 st1))) (wc := [(qx, .inr (6, [.ref (a0 0), .ref (a1 0), .ref (a2 0), .ref (a3 0), .ref (a4 0), .int has]))] :: wSt cI a0 u1 :: []) (r := ((nI m2) - (nI p2))) ⟨hx, hb, hml, hown, hts⟩ (KR.eq (kX6_copy l D cI cS qx a0 (a1 0) (a2 0) (a3 0) (a4 0) has (4 : Int32) u1) ((cp_4 cu0).trans (ez.trans (by rw [hmp]; exact (pk_sub (by omega)).symm)))) (cwV 1 hts gL_ticks_X6_copy rfl rfl rfl (by decide +kernel) ⟨Nat.le_of_ble_eq_true rfl, Nat.le_of_ble_eq_true rfl⟩) hE hP rfl rfl [0, 1] rfl rfl rfl hl.1 rfl (Nat.le_of_ble_eq_true rfl) ⟨Nat.le_of_ble_eq_true rfl, Nat.le_of_ble_eq_true rfl⟩ dL_ticks_183 ?_
          refine lv_iload hx hb dL_ticks_186 (lv_at hl 6 rfl) ?_
          refine lv_iload hx hb dL_ticks_188 (lv_at hl 0 rfl) ?_
          refine lv_isub hx hb dL_ticks_190 ?_
          refine lv_icmp_ne (tgt := 213) hx hb dL_ticks_191 (by decide) (fun c => absurd rfl c) (fun _ => ?_)
          refine lv_iload hx hb dL_ticks_194 (lv_at hl 2 rfl) ?_
          refine lv_iconst (v := (3 : Int32)) hx hb dL_ticks_196 (by decide +kernel) ?_
          refine lv_icmp_ne (tgt := 215) hx hb dL_ticks_197 (by decide) (fun c_197 => ?_) (fun c_197 => ?_)
          · refine lv_iinc (v := (nI (k + 1))) (lv' := [(3, .int ((nI (k + 1)))), (11, .int ((nI p2))), (10, .int ((0 : Int32))), (9, .int u1.2.2.2.1.2.2.1), (8, .int ((st1.2.2.2.2.2 5))), (7, .int ((st1.2.2.2.2.2 3))), (6, .int st1.2.2.2.1.2.2.2.2.2.1), (5, .int ((nI m2))), (4, .int st1.2.2.2.1.2.2.1), (0, .ref qx), (1, .int ((nI t))), (2, .int ((st.2.2.2.2.2 7)))]) hx hb dL_ticks_215 hl (k := 11) rfl (nI_1 _) (by decide) rfl (fun ls hl => ?_)
            refine lv_goto (tgt := 9) hx hb dL_ticks_218 (by decide) ?_
            exact ih (k + 1) u1 (hiA hi1 st1) H locs (by omega) g1 hh2 h72 hP hD hS _ (lv_sub hl [9, 10, 11, 0] rfl)
          · refine lv_aload_n hx hb dL_ticks_200 rfl (lv_at hl 8 rfl) ?_
            refine lv_iconst (v := (5 : Int32)) hx hb dL_ticks_201 (by decide +kernel) ?_
            refine bRV (W0 := wO cI cS qx a0 a1 a2 a3 b3 a4 sn sc has ([]) (u1, tr, (hiA hi1 st1))) (wc := [(qx, .inr (6, [.ref (a0 0), .ref (a1 0), .ref (a2 0), .ref (a3 0), .ref (a4 0), .int has]))] :: wSt cI a0 u1 :: []) (r := u1.2.2.2.1.2.2.2.2.2.2) ⟨hx, hb, hml, hown, hts⟩ (KR.eq (kX6_copy l D cI cS qx a0 (a1 0) (a2 0) (a3 0) (a4 0) has (5 : Int32) u1) ((cp_5 u1).trans (if_pos c_197))) (cwV 1 hts gL_ticks_X6_copy rfl rfl rfl (by decide +kernel) ⟨Nat.le_of_ble_eq_true rfl, Nat.le_of_ble_eq_true rfl⟩) hE hP rfl rfl [0, 1] rfl rfl rfl hl.1 rfl (Nat.le_of_ble_eq_true rfl) ⟨Nat.le_of_ble_eq_true rfl, Nat.le_of_ble_eq_true rfl⟩ dL_ticks_202 ?_
            refine lv_aload_n hx hb dL_ticks_205 rfl (lv_at hl 8 rfl) ?_
            refine lv_iconst (v := (2 : Int32)) hx hb dL_ticks_206 (by decide +kernel) ?_
            refine bRV (W0 := wO cI cS qx a0 a1 a2 a3 b3 a4 sn sc has ([]) (u1, tr, (hiA hi1 st1))) (wc := [(qx, .inr (6, [.ref (a0 0), .ref (a1 0), .ref (a2 0), .ref (a3 0), .ref (a4 0), .int has]))] :: wSt cI a0 u1 :: []) (r := (st1.2.2.2.2.1 2)) ⟨hx, hb, hml, hown, hts⟩ (KR.eq (kX6_setting l D cI cS qx a0 (a1 0) (a2 0) (a3 0) (a4 0) has (2 : Int32) u1) ((set_i (i := 2) (by omega)).trans (congrFun g2 2))) (cwV 1 hts gL_ticks_X6_setting rfl rfl rfl (by decide +kernel) ⟨Nat.le_of_ble_eq_true rfl, Nat.le_of_ble_eq_true rfl⟩) hE hP rfl rfl [0, 1] rfl rfl rfl hl.1 rfl (Nat.le_of_ble_eq_true rfl) ⟨Nat.le_of_ble_eq_true rfl, Nat.le_of_ble_eq_true rfl⟩ dL_ticks_207 ?_
            refine lv_icmp_le (tgt := 215) hx hb dL_ticks_210 (by decide) (fun _ => ?_) (fun c => absurd (Int32.not_lt.mp (cag c_197)) c)
            refine lv_iinc (v := (nI (k + 1))) (lv' := [(3, .int ((nI (k + 1)))), (11, .int ((nI p2))), (10, .int ((0 : Int32))), (9, .int u1.2.2.2.1.2.2.1), (8, .int ((st1.2.2.2.2.2 5))), (7, .int ((st1.2.2.2.2.2 3))), (6, .int st1.2.2.2.1.2.2.2.2.2.1), (5, .int ((nI m2))), (4, .int st1.2.2.2.1.2.2.1), (0, .ref qx), (1, .int ((nI t))), (2, .int ((st.2.2.2.2.2 7)))]) hx hb dL_ticks_215 hl (k := 11) rfl (nI_1 _) (by decide) rfl (fun ls hl => ?_)
            refine lv_goto (tgt := 9) hx hb dL_ticks_218 (by decide) ?_
            exact ih (k + 1) u1 (hiA hi1 st1) H locs (by omega) g1 hh2 h72 hP hD hS _ (lv_sub hl [9, 10, 11, 0] rfl)
        · have hmp : min p2 m2 = m2 := Nat.min_eq_right (Nat.le_of_not_le (fun q => c_131 (nI_le q (by omega))))
          refine lv_iload hx hb dL_ticks_134 (lv_at hl 5 rfl) ?_
          refine lv_goto (tgt := 144) hx hb dL_ticks_136 (by decide) ?_
          refine lv_istore (lv' := [(11, .int ((nI m2))), (10, .int ((0 : Int32))), (9, .int u1.2.2.2.1.2.2.1), (8, .int ((st1.2.2.2.2.2 5))), (7, .int ((st1.2.2.2.2.2 3))), (6, .int st1.2.2.2.1.2.2.2.2.2.1), (5, .int ((nI m2))), (4, .int st1.2.2.2.1.2.2.1), (0, .ref qx), (1, .int ((nI t))), (2, .int ((st.2.2.2.2.2 7))), (3, .int ((nI k)))]) hx hb dL_ticks_144 hl (by decide) rfl (fun ls hl => ?_)
          refine lv_iload hx hb dL_ticks_146 (lv_at hl 1 rfl) ?_
          refine lv_if_eq (tgt := 163) hx hb dL_ticks_148 (by decide) (fun _ => ?_) (fun c => absurd (show (0 : Int32) = (0 : Int32) by decide) c)
          refine lv_aload_n hx hb dL_ticks_163 rfl (lv_at hl 8 rfl) ?_
          refine lv_iconst (v := (5 : Int32)) hx hb dL_ticks_164 (by decide +kernel) ?_
          refine bRV (W0 := wO cI cS qx a0 a1 a2 a3 b3 a4 sn sc has ([]) (u1, tr, (hiA hi1 st1))) (wc := [(qx, .inr (6, [.ref (a0 0), .ref (a1 0), .ref (a2 0), .ref (a3 0), .ref (a4 0), .int has]))] :: wSt cI a0 u1 :: []) (r := ((st1.2.2.2.2.2 5) + (nI m2))) ⟨hx, hb, hml, hown, hts⟩ (KR.eq (kX6_total l D cI cS qx a0 (a1 0) (a2 0) (a3 0) (a4 0) has (5 : Int32) u1) ((tot_i (i := 5) (by omega)).trans (e5.trans (by rw [hmp])))) (cwV 1 hts gL_ticks_X6_total rfl rfl rfl (by decide +kernel) ⟨Nat.le_of_ble_eq_true rfl, Nat.le_of_ble_eq_true rfl⟩) hE hP rfl rfl [0, 1] rfl rfl rfl hl.1 rfl (Nat.le_of_ble_eq_true rfl) ⟨Nat.le_of_ble_eq_true rfl, Nat.le_of_ble_eq_true rfl⟩ dL_ticks_165 ?_
          refine lv_iload hx hb dL_ticks_168 (lv_at hl 3 rfl) ?_
          refine lv_iload hx hb dL_ticks_170 (lv_at hl 0 rfl) ?_
          refine lv_iadd hx hb dL_ticks_172 ?_
          refine lv_icmp_ne (tgt := 213) hx hb dL_ticks_173 (by decide) (fun c => absurd rfl c) (fun _ => ?_)
          refine lv_iload hx hb dL_ticks_176 (lv_at hl 7 rfl) ?_
          refine lv_if_le (tgt := 194) hx hb dL_ticks_178 (by decide) (fun c => absurd c (bd_np hpb (by omega) c0)) (fun _ => ?_)
          refine lv_aload_n hx hb dL_ticks_181 rfl (lv_at hl 8 rfl) ?_
          refine lv_iconst (v := (4 : Int32)) hx hb dL_ticks_182 (by decide +kernel) ?_
          refine bRV (W0 := wO cI cS qx a0 a1 a2 a3 b3 a4 sn sc has ([]) (u1, tr, (hiA hi1 st1))) (wc := [(qx, .inr (6, [.ref (a0 0), .ref (a1 0), .ref (a2 0), .ref (a3 0), .ref (a4 0), .int has]))] :: wSt cI a0 u1 :: []) (r := ((nI m2) - (nI m2))) ⟨hx, hb, hml, hown, hts⟩ (KR.eq (kX6_copy l D cI cS qx a0 (a1 0) (a2 0) (a3 0) (a4 0) has (4 : Int32) u1) ((cp_4 cu0).trans (ez.trans (by rw [hmp]; exact (pk_sub (by omega)).symm)))) (cwV 1 hts gL_ticks_X6_copy rfl rfl rfl (by decide +kernel) ⟨Nat.le_of_ble_eq_true rfl, Nat.le_of_ble_eq_true rfl⟩) hE hP rfl rfl [0, 1] rfl rfl rfl hl.1 rfl (Nat.le_of_ble_eq_true rfl) ⟨Nat.le_of_ble_eq_true rfl, Nat.le_of_ble_eq_true rfl⟩ dL_ticks_183 ?_
          refine lv_iload hx hb dL_ticks_186 (lv_at hl 6 rfl) ?_
          refine lv_iload hx hb dL_ticks_188 (lv_at hl 0 rfl) ?_
          refine lv_isub hx hb dL_ticks_190 ?_
          refine lv_icmp_ne (tgt := 213) hx hb dL_ticks_191 (by decide) (fun c => absurd rfl c) (fun _ => ?_)
          refine lv_iload hx hb dL_ticks_194 (lv_at hl 2 rfl) ?_
          refine lv_iconst (v := (3 : Int32)) hx hb dL_ticks_196 (by decide +kernel) ?_
          refine lv_icmp_ne (tgt := 215) hx hb dL_ticks_197 (by decide) (fun c_197 => ?_) (fun c_197 => ?_)
          · refine lv_iinc (v := (nI (k + 1))) (lv' := [(3, .int ((nI (k + 1)))), (11, .int ((nI m2))), (10, .int ((0 : Int32))), (9, .int u1.2.2.2.1.2.2.1), (8, .int ((st1.2.2.2.2.2 5))), (7, .int ((st1.2.2.2.2.2 3))), (6, .int st1.2.2.2.1.2.2.2.2.2.1), (5, .int ((nI m2))), (4, .int st1.2.2.2.1.2.2.1), (0, .ref qx), (1, .int ((nI t))), (2, .int ((st.2.2.2.2.2 7)))]) hx hb dL_ticks_215 hl (k := 11) rfl (nI_1 _) (by decide) rfl (fun ls hl => ?_)
            refine lv_goto (tgt := 9) hx hb dL_ticks_218 (by decide) ?_
            exact ih (k + 1) u1 (hiA hi1 st1) H locs (by omega) g1 hh2 h72 hP hD hS _ (lv_sub hl [9, 10, 11, 0] rfl)
          · refine lv_aload_n hx hb dL_ticks_200 rfl (lv_at hl 8 rfl) ?_
            refine lv_iconst (v := (5 : Int32)) hx hb dL_ticks_201 (by decide +kernel) ?_
            refine bRV (W0 := wO cI cS qx a0 a1 a2 a3 b3 a4 sn sc has ([]) (u1, tr, (hiA hi1 st1))) (wc := [(qx, .inr (6, [.ref (a0 0), .ref (a1 0), .ref (a2 0), .ref (a3 0), .ref (a4 0), .int has]))] :: wSt cI a0 u1 :: []) (r := u1.2.2.2.1.2.2.2.2.2.2) ⟨hx, hb, hml, hown, hts⟩ (KR.eq (kX6_copy l D cI cS qx a0 (a1 0) (a2 0) (a3 0) (a4 0) has (5 : Int32) u1) ((cp_5 u1).trans (if_pos c_197))) (cwV 1 hts gL_ticks_X6_copy rfl rfl rfl (by decide +kernel) ⟨Nat.le_of_ble_eq_true rfl, Nat.le_of_ble_eq_true rfl⟩) hE hP rfl rfl [0, 1] rfl rfl rfl hl.1 rfl (Nat.le_of_ble_eq_true rfl) ⟨Nat.le_of_ble_eq_true rfl, Nat.le_of_ble_eq_true rfl⟩ dL_ticks_202 ?_
            refine lv_aload_n hx hb dL_ticks_205 rfl (lv_at hl 8 rfl) ?_
            refine lv_iconst (v := (2 : Int32)) hx hb dL_ticks_206 (by decide +kernel) ?_
            refine bRV (W0 := wO cI cS qx a0 a1 a2 a3 b3 a4 sn sc has ([]) (u1, tr, (hiA hi1 st1))) (wc := [(qx, .inr (6, [.ref (a0 0), .ref (a1 0), .ref (a2 0), .ref (a3 0), .ref (a4 0), .int has]))] :: wSt cI a0 u1 :: []) (r := (st1.2.2.2.2.1 2)) ⟨hx, hb, hml, hown, hts⟩ (KR.eq (kX6_setting l D cI cS qx a0 (a1 0) (a2 0) (a3 0) (a4 0) has (2 : Int32) u1) ((set_i (i := 2) (by omega)).trans (congrFun g2 2))) (cwV 1 hts gL_ticks_X6_setting rfl rfl rfl (by decide +kernel) ⟨Nat.le_of_ble_eq_true rfl, Nat.le_of_ble_eq_true rfl⟩) hE hP rfl rfl [0, 1] rfl rfl rfl hl.1 rfl (Nat.le_of_ble_eq_true rfl) ⟨Nat.le_of_ble_eq_true rfl, Nat.le_of_ble_eq_true rfl⟩ dL_ticks_207 ?_
            refine lv_icmp_le (tgt := 215) hx hb dL_ticks_210 (by decide) (fun _ => ?_) (fun c => absurd (Int32.not_lt.mp (cag c_197)) c)
            refine lv_iinc (v := (nI (k + 1))) (lv' := [(3, .int ((nI (k + 1)))), (11, .int ((nI m2))), (10, .int ((0 : Int32))), (9, .int u1.2.2.2.1.2.2.1), (8, .int ((st1.2.2.2.2.2 5))), (7, .int ((st1.2.2.2.2.2 3))), (6, .int st1.2.2.2.1.2.2.2.2.2.1), (5, .int ((nI m2))), (4, .int st1.2.2.2.1.2.2.1), (0, .ref qx), (1, .int ((nI t))), (2, .int ((st.2.2.2.2.2 7)))]) hx hb dL_ticks_215 hl (k := 11) rfl (nI_1 _) (by decide) rfl (fun ls hl => ?_)
            refine lv_goto (tgt := 9) hx hb dL_ticks_218 (by decide) ?_
            exact ih (k + 1) u1 (hiA hi1 st1) H locs (by omega) g1 hh2 h72 hP hD hS _ (lv_sub hl [9, 10, 11, 0] rfl)
  refine lv_aload_n hx hb dL_ticks_0 rfl (lv_at hl 0 rfl) ?_
  refine lv_bipush (v := (7 : Int32)) hx hb dL_ticks_1 (by decide +kernel) ?_
  refine bRV (W0 := wO cI cS qx a0 a1 a2 a3 b3 a4 sn sc has ([]) (st, tr, hi)) (wc := [(qx, .inr (6, [.ref (a0 0), .ref (a1 0), .ref (a2 0), .ref (a3 0), .ref (a4 0), .int has]))] :: wSt cI a0 st :: []) (r := (st.2.2.2.2.2 7)) ⟨hx, hb, hml, hown, hts⟩ (KR.eq (kX6_total l D cI cS qx a0 (a1 0) (a2 0) (a3 0) (a4 0) has (7 : Int32) st) (tot_i (i := 7) (by omega))) (cwV 1 hts gL_ticks_X6_total rfl rfl rfl (by decide +kernel) ⟨Nat.le_of_ble_eq_true rfl, Nat.le_of_ble_eq_true rfl⟩) hE hP rfl rfl [0, 1] rfl rfl rfl hl.1 rfl (Nat.le_of_ble_eq_true rfl) ⟨Nat.le_of_ble_eq_true rfl, Nat.le_of_ble_eq_true rfl⟩ dL_ticks_3 ?_
  refine lv_istore_n (lv' := [(2, .int ((st.2.2.2.2.2 7))), (0, .ref qx), (1, .int ((nI t)))]) hx hb dL_ticks_6 rfl hl (by decide) rfl (fun ls hl => ?_)
  refine lv_iconst (v := (0 : Int32)) hx hb dL_ticks_7 (by decide +kernel) ?_
  refine lv_istore_n (lv' := [(3, .int ((0 : Int32))), (2, .int ((st.2.2.2.2.2 7))), (0, .ref qx), (1, .int ((nI t)))]) hx hb dL_ticks_8 rfl hl (by decide) rfl (fun ls hl => ?_)
  exact loop_9 t 0 st hi s.heap [] (by omega) hI hh (i_add0 _).symm hP hD hS _ (lv_sub hl [2, 3, 1, 0] rfl)
