theorem lgc (x : Int64) : lg_cmp x x = (0 : Int32) := by
  unfold lg_cmp
  rw [if_neg (show ¬ x > x from Int64.lt_irrefl), if_pos rfl]
set_option maxHeartbeats 8000000 in
set_option maxRecDepth 100000 in
theorem kL_readySo (l : Launch) (D : va_G) (cI cS : ClassId) (qx : Nat) (a0 a1 a2 a3 : Nat → Nat) (b3 : Nat → Nat → Nat) (a4 : Nat → Nat) (sn : StT) (sc : ScT) (has : Int32) {e0 : Nat} (st tr : StT) (hi : HiT) (hI : IV e0 st) (hh : WH hi) (t : Nat) (ht1 : 1 ≤ t) (ht : t ≤ 99) : KQ l yL_readySo wsL_readySo { frames := 6, cells := 0, slots := 0, locals := 131 } D (tysA cI cS) [.ref qx, .int (nI t)] (fl (wO cI cS qx a0 a1 a2 a3 b3 a4 sn sc has [] (st, tr, hi))) 0 0 (fun (v : Int32) (u : StT × HiT) => v = (1 : Int32) ∧ WH u.2) (fun u => fl (wO cI cS qx a0 a1 a2 a3 b3 a4 sn sc has [] (st, u.1, u.2))) := by
  refine KQ.of (cc := cL_readySo) (maxL := 7) (ty := .boolean) (by decide) rfl (Nat.le_of_ble_eq_true rfl) rfl (fun p e s m args below meth c ls Q A hx hb hml hown hts hE hP hD hA hS hX hl hend => ?_)
  have hown : s.vm.findClass RL = some m.cls := hown
  have hl : lv_has ls 7 [(0, .ref qx), (1, .int (nI t))] := hl
  have hbo : BL st.2.2.1 := hI.1.2.2.1
  have J_219 : ∀ (tr2 : StT) (hi2 : HiT) (H : Heap) (locs : List Loc), WH hi2 → va_P D vwCl (fl (wO cI cS qx a0 a1 a2 a3 b3 a4 sn sc has [] (st, tr2, hi2))) H → va_D A (fl (wO cI cS qx a0 a1 a2 a3 b3 a4 sn sc has [] (st, tr2, hi2))) → va_S A s.heap H locs → ∀ ls : Array Slot, lv_has ls 7 [(0, .ref qx), (1, .int ((nI t))), (2, .long ((taF st)))] → W p l e { frames := 6, cells := 0, slots := 0, locals := 131 } s m args below meth c H locs 0 0 Q (F0 m 219 ls []) := by
    intro tr2 hi2 H locs hh2 hP hD hS ls hl
    refine lv_aload_n hx hb dL_readySo_219 rfl (lv_at hl 0 rfl) ?_
    refine bLS (W0 := wO cI cS qx a0 a1 a2 a3 b3 a4 sn sc has ([]) (st, tr2, hi2)) (wc := [(qx, .inr (6, [.ref (a0 0), .ref (a1 0), .ref (a2 0), .ref (a3 0), .ref (a4 0), .int has]))] :: wSt cI a0 st :: []) (r := (taF st)) ⟨hx, hb, hml, hown, hts⟩ (kL_tale l D cI cS qx a0 a1 a2 a3 a4 has st hI.ws) (va_cwS 1 hts gL_readySo_L_tale rfl rfl rfl (by decide +kernel) ⟨Nat.le_of_ble_eq_true rfl, Nat.le_of_ble_eq_true rfl⟩) hE hP [0, 1] rfl rfl rfl hl.1 rfl (Nat.le_of_ble_eq_true rfl) ⟨Nat.le_of_ble_eq_true rfl, Nat.le_of_ble_eq_true rfl⟩ dL_readySo_220 ?_
    refine lv_lload_n hx hb dL_readySo_223 rfl (lv_at hl 2 rfl) ?_
    refine W.lcmp hx hb dL_readySo_224 ?_
    refine lv_if_ne (tgt := 232) hx hb dL_readySo_225 (by decide) (fun c => absurd (lgc _) c) (fun _ => ?_)
    refine lv_iconst (v := (1 : Int32)) hx hb dL_readySo_228 (by decide +kernel) ?_
    refine lv_goto (tgt := 233) hx hb dL_readySo_229 (by decide) ?_
    exact hend _ _ _ (tr2, hi2) _ _ _ _ dL_readySo_233 rfl (Nat.le_refl _) (Nat.le_refl _) ⟨rfl, hh2⟩ hP hS
  have J_149 : ∀ (N : Nat) (tr2 : StT) (H : Heap) (locs : List Loc), 1 ≤ N → N ≤ 99 → rdy (tkN N st) → (∀ i : Nat, i < N → ¬ rdy (tkN i st)) → va_P D vwCl (fl (wO cI cS qx a0 a1 a2 a3 b3 a4 sn sc has [] (st, tr2, hi))) H → va_D A (fl (wO cI cS qx a0 a1 a2 a3 b3 a4 sn sc has [] (st, tr2, hi))) → va_S A s.heap H locs → ∀ ls : Array Slot, lv_has ls 7 [(0, .ref qx), (1, .int ((nI t))), (2, .long ((taF st))), (4, .int ((nI N)))] → W p l e { frames := 6, cells := 0, slots := 0, locals := 131 } s m args below meth c H locs 0 0 Q (F0 m 149 ls []) := by
    intro N tr2 H locs hN1 hN2 hrd hmin hP hD hS ls hl
    have eT : fX6_tick (nI N) (st, hi) = ((tkN N st).2.2.2.1.2.2.1, (tkN N st, hiA hi st)) := tickN_is hI hN1 hN2
    have hI1 : IV (e0 + N) (tkN N st) := tkN_iv N e0 st hI
    obtain ⟨r3, hi2, eU, hr3, hh2⟩ := undo_is (σ := tkN N st) hh hbo
    generalize tkN N st = u1 at eT hI1 eU hrd
    refine lv_aload_n hx hb dL_readySo_149 rfl (lv_at hl 0 rfl) ?_
    refine lv_iload hx hb dL_readySo_150 (lv_at hl 3 rfl) ?_
    refine bIV (W0 := wO cI cS qx a0 a1 a2 a3 b3 a4 sn sc has ([]) (st, tr2, hi)) (wc := [(qx, .inr (6, [.ref (a0 0), .ref (a1 0), .ref (a2 0), .ref (a3 0), .ref (a4 0), .int has]))] :: wSt cI a0 st :: wHi cI cS a3 b3 hi []) (w1 := fun u : TPT => [(qx, .inr (6, [.ref (a0 0), .ref (a1 0), .ref (a2 0), .ref (a3 0), .ref (a4 0), .int has]))] :: wSt cI a0 u.1 :: wHi cI cS a3 b3 u.2 []) ⟨hx, hb, hml, hown, hts⟩ (kX6_tick l D cI cS qx a0 a3 b3 (a1 0) (a2 0) (a4 0) has (nI N) (st, hi) hI.ws hh) (cwV 1 hts gL_readySo_X6_tick rfl rfl rfl (by decide +kernel) ⟨Nat.le_of_ble_eq_true rfl, Nat.le_of_ble_eq_true rfl⟩) hE hP hD hS rfl rfl [0, 1, 4, 5, 6, 7, 8, 9, 10, 11] rfl rfl (fun _ => rfl) (fun _ => rfl) rfl hl.1 rfl (Nat.le_of_ble_eq_true rfl) ⟨Nat.le_of_ble_eq_true rfl, Nat.le_of_ble_eq_true rfl⟩ dL_readySo_152 (fun r_152 u_152 H locs e_152 hP hD hS => ?_)
    have hP : va_P D vwCl (fl (wO cI cS qx a0 a1 a2 a3 b3 a4 sn sc has ([]) (u_152.1, tr2, u_152.2))) H := hP
    have hD : va_D A (fl (wO cI cS qx a0 a1 a2 a3 b3 a4 sn sc has ([]) (u_152.1, tr2, u_152.2))) := hD
    rw [eT] at e_152
    cases e_152
    have hP : va_P D vwCl (fl (wO cI cS qx a0 a1 a2 a3 b3 a4 sn sc has ([]) (u1, tr2, (hiA hi st)))) H := hP
    have hD : va_D A (fl (wO cI cS qx a0 a1 a2 a3 b3 a4 sn sc has ([]) (u1, tr2, (hiA hi st)))) := hD
    rw [hrd.1]
    refine lv_iconst (v := (2 : Int32)) hx hb dL_readySo_155 (by decide +kernel) ?_
    refine lv_icmp_ne (tgt := 178) hx hb dL_readySo_156 (by decide) (fun c => absurd (show (2 : Int32) = (2 : Int32) by decide) c) (fun _ => ?_)
    refine lv_aload_n hx hb dL_readySo_159 rfl (lv_at hl 0 rfl) ?_
    refine lv_iconst (v := (4 : Int32)) hx hb dL_readySo_160 (by decide +kernel) ?_
    refine bRV (W0 := wO cI cS qx a0 a1 a2 a3 b3 a4 sn sc has ([]) (u1, tr2, (hiA hi st))) (wc := [(qx, .inr (6, [.ref (a0 0), .ref (a1 0), .ref (a2 0), .ref (a3 0), .ref (a4 0), .int has]))] :: wSt cI a0 u1 :: []) (r := (0 : Int32)) ⟨hx, hb, hml, hown, hts⟩ (KR.eq (kX6_copy l D cI cS qx a0 (a1 0) (a2 0) (a3 0) (a4 0) has (4 : Int32) u1) ((cp_4 (by rw [hrd.1]; decide)).trans hrd.2)) (cwV 1 hts gL_readySo_X6_copy rfl rfl rfl (by decide +kernel) ⟨Nat.le_of_ble_eq_true rfl, Nat.le_of_ble_eq_true rfl⟩) hE hP rfl rfl [0, 1] rfl rfl rfl hl.1 rfl (Nat.le_of_ble_eq_true rfl) ⟨Nat.le_of_ble_eq_true rfl, Nat.le_of_ble_eq_true rfl⟩ dL_readySo_161 ?_
    refine lv_if_ne (tgt := 178) hx hb dL_readySo_164 (by decide) (fun c => absurd (show (0 : Int32) = (0 : Int32) by decide) c) (fun _ => ?_)
    refine lv_aload_n hx hb dL_readySo_167 rfl (lv_at hl 0 rfl) ?_
    refine bIV (W0 := wO cI cS qx a0 a1 a2 a3 b3 a4 sn sc has ([]) (u1, tr2, (hiA hi st))) (wc := [(qx, .inr (6, [.ref (a0 0), .ref (a1 0), .ref (a2 0), .ref (a3 0), .ref (a4 0), .int has]))] :: wSt cI a0 u1 :: wHi cI cS a3 b3 ((hiA hi st)) []) (w1 := fun u : TPT => [(qx, .inr (6, [.ref (a0 0), .ref (a1 0), .ref (a2 0), .ref (a3 0), .ref (a4 0), .int has]))] :: wSt cI a0 u.1 :: wHi cI cS a3 b3 u.2 []) ⟨hx, hb, hml, hown, hts⟩ (kX6_undo l D cI cS qx a0 a3 b3 (a1 0) (a2 0) (a4 0) has (u1, (hiA hi st)) (hh.act hbo)) (cwV 0 hts gL_readySo_X6_undo rfl rfl rfl (by decide +kernel) ⟨Nat.le_of_ble_eq_true rfl, Nat.le_of_ble_eq_true rfl⟩) hE hP hD hS rfl rfl [0, 1, 4, 5, 6, 7, 8, 9, 10, 11] rfl rfl (fun _ => rfl) (fun _ => rfl) rfl hl.1 rfl (Nat.le_of_ble_eq_true rfl) ⟨Nat.le_of_ble_eq_true rfl, Nat.le_of_ble_eq_true rfl⟩ dL_readySo_168 (fun r_168 u_168 H locs e_168 hP hD hS => ?_)
    have hP : va_P D vwCl (fl (wO cI cS qx a0 a1 a2 a3 b3 a4 sn sc has ([]) (u_168.1, tr2, u_168.2))) H := hP
    have hD : va_D A (fl (wO cI cS qx a0 a1 a2 a3 b3 a4 sn sc has ([]) (u_168.1, tr2, u_168.2))) := hD
    rw [eU] at e_168
    cases e_168
    have hP : va_P D vwCl (fl (wO cI cS qx a0 a1 a2 a3 b3 a4 sn sc has ([]) (st, tr2, hi2))) H := hP
    have hD : va_D A (fl (wO cI cS qx a0 a1 a2 a3 b3 a4 sn sc has ([]) (st, tr2, hi2))) := hD
    refine lv_if_lt (tgt := 178) hx hb dL_readySo_171 (by decide) (fun c => absurd c hr3) (fun _ => ?_)
    refine lv_iconst (v := (1 : Int32)) hx hb dL_readySo_174 (by decide +kernel) ?_
    refine lv_goto (tgt := 179) hx hb dL_readySo_175 (by decide) ?_
    refine lv_istore (lv' := [(6, .int ((1 : Int32))), (0, .ref qx), (1, .int ((nI t))), (2, .long ((taF st))), (4, .int ((nI N)))]) hx hb dL_readySo_179 hl (by decide) rfl (fun ls hl => ?_)
    refine lv_iload hx hb dL_readySo_181 (lv_at hl 0 rfl) ?_
    refine lv_if_eq (tgt := 232) hx hb dL_readySo_183 (by decide) (fun c => absurd c (show ¬ (1 : Int32) = (0 : Int32) by decide)) (fun _ => ?_)
    refine lv_iload hx hb dL_readySo_186 (lv_at hl 4 rfl) ?_
    refine lv_iconst (v := (1 : Int32)) hx hb dL_readySo_188 (by decide +kernel) ?_
    refine lv_icmp_eq (tgt := 219) hx hb dL_readySo_189 (by decide) (fun c_189 => ?_) (fun c_189 => ?_)
    · exact J_219 tr2 hi2 _ _ hh2 hP hD hS _ (lv_sub hl [1, 2, 3] rfl)
    · have hN3 : 1 < N := Nat.lt_of_not_le (fun q => c_189 (by rw [show N = 1 from by omega]; rfl))
      have eT2 : fX6_tick ((nI N) - (1 : Int32)) (st, hi2) = ((tkN (N - 1) st).2.2.2.1.2.2.1, (tkN (N - 1) st, hiA hi2 st)) := by
        rw [show (nI N) - (1 : Int32) = nI (N - 1) from by rw [show N = (N - 1) + 1 from by omega]; exact nI_pred _]
        exact tickN_is hI (by omega) (by omega)
      have hI2 : IV (e0 + (N - 1)) (tkN (N - 1) st) := tkN_iv (N - 1) e0 st hI
      have hn2 : ¬ rdy (tkN (N - 1) st) := hmin (N - 1) (by omega)
      obtain ⟨r4, hi3, eU2, hr4, hh3⟩ := undo_is (σ := tkN (N - 1) st) hh2 hbo
      generalize tkN (N - 1) st = u2 at eT2 hI2 hn2 eU2
      refine lv_aload_n hx hb dL_readySo_192 rfl (lv_at hl 1 rfl) ?_
      refine lv_iload hx hb dL_readySo_193 (lv_at hl 4 rfl) ?_
      refine lv_iconst (v := (1 : Int32)) hx hb dL_readySo_195 (by decide +kernel) ?_
      refine lv_isub hx hb dL_readySo_196 ?_
      refine bIV (W0 := wO cI cS qx a0 a1 a2 a3 b3 a4 sn sc has ([]) (st, tr2, hi2)) (wc := [(qx, .inr (6, [.ref (a0 0), .ref (a1 0), .ref (a2 0), .ref (a3 0), .ref (a4 0), .int has]))] :: wSt cI a0 st :: wHi cI cS a3 b3 hi2 []) (w1 := fun u : TPT => [(qx, .inr (6, [.ref (a0 0), .ref (a1 0), .ref (a2 0), .ref (a3 0), .ref (a4 0), .int has]))] :: wSt cI a0 u.1 :: wHi cI cS a3 b3 u.2 []) ⟨hx, hb, hml, hown, hts⟩ (kX6_tick l D cI cS qx a0 a3 b3 (a1 0) (a2 0) (a4 0) has ((nI N) - (1 : Int32)) (st, hi2) hI.ws hh2) (cwV 1 hts gL_readySo_X6_tick rfl rfl rfl (by decide +kernel) ⟨Nat.le_of_ble_eq_true rfl, Nat.le_of_ble_eq_true rfl⟩) hE hP hD hS rfl rfl [0, 1, 4, 5, 6, 7, 8, 9, 10, 11] rfl rfl (fun _ => rfl) (fun _ => rfl) rfl hl.1 rfl (Nat.le_of_ble_eq_true rfl) ⟨Nat.le_of_ble_eq_true rfl, Nat.le_of_ble_eq_true rfl⟩ dL_readySo_197 (fun r_197 u_197 H locs e_197 hP hD hS => ?_)
      have hP : va_P D vwCl (fl (wO cI cS qx a0 a1 a2 a3 b3 a4 sn sc has ([]) (u_197.1, tr2, u_197.2))) H := hP
      have hD : va_D A (fl (wO cI cS qx a0 a1 a2 a3 b3 a4 sn sc has ([]) (u_197.1, tr2, u_197.2))) := hD
      rw [eT2] at e_197
      cases e_197
      have hP : va_P D vwCl (fl (wO cI cS qx a0 a1 a2 a3 b3 a4 sn sc has ([]) (u2, tr2, (hiA hi2 st)))) H := hP
      have hD : va_D A (fl (wO cI cS qx a0 a1 a2 a3 b3 a4 sn sc has ([]) (u2, tr2, (hiA hi2 st)))) := hD
      refine lv_iconst (v := (2 : Int32)) hx hb dL_readySo_200 (by decide +kernel) ?_
      refine lv_icmp_ne (tgt := 212) hx hb dL_readySo_201 (by decide) (fun c_201 => ?_) (fun c_201 => ?_)
      · refine lv_aload_n hx hb dL_readySo_212 rfl (lv_at hl 1 rfl) ?_
        refine bIV (W0 := wO cI cS qx a0 a1 a2 a3 b3 a4 sn sc has ([]) (u2, tr2, (hiA hi2 st))) (wc := [(qx, .inr (6, [.ref (a0 0), .ref (a1 0), .ref (a2 0), .ref (a3 0), .ref (a4 0), .int has]))] :: wSt cI a0 u2 :: wHi cI cS a3 b3 ((hiA hi2 st)) []) (w1 := fun u : TPT => [(qx, .inr (6, [.ref (a0 0), .ref (a1 0), .ref (a2 0), .ref (a3 0), .ref (a4 0), .int has]))] :: wSt cI a0 u.1 :: wHi cI cS a3 b3 u.2 []) ⟨hx, hb, hml, hown, hts⟩ (kX6_undo l D cI cS qx a0 a3 b3 (a1 0) (a2 0) (a4 0) has (u2, (hiA hi2 st)) (hh2.act hbo)) (cwV 0 hts gL_readySo_X6_undo rfl rfl rfl (by decide +kernel) ⟨Nat.le_of_ble_eq_true rfl, Nat.le_of_ble_eq_true rfl⟩) hE hP hD hS rfl rfl [0, 1, 4, 5, 6, 7, 8, 9, 10, 11] rfl rfl (fun _ => rfl) (fun _ => rfl) rfl hl.1 rfl (Nat.le_of_ble_eq_true rfl) ⟨Nat.le_of_ble_eq_true rfl, Nat.le_of_ble_eq_true rfl⟩ dL_readySo_213 (fun r_213 u_213 H locs e_213 hP hD hS => ?_)
        have hP : va_P D vwCl (fl (wO cI cS qx a0 a1 a2 a3 b3 a4 sn sc has ([]) (u_213.1, tr2, u_213.2))) H := hP
        have hD : va_D A (fl (wO cI cS qx a0 a1 a2 a3 b3 a4 sn sc has ([]) (u_213.1, tr2, u_213.2))) := hD
        rw [eU2] at e_213
        cases e_213
        have hP : va_P D vwCl (fl (wO cI cS qx a0 a1 a2 a3 b3 a4 sn sc has ([]) (st, tr2, hi3))) H := hP
        have hD : va_D A (fl (wO cI cS qx a0 a1 a2 a3 b3 a4 sn sc has ([]) (st, tr2, hi3))) := hD
        refine lv_if_lt (tgt := 232) hx hb dL_readySo_216 (by decide) (fun c => absurd c hr4) (fun _ => ?_)
        exact J_219 tr2 hi3 _ _ hh3 hP hD hS _ (lv_sub hl [1, 2, 3] rfl)
      · refine lv_aload_n hx hb dL_readySo_204 rfl (lv_at hl 1 rfl) ?_
        refine lv_iconst (v := (4 : Int32)) hx hb dL_readySo_205 (by decide +kernel) ?_
        refine bRV (W0 := wO cI cS qx a0 a1 a2 a3 b3 a4 sn sc has ([]) (u2, tr2, (hiA hi2 st))) (wc := [(qx, .inr (6, [.ref (a0 0), .ref (a1 0), .ref (a2 0), .ref (a3 0), .ref (a4 0), .int has]))] :: wSt cI a0 u2 :: []) (r := u2.2.2.2.1.2.1.2.2.2) ⟨hx, hb, hml, hown, hts⟩ (KR.eq (kX6_copy l D cI cS qx a0 (a1 0) (a2 0) (a3 0) (a4 0) has (4 : Int32) u2) (cp_4 (by rw [c_201]; decide))) (cwV 1 hts gL_readySo_X6_copy rfl rfl rfl (by decide +kernel) ⟨Nat.le_of_ble_eq_true rfl, Nat.le_of_ble_eq_true rfl⟩) hE hP rfl rfl [0, 1] rfl rfl rfl hl.1 rfl (Nat.le_of_ble_eq_true rfl) ⟨Nat.le_of_ble_eq_true rfl, Nat.le_of_ble_eq_true rfl⟩ dL_readySo_206 ?_
        refine lv_if_le (tgt := 232) hx hb dL_readySo_209 (by decide) (fun c => absurd c (bd_np hI2.1.1.2 (by omega) (fun q => hn2 ⟨c_201, q⟩))) (fun _ => ?_)
        refine lv_aload_n hx hb dL_readySo_212 rfl (lv_at hl 1 rfl) ?_
        refine bIV (W0 := wO cI cS qx a0 a1 a2 a3 b3 a4 sn sc has ([]) (u2, tr2, (hiA hi2 st))) (wc := [(qx, .inr (6, [.ref (a0 0), .ref (a1 0), .ref (a2 0), .ref (a3 0), .ref (a4 0), .int has]))] :: wSt cI a0 u2 :: wHi cI cS a3 b3 ((hiA hi2 st)) []) (w1 := fun u : TPT => [(qx, .inr (6, [.ref (a0 0), .ref (a1 0), .ref (a2 0), .ref (a3 0), .ref (a4 0), .int has]))] :: wSt cI a0 u.1 :: wHi cI cS a3 b3 u.2 []) ⟨hx, hb, hml, hown, hts⟩ (kX6_undo l D cI cS qx a0 a3 b3 (a1 0) (a2 0) (a4 0) has (u2, (hiA hi2 st)) (hh2.act hbo)) (cwV 0 hts gL_readySo_X6_undo rfl rfl rfl (by decide +kernel) ⟨Nat.le_of_ble_eq_true rfl, Nat.le_of_ble_eq_true rfl⟩) hE hP hD hS rfl rfl [0, 1, 4, 5, 6, 7, 8, 9, 10, 11] rfl rfl (fun _ => rfl) (fun _ => rfl) rfl hl.1 rfl (Nat.le_of_ble_eq_true rfl) ⟨Nat.le_of_ble_eq_true rfl, Nat.le_of_ble_eq_true rfl⟩ dL_readySo_213 (fun r_213 u_213 H locs e_213 hP hD hS => ?_)
        have hP : va_P D vwCl (fl (wO cI cS qx a0 a1 a2 a3 b3 a4 sn sc has ([]) (u_213.1, tr2, u_213.2))) H := hP
        have hD : va_D A (fl (wO cI cS qx a0 a1 a2 a3 b3 a4 sn sc has ([]) (u_213.1, tr2, u_213.2))) := hD
        rw [eU2] at e_213
        cases e_213
        have hP : va_P D vwCl (fl (wO cI cS qx a0 a1 a2 a3 b3 a4 sn sc has ([]) (st, tr2, hi3))) H := hP
        have hD : va_D A (fl (wO cI cS qx a0 a1 a2 a3 b3 a4 sn sc has ([]) (st, tr2, hi3))) := hD
        refine lv_if_lt (tgt := 232) hx hb dL_readySo_216 (by decide) (fun c => absurd c hr4) (fun _ => ?_)
        exact J_219 tr2 hi3 _ _ hh3 hP hD hS _ (lv_sub hl [1, 2, 3] rfl)
  rcases hI.ph with hph | hph | hph | hph
  · have h1 : ¬ st.2.2.2.1.2.2.1 = (1 : Int32) := by rw [hph]; decide
    have h2 : ¬ st.2.2.2.1.2.2.1 = (2 : Int32) := by rw [hph]; decide
    refine lv_aload_n hx hb dL_readySo_0 rfl (lv_at hl 0 rfl) ?_
    refine bLS (W0 := wO cI cS qx a0 a1 a2 a3 b3 a4 sn sc has ([]) (st, tr, hi)) (wc := [(qx, .inr (6, [.ref (a0 0), .ref (a1 0), .ref (a2 0), .ref (a3 0), .ref (a4 0), .int has]))] :: wSt cI a0 st :: []) (r := (taF st)) ⟨hx, hb, hml, hown, hts⟩ (kL_tale l D cI cS qx a0 a1 a2 a3 a4 has st hI.ws) (va_cwS 1 hts gL_readySo_L_tale rfl rfl rfl (by decide +kernel) ⟨Nat.le_of_ble_eq_true rfl, Nat.le_of_ble_eq_true rfl⟩) hE hP [0, 1] rfl rfl rfl hl.1 rfl (Nat.le_of_ble_eq_true rfl) ⟨Nat.le_of_ble_eq_true rfl, Nat.le_of_ble_eq_true rfl⟩ dL_readySo_1 ?_
    refine lv_lstore_n (lv' := [(2, .long ((taF st))), (0, .ref qx), (1, .int ((nI t)))]) hx hb dL_readySo_4 rfl hl (by decide) rfl (fun ls hl => ?_)
    refine lv_aload_n hx hb dL_readySo_5 rfl (lv_at hl 1 rfl) ?_
    refine bIV (W0 := wO cI cS qx a0 a1 a2 a3 b3 a4 sn sc has ([]) (st, tr, hi)) (wc := [(qx, .inr (6, [.ref (a0 0), .ref (a1 0), .ref (a2 0), .ref (a3 0), .ref (a4 0), .int has]))] :: wSt cI a0 st :: wSt cI a2 tr :: []) (w1 := fun u : TTT => [(qx, .inr (6, [.ref (a0 0), .ref (a1 0), .ref (a2 0), .ref (a3 0), .ref (a4 0), .int has]))] :: wSt cI a0 u.1 :: wSt cI a2 u.2 :: []) ⟨hx, hb, hml, hown, hts⟩ (kX6_readyIn l D cI cS qx a0 a2 (a1 0) (a3 0) (a4 0) has (st, tr) hI.ws) (cwV 0 hts gL_readySo_X6_readyIn rfl rfl rfl (by decide +kernel) ⟨Nat.le_of_ble_eq_true rfl, Nat.le_of_ble_eq_true rfl⟩) hE hP hD hS rfl rfl [0, 1, 3] rfl rfl (fun _ => rfl) (fun _ => rfl) rfl hl.1 rfl (Nat.le_of_ble_eq_true rfl) ⟨Nat.le_of_ble_eq_true rfl, Nat.le_of_ble_eq_true rfl⟩ dL_readySo_6 (fun r_6 u_6 H locs e_6 hP hD hS => ?_)
    have hP : va_P D vwCl (fl (wO cI cS qx a0 a1 a2 a3 b3 a4 sn sc has ([]) (u_6.1, u_6.2, hi))) H := hP
    have hD : va_D A (fl (wO cI cS qx a0 a1 a2 a3 b3 a4 sn sc has ([]) (u_6.1, u_6.2, hi))) := hD
    rw [ready_no h1 h2] at e_6
    cases e_6
    have hP : va_P D vwCl (fl (wO cI cS qx a0 a1 a2 a3 b3 a4 sn sc has ([]) (st, tr, hi))) H := hP
    have hD : va_D A (fl (wO cI cS qx a0 a1 a2 a3 b3 a4 sn sc has ([]) (st, tr, hi))) := hD
    refine lv_istore (lv' := [(4, .int ((-4 : Int32))), (2, .long ((taF st))), (0, .ref qx), (1, .int ((nI t)))]) hx hb dL_readySo_9 hl (by decide) rfl (fun ls hl => ?_)
    refine lv_aload_n hx hb dL_readySo_11 rfl (lv_at hl 2 rfl) ?_
    refine lv_iload_n hx hb dL_readySo_12 rfl (lv_at hl 3 rfl) ?_
    refine bIV (W0 := wO cI cS qx a0 a1 a2 a3 b3 a4 sn sc has ([]) (st, tr, hi)) (wc := [(qx, .inr (6, [.ref (a0 0), .ref (a1 0), .ref (a2 0), .ref (a3 0), .ref (a4 0), .int has]))] :: wSt cI a0 st :: wSt cI a2 tr :: []) (w1 := fun u : TTT => [(qx, .inr (6, [.ref (a0 0), .ref (a1 0), .ref (a2 0), .ref (a3 0), .ref (a4 0), .int has]))] :: wSt cI a0 u.1 :: wSt cI a2 u.2 :: []) ⟨hx, hb, hml, hown, hts⟩ (kX6_leastLot l D cI cS qx a0 a2 (a1 0) (a3 0) (a4 0) has (nI t) (st, tr) hI.ws) (cwV 1 hts gL_readySo_X6_leastLot rfl rfl rfl (by decide +kernel) ⟨Nat.le_of_ble_eq_true rfl, Nat.le_of_ble_eq_true rfl⟩) hE hP hD hS rfl rfl [0, 1, 3] rfl rfl (fun _ => rfl) (fun _ => rfl) rfl hl.1 rfl (Nat.le_of_ble_eq_true rfl) ⟨Nat.le_of_ble_eq_true rfl, Nat.le_of_ble_eq_true rfl⟩ dL_readySo_13 (fun r_13 u_13 H locs e_13 hP hD hS => ?_)
    have hP : va_P D vwCl (fl (wO cI cS qx a0 a1 a2 a3 b3 a4 sn sc has ([]) (u_13.1, u_13.2, hi))) H := hP
    have hD : va_D A (fl (wO cI cS qx a0 a1 a2 a3 b3 a4 sn sc has ([]) (u_13.1, u_13.2, hi))) := hD
    rw [least_no ht1 ht h1 h2] at e_13
    cases e_13
    have hP : va_P D vwCl (fl (wO cI cS qx a0 a1 a2 a3 b3 a4 sn sc has ([]) (st, tr, hi))) H := hP
    have hD : va_D A (fl (wO cI cS qx a0 a1 a2 a3 b3 a4 sn sc has ([]) (st, tr, hi))) := hD
    refine lv_istore (lv' := [(5, .int ((-4 : Int32))), (4, .int ((-4 : Int32))), (2, .long ((taF st))), (0, .ref qx), (1, .int ((nI t)))]) hx hb dL_readySo_16 hl (by decide) rfl (fun ls hl => ?_)
    refine lv_iload hx hb dL_readySo_18 (lv_at hl 1 rfl) ?_
    refine lv_bipush (v := (-4 : Int32)) hx hb dL_readySo_20 (by decide +kernel) ?_
    refine lv_icmp_ne (tgt := 55) hx hb dL_readySo_22 (by decide) (fun c => absurd (show (-4 : Int32) = (-4 : Int32) by decide) c) (fun _ => ?_)
    refine lv_iload hx hb dL_readySo_25 (lv_at hl 0 rfl) ?_
    refine lv_bipush (v := (-4 : Int32)) hx hb dL_readySo_27 (by decide +kernel) ?_
    refine lv_icmp_ne (tgt := 53) hx hb dL_readySo_29 (by decide) (fun c => absurd (show (-4 : Int32) = (-4 : Int32) by decide) c) (fun _ => ?_)
    refine lv_aload_n hx hb dL_readySo_32 rfl (lv_at hl 3 rfl) ?_
    refine lv_iconst (v := (0 : Int32)) hx hb dL_readySo_33 (by decide +kernel) ?_
    refine bRV (W0 := wO cI cS qx a0 a1 a2 a3 b3 a4 sn sc has ([]) (st, tr, hi)) (wc := [(qx, .inr (6, [.ref (a0 0), .ref (a1 0), .ref (a2 0), .ref (a3 0), .ref (a4 0), .int has]))] :: wSt cI a0 st :: []) (r := (0 : Int32)) ⟨hx, hb, hml, hown, hts⟩ (KR.eq (kX6_copy l D cI cS qx a0 (a1 0) (a2 0) (a3 0) (a4 0) has (0 : Int32) st) ((cp_0 st).trans hph)) (cwV 1 hts gL_readySo_X6_copy rfl rfl rfl (by decide +kernel) ⟨Nat.le_of_ble_eq_true rfl, Nat.le_of_ble_eq_true rfl⟩) hE hP rfl rfl [0, 1] rfl rfl rfl hl.1 rfl (Nat.le_of_ble_eq_true rfl) ⟨Nat.le_of_ble_eq_true rfl, Nat.le_of_ble_eq_true rfl⟩ dL_readySo_34 ?_
    refine lv_if_eq (tgt := 49) hx hb dL_readySo_37 (by decide) (fun _ => ?_) (fun c => absurd (show (0 : Int32) = (0 : Int32) by decide) c)
    refine lv_iconst (v := (1 : Int32)) hx hb dL_readySo_49 (by decide +kernel) ?_
    refine lv_goto (tgt := 54) hx hb dL_readySo_50 (by decide) ?_
    exact hend _ _ _ (tr, hi) _ _ _ _ dL_readySo_54 rfl (Nat.le_refl _) (Nat.le_refl _) ⟨rfl, hh⟩ hP hS
  · have h0 : ¬ st.2.2.2.1.2.2.1 = (0 : Int32) := by rw [hph]; decide
    have hy : st.2.2.2.1.2.2.1 = (1 : Int32) ∨ st.2.2.2.1.2.2.1 = (2 : Int32) := Or.inl hph
    obtain ⟨q, hq, eq⟩ := (hI.cp h0).2.1
    obtain ⟨rr, tr1, er, hr⟩ := ready_is (tr := tr) hy
    obtain ⟨r2, tr2, el, hl1, hl2, hl3⟩ := least_is (tr := tr1) ht1 ht hy hq eq
    rcases hr with ⟨N, hN, hrd, hmin, eN⟩ | ⟨hno, eN⟩
    · subst eN
      by_cases hN0 : N = 0
      · subst hN0
        have er : fX6_readyIn (st, tr) = ((0 : Int32), (st, tr1)) := er
        rw [hl3 hrd] at el
        refine lv_aload_n hx hb dL_readySo_0 rfl (lv_at hl 0 rfl) ?_
        refine bLS (W0 := wO cI cS qx a0 a1 a2 a3 b3 a4 sn sc has ([]) (st, tr, hi)) (wc := [(qx, .inr (6, [.ref (a0 0), .ref (a1 0), .ref (a2 0), .ref (a3 0), .ref (a4 0), .int has]))] :: wSt cI a0 st :: []) (r := (taF st)) ⟨hx, hb, hml, hown, hts⟩ (kL_tale l D cI cS qx a0 a1 a2 a3 a4 has st hI.ws) (va_cwS 1 hts gL_readySo_L_tale rfl rfl rfl (by decide +kernel) ⟨Nat.le_of_ble_eq_true rfl, Nat.le_of_ble_eq_true rfl⟩) hE hP [0, 1] rfl rfl rfl hl.1 rfl (Nat.le_of_ble_eq_true rfl) ⟨Nat.le_of_ble_eq_true rfl, Nat.le_of_ble_eq_true rfl⟩ dL_readySo_1 ?_
        refine lv_lstore_n (lv' := [(2, .long ((taF st))), (0, .ref qx), (1, .int ((nI t)))]) hx hb dL_readySo_4 rfl hl (by decide) rfl (fun ls hl => ?_)
        refine lv_aload_n hx hb dL_readySo_5 rfl (lv_at hl 1 rfl) ?_
        refine bIV (W0 := wO cI cS qx a0 a1 a2 a3 b3 a4 sn sc has ([]) (st, tr, hi)) (wc := [(qx, .inr (6, [.ref (a0 0), .ref (a1 0), .ref (a2 0), .ref (a3 0), .ref (a4 0), .int has]))] :: wSt cI a0 st :: wSt cI a2 tr :: []) (w1 := fun u : TTT => [(qx, .inr (6, [.ref (a0 0), .ref (a1 0), .ref (a2 0), .ref (a3 0), .ref (a4 0), .int has]))] :: wSt cI a0 u.1 :: wSt cI a2 u.2 :: []) ⟨hx, hb, hml, hown, hts⟩ (kX6_readyIn l D cI cS qx a0 a2 (a1 0) (a3 0) (a4 0) has (st, tr) hI.ws) (cwV 0 hts gL_readySo_X6_readyIn rfl rfl rfl (by decide +kernel) ⟨Nat.le_of_ble_eq_true rfl, Nat.le_of_ble_eq_true rfl⟩) hE hP hD hS rfl rfl [0, 1, 3] rfl rfl (fun _ => rfl) (fun _ => rfl) rfl hl.1 rfl (Nat.le_of_ble_eq_true rfl) ⟨Nat.le_of_ble_eq_true rfl, Nat.le_of_ble_eq_true rfl⟩ dL_readySo_6 (fun r_6 u_6 H locs e_6 hP hD hS => ?_)
        have hP : va_P D vwCl (fl (wO cI cS qx a0 a1 a2 a3 b3 a4 sn sc has ([]) (u_6.1, u_6.2, hi))) H := hP
        have hD : va_D A (fl (wO cI cS qx a0 a1 a2 a3 b3 a4 sn sc has ([]) (u_6.1, u_6.2, hi))) := hD
        rw [er] at e_6
        cases e_6
        have hP : va_P D vwCl (fl (wO cI cS qx a0 a1 a2 a3 b3 a4 sn sc has ([]) (st, tr1, hi))) H := hP
        have hD : va_D A (fl (wO cI cS qx a0 a1 a2 a3 b3 a4 sn sc has ([]) (st, tr1, hi))) := hD
        refine lv_istore (lv' := [(4, .int ((0 : Int32))), (2, .long ((taF st))), (0, .ref qx), (1, .int ((nI t)))]) hx hb dL_readySo_9 hl (by decide) rfl (fun ls hl => ?_)
        refine lv_aload_n hx hb dL_readySo_11 rfl (lv_at hl 2 rfl) ?_
        refine lv_iload_n hx hb dL_readySo_12 rfl (lv_at hl 3 rfl) ?_
        refine bIV (W0 := wO cI cS qx a0 a1 a2 a3 b3 a4 sn sc has ([]) (st, tr1, hi)) (wc := [(qx, .inr (6, [.ref (a0 0), .ref (a1 0), .ref (a2 0), .ref (a3 0), .ref (a4 0), .int has]))] :: wSt cI a0 st :: wSt cI a2 tr1 :: []) (w1 := fun u : TTT => [(qx, .inr (6, [.ref (a0 0), .ref (a1 0), .ref (a2 0), .ref (a3 0), .ref (a4 0), .int has]))] :: wSt cI a0 u.1 :: wSt cI a2 u.2 :: []) ⟨hx, hb, hml, hown, hts⟩ (kX6_leastLot l D cI cS qx a0 a2 (a1 0) (a3 0) (a4 0) has (nI t) (st, tr1) hI.ws) (cwV 1 hts gL_readySo_X6_leastLot rfl rfl rfl (by decide +kernel) ⟨Nat.le_of_ble_eq_true rfl, Nat.le_of_ble_eq_true rfl⟩) hE hP hD hS rfl rfl [0, 1, 3] rfl rfl (fun _ => rfl) (fun _ => rfl) rfl hl.1 rfl (Nat.le_of_ble_eq_true rfl) ⟨Nat.le_of_ble_eq_true rfl, Nat.le_of_ble_eq_true rfl⟩ dL_readySo_13 (fun r_13 u_13 H locs e_13 hP hD hS => ?_)
        have hP : va_P D vwCl (fl (wO cI cS qx a0 a1 a2 a3 b3 a4 sn sc has ([]) (u_13.1, u_13.2, hi))) H := hP
        have hD : va_D A (fl (wO cI cS qx a0 a1 a2 a3 b3 a4 sn sc has ([]) (u_13.1, u_13.2, hi))) := hD
        rw [el] at e_13
        cases e_13
        have hP : va_P D vwCl (fl (wO cI cS qx a0 a1 a2 a3 b3 a4 sn sc has ([]) (st, tr2, hi))) H := hP
        have hD : va_D A (fl (wO cI cS qx a0 a1 a2 a3 b3 a4 sn sc has ([]) (st, tr2, hi))) := hD
        refine lv_istore (lv' := [(5, .int ((1 : Int32))), (4, .int ((0 : Int32))), (2, .long ((taF st))), (0, .ref qx), (1, .int ((nI t)))]) hx hb dL_readySo_16 hl (by decide) rfl (fun ls hl => ?_)
        refine lv_iload hx hb dL_readySo_18 (lv_at hl 1 rfl) ?_
        refine lv_bipush (v := (-4 : Int32)) hx hb dL_readySo_20 (by decide +kernel) ?_
        refine lv_icmp_ne (tgt := 55) hx hb dL_readySo_22 (by decide) (fun _ => ?_) (fun c => absurd c (show ¬ (0 : Int32) = (-4 : Int32) by decide))
        refine lv_iload hx hb dL_readySo_55 (lv_at hl 1 rfl) ?_
        refine lv_iconst (v := (1 : Int32)) hx hb dL_readySo_57 (by decide +kernel) ?_
        refine lv_icmp_lt (tgt := 68) hx hb dL_readySo_58 (by decide) (fun _ => ?_) (fun c => absurd (show (0 : Int32) < (1 : Int32) by decide) c)
        refine lv_iload hx hb dL_readySo_68 (lv_at hl 1 rfl) ?_
        refine lv_if_ne (tgt := 87) hx hb dL_readySo_70 (by decide) (fun c => absurd (show (0 : Int32) = (0 : Int32) by decide) c) (fun _ => ?_)
        refine lv_iload hx hb dL_readySo_73 (lv_at hl 0 rfl) ?_
        refine lv_iconst (v := (1 : Int32)) hx hb dL_readySo_75 (by decide +kernel) ?_
        refine lv_icmp_ne (tgt := 83) hx hb dL_readySo_76 (by decide) (fun c => absurd (show (1 : Int32) = (1 : Int32) by decide) c) (fun _ => ?_)
        refine lv_iconst (v := (1 : Int32)) hx hb dL_readySo_79 (by decide +kernel) ?_
        refine lv_goto (tgt := 107) hx hb dL_readySo_80 (by decide) ?_
        exact hend _ _ _ (tr2, hi) _ _ _ _ dL_readySo_107 rfl (Nat.le_refl _) (Nat.le_refl _) ⟨rfl, hh⟩ hP hS
      · have hN1 : 1 ≤ N := Nat.pos_of_ne_zero hN0
        by_cases hN2 : N ≤ 99
        · by_cases hNt : N ≤ t
          · obtain ⟨j, hj1, hj2, ej⟩ := hl2 N hNt hrd
            rw [ej] at el
            refine lv_aload_n hx hb dL_readySo_0 rfl (lv_at hl 0 rfl) ?_
            refine bLS (W0 := wO cI cS qx a0 a1 a2 a3 b3 a4 sn sc has ([]) (st, tr, hi)) (wc := [(qx, .inr (6, [.ref (a0 0), .ref (a1 0), .ref (a2 0), .ref (a3 0), .ref (a4 0), .int has]))] :: wSt cI a0 st :: []) (r := (taF st)) ⟨hx, hb, hml, hown, hts⟩ (kL_tale l D cI cS qx a0 a1 a2 a3 a4 has st hI.ws) (va_cwS 1 hts gL_readySo_L_tale rfl rfl rfl (by decide +kernel) ⟨Nat.le_of_ble_eq_true rfl, Nat.le_of_ble_eq_true rfl⟩) hE hP [0, 1] rfl rfl rfl hl.1 rfl (Nat.le_of_ble_eq_true rfl) ⟨Nat.le_of_ble_eq_true rfl, Nat.le_of_ble_eq_true rfl⟩ dL_readySo_1 ?_
            refine lv_lstore_n (lv' := [(2, .long ((taF st))), (0, .ref qx), (1, .int ((nI t)))]) hx hb dL_readySo_4 rfl hl (by decide) rfl (fun ls hl => ?_)
            refine lv_aload_n hx hb dL_readySo_5 rfl (lv_at hl 1 rfl) ?_
            refine bIV (W0 := wO cI cS qx a0 a1 a2 a3 b3 a4 sn sc has ([]) (st, tr, hi)) (wc := [(qx, .inr (6, [.ref (a0 0), .ref (a1 0), .ref (a2 0), .ref (a3 0), .ref (a4 0), .int has]))] :: wSt cI a0 st :: wSt cI a2 tr :: []) (w1 := fun u : TTT => [(qx, .inr (6, [.ref (a0 0), .ref (a1 0), .ref (a2 0), .ref (a3 0), .ref (a4 0), .int has]))] :: wSt cI a0 u.1 :: wSt cI a2 u.2 :: []) ⟨hx, hb, hml, hown, hts⟩ (kX6_readyIn l D cI cS qx a0 a2 (a1 0) (a3 0) (a4 0) has (st, tr) hI.ws) (cwV 0 hts gL_readySo_X6_readyIn rfl rfl rfl (by decide +kernel) ⟨Nat.le_of_ble_eq_true rfl, Nat.le_of_ble_eq_true rfl⟩) hE hP hD hS rfl rfl [0, 1, 3] rfl rfl (fun _ => rfl) (fun _ => rfl) rfl hl.1 rfl (Nat.le_of_ble_eq_true rfl) ⟨Nat.le_of_ble_eq_true rfl, Nat.le_of_ble_eq_true rfl⟩ dL_readySo_6 (fun r_6 u_6 H locs e_6 hP hD hS => ?_)
            have hP : va_P D vwCl (fl (wO cI cS qx a0 a1 a2 a3 b3 a4 sn sc has ([]) (u_6.1, u_6.2, hi))) H := hP
            have hD : va_D A (fl (wO cI cS qx a0 a1 a2 a3 b3 a4 sn sc has ([]) (u_6.1, u_6.2, hi))) := hD
            rw [er] at e_6
            cases e_6
            have hP : va_P D vwCl (fl (wO cI cS qx a0 a1 a2 a3 b3 a4 sn sc has ([]) (st, tr1, hi))) H := hP
            have hD : va_D A (fl (wO cI cS qx a0 a1 a2 a3 b3 a4 sn sc has ([]) (st, tr1, hi))) := hD
            refine lv_istore (lv' := [(4, .int ((nI N))), (2, .long ((taF st))), (0, .ref qx), (1, .int ((nI t)))]) hx hb dL_readySo_9 hl (by decide) rfl (fun ls hl => ?_)
            refine lv_aload_n hx hb dL_readySo_11 rfl (lv_at hl 2 rfl) ?_
            refine lv_iload_n hx hb dL_readySo_12 rfl (lv_at hl 3 rfl) ?_
            refine bIV (W0 := wO cI cS qx a0 a1 a2 a3 b3 a4 sn sc has ([]) (st, tr1, hi)) (wc := [(qx, .inr (6, [.ref (a0 0), .ref (a1 0), .ref (a2 0), .ref (a3 0), .ref (a4 0), .int has]))] :: wSt cI a0 st :: wSt cI a2 tr1 :: []) (w1 := fun u : TTT => [(qx, .inr (6, [.ref (a0 0), .ref (a1 0), .ref (a2 0), .ref (a3 0), .ref (a4 0), .int has]))] :: wSt cI a0 u.1 :: wSt cI a2 u.2 :: []) ⟨hx, hb, hml, hown, hts⟩ (kX6_leastLot l D cI cS qx a0 a2 (a1 0) (a3 0) (a4 0) has (nI t) (st, tr1) hI.ws) (cwV 1 hts gL_readySo_X6_leastLot rfl rfl rfl (by decide +kernel) ⟨Nat.le_of_ble_eq_true rfl, Nat.le_of_ble_eq_true rfl⟩) hE hP hD hS rfl rfl [0, 1, 3] rfl rfl (fun _ => rfl) (fun _ => rfl) rfl hl.1 rfl (Nat.le_of_ble_eq_true rfl) ⟨Nat.le_of_ble_eq_true rfl, Nat.le_of_ble_eq_true rfl⟩ dL_readySo_13 (fun r_13 u_13 H locs e_13 hP hD hS => ?_)
            have hP : va_P D vwCl (fl (wO cI cS qx a0 a1 a2 a3 b3 a4 sn sc has ([]) (u_13.1, u_13.2, hi))) H := hP
            have hD : va_D A (fl (wO cI cS qx a0 a1 a2 a3 b3 a4 sn sc has ([]) (u_13.1, u_13.2, hi))) := hD
            rw [el] at e_13
            cases e_13
            have hP : va_P D vwCl (fl (wO cI cS qx a0 a1 a2 a3 b3 a4 sn sc has ([]) (st, tr2, hi))) H := hP
            have hD : va_D A (fl (wO cI cS qx a0 a1 a2 a3 b3 a4 sn sc has ([]) (st, tr2, hi))) := hD
            refine lv_istore (lv' := [(5, .int ((nI j))), (4, .int ((nI N))), (2, .long ((taF st))), (0, .ref qx), (1, .int ((nI t)))]) hx hb dL_readySo_16 hl (by decide) rfl (fun ls hl => ?_)
            refine lv_iload hx hb dL_readySo_18 (lv_at hl 1 rfl) ?_
            refine lv_bipush (v := (-4 : Int32)) hx hb dL_readySo_20 (by decide +kernel) ?_
            refine lv_icmp_ne (tgt := 55) hx hb dL_readySo_22 (by decide) (fun _ => ?_) (fun c => absurd c (bd_ne (Bd.of (N := 200) hN (by omega)) (by omega) (by decide)))
            refine lv_iload hx hb dL_readySo_55 (lv_at hl 1 rfl) ?_
            refine lv_iconst (v := (1 : Int32)) hx hb dL_readySo_57 (by decide +kernel) ?_
            refine lv_icmp_lt (tgt := 68) hx hb dL_readySo_58 (by decide) (fun c => absurd c (show ¬ (nI N) < (1 : Int32) from nI_nlt (b := 1) (by omega) (by omega))) (fun _ => ?_)
            refine lv_iload hx hb dL_readySo_61 (lv_at hl 1 rfl) ?_
            refine lv_bipush (v := (99 : Int32)) hx hb dL_readySo_63 (by decide +kernel) ?_
            refine lv_icmp_le (tgt := 108) hx hb dL_readySo_65 (by decide) (fun _ => ?_) (fun c => absurd (show (nI N) ≤ (99 : Int32) from nI_le (b := 99) hN2 (by omega)) c)
            refine lv_iload hx hb dL_readySo_108 (lv_at hl 0 rfl) ?_
            refine lv_bipush (v := (-5 : Int32)) hx hb dL_readySo_110 (by decide +kernel) ?_
            refine lv_icmp_eq (tgt := 128) hx hb dL_readySo_112 (by decide) (fun c => absurd c (bd_ne (Bd.of (N := 8) (j := j) (by omega) (by omega)) (by omega) (by decide))) (fun _ => ?_)
            refine lv_iload hx hb dL_readySo_115 (lv_at hl 0 rfl) ?_
            refine lv_iconst (v := (1 : Int32)) hx hb dL_readySo_117 (by decide +kernel) ?_
            refine lv_icmp_lt (tgt := 178) hx hb dL_readySo_118 (by decide) (fun c => absurd c (show ¬ (nI j) < (1 : Int32) from nI_nlt (b := 1) (by omega) (by omega))) (fun _ => ?_)
            refine lv_iload hx hb dL_readySo_121 (lv_at hl 0 rfl) ?_
            refine lv_bipush (v := (8 : Int32)) hx hb dL_readySo_123 (by decide +kernel) ?_
            refine lv_icmp_gt (tgt := 178) hx hb dL_readySo_125 (by decide) (fun c => absurd c (show ¬ (8 : Int32) < (nI j) from nI_nlt (a := 8) (by omega) (by omega))) (fun _ => ?_)
            refine lv_iload hx hb dL_readySo_128 (lv_at hl 1 rfl) ?_
            refine lv_iload_n hx hb dL_readySo_130 rfl (lv_at hl 4 rfl) ?_
            refine lv_icmp_gt (tgt := 149) hx hb dL_readySo_131 (by decide) (fun c => absurd c (nI_nlt (a := t) (b := N) hNt (by omega))) (fun _ => ?_)
            refine lv_iload hx hb dL_readySo_134 (lv_at hl 0 rfl) ?_
            refine lv_if_le (tgt := 178) hx hb dL_readySo_136 (by decide) (fun c => absurd c (nI_nle (by omega) (by omega))) (fun _ => ?_)
            refine lv_iload hx hb dL_readySo_139 (lv_at hl 0 rfl) ?_
            refine lv_aload_n hx hb dL_readySo_141 rfl (lv_at hl 3 rfl) ?_
            refine lv_iconst (v := (2 : Int32)) hx hb dL_readySo_142 (by decide +kernel) ?_
            refine bRV (W0 := wO cI cS qx a0 a1 a2 a3 b3 a4 sn sc has ([]) (st, tr2, hi)) (wc := [(qx, .inr (6, [.ref (a0 0), .ref (a1 0), .ref (a2 0), .ref (a3 0), .ref (a4 0), .int has]))] :: wSt cI a0 st :: []) (r := (nI (q + 1))) ⟨hx, hb, hml, hown, hts⟩ (KR.eq (kX6_copy l D cI cS qx a0 (a1 0) (a2 0) (a3 0) (a4 0) has (2 : Int32) st) ((cp_2 h0).trans eq)) (cwV 1 hts gL_readySo_X6_copy rfl rfl rfl (by decide +kernel) ⟨Nat.le_of_ble_eq_true rfl, Nat.le_of_ble_eq_true rfl⟩) hE hP rfl rfl [0, 1] rfl rfl rfl hl.1 rfl (Nat.le_of_ble_eq_true rfl) ⟨Nat.le_of_ble_eq_true rfl, Nat.le_of_ble_eq_true rfl⟩ dL_readySo_143 ?_
            refine lv_icmp_gt (tgt := 178) hx hb dL_readySo_146 (by decide) (fun c => absurd c (nI_nlt (a := q + 1) (b := j) hj2 (by omega))) (fun _ => ?_)
            exact J_149 N tr2 _ _ hN1 hN2 hrd hmin hP hD hS _ (lv_sub hl [3, 4, 2, 1] rfl)
          · have hNt2 : t < N := Nat.lt_of_not_le hNt
            rcases hl1 with ej | ⟨j, hj1, hj2, ej⟩
            · rw [ej] at el
              refine lv_aload_n hx hb dL_readySo_0 rfl (lv_at hl 0 rfl) ?_
              refine bLS (W0 := wO cI cS qx a0 a1 a2 a3 b3 a4 sn sc has ([]) (st, tr, hi)) (wc := [(qx, .inr (6, [.ref (a0 0), .ref (a1 0), .ref (a2 0), .ref (a3 0), .ref (a4 0), .int has]))] :: wSt cI a0 st :: []) (r := (taF st)) ⟨hx, hb, hml, hown, hts⟩ (kL_tale l D cI cS qx a0 a1 a2 a3 a4 has st hI.ws) (va_cwS 1 hts gL_readySo_L_tale rfl rfl rfl (by decide +kernel) ⟨Nat.le_of_ble_eq_true rfl, Nat.le_of_ble_eq_true rfl⟩) hE hP [0, 1] rfl rfl rfl hl.1 rfl (Nat.le_of_ble_eq_true rfl) ⟨Nat.le_of_ble_eq_true rfl, Nat.le_of_ble_eq_true rfl⟩ dL_readySo_1 ?_
              refine lv_lstore_n (lv' := [(2, .long ((taF st))), (0, .ref qx), (1, .int ((nI t)))]) hx hb dL_readySo_4 rfl hl (by decide) rfl (fun ls hl => ?_)
              refine lv_aload_n hx hb dL_readySo_5 rfl (lv_at hl 1 rfl) ?_
              refine bIV (W0 := wO cI cS qx a0 a1 a2 a3 b3 a4 sn sc has ([]) (st, tr, hi)) (wc := [(qx, .inr (6, [.ref (a0 0), .ref (a1 0), .ref (a2 0), .ref (a3 0), .ref (a4 0), .int has]))] :: wSt cI a0 st :: wSt cI a2 tr :: []) (w1 := fun u : TTT => [(qx, .inr (6, [.ref (a0 0), .ref (a1 0), .ref (a2 0), .ref (a3 0), .ref (a4 0), .int has]))] :: wSt cI a0 u.1 :: wSt cI a2 u.2 :: []) ⟨hx, hb, hml, hown, hts⟩ (kX6_readyIn l D cI cS qx a0 a2 (a1 0) (a3 0) (a4 0) has (st, tr) hI.ws) (cwV 0 hts gL_readySo_X6_readyIn rfl rfl rfl (by decide +kernel) ⟨Nat.le_of_ble_eq_true rfl, Nat.le_of_ble_eq_true rfl⟩) hE hP hD hS rfl rfl [0, 1, 3] rfl rfl (fun _ => rfl) (fun _ => rfl) rfl hl.1 rfl (Nat.le_of_ble_eq_true rfl) ⟨Nat.le_of_ble_eq_true rfl, Nat.le_of_ble_eq_true rfl⟩ dL_readySo_6 (fun r_6 u_6 H locs e_6 hP hD hS => ?_)
              have hP : va_P D vwCl (fl (wO cI cS qx a0 a1 a2 a3 b3 a4 sn sc has ([]) (u_6.1, u_6.2, hi))) H := hP
              have hD : va_D A (fl (wO cI cS qx a0 a1 a2 a3 b3 a4 sn sc has ([]) (u_6.1, u_6.2, hi))) := hD
              rw [er] at e_6
              cases e_6
              have hP : va_P D vwCl (fl (wO cI cS qx a0 a1 a2 a3 b3 a4 sn sc has ([]) (st, tr1, hi))) H := hP
              have hD : va_D A (fl (wO cI cS qx a0 a1 a2 a3 b3 a4 sn sc has ([]) (st, tr1, hi))) := hD
              refine lv_istore (lv' := [(4, .int ((nI N))), (2, .long ((taF st))), (0, .ref qx), (1, .int ((nI t)))]) hx hb dL_readySo_9 hl (by decide) rfl (fun ls hl => ?_)
              refine lv_aload_n hx hb dL_readySo_11 rfl (lv_at hl 2 rfl) ?_
              refine lv_iload_n hx hb dL_readySo_12 rfl (lv_at hl 3 rfl) ?_
              refine bIV (W0 := wO cI cS qx a0 a1 a2 a3 b3 a4 sn sc has ([]) (st, tr1, hi)) (wc := [(qx, .inr (6, [.ref (a0 0), .ref (a1 0), .ref (a2 0), .ref (a3 0), .ref (a4 0), .int has]))] :: wSt cI a0 st :: wSt cI a2 tr1 :: []) (w1 := fun u : TTT => [(qx, .inr (6, [.ref (a0 0), .ref (a1 0), .ref (a2 0), .ref (a3 0), .ref (a4 0), .int has]))] :: wSt cI a0 u.1 :: wSt cI a2 u.2 :: []) ⟨hx, hb, hml, hown, hts⟩ (kX6_leastLot l D cI cS qx a0 a2 (a1 0) (a3 0) (a4 0) has (nI t) (st, tr1) hI.ws) (cwV 1 hts gL_readySo_X6_leastLot rfl rfl rfl (by decide +kernel) ⟨Nat.le_of_ble_eq_true rfl, Nat.le_of_ble_eq_true rfl⟩) hE hP hD hS rfl rfl [0, 1, 3] rfl rfl (fun _ => rfl) (fun _ => rfl) rfl hl.1 rfl (Nat.le_of_ble_eq_true rfl) ⟨Nat.le_of_ble_eq_true rfl, Nat.le_of_ble_eq_true rfl⟩ dL_readySo_13 (fun r_13 u_13 H locs e_13 hP hD hS => ?_)
              have hP : va_P D vwCl (fl (wO cI cS qx a0 a1 a2 a3 b3 a4 sn sc has ([]) (u_13.1, u_13.2, hi))) H := hP
              have hD : va_D A (fl (wO cI cS qx a0 a1 a2 a3 b3 a4 sn sc has ([]) (u_13.1, u_13.2, hi))) := hD
              rw [el] at e_13
              cases e_13
              have hP : va_P D vwCl (fl (wO cI cS qx a0 a1 a2 a3 b3 a4 sn sc has ([]) (st, tr2, hi))) H := hP
              have hD : va_D A (fl (wO cI cS qx a0 a1 a2 a3 b3 a4 sn sc has ([]) (st, tr2, hi))) := hD
              refine lv_istore (lv' := [(5, .int ((-5 : Int32))), (4, .int ((nI N))), (2, .long ((taF st))), (0, .ref qx), (1, .int ((nI t)))]) hx hb dL_readySo_16 hl (by decide) rfl (fun ls hl => ?_)
              refine lv_iload hx hb dL_readySo_18 (lv_at hl 1 rfl) ?_
              refine lv_bipush (v := (-4 : Int32)) hx hb dL_readySo_20 (by decide +kernel) ?_
              refine lv_icmp_ne (tgt := 55) hx hb dL_readySo_22 (by decide) (fun _ => ?_) (fun c => absurd c (bd_ne (Bd.of (N := 200) hN (by omega)) (by omega) (by decide)))
              refine lv_iload hx hb dL_readySo_55 (lv_at hl 1 rfl) ?_
              refine lv_iconst (v := (1 : Int32)) hx hb dL_readySo_57 (by decide +kernel) ?_
              refine lv_icmp_lt (tgt := 68) hx hb dL_readySo_58 (by decide) (fun c => absurd c (show ¬ (nI N) < (1 : Int32) from nI_nlt (b := 1) (by omega) (by omega))) (fun _ => ?_)
              refine lv_iload hx hb dL_readySo_61 (lv_at hl 1 rfl) ?_
              refine lv_bipush (v := (99 : Int32)) hx hb dL_readySo_63 (by decide +kernel) ?_
              refine lv_icmp_le (tgt := 108) hx hb dL_readySo_65 (by decide) (fun _ => ?_) (fun c => absurd (show (nI N) ≤ (99 : Int32) from nI_le (b := 99) hN2 (by omega)) c)
              refine lv_iload hx hb dL_readySo_108 (lv_at hl 0 rfl) ?_
              refine lv_bipush (v := (-5 : Int32)) hx hb dL_readySo_110 (by decide +kernel) ?_
              refine lv_icmp_eq (tgt := 128) hx hb dL_readySo_112 (by decide) (fun _ => ?_) (fun c => absurd (show (-5 : Int32) = (-5 : Int32) by decide) c)
              refine lv_iload hx hb dL_readySo_128 (lv_at hl 1 rfl) ?_
              refine lv_iload_n hx hb dL_readySo_130 rfl (lv_at hl 4 rfl) ?_
              refine lv_icmp_gt (tgt := 149) hx hb dL_readySo_131 (by decide) (fun _ => ?_) (fun c => absurd (nI_lt hNt2 (by omega)) c)
              exact J_149 N tr2 _ _ hN1 hN2 hrd hmin hP hD hS _ (lv_sub hl [3, 4, 2, 1] rfl)
            · rw [ej] at el
              refine lv_aload_n hx hb dL_readySo_0 rfl (lv_at hl 0 rfl) ?_
              refine bLS (W0 := wO cI cS qx a0 a1 a2 a3 b3 a4 sn sc has ([]) (st, tr, hi)) (wc := [(qx, .inr (6, [.ref (a0 0), .ref (a1 0), .ref (a2 0), .ref (a3 0), .ref (a4 0), .int has]))] :: wSt cI a0 st :: []) (r := (taF st)) ⟨hx, hb, hml, hown, hts⟩ (kL_tale l D cI cS qx a0 a1 a2 a3 a4 has st hI.ws) (va_cwS 1 hts gL_readySo_L_tale rfl rfl rfl (by decide +kernel) ⟨Nat.le_of_ble_eq_true rfl, Nat.le_of_ble_eq_true rfl⟩) hE hP [0, 1] rfl rfl rfl hl.1 rfl (Nat.le_of_ble_eq_true rfl) ⟨Nat.le_of_ble_eq_true rfl, Nat.le_of_ble_eq_true rfl⟩ dL_readySo_1 ?_
              refine lv_lstore_n (lv' := [(2, .long ((taF st))), (0, .ref qx), (1, .int ((nI t)))]) hx hb dL_readySo_4 rfl hl (by decide) rfl (fun ls hl => ?_)
              refine lv_aload_n hx hb dL_readySo_5 rfl (lv_at hl 1 rfl) ?_
              refine bIV (W0 := wO cI cS qx a0 a1 a2 a3 b3 a4 sn sc has ([]) (st, tr, hi)) (wc := [(qx, .inr (6, [.ref (a0 0), .ref (a1 0), .ref (a2 0), .ref (a3 0), .ref (a4 0), .int has]))] :: wSt cI a0 st :: wSt cI a2 tr :: []) (w1 := fun u : TTT => [(qx, .inr (6, [.ref (a0 0), .ref (a1 0), .ref (a2 0), .ref (a3 0), .ref (a4 0), .int has]))] :: wSt cI a0 u.1 :: wSt cI a2 u.2 :: []) ⟨hx, hb, hml, hown, hts⟩ (kX6_readyIn l D cI cS qx a0 a2 (a1 0) (a3 0) (a4 0) has (st, tr) hI.ws) (cwV 0 hts gL_readySo_X6_readyIn rfl rfl rfl (by decide +kernel) ⟨Nat.le_of_ble_eq_true rfl, Nat.le_of_ble_eq_true rfl⟩) hE hP hD hS rfl rfl [0, 1, 3] rfl rfl (fun _ => rfl) (fun _ => rfl) rfl hl.1 rfl (Nat.le_of_ble_eq_true rfl) ⟨Nat.le_of_ble_eq_true rfl, Nat.le_of_ble_eq_true rfl⟩ dL_readySo_6 (fun r_6 u_6 H locs e_6 hP hD hS => ?_)
              have hP : va_P D vwCl (fl (wO cI cS qx a0 a1 a2 a3 b3 a4 sn sc has ([]) (u_6.1, u_6.2, hi))) H := hP
              have hD : va_D A (fl (wO cI cS qx a0 a1 a2 a3 b3 a4 sn sc has ([]) (u_6.1, u_6.2, hi))) := hD
              rw [er] at e_6
              cases e_6
              have hP : va_P D vwCl (fl (wO cI cS qx a0 a1 a2 a3 b3 a4 sn sc has ([]) (st, tr1, hi))) H := hP
              have hD : va_D A (fl (wO cI cS qx a0 a1 a2 a3 b3 a4 sn sc has ([]) (st, tr1, hi))) := hD
              refine lv_istore (lv' := [(4, .int ((nI N))), (2, .long ((taF st))), (0, .ref qx), (1, .int ((nI t)))]) hx hb dL_readySo_9 hl (by decide) rfl (fun ls hl => ?_)
              refine lv_aload_n hx hb dL_readySo_11 rfl (lv_at hl 2 rfl) ?_
              refine lv_iload_n hx hb dL_readySo_12 rfl (lv_at hl 3 rfl) ?_
              refine bIV (W0 := wO cI cS qx a0 a1 a2 a3 b3 a4 sn sc has ([]) (st, tr1, hi)) (wc := [(qx, .inr (6, [.ref (a0 0), .ref (a1 0), .ref (a2 0), .ref (a3 0), .ref (a4 0), .int has]))] :: wSt cI a0 st :: wSt cI a2 tr1 :: []) (w1 := fun u : TTT => [(qx, .inr (6, [.ref (a0 0), .ref (a1 0), .ref (a2 0), .ref (a3 0), .ref (a4 0), .int has]))] :: wSt cI a0 u.1 :: wSt cI a2 u.2 :: []) ⟨hx, hb, hml, hown, hts⟩ (kX6_leastLot l D cI cS qx a0 a2 (a1 0) (a3 0) (a4 0) has (nI t) (st, tr1) hI.ws) (cwV 1 hts gL_readySo_X6_leastLot rfl rfl rfl (by decide +kernel) ⟨Nat.le_of_ble_eq_true rfl, Nat.le_of_ble_eq_true rfl⟩) hE hP hD hS rfl rfl [0, 1, 3] rfl rfl (fun _ => rfl) (fun _ => rfl) rfl hl.1 rfl (Nat.le_of_ble_eq_true rfl) ⟨Nat.le_of_ble_eq_true rfl, Nat.le_of_ble_eq_true rfl⟩ dL_readySo_13 (fun r_13 u_13 H locs e_13 hP hD hS => ?_)
              have hP : va_P D vwCl (fl (wO cI cS qx a0 a1 a2 a3 b3 a4 sn sc has ([]) (u_13.1, u_13.2, hi))) H := hP
              have hD : va_D A (fl (wO cI cS qx a0 a1 a2 a3 b3 a4 sn sc has ([]) (u_13.1, u_13.2, hi))) := hD
              rw [el] at e_13
              cases e_13
              have hP : va_P D vwCl (fl (wO cI cS qx a0 a1 a2 a3 b3 a4 sn sc has ([]) (st, tr2, hi))) H := hP
              have hD : va_D A (fl (wO cI cS qx a0 a1 a2 a3 b3 a4 sn sc has ([]) (st, tr2, hi))) := hD
              refine lv_istore (lv' := [(5, .int ((nI j))), (4, .int ((nI N))), (2, .long ((taF st))), (0, .ref qx), (1, .int ((nI t)))]) hx hb dL_readySo_16 hl (by decide) rfl (fun ls hl => ?_)
              refine lv_iload hx hb dL_readySo_18 (lv_at hl 1 rfl) ?_
              refine lv_bipush (v := (-4 : Int32)) hx hb dL_readySo_20 (by decide +kernel) ?_
              refine lv_icmp_ne (tgt := 55) hx hb dL_readySo_22 (by decide) (fun _ => ?_) (fun c => absurd c (bd_ne (Bd.of (N := 200) hN (by omega)) (by omega) (by decide)))
              refine lv_iload hx hb dL_readySo_55 (lv_at hl 1 rfl) ?_
              refine lv_iconst (v := (1 : Int32)) hx hb dL_readySo_57 (by decide +kernel) ?_
              refine lv_icmp_lt (tgt := 68) hx hb dL_readySo_58 (by decide) (fun c => absurd c (show ¬ (nI N) < (1 : Int32) from nI_nlt (b := 1) (by omega) (by omega))) (fun _ => ?_)
              refine lv_iload hx hb dL_readySo_61 (lv_at hl 1 rfl) ?_
              refine lv_bipush (v := (99 : Int32)) hx hb dL_readySo_63 (by decide +kernel) ?_
              refine lv_icmp_le (tgt := 108) hx hb dL_readySo_65 (by decide) (fun _ => ?_) (fun c => absurd (show (nI N) ≤ (99 : Int32) from nI_le (b := 99) hN2 (by omega)) c)
              refine lv_iload hx hb dL_readySo_108 (lv_at hl 0 rfl) ?_
              refine lv_bipush (v := (-5 : Int32)) hx hb dL_readySo_110 (by decide +kernel) ?_
              refine lv_icmp_eq (tgt := 128) hx hb dL_readySo_112 (by decide) (fun c => absurd c (bd_ne (Bd.of (N := 8) (j := j) (by omega) (by omega)) (by omega) (by decide))) (fun _ => ?_)
              refine lv_iload hx hb dL_readySo_115 (lv_at hl 0 rfl) ?_
              refine lv_iconst (v := (1 : Int32)) hx hb dL_readySo_117 (by decide +kernel) ?_
              refine lv_icmp_lt (tgt := 178) hx hb dL_readySo_118 (by decide) (fun c => absurd c (show ¬ (nI j) < (1 : Int32) from nI_nlt (b := 1) (by omega) (by omega))) (fun _ => ?_)
              refine lv_iload hx hb dL_readySo_121 (lv_at hl 0 rfl) ?_
              refine lv_bipush (v := (8 : Int32)) hx hb dL_readySo_123 (by decide +kernel) ?_
              refine lv_icmp_gt (tgt := 178) hx hb dL_readySo_125 (by decide) (fun c => absurd c (show ¬ (8 : Int32) < (nI j) from nI_nlt (a := 8) (by omega) (by omega))) (fun _ => ?_)
              refine lv_iload hx hb dL_readySo_128 (lv_at hl 1 rfl) ?_
              refine lv_iload_n hx hb dL_readySo_130 rfl (lv_at hl 4 rfl) ?_
              refine lv_icmp_gt (tgt := 149) hx hb dL_readySo_131 (by decide) (fun _ => ?_) (fun c => absurd (nI_lt hNt2 (by omega)) c)
              exact J_149 N tr2 _ _ hN1 hN2 hrd hmin hP hD hS _ (lv_sub hl [3, 4, 2, 1] rfl)
        · refine lv_aload_n hx hb dL_readySo_0 rfl (lv_at hl 0 rfl) ?_
          refine bLS (W0 := wO cI cS qx a0 a1 a2 a3 b3 a4 sn sc has ([]) (st, tr, hi)) (wc := [(qx, .inr (6, [.ref (a0 0), .ref (a1 0), .ref (a2 0), .ref (a3 0), .ref (a4 0), .int has]))] :: wSt cI a0 st :: []) (r := (taF st)) ⟨hx, hb, hml, hown, hts⟩ (kL_tale l D cI cS qx a0 a1 a2 a3 a4 has st hI.ws) (va_cwS 1 hts gL_readySo_L_tale rfl rfl rfl (by decide +kernel) ⟨Nat.le_of_ble_eq_true rfl, Nat.le_of_ble_eq_true rfl⟩) hE hP [0, 1] rfl rfl rfl hl.1 rfl (Nat.le_of_ble_eq_true rfl) ⟨Nat.le_of_ble_eq_true rfl, Nat.le_of_ble_eq_true rfl⟩ dL_readySo_1 ?_
          refine lv_lstore_n (lv' := [(2, .long ((taF st))), (0, .ref qx), (1, .int ((nI t)))]) hx hb dL_readySo_4 rfl hl (by decide) rfl (fun ls hl => ?_)
          refine lv_aload_n hx hb dL_readySo_5 rfl (lv_at hl 1 rfl) ?_
          refine bIV (W0 := wO cI cS qx a0 a1 a2 a3 b3 a4 sn sc has ([]) (st, tr, hi)) (wc := [(qx, .inr (6, [.ref (a0 0), .ref (a1 0), .ref (a2 0), .ref (a3 0), .ref (a4 0), .int has]))] :: wSt cI a0 st :: wSt cI a2 tr :: []) (w1 := fun u : TTT => [(qx, .inr (6, [.ref (a0 0), .ref (a1 0), .ref (a2 0), .ref (a3 0), .ref (a4 0), .int has]))] :: wSt cI a0 u.1 :: wSt cI a2 u.2 :: []) ⟨hx, hb, hml, hown, hts⟩ (kX6_readyIn l D cI cS qx a0 a2 (a1 0) (a3 0) (a4 0) has (st, tr) hI.ws) (cwV 0 hts gL_readySo_X6_readyIn rfl rfl rfl (by decide +kernel) ⟨Nat.le_of_ble_eq_true rfl, Nat.le_of_ble_eq_true rfl⟩) hE hP hD hS rfl rfl [0, 1, 3] rfl rfl (fun _ => rfl) (fun _ => rfl) rfl hl.1 rfl (Nat.le_of_ble_eq_true rfl) ⟨Nat.le_of_ble_eq_true rfl, Nat.le_of_ble_eq_true rfl⟩ dL_readySo_6 (fun r_6 u_6 H locs e_6 hP hD hS => ?_)
          have hP : va_P D vwCl (fl (wO cI cS qx a0 a1 a2 a3 b3 a4 sn sc has ([]) (u_6.1, u_6.2, hi))) H := hP
          have hD : va_D A (fl (wO cI cS qx a0 a1 a2 a3 b3 a4 sn sc has ([]) (u_6.1, u_6.2, hi))) := hD
          rw [er] at e_6
          cases e_6
          have hP : va_P D vwCl (fl (wO cI cS qx a0 a1 a2 a3 b3 a4 sn sc has ([]) (st, tr1, hi))) H := hP
          have hD : va_D A (fl (wO cI cS qx a0 a1 a2 a3 b3 a4 sn sc has ([]) (st, tr1, hi))) := hD
          refine lv_istore (lv' := [(4, .int ((nI N))), (2, .long ((taF st))), (0, .ref qx), (1, .int ((nI t)))]) hx hb dL_readySo_9 hl (by decide) rfl (fun ls hl => ?_)
          refine lv_aload_n hx hb dL_readySo_11 rfl (lv_at hl 2 rfl) ?_
          refine lv_iload_n hx hb dL_readySo_12 rfl (lv_at hl 3 rfl) ?_
          refine bIV (W0 := wO cI cS qx a0 a1 a2 a3 b3 a4 sn sc has ([]) (st, tr1, hi)) (wc := [(qx, .inr (6, [.ref (a0 0), .ref (a1 0), .ref (a2 0), .ref (a3 0), .ref (a4 0), .int has]))] :: wSt cI a0 st :: wSt cI a2 tr1 :: []) (w1 := fun u : TTT => [(qx, .inr (6, [.ref (a0 0), .ref (a1 0), .ref (a2 0), .ref (a3 0), .ref (a4 0), .int has]))] :: wSt cI a0 u.1 :: wSt cI a2 u.2 :: []) ⟨hx, hb, hml, hown, hts⟩ (kX6_leastLot l D cI cS qx a0 a2 (a1 0) (a3 0) (a4 0) has (nI t) (st, tr1) hI.ws) (cwV 1 hts gL_readySo_X6_leastLot rfl rfl rfl (by decide +kernel) ⟨Nat.le_of_ble_eq_true rfl, Nat.le_of_ble_eq_true rfl⟩) hE hP hD hS rfl rfl [0, 1, 3] rfl rfl (fun _ => rfl) (fun _ => rfl) rfl hl.1 rfl (Nat.le_of_ble_eq_true rfl) ⟨Nat.le_of_ble_eq_true rfl, Nat.le_of_ble_eq_true rfl⟩ dL_readySo_13 (fun r_13 u_13 H locs e_13 hP hD hS => ?_)
          have hP : va_P D vwCl (fl (wO cI cS qx a0 a1 a2 a3 b3 a4 sn sc has ([]) (u_13.1, u_13.2, hi))) H := hP
          have hD : va_D A (fl (wO cI cS qx a0 a1 a2 a3 b3 a4 sn sc has ([]) (u_13.1, u_13.2, hi))) := hD
          rw [el] at e_13
          cases e_13
          have hP : va_P D vwCl (fl (wO cI cS qx a0 a1 a2 a3 b3 a4 sn sc has ([]) (st, tr2, hi))) H := hP
          have hD : va_D A (fl (wO cI cS qx a0 a1 a2 a3 b3 a4 sn sc has ([]) (st, tr2, hi))) := hD
          refine lv_istore (lv' := [(5, .int r2), (4, .int ((nI N))), (2, .long ((taF st))), (0, .ref qx), (1, .int ((nI t)))]) hx hb dL_readySo_16 hl (by decide) rfl (fun ls hl => ?_)
          refine lv_iload hx hb dL_readySo_18 (lv_at hl 1 rfl) ?_
          refine lv_bipush (v := (-4 : Int32)) hx hb dL_readySo_20 (by decide +kernel) ?_
          refine lv_icmp_ne (tgt := 55) hx hb dL_readySo_22 (by decide) (fun _ => ?_) (fun c => absurd c (bd_ne (Bd.of (N := 200) hN (by omega)) (by omega) (by decide)))
          refine lv_iload hx hb dL_readySo_55 (lv_at hl 1 rfl) ?_
          refine lv_iconst (v := (1 : Int32)) hx hb dL_readySo_57 (by decide +kernel) ?_
          refine lv_icmp_lt (tgt := 68) hx hb dL_readySo_58 (by decide) (fun c => absurd c (show ¬ (nI N) < (1 : Int32) from nI_nlt (b := 1) (by omega) (by omega))) (fun _ => ?_)
          refine lv_iload hx hb dL_readySo_61 (lv_at hl 1 rfl) ?_
          refine lv_bipush (v := (99 : Int32)) hx hb dL_readySo_63 (by decide +kernel) ?_
          refine lv_icmp_le (tgt := 108) hx hb dL_readySo_65 (by decide) (fun c => absurd c (show ¬ (nI N) ≤ (99 : Int32) from nI_ge (a := 99) (by omega) (by omega))) (fun _ => ?_)
          refine lv_iload hx hb dL_readySo_68 (lv_at hl 1 rfl) ?_
          refine lv_if_ne (tgt := 87) hx hb dL_readySo_70 (by decide) (fun _ => ?_) (fun c => absurd c (nI_ne0 (by omega) (by omega)))
          refine lv_iload hx hb dL_readySo_87 (lv_at hl 1 rfl) ?_
          refine lv_bipush (v := (-5 : Int32)) hx hb dL_readySo_89 (by decide +kernel) ?_
          refine lv_icmp_eq (tgt := 102) hx hb dL_readySo_91 (by decide) (fun c => absurd c (bd_ne (Bd.of (N := 200) hN (by omega)) (by omega) (by decide))) (fun _ => ?_)
          refine lv_iload hx hb dL_readySo_94 (lv_at hl 1 rfl) ?_
          refine lv_sipush (v := (200 : Int32)) hx hb dL_readySo_96 (by decide +kernel) ?_
          refine lv_icmp_gt (tgt := 106) hx hb dL_readySo_99 (by decide) (fun c => absurd c (show ¬ (200 : Int32) < (nI N) from nI_nlt (a := 200) hN (by omega))) (fun _ => ?_)
          refine lv_iconst (v := (1 : Int32)) hx hb dL_readySo_102 (by decide +kernel) ?_
          refine lv_goto (tgt := 107) hx hb dL_readySo_103 (by decide) ?_
          exact hend _ _ _ (tr2, hi) _ _ _ _ dL_readySo_107 rfl (Nat.le_refl _) (Nat.le_refl _) ⟨rfl, hh⟩ hP hS
    · subst eN
      refine lv_aload_n hx hb dL_readySo_0 rfl (lv_at hl 0 rfl) ?_
      refine bLS (W0 := wO cI cS qx a0 a1 a2 a3 b3 a4 sn sc has ([]) (st, tr, hi)) (wc := [(qx, .inr (6, [.ref (a0 0), .ref (a1 0), .ref (a2 0), .ref (a3 0), .ref (a4 0), .int has]))] :: wSt cI a0 st :: []) (r := (taF st)) ⟨hx, hb, hml, hown, hts⟩ (kL_tale l D cI cS qx a0 a1 a2 a3 a4 has st hI.ws) (va_cwS 1 hts gL_readySo_L_tale rfl rfl rfl (by decide +kernel) ⟨Nat.le_of_ble_eq_true rfl, Nat.le_of_ble_eq_true rfl⟩) hE hP [0, 1] rfl rfl rfl hl.1 rfl (Nat.le_of_ble_eq_true rfl) ⟨Nat.le_of_ble_eq_true rfl, Nat.le_of_ble_eq_true rfl⟩ dL_readySo_1 ?_
      refine lv_lstore_n (lv' := [(2, .long ((taF st))), (0, .ref qx), (1, .int ((nI t)))]) hx hb dL_readySo_4 rfl hl (by decide) rfl (fun ls hl => ?_)
      refine lv_aload_n hx hb dL_readySo_5 rfl (lv_at hl 1 rfl) ?_
      refine bIV (W0 := wO cI cS qx a0 a1 a2 a3 b3 a4 sn sc has ([]) (st, tr, hi)) (wc := [(qx, .inr (6, [.ref (a0 0), .ref (a1 0), .ref (a2 0), .ref (a3 0), .ref (a4 0), .int has]))] :: wSt cI a0 st :: wSt cI a2 tr :: []) (w1 := fun u : TTT => [(qx, .inr (6, [.ref (a0 0), .ref (a1 0), .ref (a2 0), .ref (a3 0), .ref (a4 0), .int has]))] :: wSt cI a0 u.1 :: wSt cI a2 u.2 :: []) ⟨hx, hb, hml, hown, hts⟩ (kX6_readyIn l D cI cS qx a0 a2 (a1 0) (a3 0) (a4 0) has (st, tr) hI.ws) (cwV 0 hts gL_readySo_X6_readyIn rfl rfl rfl (by decide +kernel) ⟨Nat.le_of_ble_eq_true rfl, Nat.le_of_ble_eq_true rfl⟩) hE hP hD hS rfl rfl [0, 1, 3] rfl rfl (fun _ => rfl) (fun _ => rfl) rfl hl.1 rfl (Nat.le_of_ble_eq_true rfl) ⟨Nat.le_of_ble_eq_true rfl, Nat.le_of_ble_eq_true rfl⟩ dL_readySo_6 (fun r_6 u_6 H locs e_6 hP hD hS => ?_)
      have hP : va_P D vwCl (fl (wO cI cS qx a0 a1 a2 a3 b3 a4 sn sc has ([]) (u_6.1, u_6.2, hi))) H := hP
      have hD : va_D A (fl (wO cI cS qx a0 a1 a2 a3 b3 a4 sn sc has ([]) (u_6.1, u_6.2, hi))) := hD
      rw [er] at e_6
      cases e_6
      have hP : va_P D vwCl (fl (wO cI cS qx a0 a1 a2 a3 b3 a4 sn sc has ([]) (st, tr1, hi))) H := hP
      have hD : va_D A (fl (wO cI cS qx a0 a1 a2 a3 b3 a4 sn sc has ([]) (st, tr1, hi))) := hD
      refine lv_istore (lv' := [(4, .int ((-5 : Int32))), (2, .long ((taF st))), (0, .ref qx), (1, .int ((nI t)))]) hx hb dL_readySo_9 hl (by decide) rfl (fun ls hl => ?_)
      refine lv_aload_n hx hb dL_readySo_11 rfl (lv_at hl 2 rfl) ?_
      refine lv_iload_n hx hb dL_readySo_12 rfl (lv_at hl 3 rfl) ?_
      refine bIV (W0 := wO cI cS qx a0 a1 a2 a3 b3 a4 sn sc has ([]) (st, tr1, hi)) (wc := [(qx, .inr (6, [.ref (a0 0), .ref (a1 0), .ref (a2 0), .ref (a3 0), .ref (a4 0), .int has]))] :: wSt cI a0 st :: wSt cI a2 tr1 :: []) (w1 := fun u : TTT => [(qx, .inr (6, [.ref (a0 0), .ref (a1 0), .ref (a2 0), .ref (a3 0), .ref (a4 0), .int has]))] :: wSt cI a0 u.1 :: wSt cI a2 u.2 :: []) ⟨hx, hb, hml, hown, hts⟩ (kX6_leastLot l D cI cS qx a0 a2 (a1 0) (a3 0) (a4 0) has (nI t) (st, tr1) hI.ws) (cwV 1 hts gL_readySo_X6_leastLot rfl rfl rfl (by decide +kernel) ⟨Nat.le_of_ble_eq_true rfl, Nat.le_of_ble_eq_true rfl⟩) hE hP hD hS rfl rfl [0, 1, 3] rfl rfl (fun _ => rfl) (fun _ => rfl) rfl hl.1 rfl (Nat.le_of_ble_eq_true rfl) ⟨Nat.le_of_ble_eq_true rfl, Nat.le_of_ble_eq_true rfl⟩ dL_readySo_13 (fun r_13 u_13 H locs e_13 hP hD hS => ?_)
      have hP : va_P D vwCl (fl (wO cI cS qx a0 a1 a2 a3 b3 a4 sn sc has ([]) (u_13.1, u_13.2, hi))) H := hP
      have hD : va_D A (fl (wO cI cS qx a0 a1 a2 a3 b3 a4 sn sc has ([]) (u_13.1, u_13.2, hi))) := hD
      rw [el] at e_13
      cases e_13
      have hP : va_P D vwCl (fl (wO cI cS qx a0 a1 a2 a3 b3 a4 sn sc has ([]) (st, tr2, hi))) H := hP
      have hD : va_D A (fl (wO cI cS qx a0 a1 a2 a3 b3 a4 sn sc has ([]) (st, tr2, hi))) := hD
      refine lv_istore (lv' := [(5, .int r2), (4, .int ((-5 : Int32))), (2, .long ((taF st))), (0, .ref qx), (1, .int ((nI t)))]) hx hb dL_readySo_16 hl (by decide) rfl (fun ls hl => ?_)
      refine lv_iload hx hb dL_readySo_18 (lv_at hl 1 rfl) ?_
      refine lv_bipush (v := (-4 : Int32)) hx hb dL_readySo_20 (by decide +kernel) ?_
      refine lv_icmp_ne (tgt := 55) hx hb dL_readySo_22 (by decide) (fun _ => ?_) (fun c => absurd c (show ¬ (-5 : Int32) = (-4 : Int32) by decide))
      refine lv_iload hx hb dL_readySo_55 (lv_at hl 1 rfl) ?_
      refine lv_iconst (v := (1 : Int32)) hx hb dL_readySo_57 (by decide +kernel) ?_
      refine lv_icmp_lt (tgt := 68) hx hb dL_readySo_58 (by decide) (fun _ => ?_) (fun c => absurd (show (-5 : Int32) < (1 : Int32) by decide) c)
      refine lv_iload hx hb dL_readySo_68 (lv_at hl 1 rfl) ?_
      refine lv_if_ne (tgt := 87) hx hb dL_readySo_70 (by decide) (fun _ => ?_) (fun c => absurd c (show ¬ (-5 : Int32) = (0 : Int32) by decide))
      refine lv_iload hx hb dL_readySo_87 (lv_at hl 1 rfl) ?_
      refine lv_bipush (v := (-5 : Int32)) hx hb dL_readySo_89 (by decide +kernel) ?_
      refine lv_icmp_eq (tgt := 102) hx hb dL_readySo_91 (by decide) (fun _ => ?_) (fun c => absurd (show (-5 : Int32) = (-5 : Int32) by decide) c)
      refine lv_iconst (v := (1 : Int32)) hx hb dL_readySo_102 (by decide +kernel) ?_
      refine lv_goto (tgt := 107) hx hb dL_readySo_103 (by decide) ?_
      exact hend _ _ _ (tr2, hi) _ _ _ _ dL_readySo_107 rfl (Nat.le_refl _) (Nat.le_refl _) ⟨rfl, hh⟩ hP hS
  · have h0 : ¬ st.2.2.2.1.2.2.1 = (0 : Int32) := by rw [hph]; decide
    have hy : st.2.2.2.1.2.2.1 = (1 : Int32) ∨ st.2.2.2.1.2.2.1 = (2 : Int32) := Or.inr hph
    obtain ⟨q, hq, eq⟩ := (hI.cp h0).2.1
    obtain ⟨rr, tr1, er, hr⟩ := ready_is (tr := tr) hy
    obtain ⟨r2, tr2, el, hl1, hl2, hl3⟩ := least_is (tr := tr1) ht1 ht hy hq eq
    rcases hr with ⟨N, hN, hrd, hmin, eN⟩ | ⟨hno, eN⟩
    · subst eN
      by_cases hN0 : N = 0
      · subst hN0
        have er : fX6_readyIn (st, tr) = ((0 : Int32), (st, tr1)) := er
        rw [hl3 hrd] at el
        refine lv_aload_n hx hb dL_readySo_0 rfl (lv_at hl 0 rfl) ?_
        refine bLS (W0 := wO cI cS qx a0 a1 a2 a3 b3 a4 sn sc has ([]) (st, tr, hi)) (wc := [(qx, .inr (6, [.ref (a0 0), .ref (a1 0), .ref (a2 0), .ref (a3 0), .ref (a4 0), .int has]))] :: wSt cI a0 st :: []) (r := (taF st)) ⟨hx, hb, hml, hown, hts⟩ (kL_tale l D cI cS qx a0 a1 a2 a3 a4 has st hI.ws) (va_cwS 1 hts gL_readySo_L_tale rfl rfl rfl (by decide +kernel) ⟨Nat.le_of_ble_eq_true rfl, Nat.le_of_ble_eq_true rfl⟩) hE hP [0, 1] rfl rfl rfl hl.1 rfl (Nat.le_of_ble_eq_true rfl) ⟨Nat.le_of_ble_eq_true rfl, Nat.le_of_ble_eq_true rfl⟩ dL_readySo_1 ?_
        refine lv_lstore_n (lv' := [(2, .long ((taF st))), (0, .ref qx), (1, .int ((nI t)))]) hx hb dL_readySo_4 rfl hl (by decide) rfl (fun ls hl => ?_)
        refine lv_aload_n hx hb dL_readySo_5 rfl (lv_at hl 1 rfl) ?_
        refine bIV (W0 := wO cI cS qx a0 a1 a2 a3 b3 a4 sn sc has ([]) (st, tr, hi)) (wc := [(qx, .inr (6, [.ref (a0 0), .ref (a1 0), .ref (a2 0), .ref (a3 0), .ref (a4 0), .int has]))] :: wSt cI a0 st :: wSt cI a2 tr :: []) (w1 := fun u : TTT => [(qx, .inr (6, [.ref (a0 0), .ref (a1 0), .ref (a2 0), .ref (a3 0), .ref (a4 0), .int has]))] :: wSt cI a0 u.1 :: wSt cI a2 u.2 :: []) ⟨hx, hb, hml, hown, hts⟩ (kX6_readyIn l D cI cS qx a0 a2 (a1 0) (a3 0) (a4 0) has (st, tr) hI.ws) (cwV 0 hts gL_readySo_X6_readyIn rfl rfl rfl (by decide +kernel) ⟨Nat.le_of_ble_eq_true rfl, Nat.le_of_ble_eq_true rfl⟩) hE hP hD hS rfl rfl [0, 1, 3] rfl rfl (fun _ => rfl) (fun _ => rfl) rfl hl.1 rfl (Nat.le_of_ble_eq_true rfl) ⟨Nat.le_of_ble_eq_true rfl, Nat.le_of_ble_eq_true rfl⟩ dL_readySo_6 (fun r_6 u_6 H locs e_6 hP hD hS => ?_)
        have hP : va_P D vwCl (fl (wO cI cS qx a0 a1 a2 a3 b3 a4 sn sc has ([]) (u_6.1, u_6.2, hi))) H := hP
        have hD : va_D A (fl (wO cI cS qx a0 a1 a2 a3 b3 a4 sn sc has ([]) (u_6.1, u_6.2, hi))) := hD
        rw [er] at e_6
        cases e_6
        have hP : va_P D vwCl (fl (wO cI cS qx a0 a1 a2 a3 b3 a4 sn sc has ([]) (st, tr1, hi))) H := hP
        have hD : va_D A (fl (wO cI cS qx a0 a1 a2 a3 b3 a4 sn sc has ([]) (st, tr1, hi))) := hD
        refine lv_istore (lv' := [(4, .int ((0 : Int32))), (2, .long ((taF st))), (0, .ref qx), (1, .int ((nI t)))]) hx hb dL_readySo_9 hl (by decide) rfl (fun ls hl => ?_)
        refine lv_aload_n hx hb dL_readySo_11 rfl (lv_at hl 2 rfl) ?_
        refine lv_iload_n hx hb dL_readySo_12 rfl (lv_at hl 3 rfl) ?_
        refine bIV (W0 := wO cI cS qx a0 a1 a2 a3 b3 a4 sn sc has ([]) (st, tr1, hi)) (wc := [(qx, .inr (6, [.ref (a0 0), .ref (a1 0), .ref (a2 0), .ref (a3 0), .ref (a4 0), .int has]))] :: wSt cI a0 st :: wSt cI a2 tr1 :: []) (w1 := fun u : TTT => [(qx, .inr (6, [.ref (a0 0), .ref (a1 0), .ref (a2 0), .ref (a3 0), .ref (a4 0), .int has]))] :: wSt cI a0 u.1 :: wSt cI a2 u.2 :: []) ⟨hx, hb, hml, hown, hts⟩ (kX6_leastLot l D cI cS qx a0 a2 (a1 0) (a3 0) (a4 0) has (nI t) (st, tr1) hI.ws) (cwV 1 hts gL_readySo_X6_leastLot rfl rfl rfl (by decide +kernel) ⟨Nat.le_of_ble_eq_true rfl, Nat.le_of_ble_eq_true rfl⟩) hE hP hD hS rfl rfl [0, 1, 3] rfl rfl (fun _ => rfl) (fun _ => rfl) rfl hl.1 rfl (Nat.le_of_ble_eq_true rfl) ⟨Nat.le_of_ble_eq_true rfl, Nat.le_of_ble_eq_true rfl⟩ dL_readySo_13 (fun r_13 u_13 H locs e_13 hP hD hS => ?_)
        have hP : va_P D vwCl (fl (wO cI cS qx a0 a1 a2 a3 b3 a4 sn sc has ([]) (u_13.1, u_13.2, hi))) H := hP
        have hD : va_D A (fl (wO cI cS qx a0 a1 a2 a3 b3 a4 sn sc has ([]) (u_13.1, u_13.2, hi))) := hD
        rw [el] at e_13
        cases e_13
        have hP : va_P D vwCl (fl (wO cI cS qx a0 a1 a2 a3 b3 a4 sn sc has ([]) (st, tr2, hi))) H := hP
        have hD : va_D A (fl (wO cI cS qx a0 a1 a2 a3 b3 a4 sn sc has ([]) (st, tr2, hi))) := hD
        refine lv_istore (lv' := [(5, .int ((1 : Int32))), (4, .int ((0 : Int32))), (2, .long ((taF st))), (0, .ref qx), (1, .int ((nI t)))]) hx hb dL_readySo_16 hl (by decide) rfl (fun ls hl => ?_)
        refine lv_iload hx hb dL_readySo_18 (lv_at hl 1 rfl) ?_
        refine lv_bipush (v := (-4 : Int32)) hx hb dL_readySo_20 (by decide +kernel) ?_
        refine lv_icmp_ne (tgt := 55) hx hb dL_readySo_22 (by decide) (fun _ => ?_) (fun c => absurd c (show ¬ (0 : Int32) = (-4 : Int32) by decide))
        refine lv_iload hx hb dL_readySo_55 (lv_at hl 1 rfl) ?_
        refine lv_iconst (v := (1 : Int32)) hx hb dL_readySo_57 (by decide +kernel) ?_
        refine lv_icmp_lt (tgt := 68) hx hb dL_readySo_58 (by decide) (fun _ => ?_) (fun c => absurd (show (0 : Int32) < (1 : Int32) by decide) c)
        refine lv_iload hx hb dL_readySo_68 (lv_at hl 1 rfl) ?_
        refine lv_if_ne (tgt := 87) hx hb dL_readySo_70 (by decide) (fun c => absurd (show (0 : Int32) = (0 : Int32) by decide) c) (fun _ => ?_)
        refine lv_iload hx hb dL_readySo_73 (lv_at hl 0 rfl) ?_
        refine lv_iconst (v := (1 : Int32)) hx hb dL_readySo_75 (by decide +kernel) ?_
        refine lv_icmp_ne (tgt := 83) hx hb dL_readySo_76 (by decide) (fun c => absurd (show (1 : Int32) = (1 : Int32) by decide) c) (fun _ => ?_)
        refine lv_iconst (v := (1 : Int32)) hx hb dL_readySo_79 (by decide +kernel) ?_
        refine lv_goto (tgt := 107) hx hb dL_readySo_80 (by decide) ?_
        exact hend _ _ _ (tr2, hi) _ _ _ _ dL_readySo_107 rfl (Nat.le_refl _) (Nat.le_refl _) ⟨rfl, hh⟩ hP hS
      · have hN1 : 1 ≤ N := Nat.pos_of_ne_zero hN0
        by_cases hN2 : N ≤ 99
        · by_cases hNt : N ≤ t
          · obtain ⟨j, hj1, hj2, ej⟩ := hl2 N hNt hrd
            rw [ej] at el
            refine lv_aload_n hx hb dL_readySo_0 rfl (lv_at hl 0 rfl) ?_
            refine bLS (W0 := wO cI cS qx a0 a1 a2 a3 b3 a4 sn sc has ([]) (st, tr, hi)) (wc := [(qx, .inr (6, [.ref (a0 0), .ref (a1 0), .ref (a2 0), .ref (a3 0), .ref (a4 0), .int has]))] :: wSt cI a0 st :: []) (r := (taF st)) ⟨hx, hb, hml, hown, hts⟩ (kL_tale l D cI cS qx a0 a1 a2 a3 a4 has st hI.ws) (va_cwS 1 hts gL_readySo_L_tale rfl rfl rfl (by decide +kernel) ⟨Nat.le_of_ble_eq_true rfl, Nat.le_of_ble_eq_true rfl⟩) hE hP [0, 1] rfl rfl rfl hl.1 rfl (Nat.le_of_ble_eq_true rfl) ⟨Nat.le_of_ble_eq_true rfl, Nat.le_of_ble_eq_true rfl⟩ dL_readySo_1 ?_
            refine lv_lstore_n (lv' := [(2, .long ((taF st))), (0, .ref qx), (1, .int ((nI t)))]) hx hb dL_readySo_4 rfl hl (by decide) rfl (fun ls hl => ?_)
            refine lv_aload_n hx hb dL_readySo_5 rfl (lv_at hl 1 rfl) ?_
            refine bIV (W0 := wO cI cS qx a0 a1 a2 a3 b3 a4 sn sc has ([]) (st, tr, hi)) (wc := [(qx, .inr (6, [.ref (a0 0), .ref (a1 0), .ref (a2 0), .ref (a3 0), .ref (a4 0), .int has]))] :: wSt cI a0 st :: wSt cI a2 tr :: []) (w1 := fun u : TTT => [(qx, .inr (6, [.ref (a0 0), .ref (a1 0), .ref (a2 0), .ref (a3 0), .ref (a4 0), .int has]))] :: wSt cI a0 u.1 :: wSt cI a2 u.2 :: []) ⟨hx, hb, hml, hown, hts⟩ (kX6_readyIn l D cI cS qx a0 a2 (a1 0) (a3 0) (a4 0) has (st, tr) hI.ws) (cwV 0 hts gL_readySo_X6_readyIn rfl rfl rfl (by decide +kernel) ⟨Nat.le_of_ble_eq_true rfl, Nat.le_of_ble_eq_true rfl⟩) hE hP hD hS rfl rfl [0, 1, 3] rfl rfl (fun _ => rfl) (fun _ => rfl) rfl hl.1 rfl (Nat.le_of_ble_eq_true rfl) ⟨Nat.le_of_ble_eq_true rfl, Nat.le_of_ble_eq_true rfl⟩ dL_readySo_6 (fun r_6 u_6 H locs e_6 hP hD hS => ?_)
            have hP : va_P D vwCl (fl (wO cI cS qx a0 a1 a2 a3 b3 a4 sn sc has ([]) (u_6.1, u_6.2, hi))) H := hP
            have hD : va_D A (fl (wO cI cS qx a0 a1 a2 a3 b3 a4 sn sc has ([]) (u_6.1, u_6.2, hi))) := hD
            rw [er] at e_6
            cases e_6
            have hP : va_P D vwCl (fl (wO cI cS qx a0 a1 a2 a3 b3 a4 sn sc has ([]) (st, tr1, hi))) H := hP
            have hD : va_D A (fl (wO cI cS qx a0 a1 a2 a3 b3 a4 sn sc has ([]) (st, tr1, hi))) := hD
            refine lv_istore (lv' := [(4, .int ((nI N))), (2, .long ((taF st))), (0, .ref qx), (1, .int ((nI t)))]) hx hb dL_readySo_9 hl (by decide) rfl (fun ls hl => ?_)
            refine lv_aload_n hx hb dL_readySo_11 rfl (lv_at hl 2 rfl) ?_
            refine lv_iload_n hx hb dL_readySo_12 rfl (lv_at hl 3 rfl) ?_
            refine bIV (W0 := wO cI cS qx a0 a1 a2 a3 b3 a4 sn sc has ([]) (st, tr1, hi)) (wc := [(qx, .inr (6, [.ref (a0 0), .ref (a1 0), .ref (a2 0), .ref (a3 0), .ref (a4 0), .int has]))] :: wSt cI a0 st :: wSt cI a2 tr1 :: []) (w1 := fun u : TTT => [(qx, .inr (6, [.ref (a0 0), .ref (a1 0), .ref (a2 0), .ref (a3 0), .ref (a4 0), .int has]))] :: wSt cI a0 u.1 :: wSt cI a2 u.2 :: []) ⟨hx, hb, hml, hown, hts⟩ (kX6_leastLot l D cI cS qx a0 a2 (a1 0) (a3 0) (a4 0) has (nI t) (st, tr1) hI.ws) (cwV 1 hts gL_readySo_X6_leastLot rfl rfl rfl (by decide +kernel) ⟨Nat.le_of_ble_eq_true rfl, Nat.le_of_ble_eq_true rfl⟩) hE hP hD hS rfl rfl [0, 1, 3] rfl rfl (fun _ => rfl) (fun _ => rfl) rfl hl.1 rfl (Nat.le_of_ble_eq_true rfl) ⟨Nat.le_of_ble_eq_true rfl, Nat.le_of_ble_eq_true rfl⟩ dL_readySo_13 (fun r_13 u_13 H locs e_13 hP hD hS => ?_)
            have hP : va_P D vwCl (fl (wO cI cS qx a0 a1 a2 a3 b3 a4 sn sc has ([]) (u_13.1, u_13.2, hi))) H := hP
            have hD : va_D A (fl (wO cI cS qx a0 a1 a2 a3 b3 a4 sn sc has ([]) (u_13.1, u_13.2, hi))) := hD
            rw [el] at e_13
            cases e_13
            have hP : va_P D vwCl (fl (wO cI cS qx a0 a1 a2 a3 b3 a4 sn sc has ([]) (st, tr2, hi))) H := hP
            have hD : va_D A (fl (wO cI cS qx a0 a1 a2 a3 b3 a4 sn sc has ([]) (st, tr2, hi))) := hD
            refine lv_istore (lv' := [(5, .int ((nI j))), (4, .int ((nI N))), (2, .long ((taF st))), (0, .ref qx), (1, .int ((nI t)))]) hx hb dL_readySo_16 hl (by decide) rfl (fun ls hl => ?_)
            refine lv_iload hx hb dL_readySo_18 (lv_at hl 1 rfl) ?_
            refine lv_bipush (v := (-4 : Int32)) hx hb dL_readySo_20 (by decide +kernel) ?_
            refine lv_icmp_ne (tgt := 55) hx hb dL_readySo_22 (by decide) (fun _ => ?_) (fun c => absurd c (bd_ne (Bd.of (N := 200) hN (by omega)) (by omega) (by decide)))
            refine lv_iload hx hb dL_readySo_55 (lv_at hl 1 rfl) ?_
            refine lv_iconst (v := (1 : Int32)) hx hb dL_readySo_57 (by decide +kernel) ?_
            refine lv_icmp_lt (tgt := 68) hx hb dL_readySo_58 (by decide) (fun c => absurd c (show ¬ (nI N) < (1 : Int32) from nI_nlt (b := 1) (by omega) (by omega))) (fun _ => ?_)
            refine lv_iload hx hb dL_readySo_61 (lv_at hl 1 rfl) ?_
            refine lv_bipush (v := (99 : Int32)) hx hb dL_readySo_63 (by decide +kernel) ?_
            refine lv_icmp_le (tgt := 108) hx hb dL_readySo_65 (by decide) (fun _ => ?_) (fun c => absurd (show (nI N) ≤ (99 : Int32) from nI_le (b := 99) hN2 (by omega)) c)
            refine lv_iload hx hb dL_readySo_108 (lv_at hl 0 rfl) ?_
            refine lv_bipush (v := (-5 : Int32)) hx hb dL_readySo_110 (by decide +kernel) ?_
            refine lv_icmp_eq (tgt := 128) hx hb dL_readySo_112 (by decide) (fun c => absurd c (bd_ne (Bd.of (N := 8) (j := j) (by omega) (by omega)) (by omega) (by decide))) (fun _ => ?_)
            refine lv_iload hx hb dL_readySo_115 (lv_at hl 0 rfl) ?_
            refine lv_iconst (v := (1 : Int32)) hx hb dL_readySo_117 (by decide +kernel) ?_
            refine lv_icmp_lt (tgt := 178) hx hb dL_readySo_118 (by decide) (fun c => absurd c (show ¬ (nI j) < (1 : Int32) from nI_nlt (b := 1) (by omega) (by omega))) (fun _ => ?_)
            refine lv_iload hx hb dL_readySo_121 (lv_at hl 0 rfl) ?_
            refine lv_bipush (v := (8 : Int32)) hx hb dL_readySo_123 (by decide +kernel) ?_
            refine lv_icmp_gt (tgt := 178) hx hb dL_readySo_125 (by decide) (fun c => absurd c (show ¬ (8 : Int32) < (nI j) from nI_nlt (a := 8) (by omega) (by omega))) (fun _ => ?_)
            refine lv_iload hx hb dL_readySo_128 (lv_at hl 1 rfl) ?_
            refine lv_iload_n hx hb dL_readySo_130 rfl (lv_at hl 4 rfl) ?_
            refine lv_icmp_gt (tgt := 149) hx hb dL_readySo_131 (by decide) (fun c => absurd c (nI_nlt (a := t) (b := N) hNt (by omega))) (fun _ => ?_)
            refine lv_iload hx hb dL_readySo_134 (lv_at hl 0 rfl) ?_
            refine lv_if_le (tgt := 178) hx hb dL_readySo_136 (by decide) (fun c => absurd c (nI_nle (by omega) (by omega))) (fun _ => ?_)
            refine lv_iload hx hb dL_readySo_139 (lv_at hl 0 rfl) ?_
            refine lv_aload_n hx hb dL_readySo_141 rfl (lv_at hl 3 rfl) ?_
            refine lv_iconst (v := (2 : Int32)) hx hb dL_readySo_142 (by decide +kernel) ?_
            refine bRV (W0 := wO cI cS qx a0 a1 a2 a3 b3 a4 sn sc has ([]) (st, tr2, hi)) (wc := [(qx, .inr (6, [.ref (a0 0), .ref (a1 0), .ref (a2 0), .ref (a3 0), .ref (a4 0), .int has]))] :: wSt cI a0 st :: []) (r := (nI (q + 1))) ⟨hx, hb, hml, hown, hts⟩ (KR.eq (kX6_copy l D cI cS qx a0 (a1 0) (a2 0) (a3 0) (a4 0) has (2 : Int32) st) ((cp_2 h0).trans eq)) (cwV 1 hts gL_readySo_X6_copy rfl rfl rfl (by decide +kernel) ⟨Nat.le_of_ble_eq_true rfl, Nat.le_of_ble_eq_true rfl⟩) hE hP rfl rfl [0, 1] rfl rfl rfl hl.1 rfl (Nat.le_of_ble_eq_true rfl) ⟨Nat.le_of_ble_eq_true rfl, Nat.le_of_ble_eq_true rfl⟩ dL_readySo_143 ?_
            refine lv_icmp_gt (tgt := 178) hx hb dL_readySo_146 (by decide) (fun c => absurd c (nI_nlt (a := q + 1) (b := j) hj2 (by omega))) (fun _ => ?_)
            exact J_149 N tr2 _ _ hN1 hN2 hrd hmin hP hD hS _ (lv_sub hl [3, 4, 2, 1] rfl)
          · have hNt2 : t < N := Nat.lt_of_not_le hNt
            rcases hl1 with ej | ⟨j, hj1, hj2, ej⟩
            · rw [ej] at el
              refine lv_aload_n hx hb dL_readySo_0 rfl (lv_at hl 0 rfl) ?_
              refine bLS (W0 := wO cI cS qx a0 a1 a2 a3 b3 a4 sn sc has ([]) (st, tr, hi)) (wc := [(qx, .inr (6, [.ref (a0 0), .ref (a1 0), .ref (a2 0), .ref (a3 0), .ref (a4 0), .int has]))] :: wSt cI a0 st :: []) (r := (taF st)) ⟨hx, hb, hml, hown, hts⟩ (kL_tale l D cI cS qx a0 a1 a2 a3 a4 has st hI.ws) (va_cwS 1 hts gL_readySo_L_tale rfl rfl rfl (by decide +kernel) ⟨Nat.le_of_ble_eq_true rfl, Nat.le_of_ble_eq_true rfl⟩) hE hP [0, 1] rfl rfl rfl hl.1 rfl (Nat.le_of_ble_eq_true rfl) ⟨Nat.le_of_ble_eq_true rfl, Nat.le_of_ble_eq_true rfl⟩ dL_readySo_1 ?_
              refine lv_lstore_n (lv' := [(2, .long ((taF st))), (0, .ref qx), (1, .int ((nI t)))]) hx hb dL_readySo_4 rfl hl (by decide) rfl (fun ls hl => ?_)
              refine lv_aload_n hx hb dL_readySo_5 rfl (lv_at hl 1 rfl) ?_
              refine bIV (W0 := wO cI cS qx a0 a1 a2 a3 b3 a4 sn sc has ([]) (st, tr, hi)) (wc := [(qx, .inr (6, [.ref (a0 0), .ref (a1 0), .ref (a2 0), .ref (a3 0), .ref (a4 0), .int has]))] :: wSt cI a0 st :: wSt cI a2 tr :: []) (w1 := fun u : TTT => [(qx, .inr (6, [.ref (a0 0), .ref (a1 0), .ref (a2 0), .ref (a3 0), .ref (a4 0), .int has]))] :: wSt cI a0 u.1 :: wSt cI a2 u.2 :: []) ⟨hx, hb, hml, hown, hts⟩ (kX6_readyIn l D cI cS qx a0 a2 (a1 0) (a3 0) (a4 0) has (st, tr) hI.ws) (cwV 0 hts gL_readySo_X6_readyIn rfl rfl rfl (by decide +kernel) ⟨Nat.le_of_ble_eq_true rfl, Nat.le_of_ble_eq_true rfl⟩) hE hP hD hS rfl rfl [0, 1, 3] rfl rfl (fun _ => rfl) (fun _ => rfl) rfl hl.1 rfl (Nat.le_of_ble_eq_true rfl) ⟨Nat.le_of_ble_eq_true rfl, Nat.le_of_ble_eq_true rfl⟩ dL_readySo_6 (fun r_6 u_6 H locs e_6 hP hD hS => ?_)
              have hP : va_P D vwCl (fl (wO cI cS qx a0 a1 a2 a3 b3 a4 sn sc has ([]) (u_6.1, u_6.2, hi))) H := hP
              have hD : va_D A (fl (wO cI cS qx a0 a1 a2 a3 b3 a4 sn sc has ([]) (u_6.1, u_6.2, hi))) := hD
              rw [er] at e_6
              cases e_6
              have hP : va_P D vwCl (fl (wO cI cS qx a0 a1 a2 a3 b3 a4 sn sc has ([]) (st, tr1, hi))) H := hP
              have hD : va_D A (fl (wO cI cS qx a0 a1 a2 a3 b3 a4 sn sc has ([]) (st, tr1, hi))) := hD
              refine lv_istore (lv' := [(4, .int ((nI N))), (2, .long ((taF st))), (0, .ref qx), (1, .int ((nI t)))]) hx hb dL_readySo_9 hl (by decide) rfl (fun ls hl => ?_)
              refine lv_aload_n hx hb dL_readySo_11 rfl (lv_at hl 2 rfl) ?_
              refine lv_iload_n hx hb dL_readySo_12 rfl (lv_at hl 3 rfl) ?_
              refine bIV (W0 := wO cI cS qx a0 a1 a2 a3 b3 a4 sn sc has ([]) (st, tr1, hi)) (wc := [(qx, .inr (6, [.ref (a0 0), .ref (a1 0), .ref (a2 0), .ref (a3 0), .ref (a4 0), .int has]))] :: wSt cI a0 st :: wSt cI a2 tr1 :: []) (w1 := fun u : TTT => [(qx, .inr (6, [.ref (a0 0), .ref (a1 0), .ref (a2 0), .ref (a3 0), .ref (a4 0), .int has]))] :: wSt cI a0 u.1 :: wSt cI a2 u.2 :: []) ⟨hx, hb, hml, hown, hts⟩ (kX6_leastLot l D cI cS qx a0 a2 (a1 0) (a3 0) (a4 0) has (nI t) (st, tr1) hI.ws) (cwV 1 hts gL_readySo_X6_leastLot rfl rfl rfl (by decide +kernel) ⟨Nat.le_of_ble_eq_true rfl, Nat.le_of_ble_eq_true rfl⟩) hE hP hD hS rfl rfl [0, 1, 3] rfl rfl (fun _ => rfl) (fun _ => rfl) rfl hl.1 rfl (Nat.le_of_ble_eq_true rfl) ⟨Nat.le_of_ble_eq_true rfl, Nat.le_of_ble_eq_true rfl⟩ dL_readySo_13 (fun r_13 u_13 H locs e_13 hP hD hS => ?_)
              have hP : va_P D vwCl (fl (wO cI cS qx a0 a1 a2 a3 b3 a4 sn sc has ([]) (u_13.1, u_13.2, hi))) H := hP
              have hD : va_D A (fl (wO cI cS qx a0 a1 a2 a3 b3 a4 sn sc has ([]) (u_13.1, u_13.2, hi))) := hD
              rw [el] at e_13
              cases e_13
              have hP : va_P D vwCl (fl (wO cI cS qx a0 a1 a2 a3 b3 a4 sn sc has ([]) (st, tr2, hi))) H := hP
              have hD : va_D A (fl (wO cI cS qx a0 a1 a2 a3 b3 a4 sn sc has ([]) (st, tr2, hi))) := hD
              refine lv_istore (lv' := [(5, .int ((-5 : Int32))), (4, .int ((nI N))), (2, .long ((taF st))), (0, .ref qx), (1, .int ((nI t)))]) hx hb dL_readySo_16 hl (by decide) rfl (fun ls hl => ?_)
              refine lv_iload hx hb dL_readySo_18 (lv_at hl 1 rfl) ?_
              refine lv_bipush (v := (-4 : Int32)) hx hb dL_readySo_20 (by decide +kernel) ?_
              refine lv_icmp_ne (tgt := 55) hx hb dL_readySo_22 (by decide) (fun _ => ?_) (fun c => absurd c (bd_ne (Bd.of (N := 200) hN (by omega)) (by omega) (by decide)))
              refine lv_iload hx hb dL_readySo_55 (lv_at hl 1 rfl) ?_
              refine lv_iconst (v := (1 : Int32)) hx hb dL_readySo_57 (by decide +kernel) ?_
              refine lv_icmp_lt (tgt := 68) hx hb dL_readySo_58 (by decide) (fun c => absurd c (show ¬ (nI N) < (1 : Int32) from nI_nlt (b := 1) (by omega) (by omega))) (fun _ => ?_)
              refine lv_iload hx hb dL_readySo_61 (lv_at hl 1 rfl) ?_
              refine lv_bipush (v := (99 : Int32)) hx hb dL_readySo_63 (by decide +kernel) ?_
              refine lv_icmp_le (tgt := 108) hx hb dL_readySo_65 (by decide) (fun _ => ?_) (fun c => absurd (show (nI N) ≤ (99 : Int32) from nI_le (b := 99) hN2 (by omega)) c)
              refine lv_iload hx hb dL_readySo_108 (lv_at hl 0 rfl) ?_
              refine lv_bipush (v := (-5 : Int32)) hx hb dL_readySo_110 (by decide +kernel) ?_
              refine lv_icmp_eq (tgt := 128) hx hb dL_readySo_112 (by decide) (fun _ => ?_) (fun c => absurd (show (-5 : Int32) = (-5 : Int32) by decide) c)
              refine lv_iload hx hb dL_readySo_128 (lv_at hl 1 rfl) ?_
              refine lv_iload_n hx hb dL_readySo_130 rfl (lv_at hl 4 rfl) ?_
              refine lv_icmp_gt (tgt := 149) hx hb dL_readySo_131 (by decide) (fun _ => ?_) (fun c => absurd (nI_lt hNt2 (by omega)) c)
              exact J_149 N tr2 _ _ hN1 hN2 hrd hmin hP hD hS _ (lv_sub hl [3, 4, 2, 1] rfl)
            · rw [ej] at el
              refine lv_aload_n hx hb dL_readySo_0 rfl (lv_at hl 0 rfl) ?_
              refine bLS (W0 := wO cI cS qx a0 a1 a2 a3 b3 a4 sn sc has ([]) (st, tr, hi)) (wc := [(qx, .inr (6, [.ref (a0 0), .ref (a1 0), .ref (a2 0), .ref (a3 0), .ref (a4 0), .int has]))] :: wSt cI a0 st :: []) (r := (taF st)) ⟨hx, hb, hml, hown, hts⟩ (kL_tale l D cI cS qx a0 a1 a2 a3 a4 has st hI.ws) (va_cwS 1 hts gL_readySo_L_tale rfl rfl rfl (by decide +kernel) ⟨Nat.le_of_ble_eq_true rfl, Nat.le_of_ble_eq_true rfl⟩) hE hP [0, 1] rfl rfl rfl hl.1 rfl (Nat.le_of_ble_eq_true rfl) ⟨Nat.le_of_ble_eq_true rfl, Nat.le_of_ble_eq_true rfl⟩ dL_readySo_1 ?_
              refine lv_lstore_n (lv' := [(2, .long ((taF st))), (0, .ref qx), (1, .int ((nI t)))]) hx hb dL_readySo_4 rfl hl (by decide) rfl (fun ls hl => ?_)
              refine lv_aload_n hx hb dL_readySo_5 rfl (lv_at hl 1 rfl) ?_
              refine bIV (W0 := wO cI cS qx a0 a1 a2 a3 b3 a4 sn sc has ([]) (st, tr, hi)) (wc := [(qx, .inr (6, [.ref (a0 0), .ref (a1 0), .ref (a2 0), .ref (a3 0), .ref (a4 0), .int has]))] :: wSt cI a0 st :: wSt cI a2 tr :: []) (w1 := fun u : TTT => [(qx, .inr (6, [.ref (a0 0), .ref (a1 0), .ref (a2 0), .ref (a3 0), .ref (a4 0), .int has]))] :: wSt cI a0 u.1 :: wSt cI a2 u.2 :: []) ⟨hx, hb, hml, hown, hts⟩ (kX6_readyIn l D cI cS qx a0 a2 (a1 0) (a3 0) (a4 0) has (st, tr) hI.ws) (cwV 0 hts gL_readySo_X6_readyIn rfl rfl rfl (by decide +kernel) ⟨Nat.le_of_ble_eq_true rfl, Nat.le_of_ble_eq_true rfl⟩) hE hP hD hS rfl rfl [0, 1, 3] rfl rfl (fun _ => rfl) (fun _ => rfl) rfl hl.1 rfl (Nat.le_of_ble_eq_true rfl) ⟨Nat.le_of_ble_eq_true rfl, Nat.le_of_ble_eq_true rfl⟩ dL_readySo_6 (fun r_6 u_6 H locs e_6 hP hD hS => ?_)
              have hP : va_P D vwCl (fl (wO cI cS qx a0 a1 a2 a3 b3 a4 sn sc has ([]) (u_6.1, u_6.2, hi))) H := hP
              have hD : va_D A (fl (wO cI cS qx a0 a1 a2 a3 b3 a4 sn sc has ([]) (u_6.1, u_6.2, hi))) := hD
              rw [er] at e_6
              cases e_6
              have hP : va_P D vwCl (fl (wO cI cS qx a0 a1 a2 a3 b3 a4 sn sc has ([]) (st, tr1, hi))) H := hP
              have hD : va_D A (fl (wO cI cS qx a0 a1 a2 a3 b3 a4 sn sc has ([]) (st, tr1, hi))) := hD
              refine lv_istore (lv' := [(4, .int ((nI N))), (2, .long ((taF st))), (0, .ref qx), (1, .int ((nI t)))]) hx hb dL_readySo_9 hl (by decide) rfl (fun ls hl => ?_)
              refine lv_aload_n hx hb dL_readySo_11 rfl (lv_at hl 2 rfl) ?_
              refine lv_iload_n hx hb dL_readySo_12 rfl (lv_at hl 3 rfl) ?_
              refine bIV (W0 := wO cI cS qx a0 a1 a2 a3 b3 a4 sn sc has ([]) (st, tr1, hi)) (wc := [(qx, .inr (6, [.ref (a0 0), .ref (a1 0), .ref (a2 0), .ref (a3 0), .ref (a4 0), .int has]))] :: wSt cI a0 st :: wSt cI a2 tr1 :: []) (w1 := fun u : TTT => [(qx, .inr (6, [.ref (a0 0), .ref (a1 0), .ref (a2 0), .ref (a3 0), .ref (a4 0), .int has]))] :: wSt cI a0 u.1 :: wSt cI a2 u.2 :: []) ⟨hx, hb, hml, hown, hts⟩ (kX6_leastLot l D cI cS qx a0 a2 (a1 0) (a3 0) (a4 0) has (nI t) (st, tr1) hI.ws) (cwV 1 hts gL_readySo_X6_leastLot rfl rfl rfl (by decide +kernel) ⟨Nat.le_of_ble_eq_true rfl, Nat.le_of_ble_eq_true rfl⟩) hE hP hD hS rfl rfl [0, 1, 3] rfl rfl (fun _ => rfl) (fun _ => rfl) rfl hl.1 rfl (Nat.le_of_ble_eq_true rfl) ⟨Nat.le_of_ble_eq_true rfl, Nat.le_of_ble_eq_true rfl⟩ dL_readySo_13 (fun r_13 u_13 H locs e_13 hP hD hS => ?_)
              have hP : va_P D vwCl (fl (wO cI cS qx a0 a1 a2 a3 b3 a4 sn sc has ([]) (u_13.1, u_13.2, hi))) H := hP
              have hD : va_D A (fl (wO cI cS qx a0 a1 a2 a3 b3 a4 sn sc has ([]) (u_13.1, u_13.2, hi))) := hD
              rw [el] at e_13
              cases e_13
              have hP : va_P D vwCl (fl (wO cI cS qx a0 a1 a2 a3 b3 a4 sn sc has ([]) (st, tr2, hi))) H := hP
              have hD : va_D A (fl (wO cI cS qx a0 a1 a2 a3 b3 a4 sn sc has ([]) (st, tr2, hi))) := hD
              refine lv_istore (lv' := [(5, .int ((nI j))), (4, .int ((nI N))), (2, .long ((taF st))), (0, .ref qx), (1, .int ((nI t)))]) hx hb dL_readySo_16 hl (by decide) rfl (fun ls hl => ?_)
              refine lv_iload hx hb dL_readySo_18 (lv_at hl 1 rfl) ?_
              refine lv_bipush (v := (-4 : Int32)) hx hb dL_readySo_20 (by decide +kernel) ?_
              refine lv_icmp_ne (tgt := 55) hx hb dL_readySo_22 (by decide) (fun _ => ?_) (fun c => absurd c (bd_ne (Bd.of (N := 200) hN (by omega)) (by omega) (by decide)))
              refine lv_iload hx hb dL_readySo_55 (lv_at hl 1 rfl) ?_
              refine lv_iconst (v := (1 : Int32)) hx hb dL_readySo_57 (by decide +kernel) ?_
              refine lv_icmp_lt (tgt := 68) hx hb dL_readySo_58 (by decide) (fun c => absurd c (show ¬ (nI N) < (1 : Int32) from nI_nlt (b := 1) (by omega) (by omega))) (fun _ => ?_)
              refine lv_iload hx hb dL_readySo_61 (lv_at hl 1 rfl) ?_
              refine lv_bipush (v := (99 : Int32)) hx hb dL_readySo_63 (by decide +kernel) ?_
              refine lv_icmp_le (tgt := 108) hx hb dL_readySo_65 (by decide) (fun _ => ?_) (fun c => absurd (show (nI N) ≤ (99 : Int32) from nI_le (b := 99) hN2 (by omega)) c)
              refine lv_iload hx hb dL_readySo_108 (lv_at hl 0 rfl) ?_
              refine lv_bipush (v := (-5 : Int32)) hx hb dL_readySo_110 (by decide +kernel) ?_
              refine lv_icmp_eq (tgt := 128) hx hb dL_readySo_112 (by decide) (fun c => absurd c (bd_ne (Bd.of (N := 8) (j := j) (by omega) (by omega)) (by omega) (by decide))) (fun _ => ?_)
              refine lv_iload hx hb dL_readySo_115 (lv_at hl 0 rfl) ?_
              refine lv_iconst (v := (1 : Int32)) hx hb dL_readySo_117 (by decide +kernel) ?_
              refine lv_icmp_lt (tgt := 178) hx hb dL_readySo_118 (by decide) (fun c => absurd c (show ¬ (nI j) < (1 : Int32) from nI_nlt (b := 1) (by omega) (by omega))) (fun _ => ?_)
              refine lv_iload hx hb dL_readySo_121 (lv_at hl 0 rfl) ?_
              refine lv_bipush (v := (8 : Int32)) hx hb dL_readySo_123 (by decide +kernel) ?_
              refine lv_icmp_gt (tgt := 178) hx hb dL_readySo_125 (by decide) (fun c => absurd c (show ¬ (8 : Int32) < (nI j) from nI_nlt (a := 8) (by omega) (by omega))) (fun _ => ?_)
              refine lv_iload hx hb dL_readySo_128 (lv_at hl 1 rfl) ?_
              refine lv_iload_n hx hb dL_readySo_130 rfl (lv_at hl 4 rfl) ?_
              refine lv_icmp_gt (tgt := 149) hx hb dL_readySo_131 (by decide) (fun _ => ?_) (fun c => absurd (nI_lt hNt2 (by omega)) c)
              exact J_149 N tr2 _ _ hN1 hN2 hrd hmin hP hD hS _ (lv_sub hl [3, 4, 2, 1] rfl)
        · refine lv_aload_n hx hb dL_readySo_0 rfl (lv_at hl 0 rfl) ?_
          refine bLS (W0 := wO cI cS qx a0 a1 a2 a3 b3 a4 sn sc has ([]) (st, tr, hi)) (wc := [(qx, .inr (6, [.ref (a0 0), .ref (a1 0), .ref (a2 0), .ref (a3 0), .ref (a4 0), .int has]))] :: wSt cI a0 st :: []) (r := (taF st)) ⟨hx, hb, hml, hown, hts⟩ (kL_tale l D cI cS qx a0 a1 a2 a3 a4 has st hI.ws) (va_cwS 1 hts gL_readySo_L_tale rfl rfl rfl (by decide +kernel) ⟨Nat.le_of_ble_eq_true rfl, Nat.le_of_ble_eq_true rfl⟩) hE hP [0, 1] rfl rfl rfl hl.1 rfl (Nat.le_of_ble_eq_true rfl) ⟨Nat.le_of_ble_eq_true rfl, Nat.le_of_ble_eq_true rfl⟩ dL_readySo_1 ?_
          refine lv_lstore_n (lv' := [(2, .long ((taF st))), (0, .ref qx), (1, .int ((nI t)))]) hx hb dL_readySo_4 rfl hl (by decide) rfl (fun ls hl => ?_)
          refine lv_aload_n hx hb dL_readySo_5 rfl (lv_at hl 1 rfl) ?_
          refine bIV (W0 := wO cI cS qx a0 a1 a2 a3 b3 a4 sn sc has ([]) (st, tr, hi)) (wc := [(qx, .inr (6, [.ref (a0 0), .ref (a1 0), .ref (a2 0), .ref (a3 0), .ref (a4 0), .int has]))] :: wSt cI a0 st :: wSt cI a2 tr :: []) (w1 := fun u : TTT => [(qx, .inr (6, [.ref (a0 0), .ref (a1 0), .ref (a2 0), .ref (a3 0), .ref (a4 0), .int has]))] :: wSt cI a0 u.1 :: wSt cI a2 u.2 :: []) ⟨hx, hb, hml, hown, hts⟩ (kX6_readyIn l D cI cS qx a0 a2 (a1 0) (a3 0) (a4 0) has (st, tr) hI.ws) (cwV 0 hts gL_readySo_X6_readyIn rfl rfl rfl (by decide +kernel) ⟨Nat.le_of_ble_eq_true rfl, Nat.le_of_ble_eq_true rfl⟩) hE hP hD hS rfl rfl [0, 1, 3] rfl rfl (fun _ => rfl) (fun _ => rfl) rfl hl.1 rfl (Nat.le_of_ble_eq_true rfl) ⟨Nat.le_of_ble_eq_true rfl, Nat.le_of_ble_eq_true rfl⟩ dL_readySo_6 (fun r_6 u_6 H locs e_6 hP hD hS => ?_)
          have hP : va_P D vwCl (fl (wO cI cS qx a0 a1 a2 a3 b3 a4 sn sc has ([]) (u_6.1, u_6.2, hi))) H := hP
          have hD : va_D A (fl (wO cI cS qx a0 a1 a2 a3 b3 a4 sn sc has ([]) (u_6.1, u_6.2, hi))) := hD
          rw [er] at e_6
          cases e_6
          have hP : va_P D vwCl (fl (wO cI cS qx a0 a1 a2 a3 b3 a4 sn sc has ([]) (st, tr1, hi))) H := hP
          have hD : va_D A (fl (wO cI cS qx a0 a1 a2 a3 b3 a4 sn sc has ([]) (st, tr1, hi))) := hD
          refine lv_istore (lv' := [(4, .int ((nI N))), (2, .long ((taF st))), (0, .ref qx), (1, .int ((nI t)))]) hx hb dL_readySo_9 hl (by decide) rfl (fun ls hl => ?_)
          refine lv_aload_n hx hb dL_readySo_11 rfl (lv_at hl 2 rfl) ?_
          refine lv_iload_n hx hb dL_readySo_12 rfl (lv_at hl 3 rfl) ?_
          refine bIV (W0 := wO cI cS qx a0 a1 a2 a3 b3 a4 sn sc has ([]) (st, tr1, hi)) (wc := [(qx, .inr (6, [.ref (a0 0), .ref (a1 0), .ref (a2 0), .ref (a3 0), .ref (a4 0), .int has]))] :: wSt cI a0 st :: wSt cI a2 tr1 :: []) (w1 := fun u : TTT => [(qx, .inr (6, [.ref (a0 0), .ref (a1 0), .ref (a2 0), .ref (a3 0), .ref (a4 0), .int has]))] :: wSt cI a0 u.1 :: wSt cI a2 u.2 :: []) ⟨hx, hb, hml, hown, hts⟩ (kX6_leastLot l D cI cS qx a0 a2 (a1 0) (a3 0) (a4 0) has (nI t) (st, tr1) hI.ws) (cwV 1 hts gL_readySo_X6_leastLot rfl rfl rfl (by decide +kernel) ⟨Nat.le_of_ble_eq_true rfl, Nat.le_of_ble_eq_true rfl⟩) hE hP hD hS rfl rfl [0, 1, 3] rfl rfl (fun _ => rfl) (fun _ => rfl) rfl hl.1 rfl (Nat.le_of_ble_eq_true rfl) ⟨Nat.le_of_ble_eq_true rfl, Nat.le_of_ble_eq_true rfl⟩ dL_readySo_13 (fun r_13 u_13 H locs e_13 hP hD hS => ?_)
          have hP : va_P D vwCl (fl (wO cI cS qx a0 a1 a2 a3 b3 a4 sn sc has ([]) (u_13.1, u_13.2, hi))) H := hP
          have hD : va_D A (fl (wO cI cS qx a0 a1 a2 a3 b3 a4 sn sc has ([]) (u_13.1, u_13.2, hi))) := hD
          rw [el] at e_13
          cases e_13
          have hP : va_P D vwCl (fl (wO cI cS qx a0 a1 a2 a3 b3 a4 sn sc has ([]) (st, tr2, hi))) H := hP
          have hD : va_D A (fl (wO cI cS qx a0 a1 a2 a3 b3 a4 sn sc has ([]) (st, tr2, hi))) := hD
          refine lv_istore (lv' := [(5, .int r2), (4, .int ((nI N))), (2, .long ((taF st))), (0, .ref qx), (1, .int ((nI t)))]) hx hb dL_readySo_16 hl (by decide) rfl (fun ls hl => ?_)
          refine lv_iload hx hb dL_readySo_18 (lv_at hl 1 rfl) ?_
          refine lv_bipush (v := (-4 : Int32)) hx hb dL_readySo_20 (by decide +kernel) ?_
          refine lv_icmp_ne (tgt := 55) hx hb dL_readySo_22 (by decide) (fun _ => ?_) (fun c => absurd c (bd_ne (Bd.of (N := 200) hN (by omega)) (by omega) (by decide)))
          refine lv_iload hx hb dL_readySo_55 (lv_at hl 1 rfl) ?_
          refine lv_iconst (v := (1 : Int32)) hx hb dL_readySo_57 (by decide +kernel) ?_
          refine lv_icmp_lt (tgt := 68) hx hb dL_readySo_58 (by decide) (fun c => absurd c (show ¬ (nI N) < (1 : Int32) from nI_nlt (b := 1) (by omega) (by omega))) (fun _ => ?_)
          refine lv_iload hx hb dL_readySo_61 (lv_at hl 1 rfl) ?_
          refine lv_bipush (v := (99 : Int32)) hx hb dL_readySo_63 (by decide +kernel) ?_
          refine lv_icmp_le (tgt := 108) hx hb dL_readySo_65 (by decide) (fun c => absurd c (show ¬ (nI N) ≤ (99 : Int32) from nI_ge (a := 99) (by omega) (by omega))) (fun _ => ?_)
          refine lv_iload hx hb dL_readySo_68 (lv_at hl 1 rfl) ?_
          refine lv_if_ne (tgt := 87) hx hb dL_readySo_70 (by decide) (fun _ => ?_) (fun c => absurd c (nI_ne0 (by omega) (by omega)))
          refine lv_iload hx hb dL_readySo_87 (lv_at hl 1 rfl) ?_
          refine lv_bipush (v := (-5 : Int32)) hx hb dL_readySo_89 (by decide +kernel) ?_
          refine lv_icmp_eq (tgt := 102) hx hb dL_readySo_91 (by decide) (fun c => absurd c (bd_ne (Bd.of (N := 200) hN (by omega)) (by omega) (by decide))) (fun _ => ?_)
          refine lv_iload hx hb dL_readySo_94 (lv_at hl 1 rfl) ?_
          refine lv_sipush (v := (200 : Int32)) hx hb dL_readySo_96 (by decide +kernel) ?_
          refine lv_icmp_gt (tgt := 106) hx hb dL_readySo_99 (by decide) (fun c => absurd c (show ¬ (200 : Int32) < (nI N) from nI_nlt (a := 200) hN (by omega))) (fun _ => ?_)
          refine lv_iconst (v := (1 : Int32)) hx hb dL_readySo_102 (by decide +kernel) ?_
          refine lv_goto (tgt := 107) hx hb dL_readySo_103 (by decide) ?_
          exact hend _ _ _ (tr2, hi) _ _ _ _ dL_readySo_107 rfl (Nat.le_refl _) (Nat.le_refl _) ⟨rfl, hh⟩ hP hS
    · subst eN
      refine lv_aload_n hx hb dL_readySo_0 rfl (lv_at hl 0 rfl) ?_
      refine bLS (W0 := wO cI cS qx a0 a1 a2 a3 b3 a4 sn sc has ([]) (st, tr, hi)) (wc := [(qx, .inr (6, [.ref (a0 0), .ref (a1 0), .ref (a2 0), .ref (a3 0), .ref (a4 0), .int has]))] :: wSt cI a0 st :: []) (r := (taF st)) ⟨hx, hb, hml, hown, hts⟩ (kL_tale l D cI cS qx a0 a1 a2 a3 a4 has st hI.ws) (va_cwS 1 hts gL_readySo_L_tale rfl rfl rfl (by decide +kernel) ⟨Nat.le_of_ble_eq_true rfl, Nat.le_of_ble_eq_true rfl⟩) hE hP [0, 1] rfl rfl rfl hl.1 rfl (Nat.le_of_ble_eq_true rfl) ⟨Nat.le_of_ble_eq_true rfl, Nat.le_of_ble_eq_true rfl⟩ dL_readySo_1 ?_
      refine lv_lstore_n (lv' := [(2, .long ((taF st))), (0, .ref qx), (1, .int ((nI t)))]) hx hb dL_readySo_4 rfl hl (by decide) rfl (fun ls hl => ?_)
      refine lv_aload_n hx hb dL_readySo_5 rfl (lv_at hl 1 rfl) ?_
      refine bIV (W0 := wO cI cS qx a0 a1 a2 a3 b3 a4 sn sc has ([]) (st, tr, hi)) (wc := [(qx, .inr (6, [.ref (a0 0), .ref (a1 0), .ref (a2 0), .ref (a3 0), .ref (a4 0), .int has]))] :: wSt cI a0 st :: wSt cI a2 tr :: []) (w1 := fun u : TTT => [(qx, .inr (6, [.ref (a0 0), .ref (a1 0), .ref (a2 0), .ref (a3 0), .ref (a4 0), .int has]))] :: wSt cI a0 u.1 :: wSt cI a2 u.2 :: []) ⟨hx, hb, hml, hown, hts⟩ (kX6_readyIn l D cI cS qx a0 a2 (a1 0) (a3 0) (a4 0) has (st, tr) hI.ws) (cwV 0 hts gL_readySo_X6_readyIn rfl rfl rfl (by decide +kernel) ⟨Nat.le_of_ble_eq_true rfl, Nat.le_of_ble_eq_true rfl⟩) hE hP hD hS rfl rfl [0, 1, 3] rfl rfl (fun _ => rfl) (fun _ => rfl) rfl hl.1 rfl (Nat.le_of_ble_eq_true rfl) ⟨Nat.le_of_ble_eq_true rfl, Nat.le_of_ble_eq_true rfl⟩ dL_readySo_6 (fun r_6 u_6 H locs e_6 hP hD hS => ?_)
      have hP : va_P D vwCl (fl (wO cI cS qx a0 a1 a2 a3 b3 a4 sn sc has ([]) (u_6.1, u_6.2, hi))) H := hP
      have hD : va_D A (fl (wO cI cS qx a0 a1 a2 a3 b3 a4 sn sc has ([]) (u_6.1, u_6.2, hi))) := hD
      rw [er] at e_6
      cases e_6
      have hP : va_P D vwCl (fl (wO cI cS qx a0 a1 a2 a3 b3 a4 sn sc has ([]) (st, tr1, hi))) H := hP
      have hD : va_D A (fl (wO cI cS qx a0 a1 a2 a3 b3 a4 sn sc has ([]) (st, tr1, hi))) := hD
      refine lv_istore (lv' := [(4, .int ((-5 : Int32))), (2, .long ((taF st))), (0, .ref qx), (1, .int ((nI t)))]) hx hb dL_readySo_9 hl (by decide) rfl (fun ls hl => ?_)
      refine lv_aload_n hx hb dL_readySo_11 rfl (lv_at hl 2 rfl) ?_
      refine lv_iload_n hx hb dL_readySo_12 rfl (lv_at hl 3 rfl) ?_
      refine bIV (W0 := wO cI cS qx a0 a1 a2 a3 b3 a4 sn sc has ([]) (st, tr1, hi)) (wc := [(qx, .inr (6, [.ref (a0 0), .ref (a1 0), .ref (a2 0), .ref (a3 0), .ref (a4 0), .int has]))] :: wSt cI a0 st :: wSt cI a2 tr1 :: []) (w1 := fun u : TTT => [(qx, .inr (6, [.ref (a0 0), .ref (a1 0), .ref (a2 0), .ref (a3 0), .ref (a4 0), .int has]))] :: wSt cI a0 u.1 :: wSt cI a2 u.2 :: []) ⟨hx, hb, hml, hown, hts⟩ (kX6_leastLot l D cI cS qx a0 a2 (a1 0) (a3 0) (a4 0) has (nI t) (st, tr1) hI.ws) (cwV 1 hts gL_readySo_X6_leastLot rfl rfl rfl (by decide +kernel) ⟨Nat.le_of_ble_eq_true rfl, Nat.le_of_ble_eq_true rfl⟩) hE hP hD hS rfl rfl [0, 1, 3] rfl rfl (fun _ => rfl) (fun _ => rfl) rfl hl.1 rfl (Nat.le_of_ble_eq_true rfl) ⟨Nat.le_of_ble_eq_true rfl, Nat.le_of_ble_eq_true rfl⟩ dL_readySo_13 (fun r_13 u_13 H locs e_13 hP hD hS => ?_)
      have hP : va_P D vwCl (fl (wO cI cS qx a0 a1 a2 a3 b3 a4 sn sc has ([]) (u_13.1, u_13.2, hi))) H := hP
      have hD : va_D A (fl (wO cI cS qx a0 a1 a2 a3 b3 a4 sn sc has ([]) (u_13.1, u_13.2, hi))) := hD
      rw [el] at e_13
      cases e_13
      have hP : va_P D vwCl (fl (wO cI cS qx a0 a1 a2 a3 b3 a4 sn sc has ([]) (st, tr2, hi))) H := hP
      have hD : va_D A (fl (wO cI cS qx a0 a1 a2 a3 b3 a4 sn sc has ([]) (st, tr2, hi))) := hD
      refine lv_istore (lv' := [(5, .int r2), (4, .int ((-5 : Int32))), (2, .long ((taF st))), (0, .ref qx), (1, .int ((nI t)))]) hx hb dL_readySo_16 hl (by decide) rfl (fun ls hl => ?_)
      refine lv_iload hx hb dL_readySo_18 (lv_at hl 1 rfl) ?_
      refine lv_bipush (v := (-4 : Int32)) hx hb dL_readySo_20 (by decide +kernel) ?_
      refine lv_icmp_ne (tgt := 55) hx hb dL_readySo_22 (by decide) (fun _ => ?_) (fun c => absurd c (show ¬ (-5 : Int32) = (-4 : Int32) by decide))
      refine lv_iload hx hb dL_readySo_55 (lv_at hl 1 rfl) ?_
      refine lv_iconst (v := (1 : Int32)) hx hb dL_readySo_57 (by decide +kernel) ?_
      refine lv_icmp_lt (tgt := 68) hx hb dL_readySo_58 (by decide) (fun _ => ?_) (fun c => absurd (show (-5 : Int32) < (1 : Int32) by decide) c)
      refine lv_iload hx hb dL_readySo_68 (lv_at hl 1 rfl) ?_
      refine lv_if_ne (tgt := 87) hx hb dL_readySo_70 (by decide) (fun _ => ?_) (fun c => absurd c (show ¬ (-5 : Int32) = (0 : Int32) by decide))
      refine lv_iload hx hb dL_readySo_87 (lv_at hl 1 rfl) ?_
      refine lv_bipush (v := (-5 : Int32)) hx hb dL_readySo_89 (by decide +kernel) ?_
      refine lv_icmp_eq (tgt := 102) hx hb dL_readySo_91 (by decide) (fun _ => ?_) (fun c => absurd (show (-5 : Int32) = (-5 : Int32) by decide) c)
      refine lv_iconst (v := (1 : Int32)) hx hb dL_readySo_102 (by decide +kernel) ?_
      refine lv_goto (tgt := 107) hx hb dL_readySo_103 (by decide) ?_
      exact hend _ _ _ (tr2, hi) _ _ _ _ dL_readySo_107 rfl (Nat.le_refl _) (Nat.le_refl _) ⟨rfl, hh⟩ hP hS
  · have h1 : ¬ st.2.2.2.1.2.2.1 = (1 : Int32) := by rw [hph]; decide
    have h2 : ¬ st.2.2.2.1.2.2.1 = (2 : Int32) := by rw [hph]; decide
    refine lv_aload_n hx hb dL_readySo_0 rfl (lv_at hl 0 rfl) ?_
    refine bLS (W0 := wO cI cS qx a0 a1 a2 a3 b3 a4 sn sc has ([]) (st, tr, hi)) (wc := [(qx, .inr (6, [.ref (a0 0), .ref (a1 0), .ref (a2 0), .ref (a3 0), .ref (a4 0), .int has]))] :: wSt cI a0 st :: []) (r := (taF st)) ⟨hx, hb, hml, hown, hts⟩ (kL_tale l D cI cS qx a0 a1 a2 a3 a4 has st hI.ws) (va_cwS 1 hts gL_readySo_L_tale rfl rfl rfl (by decide +kernel) ⟨Nat.le_of_ble_eq_true rfl, Nat.le_of_ble_eq_true rfl⟩) hE hP [0, 1] rfl rfl rfl hl.1 rfl (Nat.le_of_ble_eq_true rfl) ⟨Nat.le_of_ble_eq_true rfl, Nat.le_of_ble_eq_true rfl⟩ dL_readySo_1 ?_
    refine lv_lstore_n (lv' := [(2, .long ((taF st))), (0, .ref qx), (1, .int ((nI t)))]) hx hb dL_readySo_4 rfl hl (by decide) rfl (fun ls hl => ?_)
    refine lv_aload_n hx hb dL_readySo_5 rfl (lv_at hl 1 rfl) ?_
    refine bIV (W0 := wO cI cS qx a0 a1 a2 a3 b3 a4 sn sc has ([]) (st, tr, hi)) (wc := [(qx, .inr (6, [.ref (a0 0), .ref (a1 0), .ref (a2 0), .ref (a3 0), .ref (a4 0), .int has]))] :: wSt cI a0 st :: wSt cI a2 tr :: []) (w1 := fun u : TTT => [(qx, .inr (6, [.ref (a0 0), .ref (a1 0), .ref (a2 0), .ref (a3 0), .ref (a4 0), .int has]))] :: wSt cI a0 u.1 :: wSt cI a2 u.2 :: []) ⟨hx, hb, hml, hown, hts⟩ (kX6_readyIn l D cI cS qx a0 a2 (a1 0) (a3 0) (a4 0) has (st, tr) hI.ws) (cwV 0 hts gL_readySo_X6_readyIn rfl rfl rfl (by decide +kernel) ⟨Nat.le_of_ble_eq_true rfl, Nat.le_of_ble_eq_true rfl⟩) hE hP hD hS rfl rfl [0, 1, 3] rfl rfl (fun _ => rfl) (fun _ => rfl) rfl hl.1 rfl (Nat.le_of_ble_eq_true rfl) ⟨Nat.le_of_ble_eq_true rfl, Nat.le_of_ble_eq_true rfl⟩ dL_readySo_6 (fun r_6 u_6 H locs e_6 hP hD hS => ?_)
    have hP : va_P D vwCl (fl (wO cI cS qx a0 a1 a2 a3 b3 a4 sn sc has ([]) (u_6.1, u_6.2, hi))) H := hP
    have hD : va_D A (fl (wO cI cS qx a0 a1 a2 a3 b3 a4 sn sc has ([]) (u_6.1, u_6.2, hi))) := hD
    rw [ready_no h1 h2] at e_6
    cases e_6
    have hP : va_P D vwCl (fl (wO cI cS qx a0 a1 a2 a3 b3 a4 sn sc has ([]) (st, tr, hi))) H := hP
    have hD : va_D A (fl (wO cI cS qx a0 a1 a2 a3 b3 a4 sn sc has ([]) (st, tr, hi))) := hD
    refine lv_istore (lv' := [(4, .int ((-4 : Int32))), (2, .long ((taF st))), (0, .ref qx), (1, .int ((nI t)))]) hx hb dL_readySo_9 hl (by decide) rfl (fun ls hl => ?_)
    refine lv_aload_n hx hb dL_readySo_11 rfl (lv_at hl 2 rfl) ?_
    refine lv_iload_n hx hb dL_readySo_12 rfl (lv_at hl 3 rfl) ?_
    refine bIV (W0 := wO cI cS qx a0 a1 a2 a3 b3 a4 sn sc has ([]) (st, tr, hi)) (wc := [(qx, .inr (6, [.ref (a0 0), .ref (a1 0), .ref (a2 0), .ref (a3 0), .ref (a4 0), .int has]))] :: wSt cI a0 st :: wSt cI a2 tr :: []) (w1 := fun u : TTT => [(qx, .inr (6, [.ref (a0 0), .ref (a1 0), .ref (a2 0), .ref (a3 0), .ref (a4 0), .int has]))] :: wSt cI a0 u.1 :: wSt cI a2 u.2 :: []) ⟨hx, hb, hml, hown, hts⟩ (kX6_leastLot l D cI cS qx a0 a2 (a1 0) (a3 0) (a4 0) has (nI t) (st, tr) hI.ws) (cwV 1 hts gL_readySo_X6_leastLot rfl rfl rfl (by decide +kernel) ⟨Nat.le_of_ble_eq_true rfl, Nat.le_of_ble_eq_true rfl⟩) hE hP hD hS rfl rfl [0, 1, 3] rfl rfl (fun _ => rfl) (fun _ => rfl) rfl hl.1 rfl (Nat.le_of_ble_eq_true rfl) ⟨Nat.le_of_ble_eq_true rfl, Nat.le_of_ble_eq_true rfl⟩ dL_readySo_13 (fun r_13 u_13 H locs e_13 hP hD hS => ?_)
    have hP : va_P D vwCl (fl (wO cI cS qx a0 a1 a2 a3 b3 a4 sn sc has ([]) (u_13.1, u_13.2, hi))) H := hP
    have hD : va_D A (fl (wO cI cS qx a0 a1 a2 a3 b3 a4 sn sc has ([]) (u_13.1, u_13.2, hi))) := hD
    rw [least_no ht1 ht h1 h2] at e_13
    cases e_13
    have hP : va_P D vwCl (fl (wO cI cS qx a0 a1 a2 a3 b3 a4 sn sc has ([]) (st, tr, hi))) H := hP
    have hD : va_D A (fl (wO cI cS qx a0 a1 a2 a3 b3 a4 sn sc has ([]) (st, tr, hi))) := hD
    refine lv_istore (lv' := [(5, .int ((-4 : Int32))), (4, .int ((-4 : Int32))), (2, .long ((taF st))), (0, .ref qx), (1, .int ((nI t)))]) hx hb dL_readySo_16 hl (by decide) rfl (fun ls hl => ?_)
    refine lv_iload hx hb dL_readySo_18 (lv_at hl 1 rfl) ?_
    refine lv_bipush (v := (-4 : Int32)) hx hb dL_readySo_20 (by decide +kernel) ?_
    refine lv_icmp_ne (tgt := 55) hx hb dL_readySo_22 (by decide) (fun c => absurd (show (-4 : Int32) = (-4 : Int32) by decide) c) (fun _ => ?_)
    refine lv_iload hx hb dL_readySo_25 (lv_at hl 0 rfl) ?_
    refine lv_bipush (v := (-4 : Int32)) hx hb dL_readySo_27 (by decide +kernel) ?_
    refine lv_icmp_ne (tgt := 53) hx hb dL_readySo_29 (by decide) (fun c => absurd (show (-4 : Int32) = (-4 : Int32) by decide) c) (fun _ => ?_)
    refine lv_aload_n hx hb dL_readySo_32 rfl (lv_at hl 3 rfl) ?_
    refine lv_iconst (v := (0 : Int32)) hx hb dL_readySo_33 (by decide +kernel) ?_
    refine bRV (W0 := wO cI cS qx a0 a1 a2 a3 b3 a4 sn sc has ([]) (st, tr, hi)) (wc := [(qx, .inr (6, [.ref (a0 0), .ref (a1 0), .ref (a2 0), .ref (a3 0), .ref (a4 0), .int has]))] :: wSt cI a0 st :: []) (r := (3 : Int32)) ⟨hx, hb, hml, hown, hts⟩ (KR.eq (kX6_copy l D cI cS qx a0 (a1 0) (a2 0) (a3 0) (a4 0) has (0 : Int32) st) ((cp_0 st).trans hph)) (cwV 1 hts gL_readySo_X6_copy rfl rfl rfl (by decide +kernel) ⟨Nat.le_of_ble_eq_true rfl, Nat.le_of_ble_eq_true rfl⟩) hE hP rfl rfl [0, 1] rfl rfl rfl hl.1 rfl (Nat.le_of_ble_eq_true rfl) ⟨Nat.le_of_ble_eq_true rfl, Nat.le_of_ble_eq_true rfl⟩ dL_readySo_34 ?_
    refine lv_if_eq (tgt := 49) hx hb dL_readySo_37 (by decide) (fun c => absurd c (show ¬ (3 : Int32) = (0 : Int32) by decide)) (fun _ => ?_)
    refine lv_aload_n hx hb dL_readySo_40 rfl (lv_at hl 3 rfl) ?_
    refine lv_iconst (v := (0 : Int32)) hx hb dL_readySo_41 (by decide +kernel) ?_
    refine bRV (W0 := wO cI cS qx a0 a1 a2 a3 b3 a4 sn sc has ([]) (st, tr, hi)) (wc := [(qx, .inr (6, [.ref (a0 0), .ref (a1 0), .ref (a2 0), .ref (a3 0), .ref (a4 0), .int has]))] :: wSt cI a0 st :: []) (r := (3 : Int32)) ⟨hx, hb, hml, hown, hts⟩ (KR.eq (kX6_copy l D cI cS qx a0 (a1 0) (a2 0) (a3 0) (a4 0) has (0 : Int32) st) ((cp_0 st).trans hph)) (cwV 1 hts gL_readySo_X6_copy rfl rfl rfl (by decide +kernel) ⟨Nat.le_of_ble_eq_true rfl, Nat.le_of_ble_eq_true rfl⟩) hE hP rfl rfl [0, 1] rfl rfl rfl hl.1 rfl (Nat.le_of_ble_eq_true rfl) ⟨Nat.le_of_ble_eq_true rfl, Nat.le_of_ble_eq_true rfl⟩ dL_readySo_42 ?_
    refine lv_iconst (v := (3 : Int32)) hx hb dL_readySo_45 (by decide +kernel) ?_
    refine lv_icmp_ne (tgt := 53) hx hb dL_readySo_46 (by decide) (fun c => absurd (show (3 : Int32) = (3 : Int32) by decide) c) (fun _ => ?_)
    refine lv_iconst (v := (1 : Int32)) hx hb dL_readySo_49 (by decide +kernel) ?_
    refine lv_goto (tgt := 54) hx hb dL_readySo_50 (by decide) ?_
    exact hend _ _ _ (tr, hi) _ _ _ _ dL_readySo_54 rfl (Nat.le_refl _) (Nat.le_refl _) ⟨rfl, hh⟩ hP hS
