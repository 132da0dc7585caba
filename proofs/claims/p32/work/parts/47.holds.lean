theorem bd_nn {x : Int32} {N : Nat} (h : Bd x N) (hN : N < 2 ^ 31) : ¬ x < (0 : Int32) := by
  obtain ⟨j, hj, rfl⟩ := h.num
  exact nI_pos (by omega)
theorem bd_le {x : Int32} {N : Nat} (h : Bd x N) (hN : N < 2 ^ 31) : x ≤ nI N := by
  obtain ⟨j, hj, rfl⟩ := h.num
  exact nI_le hj hN
theorem un_eq {τ : StT} {n : Nat} (hn : n < 32) (h : τ.2.2.2.1.1 n = chg τ.2.2.2.1.2.2.2.1 n (τ.1 n)) : unl τ (32 - n) = unl τ (32 - (n + 1)) + (0 : Int32) ∧ fst τ (32 - n) = fst τ (32 - (n + 1)) := by
  have e1 : 32 - n = (32 - (n + 1)) + 1 := by omega
  have e2 : 31 - (32 - (n + 1)) = n := by omega
  rw [e1]
  refine ⟨?_, ?_⟩
  · conv => lhs; unfold unl
    rw [e2, if_pos h, i_add0]
  · conv => lhs; unfold fst
    rw [e2, if_pos h]
theorem un_ne {τ : StT} {n : Nat} (hn : n < 32) (h : ¬ τ.2.2.2.1.1 n = chg τ.2.2.2.1.2.2.2.1 n (τ.1 n)) : unl τ (32 - n) = unl τ (32 - (n + 1)) + (1 : Int32) ∧ fst τ (32 - n) = nI n := by
  have e1 : 32 - n = (32 - (n + 1)) + 1 := by omega
  have e2 : 31 - (32 - (n + 1)) = n := by omega
  rw [e1]
  refine ⟨?_, ?_⟩
  · conv => lhs; unfold unl
    rw [e2, if_neg h]
  · conv => lhs; unfold fst
    rw [e2, if_neg h]
theorem cu_32 {e : Nat} {τ : StT} (h : IV e τ) (h0 : ¬ τ.2.2.2.1.2.2.1 = (0 : Int32)) (h1 : ¬ τ.2.2.2.1.2.2.1 = (1 : Int32)) : τ.2.2.2.1.2.2.2.2.2.1 = (32 : Int32) := by
  have h2 := h.2.2 h0 h1
  have h3 := h.1.2.1.1
  rw [h3, h2]; rfl
theorem cu_n {e : Nat} {τ : StT} (h : IV e τ) (h1 : τ.2.2.2.1.2.2.1 = (1 : Int32)) : ¬ τ.2.2.2.1.2.2.2.2.2.1 = (32 : Int32) := fun q => by
  have h2 := h.2.1 h1
  rw [q] at h2
  exact absurd h2 (by decide)
theorem lt_5 {x : Int32} (h : ∃ q : Nat, q ≤ 7 ∧ x = nI (q + 1)) : ¬ x = (-5 : Int32) := by
  obtain ⟨q, hq, rfl⟩ := h
  exact bd_ne (Bd.of (N := 8) (by omega) (by omega)) (by omega) (by decide)
theorem to_0 {e : Nat} {τ : StT} (h : IV e τ) (h0 : τ.2.2.2.1.2.2.1 = (0 : Int32)) : τ.2.2.2.2.2 0 = τ.2.2.2.2.2 1 + τ.2.2.2.2.2 2 + (0 : Int32) := by
  have h1 := h.1.2.2.2.2.2.2.2.2.2.1
  rw [if_pos h0] at h1
  exact h1
theorem to_1 {e : Nat} {τ : StT} (h : IV e τ) (h0 : ¬ τ.2.2.2.1.2.2.1 = (0 : Int32)) : τ.2.2.2.2.2 0 = τ.2.2.2.2.2 1 + τ.2.2.2.2.2 2 + (1 : Int32) := by
  have h1 := h.1.2.2.2.2.2.2.2.2.2.1
  rw [if_neg h0] at h1
  exact h1
theorem to_y {e : Nat} {τ : StT} (h : IV e τ) (h0 : τ.2.2.1 = (0 : Int32)) : τ.2.2.2.2.2 1 = (0 : Int32) := by
  obtain ⟨a, -, a2, a3⟩ := h.1.2.2.2.2.2.2.2.2.2.2.1
  rw [a2, a3.mp h0]; rfl
theorem to_n {e : Nat} {τ : StT} (h : IV e τ) (he : e < 1000) (h0 : ¬ τ.2.2.1 = (0 : Int32)) : ¬ τ.2.2.2.2.2 1 = (0 : Int32) := by
  obtain ⟨a, a1, a2, a3⟩ := h.1.2.2.2.2.2.2.2.2.2.2.1
  rw [a2]
  exact nI_ne0 (Nat.pos_of_ne_zero (fun q => h0 (a3.mpr q))) (by omega)
set_option maxHeartbeats 8000000 in
set_option maxRecDepth 100000 in
theorem kL_holds (l : Launch) (D : va_G) (cI cS : ClassId) (qx : Nat) (a0 a1 a2 a3 : Nat → Nat) (b3 : Nat → Nat → Nat) (a4 : Nat → Nat) (sn : StT) (sc : ScT) (has : Int32) {e0 : Nat} (st tr : StT) (hi : HiT) (hI : IV e0 st) (he : e0 < 1000) : KQ l yL_holds wsL_holds { frames := 6, cells := 0, slots := 0, locals := 129 } D (tysA cI cS) [.ref qx] (fl (wO cI cS qx a0 a1 a2 a3 b3 a4 sn sc has [] (st, tr, hi))) 0 0 (fun (v : Int32) (_ : StT) => v = (1 : Int32)) (fun u => fl (wO cI cS qx a0 a1 a2 a3 b3 a4 sn sc has [] (st, u, hi))) := by
  refine KQ.of (cc := cL_holds) (maxL := 7) (ty := .boolean) (by decide) rfl (Nat.le_of_ble_eq_true rfl) rfl (fun p e s m args below meth c ls Q A hx hb hml hown hts hE hP hD hA hS hX hl hend => ?_)
  have hown : s.vm.findClass RL = some m.cls := hown
  have hl : lv_has ls 7 [(0, .ref qx)] := hl
  obtain ⟨dd, ed, dl, dg⟩ := prog_is hI
  have hzb : Bd st.2.2.2.1.2.1.2.2.2 24 := hI.1.1.2
  have hcb : Bd st.2.2.2.1.2.2.2.2.2.1 32 := hI.1.2.1
  have hab : Bd st.2.2.2.1.2.2.2.2.2.2 21 := hI.1.2.2.2.2.2.2.1
  rcases hI.ph with hph | hph | hph | hph
  · have nr : ¬ rdy st := fun q => absurd (hph.symm.trans q.1) (by decide)
    have h1 : ¬ st.2.2.2.1.2.2.1 = (1 : Int32) := by rw [hph]; decide
    have h2 : ¬ st.2.2.2.1.2.2.1 = (2 : Int32) := by rw [hph]; decide
    refine lv_aload_n hx hb dL_holds_0 rfl (lv_at hl 0 rfl) ?_
    refine lv_iconst (v := (0 : Int32)) hx hb dL_holds_1 (by decide +kernel) ?_
    refine bRV (W0 := wO cI cS qx a0 a1 a2 a3 b3 a4 sn sc has ([]) (st, tr, hi)) (wc := [(qx, .inr (6, [.ref (a0 0), .ref (a1 0), .ref (a2 0), .ref (a3 0), .ref (a4 0), .int has]))] :: wSt cI a0 st :: []) (r := (0 : Int32)) ⟨hx, hb, hml, hown, hts⟩ (KR.eq (kX6_copy l D cI cS qx a0 (a1 0) (a2 0) (a3 0) (a4 0) has (0 : Int32) st) ((cp_0 st).trans hph)) (cwV 1 hts gL_holds_X6_copy rfl rfl rfl (by decide +kernel) ⟨Nat.le_of_ble_eq_true rfl, Nat.le_of_ble_eq_true rfl⟩) hE hP rfl rfl [0, 1] rfl rfl rfl hl.1 rfl (Nat.le_of_ble_eq_true rfl) ⟨Nat.le_of_ble_eq_true rfl, Nat.le_of_ble_eq_true rfl⟩ dL_holds_2 ?_
    refine lv_istore_n (lv' := [(1, .int ((0 : Int32))), (0, .ref qx)]) hx hb dL_holds_5 rfl hl (by decide) rfl (fun ls hl => ?_)
    refine lv_iload_n hx hb dL_holds_6 rfl (lv_at hl 0 rfl) ?_
    refine lv_if_le (tgt := 14) hx hb dL_holds_7 (by decide) (fun _ => ?_) (fun c => absurd (show (0 : Int32) ≤ (0 : Int32) by decide) c)
    refine lv_iconst (v := (0 : Int32)) hx hb dL_holds_14 (by decide +kernel) ?_
    refine lv_istore_n (lv' := [(2, .int ((0 : Int32))), (1, .int ((0 : Int32))), (0, .ref qx)]) hx hb dL_holds_15 rfl hl (by decide) rfl (fun ls hl => ?_)
    refine lv_iconst (v := (0 : Int32)) hx hb dL_holds_16 (by decide +kernel) ?_
    refine lv_istore_n (lv' := [(3, .int ((0 : Int32))), (2, .int ((0 : Int32))), (1, .int ((0 : Int32))), (0, .ref qx)]) hx hb dL_holds_17 rfl hl (by decide) rfl (fun ls hl => ?_)
    refine lv_bipush (v := (-5 : Int32)) hx hb dL_holds_18 (by decide +kernel) ?_
    refine lv_istore (lv' := [(4, .int ((-5 : Int32))), (3, .int ((0 : Int32))), (2, .int ((0 : Int32))), (1, .int ((0 : Int32))), (0, .ref qx)]) hx hb dL_holds_20 hl (by decide) rfl (fun ls hl => ?_)
    refine lv_bipush (v := (31 : Int32)) hx hb dL_holds_22 (by decide +kernel) ?_
    refine lv_istore (lv' := [(5, .int ((31 : Int32))), (4, .int ((-5 : Int32))), (3, .int ((0 : Int32))), (2, .int ((0 : Int32))), (1, .int ((0 : Int32))), (0, .ref qx)]) hx hb dL_holds_24 hl (by decide) rfl (fun ls hl => ?_)
    refine lv_iload hx hb dL_holds_26 (lv_at hl 0 rfl) ?_
    refine lv_if_lt (tgt := 91) hx hb dL_holds_28 (by decide) (fun c => absurd c (show ¬ (31 : Int32) < (0 : Int32) by decide)) (fun _ => ?_)
    refine lv_iload_n hx hb dL_holds_31 rfl (lv_at hl 3 rfl) ?_
    refine lv_if_eq (tgt := 91) hx hb dL_holds_32 (by decide) (fun _ => ?_) (fun c => absurd (show (0 : Int32) = (0 : Int32) by decide) c)
    refine lv_iload_n hx hb dL_holds_91 rfl (lv_at hl 4 rfl) ?_
    refine lv_if_lt (tgt := 180) hx hb dL_holds_92 (by decide) (fun c => absurd c (show ¬ (0 : Int32) < (0 : Int32) by decide)) (fun _ => ?_)
    refine lv_iload_n hx hb dL_holds_95 rfl (lv_at hl 4 rfl) ?_
    refine lv_iconst (v := (3 : Int32)) hx hb dL_holds_96 (by decide +kernel) ?_
    refine lv_icmp_gt (tgt := 180) hx hb dL_holds_97 (by decide) (fun c => absurd c (show ¬ (3 : Int32) < (0 : Int32) by decide)) (fun _ => ?_)
    refine lv_aload_n hx hb dL_holds_100 rfl (lv_at hl 5 rfl) ?_
    refine bRV (W0 := wO cI cS qx a0 a1 a2 a3 b3 a4 sn sc has ([]) (st, tr, hi)) (wc := [(qx, .inr (6, [.ref (a0 0), .ref (a1 0), .ref (a2 0), .ref (a3 0), .ref (a4 0), .int has]))] :: wSt cI a0 st :: []) (r := (-5 : Int32)) ⟨hx, hb, hml, hown, hts⟩ (KR.eq (kX6_differences l D cI cS qx a0 (a1 0) (a2 0) (a3 0) (a4 0) has st) (dfs_n hph)) (cwV 0 hts gL_holds_X6_differences rfl rfl rfl (by decide +kernel) ⟨Nat.le_of_ble_eq_true rfl, Nat.le_of_ble_eq_true rfl⟩) hE hP rfl rfl [0, 1] rfl rfl rfl hl.1 rfl (Nat.le_of_ble_eq_true rfl) ⟨Nat.le_of_ble_eq_true rfl, Nat.le_of_ble_eq_true rfl⟩ dL_holds_101 ?_
    refine lv_iload_n hx hb dL_holds_104 rfl (lv_at hl 3 rfl) ?_
    refine lv_if_eq (tgt := 112) hx hb dL_holds_105 (by decide) (fun _ => ?_) (fun c => absurd (show (0 : Int32) = (0 : Int32) by decide) c)
    refine lv_bipush (v := (-5 : Int32)) hx hb dL_holds_112 (by decide +kernel) ?_
    refine lv_icmp_ne (tgt := 180) hx hb dL_holds_114 (by decide) (fun c => absurd (show (-5 : Int32) = (-5 : Int32) by decide) c) (fun _ => ?_)
    refine lv_aload_n hx hb dL_holds_117 rfl (lv_at hl 5 rfl) ?_
    refine bRV (W0 := wO cI cS qx a0 a1 a2 a3 b3 a4 sn sc has ([]) (st, tr, hi)) (wc := [(qx, .inr (6, [.ref (a0 0), .ref (a1 0), .ref (a2 0), .ref (a3 0), .ref (a4 0), .int has]))] :: wSt cI a0 st :: []) (r := (-5 : Int32)) ⟨hx, hb, hml, hown, hts⟩ (KR.eq (kX6_firstDifference l D cI cS qx a0 (a1 0) (a2 0) (a3 0) (a4 0) has st) (fds_n hph)) (cwV 0 hts gL_holds_X6_firstDifference rfl rfl rfl (by decide +kernel) ⟨Nat.le_of_ble_eq_true rfl, Nat.le_of_ble_eq_true rfl⟩) hE hP rfl rfl [0, 1] rfl rfl rfl hl.1 rfl (Nat.le_of_ble_eq_true rfl) ⟨Nat.le_of_ble_eq_true rfl, Nat.le_of_ble_eq_true rfl⟩ dL_holds_118 ?_
    refine lv_iload hx hb dL_holds_121 (lv_at hl 1 rfl) ?_
    refine lv_icmp_ne (tgt := 180) hx hb dL_holds_123 (by decide) (fun c => absurd (show (-5 : Int32) = (-5 : Int32) by decide) c) (fun _ => ?_)
    refine lv_iload_n hx hb dL_holds_126 rfl (lv_at hl 3 rfl) ?_
    refine lv_if_eq (tgt := 158) hx hb dL_holds_127 (by decide) (fun _ => ?_) (fun c => absurd (show (0 : Int32) = (0 : Int32) by decide) c)
    refine lv_iload_n hx hb dL_holds_158 rfl (lv_at hl 3 rfl) ?_
    refine lv_if_eq (tgt := 182) hx hb dL_holds_159 (by decide) (fun _ => ?_) (fun c => absurd (show (0 : Int32) = (0 : Int32) by decide) c)
    refine lv_iconst (v := (1 : Int32)) hx hb dL_holds_182 (by decide +kernel) ?_
    refine lv_istore (lv' := [(5, .int ((1 : Int32))), (4, .int ((-5 : Int32))), (3, .int ((0 : Int32))), (2, .int ((0 : Int32))), (1, .int ((0 : Int32))), (0, .ref qx)]) hx hb dL_holds_183 hl (by decide) rfl (fun ls hl => ?_)
    refine lv_iload hx hb dL_holds_185 (lv_at hl 0 rfl) ?_
    refine lv_bipush (v := (6 : Int32)) hx hb dL_holds_187 (by decide +kernel) ?_
    refine lv_icmp_ge (tgt := 247) hx hb dL_holds_189 (by decide) (fun c => absurd c (show ¬ (6 : Int32) ≤ (1 : Int32) by decide)) (fun _ => ?_)
    refine lv_aload_n hx hb dL_holds_192 rfl (lv_at hl 5 rfl) ?_
    refine lv_iload hx hb dL_holds_193 (lv_at hl 0 rfl) ?_
    refine bRV (W0 := wO cI cS qx a0 a1 a2 a3 b3 a4 sn sc has ([]) (st, tr, hi)) (wc := [(qx, .inr (6, [.ref (a0 0), .ref (a1 0), .ref (a2 0), .ref (a3 0), .ref (a4 0), .int has]))] :: wSt cI a0 st :: []) (r := (-5 : Int32)) ⟨hx, hb, hml, hown, hts⟩ (KR.eq (kX6_copy l D cI cS qx a0 (a1 0) (a2 0) (a3 0) (a4 0) has (1 : Int32) st) (cp_n (i := 1) (by omega) (by omega) hph)) (cwV 1 hts gL_holds_X6_copy rfl rfl rfl (by decide +kernel) ⟨Nat.le_of_ble_eq_true rfl, Nat.le_of_ble_eq_true rfl⟩) hE hP rfl rfl [0, 1] rfl rfl rfl hl.1 rfl (Nat.le_of_ble_eq_true rfl) ⟨Nat.le_of_ble_eq_true rfl, Nat.le_of_ble_eq_true rfl⟩ dL_holds_195 ?_
    refine lv_bipush (v := (-5 : Int32)) hx hb dL_holds_198 (by decide +kernel) ?_
    refine lv_icmp_ne (tgt := 207) hx hb dL_holds_200 (by decide) (fun c => absurd (show (-5 : Int32) = (-5 : Int32) by decide) c) (fun _ => ?_)
    refine lv_iconst (v := (1 : Int32)) hx hb dL_holds_203 (by decide +kernel) ?_
    refine lv_goto (tgt := 208) hx hb dL_holds_204 (by decide) ?_
    refine lv_iload hx hb dL_holds_208 (lv_at hl 0 rfl) ?_
    refine lv_iconst (v := (5 : Int32)) hx hb dL_holds_210 (by decide +kernel) ?_
    refine lv_icmp_ge (tgt := 226) hx hb dL_holds_211 (by decide) (fun c => absurd c (show ¬ (5 : Int32) ≤ (1 : Int32) by decide)) (fun _ => ?_)
    refine lv_iload_n hx hb dL_holds_214 rfl (lv_at hl 3 rfl) ?_
    refine lv_if_ne (tgt := 222) hx hb dL_holds_215 (by decide) (fun c => absurd (show (0 : Int32) = (0 : Int32) by decide) c) (fun _ => ?_)
    refine lv_iconst (v := (1 : Int32)) hx hb dL_holds_218 (by decide +kernel) ?_
    refine lv_goto (tgt := 236) hx hb dL_holds_219 (by decide) ?_
    refine lv_icmp_eq (tgt := 241) hx hb dL_holds_236 (by decide) (fun _ => ?_) (fun c => absurd (show (1 : Int32) = (1 : Int32) by decide) c)
    refine lv_iinc (v := (2 : Int32)) (lv' := [(5, .int ((2 : Int32))), (4, .int ((-5 : Int32))), (3, .int ((0 : Int32))), (2, .int ((0 : Int32))), (1, .int ((0 : Int32))), (0, .ref qx)]) hx hb dL_holds_241 hl (k := 0) rfl (by decide) (by decide) rfl (fun ls hl => ?_)
    refine lv_goto (tgt := 185) hx hb dL_holds_244 (by decide) ?_
    refine lv_iload hx hb dL_holds_185 (lv_at hl 0 rfl) ?_
    refine lv_bipush (v := (6 : Int32)) hx hb dL_holds_187 (by decide +kernel) ?_
    refine lv_icmp_ge (tgt := 247) hx hb dL_holds_189 (by decide) (fun c => absurd c (show ¬ (6 : Int32) ≤ (2 : Int32) by decide)) (fun _ => ?_)
    refine lv_aload_n hx hb dL_holds_192 rfl (lv_at hl 5 rfl) ?_
    refine lv_iload hx hb dL_holds_193 (lv_at hl 0 rfl) ?_
    refine bRV (W0 := wO cI cS qx a0 a1 a2 a3 b3 a4 sn sc has ([]) (st, tr, hi)) (wc := [(qx, .inr (6, [.ref (a0 0), .ref (a1 0), .ref (a2 0), .ref (a3 0), .ref (a4 0), .int has]))] :: wSt cI a0 st :: []) (r := (-5 : Int32)) ⟨hx, hb, hml, hown, hts⟩ (KR.eq (kX6_copy l D cI cS qx a0 (a1 0) (a2 0) (a3 0) (a4 0) has (2 : Int32) st) (cp_n (i := 2) (by omega) (by omega) hph)) (cwV 1 hts gL_holds_X6_copy rfl rfl rfl (by decide +kernel) ⟨Nat.le_of_ble_eq_true rfl, Nat.le_of_ble_eq_true rfl⟩) hE hP rfl rfl [0, 1] rfl rfl rfl hl.1 rfl (Nat.le_of_ble_eq_true rfl) ⟨Nat.le_of_ble_eq_true rfl, Nat.le_of_ble_eq_true rfl⟩ dL_holds_195 ?_
    refine lv_bipush (v := (-5 : Int32)) hx hb dL_holds_198 (by decide +kernel) ?_
    refine lv_icmp_ne (tgt := 207) hx hb dL_holds_200 (by decide) (fun c => absurd (show (-5 : Int32) = (-5 : Int32) by decide) c) (fun _ => ?_)
    refine lv_iconst (v := (1 : Int32)) hx hb dL_holds_203 (by decide +kernel) ?_
    refine lv_goto (tgt := 208) hx hb dL_holds_204 (by decide) ?_
    refine lv_iload hx hb dL_holds_208 (lv_at hl 0 rfl) ?_
    refine lv_iconst (v := (5 : Int32)) hx hb dL_holds_210 (by decide +kernel) ?_
    refine lv_icmp_ge (tgt := 226) hx hb dL_holds_211 (by decide) (fun c => absurd c (show ¬ (5 : Int32) ≤ (2 : Int32) by decide)) (fun _ => ?_)
    refine lv_iload_n hx hb dL_holds_214 rfl (lv_at hl 3 rfl) ?_
    refine lv_if_ne (tgt := 222) hx hb dL_holds_215 (by decide) (fun c => absurd (show (0 : Int32) = (0 : Int32) by decide) c) (fun _ => ?_)
    refine lv_iconst (v := (1 : Int32)) hx hb dL_holds_218 (by decide +kernel) ?_
    refine lv_goto (tgt := 236) hx hb dL_holds_219 (by decide) ?_
    refine lv_icmp_eq (tgt := 241) hx hb dL_holds_236 (by decide) (fun _ => ?_) (fun c => absurd (show (1 : Int32) = (1 : Int32) by decide) c)
    refine lv_iinc (v := (3 : Int32)) (lv' := [(5, .int ((3 : Int32))), (4, .int ((-5 : Int32))), (3, .int ((0 : Int32))), (2, .int ((0 : Int32))), (1, .int ((0 : Int32))), (0, .ref qx)]) hx hb dL_holds_241 hl (k := 0) rfl (by decide) (by decide) rfl (fun ls hl => ?_)
    refine lv_goto (tgt := 185) hx hb dL_holds_244 (by decide) ?_
    refine lv_iload hx hb dL_holds_185 (lv_at hl 0 rfl) ?_
    refine lv_bipush (v := (6 : Int32)) hx hb dL_holds_187 (by decide +kernel) ?_
    refine lv_icmp_ge (tgt := 247) hx hb dL_holds_189 (by decide) (fun c => absurd c (show ¬ (6 : Int32) ≤ (3 : Int32) by decide)) (fun _ => ?_)
    refine lv_aload_n hx hb dL_holds_192 rfl (lv_at hl 5 rfl) ?_
    refine lv_iload hx hb dL_holds_193 (lv_at hl 0 rfl) ?_
    refine bRV (W0 := wO cI cS qx a0 a1 a2 a3 b3 a4 sn sc has ([]) (st, tr, hi)) (wc := [(qx, .inr (6, [.ref (a0 0), .ref (a1 0), .ref (a2 0), .ref (a3 0), .ref (a4 0), .int has]))] :: wSt cI a0 st :: []) (r := (-5 : Int32)) ⟨hx, hb, hml, hown, hts⟩ (KR.eq (kX6_copy l D cI cS qx a0 (a1 0) (a2 0) (a3 0) (a4 0) has (3 : Int32) st) (cp_n (i := 3) (by omega) (by omega) hph)) (cwV 1 hts gL_holds_X6_copy rfl rfl rfl (by decide +kernel) ⟨Nat.le_of_ble_eq_true rfl, Nat.le_of_ble_eq_true rfl⟩) hE hP rfl rfl [0, 1] rfl rfl rfl hl.1 rfl (Nat.le_of_ble_eq_true rfl) ⟨Nat.le_of_ble_eq_true rfl, Nat.le_of_ble_eq_true rfl⟩ dL_holds_195 ?_
    refine lv_bipush (v := (-5 : Int32)) hx hb dL_holds_198 (by decide +kernel) ?_
    refine lv_icmp_ne (tgt := 207) hx hb dL_holds_200 (by decide) (fun c => absurd (show (-5 : Int32) = (-5 : Int32) by decide) c) (fun _ => ?_)
    refine lv_iconst (v := (1 : Int32)) hx hb dL_holds_203 (by decide +kernel) ?_
    refine lv_goto (tgt := 208) hx hb dL_holds_204 (by decide) ?_
    refine lv_iload hx hb dL_holds_208 (lv_at hl 0 rfl) ?_
    refine lv_iconst (v := (5 : Int32)) hx hb dL_holds_210 (by decide +kernel) ?_
    refine lv_icmp_ge (tgt := 226) hx hb dL_holds_211 (by decide) (fun c => absurd c (show ¬ (5 : Int32) ≤ (3 : Int32) by decide)) (fun _ => ?_)
    refine lv_iload_n hx hb dL_holds_214 rfl (lv_at hl 3 rfl) ?_
    refine lv_if_ne (tgt := 222) hx hb dL_holds_215 (by decide) (fun c => absurd (show (0 : Int32) = (0 : Int32) by decide) c) (fun _ => ?_)
    refine lv_iconst (v := (1 : Int32)) hx hb dL_holds_218 (by decide +kernel) ?_
    refine lv_goto (tgt := 236) hx hb dL_holds_219 (by decide) ?_
    refine lv_icmp_eq (tgt := 241) hx hb dL_holds_236 (by decide) (fun _ => ?_) (fun c => absurd (show (1 : Int32) = (1 : Int32) by decide) c)
    refine lv_iinc (v := (4 : Int32)) (lv' := [(5, .int ((4 : Int32))), (4, .int ((-5 : Int32))), (3, .int ((0 : Int32))), (2, .int ((0 : Int32))), (1, .int ((0 : Int32))), (0, .ref qx)]) hx hb dL_holds_241 hl (k := 0) rfl (by decide) (by decide) rfl (fun ls hl => ?_)
    refine lv_goto (tgt := 185) hx hb dL_holds_244 (by decide) ?_
    refine lv_iload hx hb dL_holds_185 (lv_at hl 0 rfl) ?_
    refine lv_bipush (v := (6 : Int32)) hx hb dL_holds_187 (by decide +kernel) ?_
    refine lv_icmp_ge (tgt := 247) hx hb dL_holds_189 (by decide) (fun c => absurd c (show ¬ (6 : Int32) ≤ (4 : Int32) by decide)) (fun _ => ?_)
    refine lv_aload_n hx hb dL_holds_192 rfl (lv_at hl 5 rfl) ?_
    refine lv_iload hx hb dL_holds_193 (lv_at hl 0 rfl) ?_
    refine bRV (W0 := wO cI cS qx a0 a1 a2 a3 b3 a4 sn sc has ([]) (st, tr, hi)) (wc := [(qx, .inr (6, [.ref (a0 0), .ref (a1 0), .ref (a2 0), .ref (a3 0), .ref (a4 0), .int has]))] :: wSt cI a0 st :: []) (r := (-5 : Int32)) ⟨hx, hb, hml, hown, hts⟩ (KR.eq (kX6_copy l D cI cS qx a0 (a1 0) (a2 0) (a3 0) (a4 0) has (4 : Int32) st) (cp_n (i := 4) (by omega) (by omega) hph)) (cwV 1 hts gL_holds_X6_copy rfl rfl rfl (by decide +kernel) ⟨Nat.le_of_ble_eq_true rfl, Nat.le_of_ble_eq_true rfl⟩) hE hP rfl rfl [0, 1] rfl rfl rfl hl.1 rfl (Nat.le_of_ble_eq_true rfl) ⟨Nat.le_of_ble_eq_true rfl, Nat.le_of_ble_eq_true rfl⟩ dL_holds_195 ?_
    refine lv_bipush (v := (-5 : Int32)) hx hb dL_holds_198 (by decide +kernel) ?_
    refine lv_icmp_ne (tgt := 207) hx hb dL_holds_200 (by decide) (fun c => absurd (show (-5 : Int32) = (-5 : Int32) by decide) c) (fun _ => ?_)
    refine lv_iconst (v := (1 : Int32)) hx hb dL_holds_203 (by decide +kernel) ?_
    refine lv_goto (tgt := 208) hx hb dL_holds_204 (by decide) ?_
    refine lv_iload hx hb dL_holds_208 (lv_at hl 0 rfl) ?_
    refine lv_iconst (v := (5 : Int32)) hx hb dL_holds_210 (by decide +kernel) ?_
    refine lv_icmp_ge (tgt := 226) hx hb dL_holds_211 (by decide) (fun c => absurd c (show ¬ (5 : Int32) ≤ (4 : Int32) by decide)) (fun _ => ?_)
    refine lv_iload_n hx hb dL_holds_214 rfl (lv_at hl 3 rfl) ?_
    refine lv_if_ne (tgt := 222) hx hb dL_holds_215 (by decide) (fun c => absurd (show (0 : Int32) = (0 : Int32) by decide) c) (fun _ => ?_)
    refine lv_iconst (v := (1 : Int32)) hx hb dL_holds_218 (by decide +kernel) ?_
    refine lv_goto (tgt := 236) hx hb dL_holds_219 (by decide) ?_
    refine lv_icmp_eq (tgt := 241) hx hb dL_holds_236 (by decide) (fun _ => ?_) (fun c => absurd (show (1 : Int32) = (1 : Int32) by decide) c)
    refine lv_iinc (v := (5 : Int32)) (lv' := [(5, .int ((5 : Int32))), (4, .int ((-5 : Int32))), (3, .int ((0 : Int32))), (2, .int ((0 : Int32))), (1, .int ((0 : Int32))), (0, .ref qx)]) hx hb dL_holds_241 hl (k := 0) rfl (by decide) (by decide) rfl (fun ls hl => ?_)
    refine lv_goto (tgt := 185) hx hb dL_holds_244 (by decide) ?_
    refine lv_iload hx hb dL_holds_185 (lv_at hl 0 rfl) ?_
    refine lv_bipush (v := (6 : Int32)) hx hb dL_holds_187 (by decide +kernel) ?_
    refine lv_icmp_ge (tgt := 247) hx hb dL_holds_189 (by decide) (fun c => absurd c (show ¬ (6 : Int32) ≤ (5 : Int32) by decide)) (fun _ => ?_)
    refine lv_aload_n hx hb dL_holds_192 rfl (lv_at hl 5 rfl) ?_
    refine lv_iload hx hb dL_holds_193 (lv_at hl 0 rfl) ?_
    refine bRV (W0 := wO cI cS qx a0 a1 a2 a3 b3 a4 sn sc has ([]) (st, tr, hi)) (wc := [(qx, .inr (6, [.ref (a0 0), .ref (a1 0), .ref (a2 0), .ref (a3 0), .ref (a4 0), .int has]))] :: wSt cI a0 st :: []) (r := (-5 : Int32)) ⟨hx, hb, hml, hown, hts⟩ (KR.eq (kX6_copy l D cI cS qx a0 (a1 0) (a2 0) (a3 0) (a4 0) has (5 : Int32) st) ((cp_5 st).trans (if_neg (by rw [hph]; decide)))) (cwV 1 hts gL_holds_X6_copy rfl rfl rfl (by decide +kernel) ⟨Nat.le_of_ble_eq_true rfl, Nat.le_of_ble_eq_true rfl⟩) hE hP rfl rfl [0, 1] rfl rfl rfl hl.1 rfl (Nat.le_of_ble_eq_true rfl) ⟨Nat.le_of_ble_eq_true rfl, Nat.le_of_ble_eq_true rfl⟩ dL_holds_195 ?_
    refine lv_bipush (v := (-5 : Int32)) hx hb dL_holds_198 (by decide +kernel) ?_
    refine lv_icmp_ne (tgt := 207) hx hb dL_holds_200 (by decide) (fun c => absurd (show (-5 : Int32) = (-5 : Int32) by decide) c) (fun _ => ?_)
    refine lv_iconst (v := (1 : Int32)) hx hb dL_holds_203 (by decide +kernel) ?_
    refine lv_goto (tgt := 208) hx hb dL_holds_204 (by decide) ?_
    refine lv_iload hx hb dL_holds_208 (lv_at hl 0 rfl) ?_
    refine lv_iconst (v := (5 : Int32)) hx hb dL_holds_210 (by decide +kernel) ?_
    refine lv_icmp_ge (tgt := 226) hx hb dL_holds_211 (by decide) (fun _ => ?_) (fun c => absurd (show (5 : Int32) ≤ (5 : Int32) by decide) c)
    refine lv_iload_n hx hb dL_holds_226 rfl (lv_at hl 4 rfl) ?_
    refine lv_iconst (v := (3 : Int32)) hx hb dL_holds_227 (by decide +kernel) ?_
    refine lv_icmp_eq (tgt := 235) hx hb dL_holds_228 (by decide) (fun c => absurd c (show ¬ (0 : Int32) = (3 : Int32) by decide)) (fun _ => ?_)
    refine lv_iconst (v := (1 : Int32)) hx hb dL_holds_231 (by decide +kernel) ?_
    refine lv_goto (tgt := 236) hx hb dL_holds_232 (by decide) ?_
    refine lv_icmp_eq (tgt := 241) hx hb dL_holds_236 (by decide) (fun _ => ?_) (fun c => absurd (show (1 : Int32) = (1 : Int32) by decide) c)
    refine lv_iinc (v := (6 : Int32)) (lv' := [(5, .int ((6 : Int32))), (4, .int ((-5 : Int32))), (3, .int ((0 : Int32))), (2, .int ((0 : Int32))), (1, .int ((0 : Int32))), (0, .ref qx)]) hx hb dL_holds_241 hl (k := 0) rfl (by decide) (by decide) rfl (fun ls hl => ?_)
    refine lv_goto (tgt := 185) hx hb dL_holds_244 (by decide) ?_
    refine lv_iload hx hb dL_holds_185 (lv_at hl 0 rfl) ?_
    refine lv_bipush (v := (6 : Int32)) hx hb dL_holds_187 (by decide +kernel) ?_
    refine lv_icmp_ge (tgt := 247) hx hb dL_holds_189 (by decide) (fun _ => ?_) (fun c => absurd (show (6 : Int32) ≤ (6 : Int32) by decide) c)
    refine lv_iload_n hx hb dL_holds_247 rfl (lv_at hl 4 rfl) ?_
    refine lv_iconst (v := (2 : Int32)) hx hb dL_holds_248 (by decide +kernel) ?_
    refine lv_icmp_ne (tgt := 264) hx hb dL_holds_249 (by decide) (fun _ => ?_) (fun c => absurd c (show ¬ (0 : Int32) = (2 : Int32) by decide))
    refine lv_iconst (v := (0 : Int32)) hx hb dL_holds_264 (by decide +kernel) ?_
    refine lv_istore (lv' := [(5, .int ((0 : Int32))), (4, .int ((-5 : Int32))), (3, .int ((0 : Int32))), (2, .int ((0 : Int32))), (1, .int ((0 : Int32))), (0, .ref qx)]) hx hb dL_holds_265 hl (by decide) rfl (fun ls hl => ?_)
    refine lv_iload_n hx hb dL_holds_267 rfl (lv_at hl 4 rfl) ?_
    refine lv_iconst (v := (2 : Int32)) hx hb dL_holds_268 (by decide +kernel) ?_
    refine lv_icmp_lt (tgt := 284) hx hb dL_holds_269 (by decide) (fun _ => ?_) (fun c => absurd (show (0 : Int32) < (2 : Int32) by decide) c)
    refine lv_aload_n hx hb dL_holds_284 rfl (lv_at hl 5 rfl) ?_
    refine lv_iconst (v := (0 : Int32)) hx hb dL_holds_285 (by decide +kernel) ?_
    refine bRV (W0 := wO cI cS qx a0 a1 a2 a3 b3 a4 sn sc has ([]) (st, tr, hi)) (wc := [(qx, .inr (6, [.ref (a0 0), .ref (a1 0), .ref (a2 0), .ref (a3 0), .ref (a4 0), .int has]))] :: wSt cI a0 st :: []) (r := (st.2.2.2.2.2 0)) ⟨hx, hb, hml, hown, hts⟩ (KR.eq (kX6_total l D cI cS qx a0 (a1 0) (a2 0) (a3 0) (a4 0) has (0 : Int32) st) (tot_i (i := 0) (by omega))) (cwV 1 hts gL_holds_X6_total rfl rfl rfl (by decide +kernel) ⟨Nat.le_of_ble_eq_true rfl, Nat.le_of_ble_eq_true rfl⟩) hE hP rfl rfl [0, 1] rfl rfl rfl hl.1 rfl (Nat.le_of_ble_eq_true rfl) ⟨Nat.le_of_ble_eq_true rfl, Nat.le_of_ble_eq_true rfl⟩ dL_holds_286 ?_
    refine lv_aload_n hx hb dL_holds_289 rfl (lv_at hl 5 rfl) ?_
    refine lv_iconst (v := (1 : Int32)) hx hb dL_holds_290 (by decide +kernel) ?_
    refine bRV (W0 := wO cI cS qx a0 a1 a2 a3 b3 a4 sn sc has ([]) (st, tr, hi)) (wc := [(qx, .inr (6, [.ref (a0 0), .ref (a1 0), .ref (a2 0), .ref (a3 0), .ref (a4 0), .int has]))] :: wSt cI a0 st :: []) (r := (st.2.2.2.2.2 1)) ⟨hx, hb, hml, hown, hts⟩ (KR.eq (kX6_total l D cI cS qx a0 (a1 0) (a2 0) (a3 0) (a4 0) has (1 : Int32) st) (tot_i (i := 1) (by omega))) (cwV 1 hts gL_holds_X6_total rfl rfl rfl (by decide +kernel) ⟨Nat.le_of_ble_eq_true rfl, Nat.le_of_ble_eq_true rfl⟩) hE hP rfl rfl [0, 1] rfl rfl rfl hl.1 rfl (Nat.le_of_ble_eq_true rfl) ⟨Nat.le_of_ble_eq_true rfl, Nat.le_of_ble_eq_true rfl⟩ dL_holds_291 ?_
    refine lv_aload_n hx hb dL_holds_294 rfl (lv_at hl 5 rfl) ?_
    refine lv_iconst (v := (2 : Int32)) hx hb dL_holds_295 (by decide +kernel) ?_
    refine bRV (W0 := wO cI cS qx a0 a1 a2 a3 b3 a4 sn sc has ([]) (st, tr, hi)) (wc := [(qx, .inr (6, [.ref (a0 0), .ref (a1 0), .ref (a2 0), .ref (a3 0), .ref (a4 0), .int has]))] :: wSt cI a0 st :: []) (r := (st.2.2.2.2.2 2)) ⟨hx, hb, hml, hown, hts⟩ (KR.eq (kX6_total l D cI cS qx a0 (a1 0) (a2 0) (a3 0) (a4 0) has (2 : Int32) st) (tot_i (i := 2) (by omega))) (cwV 1 hts gL_holds_X6_total rfl rfl rfl (by decide +kernel) ⟨Nat.le_of_ble_eq_true rfl, Nat.le_of_ble_eq_true rfl⟩) hE hP rfl rfl [0, 1] rfl rfl rfl hl.1 rfl (Nat.le_of_ble_eq_true rfl) ⟨Nat.le_of_ble_eq_true rfl, Nat.le_of_ble_eq_true rfl⟩ dL_holds_296 ?_
    refine lv_iadd hx hb dL_holds_299 ?_
    refine lv_iload_n hx hb dL_holds_300 rfl (lv_at hl 3 rfl) ?_
    refine lv_if_eq (tgt := 308) hx hb dL_holds_301 (by decide) (fun _ => ?_) (fun c => absurd (show (0 : Int32) = (0 : Int32) by decide) c)
    refine lv_iconst (v := (0 : Int32)) hx hb dL_holds_308 (by decide +kernel) ?_
    refine lv_iadd hx hb dL_holds_309 ?_
    refine lv_icmp_ne (tgt := 430) hx hb dL_holds_310 (by decide) (fun c => absurd (to_0 hI hph) c) (fun _ => ?_)
    refine lv_aload_n hx hb dL_holds_313 rfl (lv_at hl 5 rfl) ?_
    refine cAV (W0 := fl (wO cI cS qx a0 a1 a2 a3 b3 a4 sn sc has ([]) (st, tr, hi))) (wc := fl ([(qx, .inr (6, [.ref (a0 0), .ref (a1 0), .ref (a2 0), .ref (a3 0), .ref (a4 0), .int has]))] :: wSt cI a0 st :: [])) (r := Value.double dd) ⟨hx, hb, hml, hown, hts⟩ (KA.eq (kX6_progress l D cI cS qx a0 (a1 0) (a2 0) (a3 0) (a4 0) has st hI.ws) ed) (cwV 0 hts gL_holds_X6_progress rfl rfl rfl (by decide +kernel) ⟨Nat.le_of_ble_eq_true rfl, Nat.le_of_ble_eq_true rfl⟩) hE hP 0 rfl rfl [0, 1, 2, 3, 4, 5, 6, 7, 8, 9, 10, 11, 12, 13] rfl rfl hl.1 rfl (Nat.le_of_ble_eq_true rfl) ⟨Nat.le_of_ble_eq_true rfl, Nat.le_of_ble_eq_true rfl⟩ dL_holds_314 ?_
    refine lv_dconst0 hx hb dL_holds_317 ?_
    refine lv_dcmp hx hb dL_holds_318 ?_
    refine lv_if_lt (tgt := 430) hx hb dL_holds_319 (by decide) (fun c => absurd c dl) (fun _ => ?_)
    refine lv_aload_n hx hb dL_holds_322 rfl (lv_at hl 5 rfl) ?_
    refine cAV (W0 := fl (wO cI cS qx a0 a1 a2 a3 b3 a4 sn sc has ([]) (st, tr, hi))) (wc := fl ([(qx, .inr (6, [.ref (a0 0), .ref (a1 0), .ref (a2 0), .ref (a3 0), .ref (a4 0), .int has]))] :: wSt cI a0 st :: [])) (r := Value.double dd) ⟨hx, hb, hml, hown, hts⟩ (KA.eq (kX6_progress l D cI cS qx a0 (a1 0) (a2 0) (a3 0) (a4 0) has st hI.ws) ed) (cwV 0 hts gL_holds_X6_progress rfl rfl rfl (by decide +kernel) ⟨Nat.le_of_ble_eq_true rfl, Nat.le_of_ble_eq_true rfl⟩) hE hP 0 rfl rfl [0, 1, 2, 3, 4, 5, 6, 7, 8, 9, 10, 11, 12, 13] rfl rfl hl.1 rfl (Nat.le_of_ble_eq_true rfl) ⟨Nat.le_of_ble_eq_true rfl, Nat.le_of_ble_eq_true rfl⟩ dL_holds_323 ?_
    refine lv_dconst1 hx hb dL_holds_326 ?_
    refine lv_dcmp hx hb dL_holds_327 ?_
    refine lv_if_gt (tgt := 430) hx hb dL_holds_328 (by decide) (fun c => absurd c dg) (fun _ => ?_)
    refine lv_aload_n hx hb dL_holds_331 rfl (lv_at hl 5 rfl) ?_
    refine bIV (W0 := wO cI cS qx a0 a1 a2 a3 b3 a4 sn sc has ([]) (st, tr, hi)) (wc := [(qx, .inr (6, [.ref (a0 0), .ref (a1 0), .ref (a2 0), .ref (a3 0), .ref (a4 0), .int has]))] :: wSt cI a0 st :: wSt cI a2 tr :: []) (w1 := fun u : TTT => [(qx, .inr (6, [.ref (a0 0), .ref (a1 0), .ref (a2 0), .ref (a3 0), .ref (a4 0), .int has]))] :: wSt cI a0 u.1 :: wSt cI a2 u.2 :: []) ⟨hx, hb, hml, hown, hts⟩ (kX6_readyIn l D cI cS qx a0 a2 (a1 0) (a3 0) (a4 0) has (st, tr) hI.ws) (cwV 0 hts gL_holds_X6_readyIn rfl rfl rfl (by decide +kernel) ⟨Nat.le_of_ble_eq_true rfl, Nat.le_of_ble_eq_true rfl⟩) hE hP hD hS rfl rfl [0, 1, 3] rfl rfl (fun _ => rfl) (fun _ => rfl) rfl hl.1 rfl (Nat.le_of_ble_eq_true rfl) ⟨Nat.le_of_ble_eq_true rfl, Nat.le_of_ble_eq_true rfl⟩ dL_holds_332 (fun r_332 u_332 H locs e_332 hP hD hS => ?_)
    have hP : va_P D vwCl (fl (wO cI cS qx a0 a1 a2 a3 b3 a4 sn sc has ([]) (u_332.1, u_332.2, hi))) H := hP
    have hD : va_D A (fl (wO cI cS qx a0 a1 a2 a3 b3 a4 sn sc has ([]) (u_332.1, u_332.2, hi))) := hD
    have hr_332 := ready_chk e_332
    rw [hr_332.1] at hP hD
    refine lv_if_ne (tgt := 342) hx hb dL_holds_335 (by decide) (fun _ => ?_) (fun c => absurd c (fun q => nr (hr_332.2.1.mp q)))
    refine lv_iconst (v := (0 : Int32)) hx hb dL_holds_342 (by decide +kernel) ?_
    refine lv_iload hx hb dL_holds_343 (lv_at hl 0 rfl) ?_
    refine lv_icmp_ne (tgt := 430) hx hb dL_holds_345 (by decide) (fun c => absurd (show (0 : Int32) = (0 : Int32) by decide) c) (fun _ => ?_)
    refine lv_iload_n hx hb dL_holds_348 rfl (lv_at hl 4 rfl) ?_
    refine lv_iconst (v := (1 : Int32)) hx hb dL_holds_349 (by decide +kernel) ?_
    refine lv_icmp_eq (tgt := 367) hx hb dL_holds_350 (by decide) (fun c => absurd c (show ¬ (0 : Int32) = (1 : Int32) by decide)) (fun _ => ?_)
    refine lv_iload_n hx hb dL_holds_353 rfl (lv_at hl 4 rfl) ?_
    refine lv_iconst (v := (2 : Int32)) hx hb dL_holds_354 (by decide +kernel) ?_
    refine lv_icmp_eq (tgt := 367) hx hb dL_holds_355 (by decide) (fun c => absurd c (show ¬ (0 : Int32) = (2 : Int32) by decide)) (fun _ => ?_)
    refine lv_aload_n hx hb dL_holds_358 rfl (lv_at hl 5 rfl) ?_
    refine bIV (W0 := wO cI cS qx a0 a1 a2 a3 b3 a4 sn sc has ([]) (st, u_332.2, hi)) (wc := [(qx, .inr (6, [.ref (a0 0), .ref (a1 0), .ref (a2 0), .ref (a3 0), .ref (a4 0), .int has]))] :: wSt cI a0 st :: wSt cI a2 u_332.2 :: []) (w1 := fun u : TTT => [(qx, .inr (6, [.ref (a0 0), .ref (a1 0), .ref (a2 0), .ref (a3 0), .ref (a4 0), .int has]))] :: wSt cI a0 u.1 :: wSt cI a2 u.2 :: []) ⟨hx, hb, hml, hown, hts⟩ (kX6_readyIn l D cI cS qx a0 a2 (a1 0) (a3 0) (a4 0) has (st, u_332.2) hI.ws) (cwV 0 hts gL_holds_X6_readyIn rfl rfl rfl (by decide +kernel) ⟨Nat.le_of_ble_eq_true rfl, Nat.le_of_ble_eq_true rfl⟩) hE hP hD hS rfl rfl [0, 1, 3] rfl rfl (fun _ => rfl) (fun _ => rfl) rfl hl.1 rfl (Nat.le_of_ble_eq_true rfl) ⟨Nat.le_of_ble_eq_true rfl, Nat.le_of_ble_eq_true rfl⟩ dL_holds_359 (fun r_359 u_359 H locs e_359 hP hD hS => ?_)
    have hP : va_P D vwCl (fl (wO cI cS qx a0 a1 a2 a3 b3 a4 sn sc has ([]) (u_359.1, u_359.2, hi))) H := hP
    have hD : va_D A (fl (wO cI cS qx a0 a1 a2 a3 b3 a4 sn sc has ([]) (u_359.1, u_359.2, hi))) := hD
    have hr_359 := ready_chk e_359
    rw [hr_359.1] at hP hD
    refine lv_bipush (v := (-4 : Int32)) hx hb dL_holds_362 (by decide +kernel) ?_
    refine lv_icmp_ne (tgt := 430) hx hb dL_holds_364 (by decide) (fun c => absurd (hr_359.2.2 h1 h2) c) (fun _ => ?_)
    refine lv_iload_n hx hb dL_holds_367 rfl (lv_at hl 3 rfl) ?_
    refine lv_if_eq (tgt := 383) hx hb dL_holds_368 (by decide) (fun _ => ?_) (fun c => absurd (show (0 : Int32) = (0 : Int32) by decide) c)
    refine lv_aload_n hx hb dL_holds_383 rfl (lv_at hl 5 rfl) ?_
    refine lv_iconst (v := (1 : Int32)) hx hb dL_holds_384 (by decide +kernel) ?_
    refine lv_iconst (v := (0 : Int32)) hx hb dL_holds_385 (by decide +kernel) ?_
    refine bRV (W0 := wO cI cS qx a0 a1 a2 a3 b3 a4 sn sc has ([]) (st, u_359.2, hi)) (wc := [(qx, .inr (6, [.ref (a0 0), .ref (a1 0), .ref (a2 0), .ref (a3 0), .ref (a4 0), .int has]))] :: wSt cI a0 st :: []) (r := (-5 : Int32)) ⟨hx, hb, hml, hown, hts⟩ (KR.eq (kX6_table l D cI cS qx a0 (a1 0) (a2 0) (a3 0) (a4 0) has (1 : Int32) (0 : Int32) st) (tbl_1n hph)) (cwV 2 hts gL_holds_X6_table rfl rfl rfl (by decide +kernel) ⟨Nat.le_of_ble_eq_true rfl, Nat.le_of_ble_eq_true rfl⟩) hE hP rfl rfl [0, 1] rfl rfl rfl hl.1 rfl (Nat.le_of_ble_eq_true rfl) ⟨Nat.le_of_ble_eq_true rfl, Nat.le_of_ble_eq_true rfl⟩ dL_holds_386 ?_
    refine lv_bipush (v := (-5 : Int32)) hx hb dL_holds_389 (by decide +kernel) ?_
    refine lv_icmp_ne (tgt := 430) hx hb dL_holds_391 (by decide) (fun c => absurd (show (-5 : Int32) = (-5 : Int32) by decide) c) (fun _ => ?_)
    refine (Decidable.em (st.2.2.1 = (0 : Int32))).elim (fun hho => ?_) (fun hho => ?_)
    · refine lv_aload_n hx hb dL_holds_394 rfl (lv_at hl 5 rfl) ?_
      refine lv_iconst (v := (2 : Int32)) hx hb dL_holds_395 (by decide +kernel) ?_
      refine lv_iconst (v := (0 : Int32)) hx hb dL_holds_396 (by decide +kernel) ?_
      refine bRV (W0 := wO cI cS qx a0 a1 a2 a3 b3 a4 sn sc has ([]) (st, u_359.2, hi)) (wc := [(qx, .inr (6, [.ref (a0 0), .ref (a1 0), .ref (a2 0), .ref (a3 0), .ref (a4 0), .int has]))] :: wSt cI a0 st :: []) (r := (-5 : Int32)) ⟨hx, hb, hml, hown, hts⟩ (KR.eq (kX6_table l D cI cS qx a0 (a1 0) (a2 0) (a3 0) (a4 0) has (2 : Int32) (0 : Int32) st) (tbl_2n (by decide) hho)) (cwV 2 hts gL_holds_X6_table rfl rfl rfl (by decide +kernel) ⟨Nat.le_of_ble_eq_true rfl, Nat.le_of_ble_eq_true rfl⟩) hE hP rfl rfl [0, 1] rfl rfl rfl hl.1 rfl (Nat.le_of_ble_eq_true rfl) ⟨Nat.le_of_ble_eq_true rfl, Nat.le_of_ble_eq_true rfl⟩ dL_holds_397 ?_
      refine lv_bipush (v := (-5 : Int32)) hx hb dL_holds_400 (by decide +kernel) ?_
      refine lv_icmp_ne (tgt := 409) hx hb dL_holds_402 (by decide) (fun c => absurd (show (-5 : Int32) = (-5 : Int32) by decide) c) (fun _ => ?_)
      refine lv_iconst (v := (1 : Int32)) hx hb dL_holds_405 (by decide +kernel) ?_
      refine lv_goto (tgt := 410) hx hb dL_holds_406 (by decide) ?_
      refine lv_aload_n hx hb dL_holds_410 rfl (lv_at hl 5 rfl) ?_
      refine lv_iconst (v := (1 : Int32)) hx hb dL_holds_411 (by decide +kernel) ?_
      refine bRV (W0 := wO cI cS qx a0 a1 a2 a3 b3 a4 sn sc has ([]) (st, u_359.2, hi)) (wc := [(qx, .inr (6, [.ref (a0 0), .ref (a1 0), .ref (a2 0), .ref (a3 0), .ref (a4 0), .int has]))] :: wSt cI a0 st :: []) (r := (0 : Int32)) ⟨hx, hb, hml, hown, hts⟩ (KR.eq (kX6_total l D cI cS qx a0 (a1 0) (a2 0) (a3 0) (a4 0) has (1 : Int32) st) ((tot_i (i := 1) (by omega)).trans (to_y hI hho))) (cwV 1 hts gL_holds_X6_total rfl rfl rfl (by decide +kernel) ⟨Nat.le_of_ble_eq_true rfl, Nat.le_of_ble_eq_true rfl⟩) hE hP rfl rfl [0, 1] rfl rfl rfl hl.1 rfl (Nat.le_of_ble_eq_true rfl) ⟨Nat.le_of_ble_eq_true rfl, Nat.le_of_ble_eq_true rfl⟩ dL_holds_412 ?_
      refine lv_if_ne (tgt := 422) hx hb dL_holds_415 (by decide) (fun c => absurd (show (0 : Int32) = (0 : Int32) by decide) c) (fun _ => ?_)
      refine lv_iconst (v := (1 : Int32)) hx hb dL_holds_418 (by decide +kernel) ?_
      refine lv_goto (tgt := 423) hx hb dL_holds_419 (by decide) ?_
      refine lv_icmp_ne (tgt := 430) hx hb dL_holds_423 (by decide) (fun c => absurd (show (1 : Int32) = (1 : Int32) by decide) c) (fun _ => ?_)
      refine lv_iconst (v := (1 : Int32)) hx hb dL_holds_426 (by decide +kernel) ?_
      refine lv_goto (tgt := 431) hx hb dL_holds_427 (by decide) ?_
      exact hend _ _ _ u_359.2 _ _ _ _ dL_holds_431 rfl (Nat.le_refl _) (Nat.le_refl _) rfl hP hS
    · refine lv_aload_n hx hb dL_holds_394 rfl (lv_at hl 5 rfl) ?_
      refine lv_iconst (v := (2 : Int32)) hx hb dL_holds_395 (by decide +kernel) ?_
      refine lv_iconst (v := (0 : Int32)) hx hb dL_holds_396 (by decide +kernel) ?_
      refine bRV (W0 := wO cI cS qx a0 a1 a2 a3 b3 a4 sn sc has ([]) (st, u_359.2, hi)) (wc := [(qx, .inr (6, [.ref (a0 0), .ref (a1 0), .ref (a2 0), .ref (a3 0), .ref (a4 0), .int has]))] :: wSt cI a0 st :: []) (r := (fX3_count st.2.1)) ⟨hx, hb, hml, hown, hts⟩ (KR.eq (kX6_table l D cI cS qx a0 (a1 0) (a2 0) (a3 0) (a4 0) has (2 : Int32) (0 : Int32) st) (tbl_2y hho)) (cwV 2 hts gL_holds_X6_table rfl rfl rfl (by decide +kernel) ⟨Nat.le_of_ble_eq_true rfl, Nat.le_of_ble_eq_true rfl⟩) hE hP rfl rfl [0, 1] rfl rfl rfl hl.1 rfl (Nat.le_of_ble_eq_true rfl) ⟨Nat.le_of_ble_eq_true rfl, Nat.le_of_ble_eq_true rfl⟩ dL_holds_397 ?_
      refine lv_bipush (v := (-5 : Int32)) hx hb dL_holds_400 (by decide +kernel) ?_
      refine lv_icmp_ne (tgt := 409) hx hb dL_holds_402 (by decide) (fun _ => ?_) (fun c => absurd c (bd_ne (count_b _) (by omega) (by decide)))
      refine lv_iconst (v := (0 : Int32)) hx hb dL_holds_409 (by decide +kernel) ?_
      refine lv_aload_n hx hb dL_holds_410 rfl (lv_at hl 5 rfl) ?_
      refine lv_iconst (v := (1 : Int32)) hx hb dL_holds_411 (by decide +kernel) ?_
      refine bRV (W0 := wO cI cS qx a0 a1 a2 a3 b3 a4 sn sc has ([]) (st, u_359.2, hi)) (wc := [(qx, .inr (6, [.ref (a0 0), .ref (a1 0), .ref (a2 0), .ref (a3 0), .ref (a4 0), .int has]))] :: wSt cI a0 st :: []) (r := (st.2.2.2.2.2 1)) ⟨hx, hb, hml, hown, hts⟩ (KR.eq (kX6_total l D cI cS qx a0 (a1 0) (a2 0) (a3 0) (a4 0) has (1 : Int32) st) (tot_i (i := 1) (by omega))) (cwV 1 hts gL_holds_X6_total rfl rfl rfl (by decide +kernel) ⟨Nat.le_of_ble_eq_true rfl, Nat.le_of_ble_eq_true rfl⟩) hE hP rfl rfl [0, 1] rfl rfl rfl hl.1 rfl (Nat.le_of_ble_eq_true rfl) ⟨Nat.le_of_ble_eq_true rfl, Nat.le_of_ble_eq_true rfl⟩ dL_holds_412 ?_
      refine lv_if_ne (tgt := 422) hx hb dL_holds_415 (by decide) (fun _ => ?_) (fun c => absurd c (to_n hI he hho))
      refine lv_iconst (v := (0 : Int32)) hx hb dL_holds_422 (by decide +kernel) ?_
      refine lv_icmp_ne (tgt := 430) hx hb dL_holds_423 (by decide) (fun c => absurd (show (0 : Int32) = (0 : Int32) by decide) c) (fun _ => ?_)
      refine lv_iconst (v := (1 : Int32)) hx hb dL_holds_426 (by decide +kernel) ?_
      refine lv_goto (tgt := 431) hx hb dL_holds_427 (by decide) ?_
      exact hend _ _ _ u_359.2 _ _ _ _ dL_holds_431 rfl (Nat.le_refl _) (Nat.le_refl _) rfl hP hS
  · have nr : ¬ rdy st := fun q => absurd (hph.symm.trans q.1) (by decide)
    have h0 : ¬ st.2.2.2.1.2.2.1 = (0 : Int32) := by rw [hph]; decide
    have hcp := hI.cp h0
    have h2 : ¬ st.2.2.2.1.2.2.1 = (2 : Int32) := by rw [hph]; decide
    have loop_26 : ∀ n : Nat, n ≤ 32 → ∀ ls : Array Slot, lv_has ls 7 [(0, .ref qx), (1, .int ((1 : Int32))), (2, .int ((1 : Int32))), (3, .int ((unl st (32 - n)))), (4, .int ((fst st (32 - n)))), (5, .int (((nI n) + (-1 : Int32))))] → W p l e { frames := 6, cells := 0, slots := 0, locals := 129 } s m args below meth c s.heap [] 0 0 Q (F0 m 26 ls []) := by
      intro n
      induction n with
      | zero =>
        intro hn ls hl
        have hl : lv_has ls 7 [(0, .ref qx), (1, .int ((1 : Int32))), (2, .int ((1 : Int32))), (3, .int ((unl st 32))), (4, .int ((fst st 32))), (5, .int (((nI 0) + (-1 : Int32))))] := hl
        refine lv_iload hx hb dL_holds_26 (lv_at hl 5 rfl) ?_
        refine lv_if_lt (tgt := 91) hx hb dL_holds_28 (by decide) (fun _ => ?_) (fun c => absurd (show (nI 0 + (-1 : Int32)) < (0 : Int32) by decide) c)
        refine lv_iload_n hx hb dL_holds_91 rfl (lv_at hl 1 rfl) ?_
        refine lv_if_lt (tgt := 180) hx hb dL_holds_92 (by decide) (fun c => absurd c (show ¬ (1 : Int32) < (0 : Int32) by decide)) (fun _ => ?_)
        refine lv_iload_n hx hb dL_holds_95 rfl (lv_at hl 1 rfl) ?_
        refine lv_iconst (v := (3 : Int32)) hx hb dL_holds_96 (by decide +kernel) ?_
        refine lv_icmp_gt (tgt := 180) hx hb dL_holds_97 (by decide) (fun c => absurd c (show ¬ (3 : Int32) < (1 : Int32) by decide)) (fun _ => ?_)
        refine lv_aload_n hx hb dL_holds_100 rfl (lv_at hl 0 rfl) ?_
        refine bRV (W0 := wO cI cS qx a0 a1 a2 a3 b3 a4 sn sc has ([]) (st, tr, hi)) (wc := [(qx, .inr (6, [.ref (a0 0), .ref (a1 0), .ref (a2 0), .ref (a3 0), .ref (a4 0), .int has]))] :: wSt cI a0 st :: []) (r := (unl st 32)) ⟨hx, hb, hml, hown, hts⟩ (KR.eq (kX6_differences l D cI cS qx a0 (a1 0) (a2 0) (a3 0) (a4 0) has st) (dfs_y h0)) (cwV 0 hts gL_holds_X6_differences rfl rfl rfl (by decide +kernel) ⟨Nat.le_of_ble_eq_true rfl, Nat.le_of_ble_eq_true rfl⟩) hE hP rfl rfl [0, 1] rfl rfl rfl hl.1 rfl (Nat.le_of_ble_eq_true rfl) ⟨Nat.le_of_ble_eq_true rfl, Nat.le_of_ble_eq_true rfl⟩ dL_holds_101 ?_
        refine lv_iload_n hx hb dL_holds_104 rfl (lv_at hl 2 rfl) ?_
        refine lv_if_eq (tgt := 112) hx hb dL_holds_105 (by decide) (fun c => absurd c (show ¬ (1 : Int32) = (0 : Int32) by decide)) (fun _ => ?_)
        refine lv_iload_n hx hb dL_holds_108 rfl (lv_at hl 3 rfl) ?_
        refine lv_goto (tgt := 114) hx hb dL_holds_109 (by decide) ?_
        refine lv_icmp_ne (tgt := 180) hx hb dL_holds_114 (by decide) (fun c => absurd rfl c) (fun _ => ?_)
        refine lv_aload_n hx hb dL_holds_117 rfl (lv_at hl 0 rfl) ?_
        refine bRV (W0 := wO cI cS qx a0 a1 a2 a3 b3 a4 sn sc has ([]) (st, tr, hi)) (wc := [(qx, .inr (6, [.ref (a0 0), .ref (a1 0), .ref (a2 0), .ref (a3 0), .ref (a4 0), .int has]))] :: wSt cI a0 st :: []) (r := (fst st 32)) ⟨hx, hb, hml, hown, hts⟩ (KR.eq (kX6_firstDifference l D cI cS qx a0 (a1 0) (a2 0) (a3 0) (a4 0) has st) (fds_y h0)) (cwV 0 hts gL_holds_X6_firstDifference rfl rfl rfl (by decide +kernel) ⟨Nat.le_of_ble_eq_true rfl, Nat.le_of_ble_eq_true rfl⟩) hE hP rfl rfl [0, 1] rfl rfl rfl hl.1 rfl (Nat.le_of_ble_eq_true rfl) ⟨Nat.le_of_ble_eq_true rfl, Nat.le_of_ble_eq_true rfl⟩ dL_holds_118 ?_
        refine lv_iload hx hb dL_holds_121 (lv_at hl 4 rfl) ?_
        refine lv_icmp_ne (tgt := 180) hx hb dL_holds_123 (by decide) (fun c => absurd rfl c) (fun _ => ?_)
        refine lv_iload_n hx hb dL_holds_126 rfl (lv_at hl 2 rfl) ?_
        refine lv_if_eq (tgt := 158) hx hb dL_holds_127 (by decide) (fun c => absurd c (show ¬ (1 : Int32) = (0 : Int32) by decide)) (fun _ => ?_)
        refine lv_iload_n hx hb dL_holds_130 rfl (lv_at hl 1 rfl) ?_
        refine lv_iconst (v := (1 : Int32)) hx hb dL_holds_131 (by decide +kernel) ?_
        refine lv_icmp_le (tgt := 139) hx hb dL_holds_132 (by decide) (fun _ => ?_) (fun c => absurd (show (1 : Int32) ≤ (1 : Int32) by decide) c)
        refine lv_iconst (v := (0 : Int32)) hx hb dL_holds_139 (by decide +kernel) ?_
        refine lv_aload_n hx hb dL_holds_140 rfl (lv_at hl 0 rfl) ?_
        refine lv_iconst (v := (3 : Int32)) hx hb dL_holds_141 (by decide +kernel) ?_
        refine bRV (W0 := wO cI cS qx a0 a1 a2 a3 b3 a4 sn sc has ([]) (st, tr, hi)) (wc := [(qx, .inr (6, [.ref (a0 0), .ref (a1 0), .ref (a2 0), .ref (a3 0), .ref (a4 0), .int has]))] :: wSt cI a0 st :: []) (r := st.2.2.2.1.2.2.2.2.2.1) ⟨hx, hb, hml, hown, hts⟩ (KR.eq (kX6_copy l D cI cS qx a0 (a1 0) (a2 0) (a3 0) (a4 0) has (3 : Int32) st) (cp_3 h0)) (cwV 1 hts gL_holds_X6_copy rfl rfl rfl (by decide +kernel) ⟨Nat.le_of_ble_eq_true rfl, Nat.le_of_ble_eq_true rfl⟩) hE hP rfl rfl [0, 1] rfl rfl rfl hl.1 rfl (Nat.le_of_ble_eq_true rfl) ⟨Nat.le_of_ble_eq_true rfl, Nat.le_of_ble_eq_true rfl⟩ dL_holds_142 ?_
        refine lv_bipush (v := (32 : Int32)) hx hb dL_holds_145 (by decide +kernel) ?_
        refine lv_icmp_ne (tgt := 154) hx hb dL_holds_147 (by decide) (fun _ => ?_) (fun c => absurd c (cu_n hI hph))
        refine lv_iconst (v := (0 : Int32)) hx hb dL_holds_154 (by decide +kernel) ?_
        refine lv_icmp_ne (tgt := 180) hx hb dL_holds_155 (by decide) (fun c => absurd (show (0 : Int32) = (0 : Int32) by decide) c) (fun _ => ?_)
        refine lv_iload_n hx hb dL_holds_158 rfl (lv_at hl 2 rfl) ?_
        refine lv_if_eq (tgt := 182) hx hb dL_holds_159 (by decide) (fun c => absurd c (show ¬ (1 : Int32) = (0 : Int32) by decide)) (fun _ => ?_)
        refine lv_aload_n hx hb dL_holds_162 rfl (lv_at hl 0 rfl) ?_
        refine lv_iconst (v := (4 : Int32)) hx hb dL_holds_163 (by decide +kernel) ?_
        refine bRV (W0 := wO cI cS qx a0 a1 a2 a3 b3 a4 sn sc has ([]) (st, tr, hi)) (wc := [(qx, .inr (6, [.ref (a0 0), .ref (a1 0), .ref (a2 0), .ref (a3 0), .ref (a4 0), .int has]))] :: wSt cI a0 st :: []) (r := st.2.2.2.1.2.1.2.2.2) ⟨hx, hb, hml, hown, hts⟩ (KR.eq (kX6_copy l D cI cS qx a0 (a1 0) (a2 0) (a3 0) (a4 0) has (4 : Int32) st) (cp_4 h0)) (cwV 1 hts gL_holds_X6_copy rfl rfl rfl (by decide +kernel) ⟨Nat.le_of_ble_eq_true rfl, Nat.le_of_ble_eq_true rfl⟩) hE hP rfl rfl [0, 1] rfl rfl rfl hl.1 rfl (Nat.le_of_ble_eq_true rfl) ⟨Nat.le_of_ble_eq_true rfl, Nat.le_of_ble_eq_true rfl⟩ dL_holds_164 ?_
        refine lv_if_lt (tgt := 180) hx hb dL_holds_167 (by decide) (fun c => absurd c (bd_nn hzb (by omega))) (fun _ => ?_)
        refine lv_aload_n hx hb dL_holds_170 rfl (lv_at hl 0 rfl) ?_
        refine lv_iconst (v := (4 : Int32)) hx hb dL_holds_171 (by decide +kernel) ?_
        refine bRV (W0 := wO cI cS qx a0 a1 a2 a3 b3 a4 sn sc has ([]) (st, tr, hi)) (wc := [(qx, .inr (6, [.ref (a0 0), .ref (a1 0), .ref (a2 0), .ref (a3 0), .ref (a4 0), .int has]))] :: wSt cI a0 st :: []) (r := st.2.2.2.1.2.1.2.2.2) ⟨hx, hb, hml, hown, hts⟩ (KR.eq (kX6_copy l D cI cS qx a0 (a1 0) (a2 0) (a3 0) (a4 0) has (4 : Int32) st) (cp_4 h0)) (cwV 1 hts gL_holds_X6_copy rfl rfl rfl (by decide +kernel) ⟨Nat.le_of_ble_eq_true rfl, Nat.le_of_ble_eq_true rfl⟩) hE hP rfl rfl [0, 1] rfl rfl rfl hl.1 rfl (Nat.le_of_ble_eq_true rfl) ⟨Nat.le_of_ble_eq_true rfl, Nat.le_of_ble_eq_true rfl⟩ dL_holds_172 ?_
        refine lv_bipush (v := (24 : Int32)) hx hb dL_holds_175 (by decide +kernel) ?_
        refine lv_icmp_le (tgt := 182) hx hb dL_holds_177 (by decide) (fun _ => ?_) (fun c => absurd (bd_le hzb (by omega)) c)
        refine lv_iconst (v := (1 : Int32)) hx hb dL_holds_182 (by decide +kernel) ?_
        refine lv_istore (lv' := [(5, .int ((1 : Int32))), (0, .ref qx), (1, .int ((1 : Int32))), (2, .int ((1 : Int32))), (3, .int ((unl st 32))), (4, .int ((fst st 32)))]) hx hb dL_holds_183 hl (by decide) rfl (fun ls hl => ?_)
        refine lv_iload hx hb dL_holds_185 (lv_at hl 0 rfl) ?_
        refine lv_bipush (v := (6 : Int32)) hx hb dL_holds_187 (by decide +kernel) ?_
        refine lv_icmp_ge (tgt := 247) hx hb dL_holds_189 (by decide) (fun c => absurd c (show ¬ (6 : Int32) ≤ (1 : Int32) by decide)) (fun _ => ?_)
        refine lv_aload_n hx hb dL_holds_192 rfl (lv_at hl 1 rfl) ?_
        refine lv_iload hx hb dL_holds_193 (lv_at hl 0 rfl) ?_
        refine bRV (W0 := wO cI cS qx a0 a1 a2 a3 b3 a4 sn sc has ([]) (st, tr, hi)) (wc := [(qx, .inr (6, [.ref (a0 0), .ref (a1 0), .ref (a2 0), .ref (a3 0), .ref (a4 0), .int has]))] :: wSt cI a0 st :: []) (r := st.2.2.2.1.2.2.2.1) ⟨hx, hb, hml, hown, hts⟩ (KR.eq (kX6_copy l D cI cS qx a0 (a1 0) (a2 0) (a3 0) (a4 0) has (1 : Int32) st) (cp_1 h0)) (cwV 1 hts gL_holds_X6_copy rfl rfl rfl (by decide +kernel) ⟨Nat.le_of_ble_eq_true rfl, Nat.le_of_ble_eq_true rfl⟩) hE hP rfl rfl [0, 1] rfl rfl rfl hl.1 rfl (Nat.le_of_ble_eq_true rfl) ⟨Nat.le_of_ble_eq_true rfl, Nat.le_of_ble_eq_true rfl⟩ dL_holds_195 ?_
        refine lv_bipush (v := (-5 : Int32)) hx hb dL_holds_198 (by decide +kernel) ?_
        refine lv_icmp_ne (tgt := 207) hx hb dL_holds_200 (by decide) (fun _ => ?_) (fun c => absurd c (bd_ne hcp.1 (by omega) (by decide)))
        refine lv_iconst (v := (0 : Int32)) hx hb dL_holds_207 (by decide +kernel) ?_
        refine lv_iload hx hb dL_holds_208 (lv_at hl 0 rfl) ?_
        refine lv_iconst (v := (5 : Int32)) hx hb dL_holds_210 (by decide +kernel) ?_
        refine lv_icmp_ge (tgt := 226) hx hb dL_holds_211 (by decide) (fun c => absurd c (show ¬ (5 : Int32) ≤ (1 : Int32) by decide)) (fun _ => ?_)
        refine lv_iload_n hx hb dL_holds_214 rfl (lv_at hl 3 rfl) ?_
        refine lv_if_ne (tgt := 222) hx hb dL_holds_215 (by decide) (fun _ => ?_) (fun c => absurd c (show ¬ (1 : Int32) = (0 : Int32) by decide))
        refine lv_iconst (v := (0 : Int32)) hx hb dL_holds_222 (by decide +kernel) ?_
        refine lv_goto (tgt := 236) hx hb dL_holds_223 (by decide) ?_
        refine lv_icmp_eq (tgt := 241) hx hb dL_holds_236 (by decide) (fun _ => ?_) (fun c => absurd (show (0 : Int32) = (0 : Int32) by decide) c)
        refine lv_iinc (v := (2 : Int32)) (lv' := [(5, .int ((2 : Int32))), (0, .ref qx), (1, .int ((1 : Int32))), (2, .int ((1 : Int32))), (3, .int ((unl st 32))), (4, .int ((fst st 32)))]) hx hb dL_holds_241 hl (k := 0) rfl (by decide) (by decide) rfl (fun ls hl => ?_)
        refine lv_goto (tgt := 185) hx hb dL_holds_244 (by decide) ?_
        refine lv_iload hx hb dL_holds_185 (lv_at hl 0 rfl) ?_
        refine lv_bipush (v := (6 : Int32)) hx hb dL_holds_187 (by decide +kernel) ?_
        refine lv_icmp_ge (tgt := 247) hx hb dL_holds_189 (by decide) (fun c => absurd c (show ¬ (6 : Int32) ≤ (2 : Int32) by decide)) (fun _ => ?_)
        refine lv_aload_n hx hb dL_holds_192 rfl (lv_at hl 1 rfl) ?_
        refine lv_iload hx hb dL_holds_193 (lv_at hl 0 rfl) ?_
        refine bRV (W0 := wO cI cS qx a0 a1 a2 a3 b3 a4 sn sc has ([]) (st, tr, hi)) (wc := [(qx, .inr (6, [.ref (a0 0), .ref (a1 0), .ref (a2 0), .ref (a3 0), .ref (a4 0), .int has]))] :: wSt cI a0 st :: []) (r := st.2.2.2.1.2.2.2.2.1) ⟨hx, hb, hml, hown, hts⟩ (KR.eq (kX6_copy l D cI cS qx a0 (a1 0) (a2 0) (a3 0) (a4 0) has (2 : Int32) st) (cp_2 h0)) (cwV 1 hts gL_holds_X6_copy rfl rfl rfl (by decide +kernel) ⟨Nat.le_of_ble_eq_true rfl, Nat.le_of_ble_eq_true rfl⟩) hE hP rfl rfl [0, 1] rfl rfl rfl hl.1 rfl (Nat.le_of_ble_eq_true rfl) ⟨Nat.le_of_ble_eq_true rfl, Nat.le_of_ble_eq_true rfl⟩ dL_holds_195 ?_
        refine lv_bipush (v := (-5 : Int32)) hx hb dL_holds_198 (by decide +kernel) ?_
        refine lv_icmp_ne (tgt := 207) hx hb dL_holds_200 (by decide) (fun _ => ?_) (fun c => absurd c (lt_5 hcp.2.1))
        refine lv_iconst (v := (0 : Int32)) hx hb dL_holds_207 (by decide +kernel) ?_
        refine lv_iload hx hb dL_holds_208 (lv_at hl 0 rfl) ?_
        refine lv_iconst (v := (5 : Int32)) hx hb dL_holds_210 (by decide +kernel) ?_
        refine lv_icmp_ge (tgt := 226) hx hb dL_holds_211 (by decide) (fun c => absurd c (show ¬ (5 : Int32) ≤ (2 : Int32) by decide)) (fun _ => ?_)
        refine lv_iload_n hx hb dL_holds_214 rfl (lv_at hl 3 rfl) ?_
        refine lv_if_ne (tgt := 222) hx hb dL_holds_215 (by decide) (fun _ => ?_) (fun c => absurd c (show ¬ (1 : Int32) = (0 : Int32) by decide))
        refine lv_iconst (v := (0 : Int32)) hx hb dL_holds_222 (by decide +kernel) ?_
        refine lv_goto (tgt := 236) hx hb dL_holds_223 (by decide) ?_
        refine lv_icmp_eq (tgt := 241) hx hb dL_holds_236 (by decide) (fun _ => ?_) (fun c => absurd (show (0 : Int32) = (0 : Int32) by decide) c)
        refine lv_iinc (v := (3 : Int32)) (lv' := [(5, .int ((3 : Int32))), (0, .ref qx), (1, .int ((1 : Int32))), (2, .int ((1 : Int32))), (3, .int ((unl st 32))), (4, .int ((fst st 32)))]) hx hb dL_holds_241 hl (k := 0) rfl (by decide) (by decide) rfl (fun ls hl => ?_)
        refine lv_goto (tgt := 185) hx hb dL_holds_244 (by decide) ?_
        refine lv_iload hx hb dL_holds_185 (lv_at hl 0 rfl) ?_
        refine lv_bipush (v := (6 : Int32)) hx hb dL_holds_187 (by decide +kernel) ?_
        refine lv_icmp_ge (tgt := 247) hx hb dL_holds_189 (by decide) (fun c => absurd c (show ¬ (6 : Int32) ≤ (3 : Int32) by decide)) (fun _ => ?_)
        refine lv_aload_n hx hb dL_holds_192 rfl (lv_at hl 1 rfl) ?_
        refine lv_iload hx hb dL_holds_193 (lv_at hl 0 rfl) ?_
        refine bRV (W0 := wO cI cS qx a0 a1 a2 a3 b3 a4 sn sc has ([]) (st, tr, hi)) (wc := [(qx, .inr (6, [.ref (a0 0), .ref (a1 0), .ref (a2 0), .ref (a3 0), .ref (a4 0), .int has]))] :: wSt cI a0 st :: []) (r := st.2.2.2.1.2.2.2.2.2.1) ⟨hx, hb, hml, hown, hts⟩ (KR.eq (kX6_copy l D cI cS qx a0 (a1 0) (a2 0) (a3 0) (a4 0) has (3 : Int32) st) (cp_3 h0)) (cwV 1 hts gL_holds_X6_copy rfl rfl rfl (by decide +kernel) ⟨Nat.le_of_ble_eq_true rfl, Nat.le_of_ble_eq_true rfl⟩) hE hP rfl rfl [0, 1] rfl rfl rfl hl.1 rfl (Nat.le_of_ble_eq_true rfl) ⟨Nat.le_of_ble_eq_true rfl, Nat.le_of_ble_eq_true rfl⟩ dL_holds_195 ?_
        refine lv_bipush (v := (-5 : Int32)) hx hb dL_holds_198 (by decide +kernel) ?_
        refine lv_icmp_ne (tgt := 207) hx hb dL_holds_200 (by decide) (fun _ => ?_) (fun c => absurd c (bd_ne hcb (by omega) (by decide)))
        refine lv_iconst (v := (0 : Int32)) hx hb dL_holds_207 (by decide +kernel) ?_
        refine lv_iload hx hb dL_holds_208 (lv_at hl 0 rfl) ?_
        refine lv_iconst (v := (5 : Int32)) hx hb dL_holds_210 (by decide +kernel) ?_
        refine lv_icmp_ge (tgt := 226) hx hb dL_holds_211 (by decide) (fun c => absurd c (show ¬ (5 : Int32) ≤ (3 : Int32) by decide)) (fun _ => ?_)
        refine lv_iload_n hx hb dL_holds_214 rfl (lv_at hl 3 rfl) ?_
        refine lv_if_ne (tgt := 222) hx hb dL_holds_215 (by decide) (fun _ => ?_) (fun c => absurd c (show ¬ (1 : Int32) = (0 : Int32) by decide))
        refine lv_iconst (v := (0 : Int32)) hx hb dL_holds_222 (by decide +kernel) ?_
        refine lv_goto (tgt := 236) hx hb dL_holds_223 (by decide) ?_
        refine lv_icmp_eq (tgt := 241) hx hb dL_holds_236 (by decide) (fun _ => ?_) (fun c => absurd (show (0 : Int32) = (0 : Int32) by decide) c)
        refine lv_iinc (v := (4 : Int32)) (lv' := [(5, .int ((4 : Int32))), (0, .ref qx), (1, .int ((1 : Int32))), (2, .int ((1 : Int32))), (3, .int ((unl st 32))), (4, .int ((fst st 32)))]) hx hb dL_holds_241 hl (k := 0) rfl (by decide) (by decide) rfl (fun ls hl => ?_)
        refine lv_goto (tgt := 185) hx hb dL_holds_244 (by decide) ?_
        refine lv_iload hx hb dL_holds_185 (lv_at hl 0 rfl) ?_
        refine lv_bipush (v := (6 : Int32)) hx hb dL_holds_187 (by decide +kernel) ?_
        refine lv_icmp_ge (tgt := 247) hx hb dL_holds_189 (by decide) (fun c => absurd c (show ¬ (6 : Int32) ≤ (4 : Int32) by decide)) (fun _ => ?_)
        refine lv_aload_n hx hb dL_holds_192 rfl (lv_at hl 1 rfl) ?_
        refine lv_iload hx hb dL_holds_193 (lv_at hl 0 rfl) ?_
        refine bRV (W0 := wO cI cS qx a0 a1 a2 a3 b3 a4 sn sc has ([]) (st, tr, hi)) (wc := [(qx, .inr (6, [.ref (a0 0), .ref (a1 0), .ref (a2 0), .ref (a3 0), .ref (a4 0), .int has]))] :: wSt cI a0 st :: []) (r := st.2.2.2.1.2.1.2.2.2) ⟨hx, hb, hml, hown, hts⟩ (KR.eq (kX6_copy l D cI cS qx a0 (a1 0) (a2 0) (a3 0) (a4 0) has (4 : Int32) st) (cp_4 h0)) (cwV 1 hts gL_holds_X6_copy rfl rfl rfl (by decide +kernel) ⟨Nat.le_of_ble_eq_true rfl, Nat.le_of_ble_eq_true rfl⟩) hE hP rfl rfl [0, 1] rfl rfl rfl hl.1 rfl (Nat.le_of_ble_eq_true rfl) ⟨Nat.le_of_ble_eq_true rfl, Nat.le_of_ble_eq_true rfl⟩ dL_holds_195 ?_
        refine lv_bipush (v := (-5 : Int32)) hx hb dL_holds_198 (by decide +kernel) ?_
        refine lv_icmp_ne (tgt := 207) hx hb dL_holds_200 (by decide) (fun _ => ?_) (fun c => absurd c (bd_ne hzb (by omega) (by decide)))
        refine lv_iconst (v := (0 : Int32)) hx hb dL_holds_207 (by decide +kernel) ?_
        refine lv_iload hx hb dL_holds_208 (lv_at hl 0 rfl) ?_
        refine lv_iconst (v := (5 : Int32)) hx hb dL_holds_210 (by decide +kernel) ?_
        refine lv_icmp_ge (tgt := 226) hx hb dL_holds_211 (by decide) (fun c => absurd c (show ¬ (5 : Int32) ≤ (4 : Int32) by decide)) (fun _ => ?_)
        refine lv_iload_n hx hb dL_holds_214 rfl (lv_at hl 3 rfl) ?_
        refine lv_if_ne (tgt := 222) hx hb dL_holds_215 (by decide) (fun _ => ?_) (fun c => absurd c (show ¬ (1 : Int32) = (0 : Int32) by decide))
        refine lv_iconst (v := (0 : Int32)) hx hb dL_holds_222 (by decide +kernel) ?_
        refine lv_goto (tgt := 236) hx hb dL_holds_223 (by decide) ?_
        refine lv_icmp_eq (tgt := 241) hx hb dL_holds_236 (by decide) (fun _ => ?_) (fun c => absurd (show (0 : Int32) = (0 : Int32) by decide) c)
        refine lv_iinc (v := (5 : Int32)) (lv' := [(5, .int ((5 : Int32))), (0, .ref qx), (1, .int ((1 : Int32))), (2, .int ((1 : Int32))), (3, .int ((unl st 32))), (4, .int ((fst st 32)))]) hx hb dL_holds_241 hl (k := 0) rfl (by decide) (by decide) rfl (fun ls hl => ?_)
        refine lv_goto (tgt := 185) hx hb dL_holds_244 (by decide) ?_
        refine lv_iload hx hb dL_holds_185 (lv_at hl 0 rfl) ?_
        refine lv_bipush (v := (6 : Int32)) hx hb dL_holds_187 (by decide +kernel) ?_
        refine lv_icmp_ge (tgt := 247) hx hb dL_holds_189 (by decide) (fun c => absurd c (show ¬ (6 : Int32) ≤ (5 : Int32) by decide)) (fun _ => ?_)
        refine lv_aload_n hx hb dL_holds_192 rfl (lv_at hl 1 rfl) ?_
        refine lv_iload hx hb dL_holds_193 (lv_at hl 0 rfl) ?_
        refine bRV (W0 := wO cI cS qx a0 a1 a2 a3 b3 a4 sn sc has ([]) (st, tr, hi)) (wc := [(qx, .inr (6, [.ref (a0 0), .ref (a1 0), .ref (a2 0), .ref (a3 0), .ref (a4 0), .int has]))] :: wSt cI a0 st :: []) (r := (-5 : Int32)) ⟨hx, hb, hml, hown, hts⟩ (KR.eq (kX6_copy l D cI cS qx a0 (a1 0) (a2 0) (a3 0) (a4 0) has (5 : Int32) st) ((cp_5 st).trans (if_neg (by rw [hph]; decide)))) (cwV 1 hts gL_holds_X6_copy rfl rfl rfl (by decide +kernel) ⟨Nat.le_of_ble_eq_true rfl, Nat.le_of_ble_eq_true rfl⟩) hE hP rfl rfl [0, 1] rfl rfl rfl hl.1 rfl (Nat.le_of_ble_eq_true rfl) ⟨Nat.le_of_ble_eq_true rfl, Nat.le_of_ble_eq_true rfl⟩ dL_holds_195 ?_
        refine lv_bipush (v := (-5 : Int32)) hx hb dL_holds_198 (by decide +kernel) ?_
        refine lv_icmp_ne (tgt := 207) hx hb dL_holds_200 (by decide) (fun c => absurd (show (-5 : Int32) = (-5 : Int32) by decide) c) (fun _ => ?_)
        refine lv_iconst (v := (1 : Int32)) hx hb dL_holds_203 (by decide +kernel) ?_
        refine lv_goto (tgt := 208) hx hb dL_holds_204 (by decide) ?_
        refine lv_iload hx hb dL_holds_208 (lv_at hl 0 rfl) ?_
        refine lv_iconst (v := (5 : Int32)) hx hb dL_holds_210 (by decide +kernel) ?_
        refine lv_icmp_ge (tgt := 226) hx hb dL_holds_211 (by decide) (fun _ => ?_) (fun c => absurd (show (5 : Int32) ≤ (5 : Int32) by decide) c)
        refine lv_iload_n hx hb dL_holds_226 rfl (lv_at hl 2 rfl) ?_
        refine lv_iconst (v := (3 : Int32)) hx hb dL_holds_227 (by decide +kernel) ?_
        refine lv_icmp_eq (tgt := 235) hx hb dL_holds_228 (by decide) (fun c => absurd c (show ¬ (1 : Int32) = (3 : Int32) by decide)) (fun _ => ?_)
        refine lv_iconst (v := (1 : Int32)) hx hb dL_holds_231 (by decide +kernel) ?_
        refine lv_goto (tgt := 236) hx hb dL_holds_232 (by decide) ?_
        refine lv_icmp_eq (tgt := 241) hx hb dL_holds_236 (by decide) (fun _ => ?_) (fun c => absurd (show (1 : Int32) = (1 : Int32) by decide) c)
        refine lv_iinc (v := (6 : Int32)) (lv' := [(5, .int ((6 : Int32))), (0, .ref qx), (1, .int ((1 : Int32))), (2, .int ((1 : Int32))), (3, .int ((unl st 32))), (4, .int ((fst st 32)))]) hx hb dL_holds_241 hl (k := 0) rfl (by decide) (by decide) rfl (fun ls hl => ?_)
        refine lv_goto (tgt := 185) hx hb dL_holds_244 (by decide) ?_
        refine lv_iload hx hb dL_holds_185 (lv_at hl 0 rfl) ?_
        refine lv_bipush (v := (6 : Int32)) hx hb dL_holds_187 (by decide +kernel) ?_
        refine lv_icmp_ge (tgt := 247) hx hb dL_holds_189 (by decide) (fun _ => ?_) (fun c => absurd (show (6 : Int32) ≤ (6 : Int32) by decide) c)
        refine lv_iload_n hx hb dL_holds_247 rfl (lv_at hl 2 rfl) ?_
        refine lv_iconst (v := (2 : Int32)) hx hb dL_holds_248 (by decide +kernel) ?_
        refine lv_icmp_ne (tgt := 264) hx hb dL_holds_249 (by decide) (fun _ => ?_) (fun c => absurd c (show ¬ (1 : Int32) = (2 : Int32) by decide))
        refine lv_iconst (v := (0 : Int32)) hx hb dL_holds_264 (by decide +kernel) ?_
        refine lv_istore (lv' := [(5, .int ((0 : Int32))), (0, .ref qx), (1, .int ((1 : Int32))), (2, .int ((1 : Int32))), (3, .int ((unl st 32))), (4, .int ((fst st 32)))]) hx hb dL_holds_265 hl (by decide) rfl (fun ls hl => ?_)
        refine lv_iload_n hx hb dL_holds_267 rfl (lv_at hl 2 rfl) ?_
        refine lv_iconst (v := (2 : Int32)) hx hb dL_holds_268 (by decide +kernel) ?_
        refine lv_icmp_lt (tgt := 284) hx hb dL_holds_269 (by decide) (fun _ => ?_) (fun c => absurd (show (1 : Int32) < (2 : Int32) by decide) c)
        refine lv_aload_n hx hb dL_holds_284 rfl (lv_at hl 1 rfl) ?_
        refine lv_iconst (v := (0 : Int32)) hx hb dL_holds_285 (by decide +kernel) ?_
        refine bRV (W0 := wO cI cS qx a0 a1 a2 a3 b3 a4 sn sc has ([]) (st, tr, hi)) (wc := [(qx, .inr (6, [.ref (a0 0), .ref (a1 0), .ref (a2 0), .ref (a3 0), .ref (a4 0), .int has]))] :: wSt cI a0 st :: []) (r := (st.2.2.2.2.2 0)) ⟨hx, hb, hml, hown, hts⟩ (KR.eq (kX6_total l D cI cS qx a0 (a1 0) (a2 0) (a3 0) (a4 0) has (0 : Int32) st) (tot_i (i := 0) (by omega))) (cwV 1 hts gL_holds_X6_total rfl rfl rfl (by decide +kernel) ⟨Nat.le_of_ble_eq_true rfl, Nat.le_of_ble_eq_true rfl⟩) hE hP rfl rfl [0, 1] rfl rfl rfl hl.1 rfl (Nat.le_of_ble_eq_true rfl) ⟨Nat.le_of_ble_eq_true rfl, Nat.le_of_ble_eq_true rfl⟩ dL_holds_286 ?_
        refine lv_aload_n hx hb dL_holds_289 rfl (lv_at hl 1 rfl) ?_
        refine lv_iconst (v := (1 : Int32)) hx hb dL_holds_290 (by decide +kernel) ?_
        refine bRV (W0 := wO cI cS qx a0 a1 a2 a3 b3 a4 sn sc has ([]) (st, tr, hi)) (wc := [(qx, .inr (6, [.ref (a0 0), .ref (a1 0), .ref (a2 0), .ref (a3 0), .ref (a4 0), .int has]))] :: wSt cI a0 st :: []) (r := (st.2.2.2.2.2 1)) ⟨hx, hb, hml, hown, hts⟩ (KR.eq (kX6_total l D cI cS qx a0 (a1 0) (a2 0) (a3 0) (a4 0) has (1 : Int32) st) (tot_i (i := 1) (by omega))) (cwV 1 hts gL_holds_X6_total rfl rfl rfl (by decide +kernel) ⟨Nat.le_of_ble_eq_true rfl, Nat.le_of_ble_eq_true rfl⟩) hE hP rfl rfl [0, 1] rfl rfl rfl hl.1 rfl (Nat.le_of_ble_eq_true rfl) ⟨Nat.le_of_ble_eq_true rfl, Nat.le_of_ble_eq_true rfl⟩ dL_holds_291 ?_
        refine lv_aload_n hx hb dL_holds_294 rfl (lv_at hl 1 rfl) ?_
        refine lv_iconst (v := (2 : Int32)) hx hb dL_holds_295 (by decide +kernel) ?_
        refine bRV (W0 := wO cI cS qx a0 a1 a2 a3 b3 a4 sn sc has ([]) (st, tr, hi)) (wc := [(qx, .inr (6, [.ref (a0 0), .ref (a1 0), .ref (a2 0), .ref (a3 0), .ref (a4 0), .int has]))] :: wSt cI a0 st :: []) (r := (st.2.2.2.2.2 2)) ⟨hx, hb, hml, hown, hts⟩ (KR.eq (kX6_total l D cI cS qx a0 (a1 0) (a2 0) (a3 0) (a4 0) has (2 : Int32) st) (tot_i (i := 2) (by omega))) (cwV 1 hts gL_holds_X6_total rfl rfl rfl (by decide +kernel) ⟨Nat.le_of_ble_eq_true rfl, Nat.le_of_ble_eq_true rfl⟩) hE hP rfl rfl [0, 1] rfl rfl rfl hl.1 rfl (Nat.le_of_ble_eq_true rfl) ⟨Nat.le_of_ble_eq_true rfl, Nat.le_of_ble_eq_true rfl⟩ dL_holds_296 ?_
        refine lv_iadd hx hb dL_holds_299 ?_
        refine lv_iload_n hx hb dL_holds_300 rfl (lv_at hl 3 rfl) ?_
        refine lv_if_eq (tgt := 308) hx hb dL_holds_301 (by decide) (fun c => absurd c (show ¬ (1 : Int32) = (0 : Int32) by decide)) (fun _ => ?_)
        refine lv_iconst (v := (1 : Int32)) hx hb dL_holds_304 (by decide +kernel) ?_
        refine lv_goto (tgt := 309) hx hb dL_holds_305 (by decide) ?_
        refine lv_iadd hx hb dL_holds_309 ?_
        refine lv_icmp_ne (tgt := 430) hx hb dL_holds_310 (by decide) (fun c => absurd (to_1 hI h0) c) (fun _ => ?_)
        refine lv_aload_n hx hb dL_holds_313 rfl (lv_at hl 1 rfl) ?_
        refine cAV (W0 := fl (wO cI cS qx a0 a1 a2 a3 b3 a4 sn sc has ([]) (st, tr, hi))) (wc := fl ([(qx, .inr (6, [.ref (a0 0), .ref (a1 0), .ref (a2 0), .ref (a3 0), .ref (a4 0), .int has]))] :: wSt cI a0 st :: [])) (r := Value.double dd) ⟨hx, hb, hml, hown, hts⟩ (KA.eq (kX6_progress l D cI cS qx a0 (a1 0) (a2 0) (a3 0) (a4 0) has st hI.ws) ed) (cwV 0 hts gL_holds_X6_progress rfl rfl rfl (by decide +kernel) ⟨Nat.le_of_ble_eq_true rfl, Nat.le_of_ble_eq_true rfl⟩) hE hP 0 rfl rfl [0, 1, 2, 3, 4, 5, 6, 7, 8, 9, 10, 11, 12, 13] rfl rfl hl.1 rfl (Nat.le_of_ble_eq_true rfl) ⟨Nat.le_of_ble_eq_true rfl, Nat.le_of_ble_eq_true rfl⟩ dL_holds_314 ?_
        refine lv_dconst0 hx hb dL_holds_317 ?_
        refine lv_dcmp hx hb dL_holds_318 ?_
        refine lv_if_lt (tgt := 430) hx hb dL_holds_319 (by decide) (fun c => absurd c dl) (fun _ => ?_)
        refine lv_aload_n hx hb dL_holds_322 rfl (lv_at hl 1 rfl) ?_
        refine cAV (W0 := fl (wO cI cS qx a0 a1 a2 a3 b3 a4 sn sc has ([]) (st, tr, hi))) (wc := fl ([(qx, .inr (6, [.ref (a0 0), .ref (a1 0), .ref (a2 0), .ref (a3 0), .ref (a4 0), .int has]))] :: wSt cI a0 st :: [])) (r := Value.double dd) ⟨hx, hb, hml, hown, hts⟩ (KA.eq (kX6_progress l D cI cS qx a0 (a1 0) (a2 0) (a3 0) (a4 0) has st hI.ws) ed) (cwV 0 hts gL_holds_X6_progress rfl rfl rfl (by decide +kernel) ⟨Nat.le_of_ble_eq_true rfl, Nat.le_of_ble_eq_true rfl⟩) hE hP 0 rfl rfl [0, 1, 2, 3, 4, 5, 6, 7, 8, 9, 10, 11, 12, 13] rfl rfl hl.1 rfl (Nat.le_of_ble_eq_true rfl) ⟨Nat.le_of_ble_eq_true rfl, Nat.le_of_ble_eq_true rfl⟩ dL_holds_323 ?_
        refine lv_dconst1 hx hb dL_holds_326 ?_
        refine lv_dcmp hx hb dL_holds_327 ?_
        refine lv_if_gt (tgt := 430) hx hb dL_holds_328 (by decide) (fun c => absurd c dg) (fun _ => ?_)
        refine lv_aload_n hx hb dL_holds_331 rfl (lv_at hl 1 rfl) ?_
        refine bIV (W0 := wO cI cS qx a0 a1 a2 a3 b3 a4 sn sc has ([]) (st, tr, hi)) (wc := [(qx, .inr (6, [.ref (a0 0), .ref (a1 0), .ref (a2 0), .ref (a3 0), .ref (a4 0), .int has]))] :: wSt cI a0 st :: wSt cI a2 tr :: []) (w1 := fun u : TTT => [(qx, .inr (6, [.ref (a0 0), .ref (a1 0), .ref (a2 0), .ref (a3 0), .ref (a4 0), .int has]))] :: wSt cI a0 u.1 :: wSt cI a2 u.2 :: []) ⟨hx, hb, hml, hown, hts⟩ (kX6_readyIn l D cI cS qx a0 a2 (a1 0) (a3 0) (a4 0) has (st, tr) hI.ws) (cwV 0 hts gL_holds_X6_readyIn rfl rfl rfl (by decide +kernel) ⟨Nat.le_of_ble_eq_true rfl, Nat.le_of_ble_eq_true rfl⟩) hE hP hD hS rfl rfl [0, 1, 3] rfl rfl (fun _ => rfl) (fun _ => rfl) rfl hl.1 rfl (Nat.le_of_ble_eq_true rfl) ⟨Nat.le_of_ble_eq_true rfl, Nat.le_of_ble_eq_true rfl⟩ dL_holds_332 (fun r_332 u_332 H locs e_332 hP hD hS => ?_)
        have hP : va_P D vwCl (fl (wO cI cS qx a0 a1 a2 a3 b3 a4 sn sc has ([]) (u_332.1, u_332.2, hi))) H := hP
        have hD : va_D A (fl (wO cI cS qx a0 a1 a2 a3 b3 a4 sn sc has ([]) (u_332.1, u_332.2, hi))) := hD
        have hr_332 := ready_chk e_332
        rw [hr_332.1] at hP hD
        refine lv_if_ne (tgt := 342) hx hb dL_holds_335 (by decide) (fun _ => ?_) (fun c => absurd c (fun q => nr (hr_332.2.1.mp q)))
        refine lv_iconst (v := (0 : Int32)) hx hb dL_holds_342 (by decide +kernel) ?_
        refine lv_iload hx hb dL_holds_343 (lv_at hl 0 rfl) ?_
        refine lv_icmp_ne (tgt := 430) hx hb dL_holds_345 (by decide) (fun c => absurd (show (0 : Int32) = (0 : Int32) by decide) c) (fun _ => ?_)
        refine lv_iload_n hx hb dL_holds_348 rfl (lv_at hl 2 rfl) ?_
        refine lv_iconst (v := (1 : Int32)) hx hb dL_holds_349 (by decide +kernel) ?_
        refine lv_icmp_eq (tgt := 367) hx hb dL_holds_350 (by decide) (fun _ => ?_) (fun c => absurd (show (1 : Int32) = (1 : Int32) by decide) c)
        refine lv_iload_n hx hb dL_holds_367 rfl (lv_at hl 3 rfl) ?_
        refine lv_if_eq (tgt := 383) hx hb dL_holds_368 (by decide) (fun c => absurd c (show ¬ (1 : Int32) = (0 : Int32) by decide)) (fun _ => ?_)
        refine lv_aload_n hx hb dL_holds_371 rfl (lv_at hl 1 rfl) ?_
        refine lv_iconst (v := (1 : Int32)) hx hb dL_holds_372 (by decide +kernel) ?_
        refine lv_iconst (v := (0 : Int32)) hx hb dL_holds_373 (by decide +kernel) ?_
        refine bRV (W0 := wO cI cS qx a0 a1 a2 a3 b3 a4 sn sc has ([]) (st, u_332.2, hi)) (wc := [(qx, .inr (6, [.ref (a0 0), .ref (a1 0), .ref (a2 0), .ref (a3 0), .ref (a4 0), .int has]))] :: wSt cI a0 st :: []) (r := (fX3_count st.2.2.2.1.1)) ⟨hx, hb, hml, hown, hts⟩ (KR.eq (kX6_table l D cI cS qx a0 (a1 0) (a2 0) (a3 0) (a4 0) has (1 : Int32) (0 : Int32) st) (tbl_1y h0)) (cwV 2 hts gL_holds_X6_table rfl rfl rfl (by decide +kernel) ⟨Nat.le_of_ble_eq_true rfl, Nat.le_of_ble_eq_true rfl⟩) hE hP rfl rfl [0, 1] rfl rfl rfl hl.1 rfl (Nat.le_of_ble_eq_true rfl) ⟨Nat.le_of_ble_eq_true rfl, Nat.le_of_ble_eq_true rfl⟩ dL_holds_374 ?_
        refine lv_if_lt (tgt := 430) hx hb dL_holds_377 (by decide) (fun c => absurd c (bd_nn (count_b _) (by omega))) (fun _ => ?_)
        refine lv_goto (tgt := 394) hx hb dL_holds_380 (by decide) ?_
        refine (Decidable.em (st.2.2.1 = (0 : Int32))).elim (fun hho => ?_) (fun hho => ?_)
        · refine lv_aload_n hx hb dL_holds_394 rfl (lv_at hl 1 rfl) ?_
          refine lv_iconst (v := (2 : Int32)) hx hb dL_holds_395 (by decide +kernel) ?_
          refine lv_iconst (v := (0 : Int32)) hx hb dL_holds_396 (by decide +kernel) ?_
          refine bRV (W0 := wO cI cS qx a0 a1 a2 a3 b3 a4 sn sc has ([]) (st, u_332.2, hi)) (wc := [(qx, .inr (6, [.ref (a0 0), .ref (a1 0), .ref (a2 0), .ref (a3 0), .ref (a4 0), .int has]))] :: wSt cI a0 st :: []) (r := (-5 : Int32)) ⟨hx, hb, hml, hown, hts⟩ (KR.eq (kX6_table l D cI cS qx a0 (a1 0) (a2 0) (a3 0) (a4 0) has (2 : Int32) (0 : Int32) st) (tbl_2n (by decide) hho)) (cwV 2 hts gL_holds_X6_table rfl rfl rfl (by decide +kernel) ⟨Nat.le_of_ble_eq_true rfl, Nat.le_of_ble_eq_true rfl⟩) hE hP rfl rfl [0, 1] rfl rfl rfl hl.1 rfl (Nat.le_of_ble_eq_true rfl) ⟨Nat.le_of_ble_eq_true rfl, Nat.le_of_ble_eq_true rfl⟩ dL_holds_397 ?_
          refine lv_bipush (v := (-5 : Int32)) hx hb dL_holds_400 (by decide +kernel) ?_
          refine lv_icmp_ne (tgt := 409) hx hb dL_holds_402 (by decide) (fun c => absurd (show (-5 : Int32) = (-5 : Int32) by decide) c) (fun _ => ?_)
          refine lv_iconst (v := (1 : Int32)) hx hb dL_holds_405 (by decide +kernel) ?_
          refine lv_goto (tgt := 410) hx hb dL_holds_406 (by decide) ?_
          refine lv_aload_n hx hb dL_holds_410 rfl (lv_at hl 1 rfl) ?_
          refine lv_iconst (v := (1 : Int32)) hx hb dL_holds_411 (by decide +kernel) ?_
          refine bRV (W0 := wO cI cS qx a0 a1 a2 a3 b3 a4 sn sc has ([]) (st, u_332.2, hi)) (wc := [(qx, .inr (6, [.ref (a0 0), .ref (a1 0), .ref (a2 0), .ref (a3 0), .ref (a4 0), .int has]))] :: wSt cI a0 st :: []) (r := (0 : Int32)) ⟨hx, hb, hml, hown, hts⟩ (KR.eq (kX6_total l D cI cS qx a0 (a1 0) (a2 0) (a3 0) (a4 0) has (1 : Int32) st) ((tot_i (i := 1) (by omega)).trans (to_y hI hho))) (cwV 1 hts gL_holds_X6_total rfl rfl rfl (by decide +kernel) ⟨Nat.le_of_ble_eq_true rfl, Nat.le_of_ble_eq_true rfl⟩) hE hP rfl rfl [0, 1] rfl rfl rfl hl.1 rfl (Nat.le_of_ble_eq_true rfl) ⟨Nat.le_of_ble_eq_true rfl, Nat.le_of_ble_eq_true rfl⟩ dL_holds_412 ?_
          refine lv_if_ne (tgt := 422) hx hb dL_holds_415 (by decide) (fun c => absurd (show (0 : Int32) = (0 : Int32) by decide) c) (fun _ => ?_)
          refine lv_iconst (v := (1 : Int32)) hx hb dL_holds_418 (by decide +kernel) ?_
          refine lv_goto (tgt := 423) hx hb dL_holds_419 (by decide) ?_
          refine lv_icmp_ne (tgt := 430) hx hb dL_holds_423 (by decide) (fun c => absurd (show (1 : Int32) = (1 : Int32) by decide) c) (fun _ => ?_)
          refine lv_iconst (v := (1 : Int32)) hx hb dL_holds_426 (by decide +kernel) ?_
          refine lv_goto (tgt := 431) hx hb dL_holds_427 (by decide) ?_
          exact hend _ _ _ u_332.2 _ _ _ _ dL_holds_431 rfl (Nat.le_refl _) (Nat.le_refl _) rfl hP hS
        · refine lv_aload_n hx hb dL_holds_394 rfl (lv_at hl 1 rfl) ?_
          refine lv_iconst (v := (2 : Int32)) hx hb dL_holds_395 (by decide +kernel) ?_
          refine lv_iconst (v := (0 : Int32)) hx hb dL_holds_396 (by decide +kernel) ?_
          refine bRV (W0 := wO cI cS qx a0 a1 a2 a3 b3 a4 sn sc has ([]) (st, u_332.2, hi)) (wc := [(qx, .inr (6, [.ref (a0 0), .ref (a1 0), .ref (a2 0), .ref (a3 0), .ref (a4 0), .int has]))] :: wSt cI a0 st :: []) (r := (fX3_count st.2.1)) ⟨hx, hb, hml, hown, hts⟩ (KR.eq (kX6_table l D cI cS qx a0 (a1 0) (a2 0) (a3 0) (a4 0) has (2 : Int32) (0 : Int32) st) (tbl_2y hho)) (cwV 2 hts gL_holds_X6_table rfl rfl rfl (by decide +kernel) ⟨Nat.le_of_ble_eq_true rfl, Nat.le_of_ble_eq_true rfl⟩) hE hP rfl rfl [0, 1] rfl rfl rfl hl.1 rfl (Nat.le_of_ble_eq_true rfl) ⟨Nat.le_of_ble_eq_true rfl, Nat.le_of_ble_eq_true rfl⟩ dL_holds_397 ?_
          refine lv_bipush (v := (-5 : Int32)) hx hb dL_holds_400 (by decide +kernel) ?_
          refine lv_icmp_ne (tgt := 409) hx hb dL_holds_402 (by decide) (fun _ => ?_) (fun c => absurd c (bd_ne (count_b _) (by omega) (by decide)))
          refine lv_iconst (v := (0 : Int32)) hx hb dL_holds_409 (by decide +kernel) ?_
          refine lv_aload_n hx hb dL_holds_410 rfl (lv_at hl 1 rfl) ?_
          refine lv_iconst (v := (1 : Int32)) hx hb dL_holds_411 (by decide +kernel) ?_
          refine bRV (W0 := wO cI cS qx a0 a1 a2 a3 b3 a4 sn sc has ([]) (st, u_332.2, hi)) (wc := [(qx, .inr (6, [.ref (a0 0), .ref (a1 0), .ref (a2 0), .ref (a3 0), .ref (a4 0), .int has]))] :: wSt cI a0 st :: []) (r := (st.2.2.2.2.2 1)) ⟨hx, hb, hml, hown, hts⟩ (KR.eq (kX6_total l D cI cS qx a0 (a1 0) (a2 0) (a3 0) (a4 0) has (1 : Int32) st) (tot_i (i := 1) (by omega))) (cwV 1 hts gL_holds_X6_total rfl rfl rfl (by decide +kernel) ⟨Nat.le_of_ble_eq_true rfl, Nat.le_of_ble_eq_true rfl⟩) hE hP rfl rfl [0, 1] rfl rfl rfl hl.1 rfl (Nat.le_of_ble_eq_true rfl) ⟨Nat.le_of_ble_eq_true rfl, Nat.le_of_ble_eq_true rfl⟩ dL_holds_412 ?_
          refine lv_if_ne (tgt := 422) hx hb dL_holds_415 (by decide) (fun _ => ?_) (fun c => absurd c (to_n hI he hho))
          refine lv_iconst (v := (0 : Int32)) hx hb dL_holds_422 (by decide +kernel) ?_
          refine lv_icmp_ne (tgt := 430) hx hb dL_holds_423 (by decide) (fun c => absurd (show (0 : Int32) = (0 : Int32) by decide) c) (fun _ => ?_)
          refine lv_iconst (v := (1 : Int32)) hx hb dL_holds_426 (by decide +kernel) ?_
          refine lv_goto (tgt := 431) hx hb dL_holds_427 (by decide) ?_
          exact hend _ _ _ u_332.2 _ _ _ _ dL_holds_431 rfl (Nat.le_refl _) (Nat.le_refl _) rfl hP hS
      | succ n ih =>
        intro hn ls hl
        rw [pk_m1 n] at hl
        have hl : lv_has ls 7 [(0, .ref qx), (1, .int ((1 : Int32))), (2, .int ((1 : Int32))), (3, .int ((unl st (32 - (n + 1))))), (4, .int ((fst st (32 - (n + 1))))), (5, .int ((nI n)))] := hl
        refine lv_iload hx hb dL_holds_26 (lv_at hl 5 rfl) ?_
        refine lv_if_lt (tgt := 91) hx hb dL_holds_28 (by decide) (fun c => absurd c (nI_pos (by omega))) (fun _ => ?_)
        refine lv_iload_n hx hb dL_holds_31 rfl (lv_at hl 2 rfl) ?_
        refine lv_if_eq (tgt := 91) hx hb dL_holds_32 (by decide) (fun c => absurd c (show ¬ (1 : Int32) = (0 : Int32) by decide)) (fun _ => ?_)
        refine lv_aload_n hx hb dL_holds_35 rfl (lv_at hl 0 rfl) ?_
        refine lv_iconst (v := (1 : Int32)) hx hb dL_holds_36 (by decide +kernel) ?_
        refine lv_iload hx hb dL_holds_37 (lv_at hl 5 rfl) ?_
        refine bRV (W0 := wO cI cS qx a0 a1 a2 a3 b3 a4 sn sc has ([]) (st, tr, hi)) (wc := [(qx, .inr (6, [.ref (a0 0), .ref (a1 0), .ref (a2 0), .ref (a3 0), .ref (a4 0), .int has]))] :: wSt cI a0 st :: []) (r := (st.2.2.2.1.1 n)) ⟨hx, hb, hml, hown, hts⟩ (KR.eq (kX6_value l D cI cS qx a0 (a1 0) (a2 0) (a3 0) (a4 0) has (1 : Int32) (nI n) st) (val_1y (by omega) h0)) (cwV 2 hts gL_holds_X6_value rfl rfl rfl (by decide +kernel) ⟨Nat.le_of_ble_eq_true rfl, Nat.le_of_ble_eq_true rfl⟩) hE hP rfl rfl [0, 1] rfl rfl rfl hl.1 rfl (Nat.le_of_ble_eq_true rfl) ⟨Nat.le_of_ble_eq_true rfl, Nat.le_of_ble_eq_true rfl⟩ dL_holds_39 ?_
        refine lv_aload_n hx hb dL_holds_42 rfl (lv_at hl 0 rfl) ?_
        refine lv_iload hx hb dL_holds_43 (lv_at hl 5 rfl) ?_
        refine bRS (W0 := wO cI cS qx a0 a1 a2 a3 b3 a4 sn sc has ([]) (st, tr, hi)) (wc := [(qx, .inr (6, [.ref (a0 0), .ref (a1 0), .ref (a2 0), .ref (a3 0), .ref (a4 0), .int has]))] :: wSt cI a0 st :: []) (r := (chg st.2.2.2.1.2.2.2.1 n (st.1 n))) ⟨hx, hb, hml, hown, hts⟩ (kL_due l D cI cS qx a0 a1 a2 a3 a4 has st hI h0 n (by omega)) (va_cwS 2 hts gL_holds_L_due rfl rfl rfl (by decide +kernel) ⟨Nat.le_of_ble_eq_true rfl, Nat.le_of_ble_eq_true rfl⟩) hE hP [0, 1] rfl rfl rfl hl.1 rfl (Nat.le_of_ble_eq_true rfl) ⟨Nat.le_of_ble_eq_true rfl, Nat.le_of_ble_eq_true rfl⟩ dL_holds_45 ?_
        refine lv_icmp_eq (tgt := 55) hx hb dL_holds_48 (by decide) (fun c_48 => ?_) (fun c_48 => ?_)
        · refine lv_iconst (v := (0 : Int32)) hx hb dL_holds_55 (by decide +kernel) ?_
          refine lv_istore (lv' := [(6, .int ((0 : Int32))), (0, .ref qx), (1, .int ((1 : Int32))), (2, .int ((1 : Int32))), (3, .int ((unl st (32 - (n + 1))))), (4, .int ((fst st (32 - (n + 1))))), (5, .int ((nI n)))]) hx hb dL_holds_56 hl (by decide) rfl (fun ls hl => ?_)
          refine lv_iload_n hx hb dL_holds_58 rfl (lv_at hl 4 rfl) ?_
          refine lv_iload hx hb dL_holds_59 (lv_at hl 0 rfl) ?_
          refine lv_if_eq (tgt := 68) hx hb dL_holds_61 (by decide) (fun _ => ?_) (fun c => absurd (show (0 : Int32) = (0 : Int32) by decide) c)
          refine lv_iconst (v := (0 : Int32)) hx hb dL_holds_68 (by decide +kernel) ?_
          refine lv_iadd hx hb dL_holds_69 ?_
          refine lv_istore_n (lv' := [(3, .int (((unl st (32 - (n + 1))) + (0 : Int32)))), (6, .int ((0 : Int32))), (0, .ref qx), (1, .int ((1 : Int32))), (2, .int ((1 : Int32))), (4, .int ((fst st (32 - (n + 1))))), (5, .int ((nI n)))]) hx hb dL_holds_70 rfl hl (by decide) rfl (fun ls hl => ?_)
          refine lv_iload hx hb dL_holds_71 (lv_at hl 1 rfl) ?_
          refine lv_if_eq (tgt := 81) hx hb dL_holds_73 (by decide) (fun _ => ?_) (fun c => absurd (show (0 : Int32) = (0 : Int32) by decide) c)
          refine lv_iload hx hb dL_holds_81 (lv_at hl 5 rfl) ?_
          refine lv_istore (lv' := [(4, .int ((fst st (32 - (n + 1))))), (3, .int (((unl st (32 - (n + 1))) + (0 : Int32)))), (6, .int ((0 : Int32))), (0, .ref qx), (1, .int ((1 : Int32))), (2, .int ((1 : Int32))), (5, .int ((nI n)))]) hx hb dL_holds_83 hl (by decide) rfl (fun ls hl => ?_)
          refine lv_iinc (v := ((nI n) + (-1 : Int32))) (lv' := [(5, .int (((nI n) + (-1 : Int32)))), (4, .int ((fst st (32 - (n + 1))))), (3, .int (((unl st (32 - (n + 1))) + (0 : Int32)))), (6, .int ((0 : Int32))), (0, .ref qx), (1, .int ((1 : Int32))), (2, .int ((1 : Int32)))]) hx hb dL_holds_85 hl (k := 6) rfl rfl (by decide) rfl (fun ls hl => ?_)
          refine lv_goto (tgt := 26) hx hb dL_holds_88 (by decide) ?_
          have q1 := un_eq (τ := st) (n := n) (by omega) c_48
          exact ih (by omega) _ (by rw [q1.1, q1.2]; exact lv_sub hl [4, 5, 6, 2, 1, 0] rfl)
        · refine lv_iconst (v := (1 : Int32)) hx hb dL_holds_51 (by decide +kernel) ?_
          refine lv_goto (tgt := 56) hx hb dL_holds_52 (by decide) ?_
          refine lv_istore (lv' := [(6, .int ((1 : Int32))), (0, .ref qx), (1, .int ((1 : Int32))), (2, .int ((1 : Int32))), (3, .int ((unl st (32 - (n + 1))))), (4, .int ((fst st (32 - (n + 1))))), (5, .int ((nI n)))]) hx hb dL_holds_56 hl (by decide) rfl (fun ls hl => ?_)
          refine lv_iload_n hx hb dL_holds_58 rfl (lv_at hl 4 rfl) ?_
          refine lv_iload hx hb dL_holds_59 (lv_at hl 0 rfl) ?_
          refine lv_if_eq (tgt := 68) hx hb dL_holds_61 (by decide) (fun c => absurd c (show ¬ (1 : Int32) = (0 : Int32) by decide)) (fun _ => ?_)
          refine lv_iconst (v := (1 : Int32)) hx hb dL_holds_64 (by decide +kernel) ?_
          refine lv_goto (tgt := 69) hx hb dL_holds_65 (by decide) ?_
          refine lv_iadd hx hb dL_holds_69 ?_
          refine lv_istore_n (lv' := [(3, .int (((unl st (32 - (n + 1))) + (1 : Int32)))), (6, .int ((1 : Int32))), (0, .ref qx), (1, .int ((1 : Int32))), (2, .int ((1 : Int32))), (4, .int ((fst st (32 - (n + 1))))), (5, .int ((nI n)))]) hx hb dL_holds_70 rfl hl (by decide) rfl (fun ls hl => ?_)
          refine lv_iload hx hb dL_holds_71 (lv_at hl 1 rfl) ?_
          refine lv_if_eq (tgt := 81) hx hb dL_holds_73 (by decide) (fun c => absurd c (show ¬ (1 : Int32) = (0 : Int32) by decide)) (fun _ => ?_)
          refine lv_iload hx hb dL_holds_76 (lv_at hl 6 rfl) ?_
          refine lv_goto (tgt := 83) hx hb dL_holds_78 (by decide) ?_
          refine lv_istore (lv' := [(4, .int ((nI n))), (3, .int (((unl st (32 - (n + 1))) + (1 : Int32)))), (6, .int ((1 : Int32))), (0, .ref qx), (1, .int ((1 : Int32))), (2, .int ((1 : Int32))), (5, .int ((nI n)))]) hx hb dL_holds_83 hl (by decide) rfl (fun ls hl => ?_)
          refine lv_iinc (v := ((nI n) + (-1 : Int32))) (lv' := [(5, .int (((nI n) + (-1 : Int32)))), (4, .int ((nI n))), (3, .int (((unl st (32 - (n + 1))) + (1 : Int32)))), (6, .int ((1 : Int32))), (0, .ref qx), (1, .int ((1 : Int32))), (2, .int ((1 : Int32)))]) hx hb dL_holds_85 hl (k := 6) rfl rfl (by decide) rfl (fun ls hl => ?_)
          refine lv_goto (tgt := 26) hx hb dL_holds_88 (by decide) ?_
          have q1 := un_ne (τ := st) (n := n) (by omega) c_48
          exact ih (by omega) _ (by rw [q1.1, q1.2]; exact lv_sub hl [4, 5, 6, 2, 1, 0] rfl)
    refine lv_aload_n hx hb dL_holds_0 rfl (lv_at hl 0 rfl) ?_
    refine lv_iconst (v := (0 : Int32)) hx hb dL_holds_1 (by decide +kernel) ?_
    refine bRV (W0 := wO cI cS qx a0 a1 a2 a3 b3 a4 sn sc has ([]) (st, tr, hi)) (wc := [(qx, .inr (6, [.ref (a0 0), .ref (a1 0), .ref (a2 0), .ref (a3 0), .ref (a4 0), .int has]))] :: wSt cI a0 st :: []) (r := (1 : Int32)) ⟨hx, hb, hml, hown, hts⟩ (KR.eq (kX6_copy l D cI cS qx a0 (a1 0) (a2 0) (a3 0) (a4 0) has (0 : Int32) st) ((cp_0 st).trans hph)) (cwV 1 hts gL_holds_X6_copy rfl rfl rfl (by decide +kernel) ⟨Nat.le_of_ble_eq_true rfl, Nat.le_of_ble_eq_true rfl⟩) hE hP rfl rfl [0, 1] rfl rfl rfl hl.1 rfl (Nat.le_of_ble_eq_true rfl) ⟨Nat.le_of_ble_eq_true rfl, Nat.le_of_ble_eq_true rfl⟩ dL_holds_2 ?_
    refine lv_istore_n (lv' := [(1, .int ((1 : Int32))), (0, .ref qx)]) hx hb dL_holds_5 rfl hl (by decide) rfl (fun ls hl => ?_)
    refine lv_iload_n hx hb dL_holds_6 rfl (lv_at hl 0 rfl) ?_
    refine lv_if_le (tgt := 14) hx hb dL_holds_7 (by decide) (fun c => absurd c (show ¬ (1 : Int32) ≤ (0 : Int32) by decide)) (fun _ => ?_)
    refine lv_iconst (v := (1 : Int32)) hx hb dL_holds_10 (by decide +kernel) ?_
    refine lv_goto (tgt := 15) hx hb dL_holds_11 (by decide) ?_
    refine lv_istore_n (lv' := [(2, .int ((1 : Int32))), (1, .int ((1 : Int32))), (0, .ref qx)]) hx hb dL_holds_15 rfl hl (by decide) rfl (fun ls hl => ?_)
    refine lv_iconst (v := (0 : Int32)) hx hb dL_holds_16 (by decide +kernel) ?_
    refine lv_istore_n (lv' := [(3, .int ((0 : Int32))), (2, .int ((1 : Int32))), (1, .int ((1 : Int32))), (0, .ref qx)]) hx hb dL_holds_17 rfl hl (by decide) rfl (fun ls hl => ?_)
    refine lv_bipush (v := (-5 : Int32)) hx hb dL_holds_18 (by decide +kernel) ?_
    refine lv_istore (lv' := [(4, .int ((-5 : Int32))), (3, .int ((0 : Int32))), (2, .int ((1 : Int32))), (1, .int ((1 : Int32))), (0, .ref qx)]) hx hb dL_holds_20 hl (by decide) rfl (fun ls hl => ?_)
    refine lv_bipush (v := (31 : Int32)) hx hb dL_holds_22 (by decide +kernel) ?_
    refine lv_istore (lv' := [(5, .int ((31 : Int32))), (4, .int ((-5 : Int32))), (3, .int ((0 : Int32))), (2, .int ((1 : Int32))), (1, .int ((1 : Int32))), (0, .ref qx)]) hx hb dL_holds_24 hl (by decide) rfl (fun ls hl => ?_)
    rw [show (31 : Int32) = (nI 32) + (-1 : Int32) from by decide] at hl
    exact loop_26 32 (by omega) _ (lv_sub hl [5, 4, 3, 2, 1, 0] rfl)
  · by_cases hz : st.2.2.2.1.2.1.2.2.2 = (0 : Int32)
    · have h0 : ¬ st.2.2.2.1.2.2.1 = (0 : Int32) := by rw [hph]; decide
      have h1 : ¬ st.2.2.2.1.2.2.1 = (1 : Int32) := by rw [hph]; decide
      have hcp := hI.cp h0
      have hun : unl st 32 = (0 : Int32) := unl_z hI h0 h1 hz
      have loop_26 : ∀ n : Nat, n ≤ 32 → ∀ ls : Array Slot, lv_has ls 7 [(0, .ref qx), (1, .int ((2 : Int32))), (2, .int ((1 : Int32))), (3, .int ((unl st (32 - n)))), (4, .int ((fst st (32 - n)))), (5, .int (((nI n) + (-1 : Int32))))] → W p l e { frames := 6, cells := 0, slots := 0, locals := 129 } s m args below meth c s.heap [] 0 0 Q (F0 m 26 ls []) := by
        intro n
        induction n with
        | zero =>
          intro hn ls hl
          have hl : lv_has ls 7 [(0, .ref qx), (1, .int ((2 : Int32))), (2, .int ((1 : Int32))), (3, .int ((unl st 32))), (4, .int ((fst st 32))), (5, .int (((nI 0) + (-1 : Int32))))] := hl
          refine lv_iload hx hb dL_holds_26 (lv_at hl 5 rfl) ?_
          refine lv_if_lt (tgt := 91) hx hb dL_holds_28 (by decide) (fun _ => ?_) (fun c => absurd (show (nI 0 + (-1 : Int32)) < (0 : Int32) by decide) c)
          refine lv_iload_n hx hb dL_holds_91 rfl (lv_at hl 1 rfl) ?_
          refine lv_if_lt (tgt := 180) hx hb dL_holds_92 (by decide) (fun c => absurd c (show ¬ (2 : Int32) < (0 : Int32) by decide)) (fun _ => ?_)
          refine lv_iload_n hx hb dL_holds_95 rfl (lv_at hl 1 rfl) ?_
          refine lv_iconst (v := (3 : Int32)) hx hb dL_holds_96 (by decide +kernel) ?_
          refine lv_icmp_gt (tgt := 180) hx hb dL_holds_97 (by decide) (fun c => absurd c (show ¬ (3 : Int32) < (2 : Int32) by decide)) (fun _ => ?_)
          refine lv_aload_n hx hb dL_holds_100 rfl (lv_at hl 0 rfl) ?_
          refine bRV (W0 := wO cI cS qx a0 a1 a2 a3 b3 a4 sn sc has ([]) (st, tr, hi)) (wc := [(qx, .inr (6, [.ref (a0 0), .ref (a1 0), .ref (a2 0), .ref (a3 0), .ref (a4 0), .int has]))] :: wSt cI a0 st :: []) (r := (unl st 32)) ⟨hx, hb, hml, hown, hts⟩ (KR.eq (kX6_differences l D cI cS qx a0 (a1 0) (a2 0) (a3 0) (a4 0) has st) (dfs_y h0)) (cwV 0 hts gL_holds_X6_differences rfl rfl rfl (by decide +kernel) ⟨Nat.le_of_ble_eq_true rfl, Nat.le_of_ble_eq_true rfl⟩) hE hP rfl rfl [0, 1] rfl rfl rfl hl.1 rfl (Nat.le_of_ble_eq_true rfl) ⟨Nat.le_of_ble_eq_true rfl, Nat.le_of_ble_eq_true rfl⟩ dL_holds_101 ?_
          refine lv_iload_n hx hb dL_holds_104 rfl (lv_at hl 2 rfl) ?_
          refine lv_if_eq (tgt := 112) hx hb dL_holds_105 (by decide) (fun c => absurd c (show ¬ (1 : Int32) = (0 : Int32) by decide)) (fun _ => ?_)
          refine lv_iload_n hx hb dL_holds_108 rfl (lv_at hl 3 rfl) ?_
          refine lv_goto (tgt := 114) hx hb dL_holds_109 (by decide) ?_
          refine lv_icmp_ne (tgt := 180) hx hb dL_holds_114 (by decide) (fun c => absurd rfl c) (fun _ => ?_)
          refine lv_aload_n hx hb dL_holds_117 rfl (lv_at hl 0 rfl) ?_
          refine bRV (W0 := wO cI cS qx a0 a1 a2 a3 b3 a4 sn sc has ([]) (st, tr, hi)) (wc := [(qx, .inr (6, [.ref (a0 0), .ref (a1 0), .ref (a2 0), .ref (a3 0), .ref (a4 0), .int has]))] :: wSt cI a0 st :: []) (r := (fst st 32)) ⟨hx, hb, hml, hown, hts⟩ (KR.eq (kX6_firstDifference l D cI cS qx a0 (a1 0) (a2 0) (a3 0) (a4 0) has st) (fds_y h0)) (cwV 0 hts gL_holds_X6_firstDifference rfl rfl rfl (by decide +kernel) ⟨Nat.le_of_ble_eq_true rfl, Nat.le_of_ble_eq_true rfl⟩) hE hP rfl rfl [0, 1] rfl rfl rfl hl.1 rfl (Nat.le_of_ble_eq_true rfl) ⟨Nat.le_of_ble_eq_true rfl, Nat.le_of_ble_eq_true rfl⟩ dL_holds_118 ?_
          refine lv_iload hx hb dL_holds_121 (lv_at hl 4 rfl) ?_
          refine lv_icmp_ne (tgt := 180) hx hb dL_holds_123 (by decide) (fun c => absurd rfl c) (fun _ => ?_)
          refine lv_iload_n hx hb dL_holds_126 rfl (lv_at hl 2 rfl) ?_
          refine lv_if_eq (tgt := 158) hx hb dL_holds_127 (by decide) (fun c => absurd c (show ¬ (1 : Int32) = (0 : Int32) by decide)) (fun _ => ?_)
          refine lv_iload_n hx hb dL_holds_130 rfl (lv_at hl 1 rfl) ?_
          refine lv_iconst (v := (1 : Int32)) hx hb dL_holds_131 (by decide +kernel) ?_
          refine lv_icmp_le (tgt := 139) hx hb dL_holds_132 (by decide) (fun c => absurd c (show ¬ (2 : Int32) ≤ (1 : Int32) by decide)) (fun _ => ?_)
          refine lv_iconst (v := (1 : Int32)) hx hb dL_holds_135 (by decide +kernel) ?_
          refine lv_goto (tgt := 140) hx hb dL_holds_136 (by decide) ?_
          refine lv_aload_n hx hb dL_holds_140 rfl (lv_at hl 0 rfl) ?_
          refine lv_iconst (v := (3 : Int32)) hx hb dL_holds_141 (by decide +kernel) ?_
          refine bRV (W0 := wO cI cS qx a0 a1 a2 a3 b3 a4 sn sc has ([]) (st, tr, hi)) (wc := [(qx, .inr (6, [.ref (a0 0), .ref (a1 0), .ref (a2 0), .ref (a3 0), .ref (a4 0), .int has]))] :: wSt cI a0 st :: []) (r := (32 : Int32)) ⟨hx, hb, hml, hown, hts⟩ (KR.eq (kX6_copy l D cI cS qx a0 (a1 0) (a2 0) (a3 0) (a4 0) has (3 : Int32) st) ((cp_3 h0).trans (cu_32 hI h0 h1))) (cwV 1 hts gL_holds_X6_copy rfl rfl rfl (by decide +kernel) ⟨Nat.le_of_ble_eq_true rfl, Nat.le_of_ble_eq_true rfl⟩) hE hP rfl rfl [0, 1] rfl rfl rfl hl.1 rfl (Nat.le_of_ble_eq_true rfl) ⟨Nat.le_of_ble_eq_true rfl, Nat.le_of_ble_eq_true rfl⟩ dL_holds_142 ?_
          refine lv_bipush (v := (32 : Int32)) hx hb dL_holds_145 (by decide +kernel) ?_
          refine lv_icmp_ne (tgt := 154) hx hb dL_holds_147 (by decide) (fun c => absurd (show (32 : Int32) = (32 : Int32) by decide) c) (fun _ => ?_)
          refine lv_iconst (v := (1 : Int32)) hx hb dL_holds_150 (by decide +kernel) ?_
          refine lv_goto (tgt := 155) hx hb dL_holds_151 (by decide) ?_
          refine lv_icmp_ne (tgt := 180) hx hb dL_holds_155 (by decide) (fun c => absurd (show (1 : Int32) = (1 : Int32) by decide) c) (fun _ => ?_)
          refine lv_iload_n hx hb dL_holds_158 rfl (lv_at hl 2 rfl) ?_
          refine lv_if_eq (tgt := 182) hx hb dL_holds_159 (by decide) (fun c => absurd c (show ¬ (1 : Int32) = (0 : Int32) by decide)) (fun _ => ?_)
          refine lv_aload_n hx hb dL_holds_162 rfl (lv_at hl 0 rfl) ?_
          refine lv_iconst (v := (4 : Int32)) hx hb dL_holds_163 (by decide +kernel) ?_
          refine bRV (W0 := wO cI cS qx a0 a1 a2 a3 b3 a4 sn sc has ([]) (st, tr, hi)) (wc := [(qx, .inr (6, [.ref (a0 0), .ref (a1 0), .ref (a2 0), .ref (a3 0), .ref (a4 0), .int has]))] :: wSt cI a0 st :: []) (r := (0 : Int32)) ⟨hx, hb, hml, hown, hts⟩ (KR.eq (kX6_copy l D cI cS qx a0 (a1 0) (a2 0) (a3 0) (a4 0) has (4 : Int32) st) ((cp_4 h0).trans hz)) (cwV 1 hts gL_holds_X6_copy rfl rfl rfl (by decide +kernel) ⟨Nat.le_of_ble_eq_true rfl, Nat.le_of_ble_eq_true rfl⟩) hE hP rfl rfl [0, 1] rfl rfl rfl hl.1 rfl (Nat.le_of_ble_eq_true rfl) ⟨Nat.le_of_ble_eq_true rfl, Nat.le_of_ble_eq_true rfl⟩ dL_holds_164 ?_
          refine lv_if_lt (tgt := 180) hx hb dL_holds_167 (by decide) (fun c => absurd c (show ¬ (0 : Int32) < (0 : Int32) by decide)) (fun _ => ?_)
          refine lv_aload_n hx hb dL_holds_170 rfl (lv_at hl 0 rfl) ?_
          refine lv_iconst (v := (4 : Int32)) hx hb dL_holds_171 (by decide +kernel) ?_
          refine bRV (W0 := wO cI cS qx a0 a1 a2 a3 b3 a4 sn sc has ([]) (st, tr, hi)) (wc := [(qx, .inr (6, [.ref (a0 0), .ref (a1 0), .ref (a2 0), .ref (a3 0), .ref (a4 0), .int has]))] :: wSt cI a0 st :: []) (r := (0 : Int32)) ⟨hx, hb, hml, hown, hts⟩ (KR.eq (kX6_copy l D cI cS qx a0 (a1 0) (a2 0) (a3 0) (a4 0) has (4 : Int32) st) ((cp_4 h0).trans hz)) (cwV 1 hts gL_holds_X6_copy rfl rfl rfl (by decide +kernel) ⟨Nat.le_of_ble_eq_true rfl, Nat.le_of_ble_eq_true rfl⟩) hE hP rfl rfl [0, 1] rfl rfl rfl hl.1 rfl (Nat.le_of_ble_eq_true rfl) ⟨Nat.le_of_ble_eq_true rfl, Nat.le_of_ble_eq_true rfl⟩ dL_holds_172 ?_
          refine lv_bipush (v := (24 : Int32)) hx hb dL_holds_175 (by decide +kernel) ?_
          refine lv_icmp_le (tgt := 182) hx hb dL_holds_177 (by decide) (fun _ => ?_) (fun c => absurd (show (0 : Int32) ≤ (24 : Int32) by decide) c)
          refine lv_iconst (v := (1 : Int32)) hx hb dL_holds_182 (by decide +kernel) ?_
          refine lv_istore (lv' := [(5, .int ((1 : Int32))), (0, .ref qx), (1, .int ((2 : Int32))), (2, .int ((1 : Int32))), (3, .int ((unl st 32))), (4, .int ((fst st 32)))]) hx hb dL_holds_183 hl (by decide) rfl (fun ls hl => ?_)
          refine lv_iload hx hb dL_holds_185 (lv_at hl 0 rfl) ?_
          refine lv_bipush (v := (6 : Int32)) hx hb dL_holds_187 (by decide +kernel) ?_
          refine lv_icmp_ge (tgt := 247) hx hb dL_holds_189 (by decide) (fun c => absurd c (show ¬ (6 : Int32) ≤ (1 : Int32) by decide)) (fun _ => ?_)
          refine lv_aload_n hx hb dL_holds_192 rfl (lv_at hl 1 rfl) ?_
          refine lv_iload hx hb dL_holds_193 (lv_at hl 0 rfl) ?_
          refine bRV (W0 := wO cI cS qx a0 a1 a2 a3 b3 a4 sn sc has ([]) (st, tr, hi)) (wc := [(qx, .inr (6, [.ref (a0 0), .ref (a1 0), .ref (a2 0), .ref (a3 0), .ref (a4 0), .int has]))] :: wSt cI a0 st :: []) (r := st.2.2.2.1.2.2.2.1) ⟨hx, hb, hml, hown, hts⟩ (KR.eq (kX6_copy l D cI cS qx a0 (a1 0) (a2 0) (a3 0) (a4 0) has (1 : Int32) st) (cp_1 h0)) (cwV 1 hts gL_holds_X6_copy rfl rfl rfl (by decide +kernel) ⟨Nat.le_of_ble_eq_true rfl, Nat.le_of_ble_eq_true rfl⟩) hE hP rfl rfl [0, 1] rfl rfl rfl hl.1 rfl (Nat.le_of_ble_eq_true rfl) ⟨Nat.le_of_ble_eq_true rfl, Nat.le_of_ble_eq_true rfl⟩ dL_holds_195 ?_
          refine lv_bipush (v := (-5 : Int32)) hx hb dL_holds_198 (by decide +kernel) ?_
          refine lv_icmp_ne (tgt := 207) hx hb dL_holds_200 (by decide) (fun _ => ?_) (fun c => absurd c (bd_ne hcp.1 (by omega) (by decide)))
          refine lv_iconst (v := (0 : Int32)) hx hb dL_holds_207 (by decide +kernel) ?_
          refine lv_iload hx hb dL_holds_208 (lv_at hl 0 rfl) ?_
          refine lv_iconst (v := (5 : Int32)) hx hb dL_holds_210 (by decide +kernel) ?_
          refine lv_icmp_ge (tgt := 226) hx hb dL_holds_211 (by decide) (fun c => absurd c (show ¬ (5 : Int32) ≤ (1 : Int32) by decide)) (fun _ => ?_)
          refine lv_iload_n hx hb dL_holds_214 rfl (lv_at hl 3 rfl) ?_
          refine lv_if_ne (tgt := 222) hx hb dL_holds_215 (by decide) (fun _ => ?_) (fun c => absurd c (show ¬ (1 : Int32) = (0 : Int32) by decide))
          refine lv_iconst (v := (0 : Int32)) hx hb dL_holds_222 (by decide +kernel) ?_
          refine lv_goto (tgt := 236) hx hb dL_holds_223 (by decide) ?_
          refine lv_icmp_eq (tgt := 241) hx hb dL_holds_236 (by decide) (fun _ => ?_) (fun c => absurd (show (0 : Int32) = (0 : Int32) by decide) c)
          refine lv_iinc (v := (2 : Int32)) (lv' := [(5, .int ((2 : Int32))), (0, .ref qx), (1, .int ((2 : Int32))), (2, .int ((1 : Int32))), (3, .int ((unl st 32))), (4, .int ((fst st 32)))]) hx hb dL_holds_241 hl (k := 0) rfl (by decide) (by decide) rfl (fun ls hl => ?_)
          refine lv_goto (tgt := 185) hx hb dL_holds_244 (by decide) ?_
          refine lv_iload hx hb dL_holds_185 (lv_at hl 0 rfl) ?_
          refine lv_bipush (v := (6 : Int32)) hx hb dL_holds_187 (by decide +kernel) ?_
          refine lv_icmp_ge (tgt := 247) hx hb dL_holds_189 (by decide) (fun c => absurd c (show ¬ (6 : Int32) ≤ (2 : Int32) by decide)) (fun _ => ?_)
          refine lv_aload_n hx hb dL_holds_192 rfl (lv_at hl 1 rfl) ?_
          refine lv_iload hx hb dL_holds_193 (lv_at hl 0 rfl) ?_
          refine bRV (W0 := wO cI cS qx a0 a1 a2 a3 b3 a4 sn sc has ([]) (st, tr, hi)) (wc := [(qx, .inr (6, [.ref (a0 0), .ref (a1 0), .ref (a2 0), .ref (a3 0), .ref (a4 0), .int has]))] :: wSt cI a0 st :: []) (r := st.2.2.2.1.2.2.2.2.1) ⟨hx, hb, hml, hown, hts⟩ (KR.eq (kX6_copy l D cI cS qx a0 (a1 0) (a2 0) (a3 0) (a4 0) has (2 : Int32) st) (cp_2 h0)) (cwV 1 hts gL_holds_X6_copy rfl rfl rfl (by decide +kernel) ⟨Nat.le_of_ble_eq_true rfl, Nat.le_of_ble_eq_true rfl⟩) hE hP rfl rfl [0, 1] rfl rfl rfl hl.1 rfl (Nat.le_of_ble_eq_true rfl) ⟨Nat.le_of_ble_eq_true rfl, Nat.le_of_ble_eq_true rfl⟩ dL_holds_195 ?_
          refine lv_bipush (v := (-5 : Int32)) hx hb dL_holds_198 (by decide +kernel) ?_
          refine lv_icmp_ne (tgt := 207) hx hb dL_holds_200 (by decide) (fun _ => ?_) (fun c => absurd c (lt_5 hcp.2.1))
          refine lv_iconst (v := (0 : Int32)) hx hb dL_holds_207 (by decide +kernel) ?_
          refine lv_iload hx hb dL_holds_208 (lv_at hl 0 rfl) ?_
          refine lv_iconst (v := (5 : Int32)) hx hb dL_holds_210 (by decide +kernel) ?_
          refine lv_icmp_ge (tgt := 226) hx hb dL_holds_211 (by decide) (fun c => absurd c (show ¬ (5 : Int32) ≤ (2 : Int32) by decide)) (fun _ => ?_)
          refine lv_iload_n hx hb dL_holds_214 rfl (lv_at hl 3 rfl) ?_
          refine lv_if_ne (tgt := 222) hx hb dL_holds_215 (by decide) (fun _ => ?_) (fun c => absurd c (show ¬ (1 : Int32) = (0 : Int32) by decide))
          refine lv_iconst (v := (0 : Int32)) hx hb dL_holds_222 (by decide +kernel) ?_
          refine lv_goto (tgt := 236) hx hb dL_holds_223 (by decide) ?_
          refine lv_icmp_eq (tgt := 241) hx hb dL_holds_236 (by decide) (fun _ => ?_) (fun c => absurd (show (0 : Int32) = (0 : Int32) by decide) c)
          refine lv_iinc (v := (3 : Int32)) (lv' := [(5, .int ((3 : Int32))), (0, .ref qx), (1, .int ((2 : Int32))), (2, .int ((1 : Int32))), (3, .int ((unl st 32))), (4, .int ((fst st 32)))]) hx hb dL_holds_241 hl (k := 0) rfl (by decide) (by decide) rfl (fun ls hl => ?_)
          refine lv_goto (tgt := 185) hx hb dL_holds_244 (by decide) ?_
          refine lv_iload hx hb dL_holds_185 (lv_at hl 0 rfl) ?_
          refine lv_bipush (v := (6 : Int32)) hx hb dL_holds_187 (by decide +kernel) ?_
          refine lv_icmp_ge (tgt := 247) hx hb dL_holds_189 (by decide) (fun c => absurd c (show ¬ (6 : Int32) ≤ (3 : Int32) by decide)) (fun _ => ?_)
          refine lv_aload_n hx hb dL_holds_192 rfl (lv_at hl 1 rfl) ?_
          refine lv_iload hx hb dL_holds_193 (lv_at hl 0 rfl) ?_
          refine bRV (W0 := wO cI cS qx a0 a1 a2 a3 b3 a4 sn sc has ([]) (st, tr, hi)) (wc := [(qx, .inr (6, [.ref (a0 0), .ref (a1 0), .ref (a2 0), .ref (a3 0), .ref (a4 0), .int has]))] :: wSt cI a0 st :: []) (r := (32 : Int32)) ⟨hx, hb, hml, hown, hts⟩ (KR.eq (kX6_copy l D cI cS qx a0 (a1 0) (a2 0) (a3 0) (a4 0) has (3 : Int32) st) ((cp_3 h0).trans (cu_32 hI h0 h1))) (cwV 1 hts gL_holds_X6_copy rfl rfl rfl (by decide +kernel) ⟨Nat.le_of_ble_eq_true rfl, Nat.le_of_ble_eq_true rfl⟩) hE hP rfl rfl [0, 1] rfl rfl rfl hl.1 rfl (Nat.le_of_ble_eq_true rfl) ⟨Nat.le_of_ble_eq_true rfl, Nat.le_of_ble_eq_true rfl⟩ dL_holds_195 ?_
          refine lv_bipush (v := (-5 : Int32)) hx hb dL_holds_198 (by decide +kernel) ?_
          refine lv_icmp_ne (tgt := 207) hx hb dL_holds_200 (by decide) (fun _ => ?_) (fun c => absurd c (show ¬ (32 : Int32) = (-5 : Int32) by decide))
          refine lv_iconst (v := (0 : Int32)) hx hb dL_holds_207 (by decide +kernel) ?_
          refine lv_iload hx hb dL_holds_208 (lv_at hl 0 rfl) ?_
          refine lv_iconst (v := (5 : Int32)) hx hb dL_holds_210 (by decide +kernel) ?_
          refine lv_icmp_ge (tgt := 226) hx hb dL_holds_211 (by decide) (fun c => absurd c (show ¬ (5 : Int32) ≤ (3 : Int32) by decide)) (fun _ => ?_)
          refine lv_iload_n hx hb dL_holds_214 rfl (lv_at hl 3 rfl) ?_
          refine lv_if_ne (tgt := 222) hx hb dL_holds_215 (by decide) (fun _ => ?_) (fun c => absurd c (show ¬ (1 : Int32) = (0 : Int32) by decide))
          refine lv_iconst (v := (0 : Int32)) hx hb dL_holds_222 (by decide +kernel) ?_
          refine lv_goto (tgt := 236) hx hb dL_holds_223 (by decide) ?_
          refine lv_icmp_eq (tgt := 241) hx hb dL_holds_236 (by decide) (fun _ => ?_) (fun c => absurd (show (0 : Int32) = (0 : Int32) by decide) c)
          refine lv_iinc (v := (4 : Int32)) (lv' := [(5, .int ((4 : Int32))), (0, .ref qx), (1, .int ((2 : Int32))), (2, .int ((1 : Int32))), (3, .int ((unl st 32))), (4, .int ((fst st 32)))]) hx hb dL_holds_241 hl (k := 0) rfl (by decide) (by decide) rfl (fun ls hl => ?_)
          refine lv_goto (tgt := 185) hx hb dL_holds_244 (by decide) ?_
          refine lv_iload hx hb dL_holds_185 (lv_at hl 0 rfl) ?_
          refine lv_bipush (v := (6 : Int32)) hx hb dL_holds_187 (by decide +kernel) ?_
          refine lv_icmp_ge (tgt := 247) hx hb dL_holds_189 (by decide) (fun c => absurd c (show ¬ (6 : Int32) ≤ (4 : Int32) by decide)) (fun _ => ?_)
          refine lv_aload_n hx hb dL_holds_192 rfl (lv_at hl 1 rfl) ?_
          refine lv_iload hx hb dL_holds_193 (lv_at hl 0 rfl) ?_
          refine bRV (W0 := wO cI cS qx a0 a1 a2 a3 b3 a4 sn sc has ([]) (st, tr, hi)) (wc := [(qx, .inr (6, [.ref (a0 0), .ref (a1 0), .ref (a2 0), .ref (a3 0), .ref (a4 0), .int has]))] :: wSt cI a0 st :: []) (r := (0 : Int32)) ⟨hx, hb, hml, hown, hts⟩ (KR.eq (kX6_copy l D cI cS qx a0 (a1 0) (a2 0) (a3 0) (a4 0) has (4 : Int32) st) ((cp_4 h0).trans hz)) (cwV 1 hts gL_holds_X6_copy rfl rfl rfl (by decide +kernel) ⟨Nat.le_of_ble_eq_true rfl, Nat.le_of_ble_eq_true rfl⟩) hE hP rfl rfl [0, 1] rfl rfl rfl hl.1 rfl (Nat.le_of_ble_eq_true rfl) ⟨Nat.le_of_ble_eq_true rfl, Nat.le_of_ble_eq_true rfl⟩ dL_holds_195 ?_
          refine lv_bipush (v := (-5 : Int32)) hx hb dL_holds_198 (by decide +kernel) ?_
          refine lv_icmp_ne (tgt := 207) hx hb dL_holds_200 (by decide) (fun _ => ?_) (fun c => absurd c (show ¬ (0 : Int32) = (-5 : Int32) by decide))
          refine lv_iconst (v := (0 : Int32)) hx hb dL_holds_207 (by decide +kernel) ?_
          refine lv_iload hx hb dL_holds_208 (lv_at hl 0 rfl) ?_
          refine lv_iconst (v := (5 : Int32)) hx hb dL_holds_210 (by decide +kernel) ?_
          refine lv_icmp_ge (tgt := 226) hx hb dL_holds_211 (by decide) (fun c => absurd c (show ¬ (5 : Int32) ≤ (4 : Int32) by decide)) (fun _ => ?_)
          refine lv_iload_n hx hb dL_holds_214 rfl (lv_at hl 3 rfl) ?_
          refine lv_if_ne (tgt := 222) hx hb dL_holds_215 (by decide) (fun _ => ?_) (fun c => absurd c (show ¬ (1 : Int32) = (0 : Int32) by decide))
          refine lv_iconst (v := (0 : Int32)) hx hb dL_holds_222 (by decide +kernel) ?_
          refine lv_goto (tgt := 236) hx hb dL_holds_223 (by decide) ?_
          refine lv_icmp_eq (tgt := 241) hx hb dL_holds_236 (by decide) (fun _ => ?_) (fun c => absurd (show (0 : Int32) = (0 : Int32) by decide) c)
          refine lv_iinc (v := (5 : Int32)) (lv' := [(5, .int ((5 : Int32))), (0, .ref qx), (1, .int ((2 : Int32))), (2, .int ((1 : Int32))), (3, .int ((unl st 32))), (4, .int ((fst st 32)))]) hx hb dL_holds_241 hl (k := 0) rfl (by decide) (by decide) rfl (fun ls hl => ?_)
          refine lv_goto (tgt := 185) hx hb dL_holds_244 (by decide) ?_
          refine lv_iload hx hb dL_holds_185 (lv_at hl 0 rfl) ?_
          refine lv_bipush (v := (6 : Int32)) hx hb dL_holds_187 (by decide +kernel) ?_
          refine lv_icmp_ge (tgt := 247) hx hb dL_holds_189 (by decide) (fun c => absurd c (show ¬ (6 : Int32) ≤ (5 : Int32) by decide)) (fun _ => ?_)
          refine lv_aload_n hx hb dL_holds_192 rfl (lv_at hl 1 rfl) ?_
          refine lv_iload hx hb dL_holds_193 (lv_at hl 0 rfl) ?_
          refine bRV (W0 := wO cI cS qx a0 a1 a2 a3 b3 a4 sn sc has ([]) (st, tr, hi)) (wc := [(qx, .inr (6, [.ref (a0 0), .ref (a1 0), .ref (a2 0), .ref (a3 0), .ref (a4 0), .int has]))] :: wSt cI a0 st :: []) (r := (-5 : Int32)) ⟨hx, hb, hml, hown, hts⟩ (KR.eq (kX6_copy l D cI cS qx a0 (a1 0) (a2 0) (a3 0) (a4 0) has (5 : Int32) st) ((cp_5 st).trans (if_neg (by rw [hph]; decide)))) (cwV 1 hts gL_holds_X6_copy rfl rfl rfl (by decide +kernel) ⟨Nat.le_of_ble_eq_true rfl, Nat.le_of_ble_eq_true rfl⟩) hE hP rfl rfl [0, 1] rfl rfl rfl hl.1 rfl (Nat.le_of_ble_eq_true rfl) ⟨Nat.le_of_ble_eq_true rfl, Nat.le_of_ble_eq_true rfl⟩ dL_holds_195 ?_
          refine lv_bipush (v := (-5 : Int32)) hx hb dL_holds_198 (by decide +kernel) ?_
          refine lv_icmp_ne (tgt := 207) hx hb dL_holds_200 (by decide) (fun c => absurd (show (-5 : Int32) = (-5 : Int32) by decide) c) (fun _ => ?_)
          refine lv_iconst (v := (1 : Int32)) hx hb dL_holds_203 (by decide +kernel) ?_
          refine lv_goto (tgt := 208) hx hb dL_holds_204 (by decide) ?_
          refine lv_iload hx hb dL_holds_208 (lv_at hl 0 rfl) ?_
          refine lv_iconst (v := (5 : Int32)) hx hb dL_holds_210 (by decide +kernel) ?_
          refine lv_icmp_ge (tgt := 226) hx hb dL_holds_211 (by decide) (fun _ => ?_) (fun c => absurd (show (5 : Int32) ≤ (5 : Int32) by decide) c)
          refine lv_iload_n hx hb dL_holds_226 rfl (lv_at hl 2 rfl) ?_
          refine lv_iconst (v := (3 : Int32)) hx hb dL_holds_227 (by decide +kernel) ?_
          refine lv_icmp_eq (tgt := 235) hx hb dL_holds_228 (by decide) (fun c => absurd c (show ¬ (2 : Int32) = (3 : Int32) by decide)) (fun _ => ?_)
          refine lv_iconst (v := (1 : Int32)) hx hb dL_holds_231 (by decide +kernel) ?_
          refine lv_goto (tgt := 236) hx hb dL_holds_232 (by decide) ?_
          refine lv_icmp_eq (tgt := 241) hx hb dL_holds_236 (by decide) (fun _ => ?_) (fun c => absurd (show (1 : Int32) = (1 : Int32) by decide) c)
          refine lv_iinc (v := (6 : Int32)) (lv' := [(5, .int ((6 : Int32))), (0, .ref qx), (1, .int ((2 : Int32))), (2, .int ((1 : Int32))), (3, .int ((unl st 32))), (4, .int ((fst st 32)))]) hx hb dL_holds_241 hl (k := 0) rfl (by decide) (by decide) rfl (fun ls hl => ?_)
          refine lv_goto (tgt := 185) hx hb dL_holds_244 (by decide) ?_
          refine lv_iload hx hb dL_holds_185 (lv_at hl 0 rfl) ?_
          refine lv_bipush (v := (6 : Int32)) hx hb dL_holds_187 (by decide +kernel) ?_
          refine lv_icmp_ge (tgt := 247) hx hb dL_holds_189 (by decide) (fun _ => ?_) (fun c => absurd (show (6 : Int32) ≤ (6 : Int32) by decide) c)
          refine lv_iload_n hx hb dL_holds_247 rfl (lv_at hl 2 rfl) ?_
          refine lv_iconst (v := (2 : Int32)) hx hb dL_holds_248 (by decide +kernel) ?_
          refine lv_icmp_ne (tgt := 264) hx hb dL_holds_249 (by decide) (fun c => absurd (show (2 : Int32) = (2 : Int32) by decide) c) (fun _ => ?_)
          refine lv_aload_n hx hb dL_holds_252 rfl (lv_at hl 1 rfl) ?_
          refine lv_iconst (v := (4 : Int32)) hx hb dL_holds_253 (by decide +kernel) ?_
          refine bRV (W0 := wO cI cS qx a0 a1 a2 a3 b3 a4 sn sc has ([]) (st, tr, hi)) (wc := [(qx, .inr (6, [.ref (a0 0), .ref (a1 0), .ref (a2 0), .ref (a3 0), .ref (a4 0), .int has]))] :: wSt cI a0 st :: []) (r := (0 : Int32)) ⟨hx, hb, hml, hown, hts⟩ (KR.eq (kX6_copy l D cI cS qx a0 (a1 0) (a2 0) (a3 0) (a4 0) has (4 : Int32) st) ((cp_4 h0).trans hz)) (cwV 1 hts gL_holds_X6_copy rfl rfl rfl (by decide +kernel) ⟨Nat.le_of_ble_eq_true rfl, Nat.le_of_ble_eq_true rfl⟩) hE hP rfl rfl [0, 1] rfl rfl rfl hl.1 rfl (Nat.le_of_ble_eq_true rfl) ⟨Nat.le_of_ble_eq_true rfl, Nat.le_of_ble_eq_true rfl⟩ dL_holds_254 ?_
          refine lv_if_ne (tgt := 264) hx hb dL_holds_257 (by decide) (fun c => absurd (show (0 : Int32) = (0 : Int32) by decide) c) (fun _ => ?_)
          refine lv_iconst (v := (1 : Int32)) hx hb dL_holds_260 (by decide +kernel) ?_
          refine lv_goto (tgt := 265) hx hb dL_holds_261 (by decide) ?_
          refine lv_istore (lv' := [(5, .int ((1 : Int32))), (0, .ref qx), (1, .int ((2 : Int32))), (2, .int ((1 : Int32))), (3, .int ((unl st 32))), (4, .int ((fst st 32)))]) hx hb dL_holds_265 hl (by decide) rfl (fun ls hl => ?_)
          refine lv_iload_n hx hb dL_holds_267 rfl (lv_at hl 2 rfl) ?_
          refine lv_iconst (v := (2 : Int32)) hx hb dL_holds_268 (by decide +kernel) ?_
          refine lv_icmp_lt (tgt := 284) hx hb dL_holds_269 (by decide) (fun c => absurd c (show ¬ (2 : Int32) < (2 : Int32) by decide)) (fun _ => ?_)
          refine lv_aload_n hx hb dL_holds_272 rfl (lv_at hl 1 rfl) ?_
          refine lv_iconst (v := (4 : Int32)) hx hb dL_holds_273 (by decide +kernel) ?_
          refine bRV (W0 := wO cI cS qx a0 a1 a2 a3 b3 a4 sn sc has ([]) (st, tr, hi)) (wc := [(qx, .inr (6, [.ref (a0 0), .ref (a1 0), .ref (a2 0), .ref (a3 0), .ref (a4 0), .int has]))] :: wSt cI a0 st :: []) (r := (0 : Int32)) ⟨hx, hb, hml, hown, hts⟩ (KR.eq (kX6_copy l D cI cS qx a0 (a1 0) (a2 0) (a3 0) (a4 0) has (4 : Int32) st) ((cp_4 h0).trans hz)) (cwV 1 hts gL_holds_X6_copy rfl rfl rfl (by decide +kernel) ⟨Nat.le_of_ble_eq_true rfl, Nat.le_of_ble_eq_true rfl⟩) hE hP rfl rfl [0, 1] rfl rfl rfl hl.1 rfl (Nat.le_of_ble_eq_true rfl) ⟨Nat.le_of_ble_eq_true rfl, Nat.le_of_ble_eq_true rfl⟩ dL_holds_274 ?_
          refine lv_if_gt (tgt := 284) hx hb dL_holds_277 (by decide) (fun c => absurd c (show ¬ (0 : Int32) < (0 : Int32) by decide)) (fun _ => ?_)
          refine lv_iload_n hx hb dL_holds_280 rfl (lv_at hl 4 rfl) ?_
          refine lv_if_ne (tgt := 430) hx hb dL_holds_281 (by decide) (fun c => absurd hun c) (fun _ => ?_)
          refine lv_aload_n hx hb dL_holds_284 rfl (lv_at hl 1 rfl) ?_
          refine lv_iconst (v := (0 : Int32)) hx hb dL_holds_285 (by decide +kernel) ?_
          refine bRV (W0 := wO cI cS qx a0 a1 a2 a3 b3 a4 sn sc has ([]) (st, tr, hi)) (wc := [(qx, .inr (6, [.ref (a0 0), .ref (a1 0), .ref (a2 0), .ref (a3 0), .ref (a4 0), .int has]))] :: wSt cI a0 st :: []) (r := (st.2.2.2.2.2 0)) ⟨hx, hb, hml, hown, hts⟩ (KR.eq (kX6_total l D cI cS qx a0 (a1 0) (a2 0) (a3 0) (a4 0) has (0 : Int32) st) (tot_i (i := 0) (by omega))) (cwV 1 hts gL_holds_X6_total rfl rfl rfl (by decide +kernel) ⟨Nat.le_of_ble_eq_true rfl, Nat.le_of_ble_eq_true rfl⟩) hE hP rfl rfl [0, 1] rfl rfl rfl hl.1 rfl (Nat.le_of_ble_eq_true rfl) ⟨Nat.le_of_ble_eq_true rfl, Nat.le_of_ble_eq_true rfl⟩ dL_holds_286 ?_
          refine lv_aload_n hx hb dL_holds_289 rfl (lv_at hl 1 rfl) ?_
          refine lv_iconst (v := (1 : Int32)) hx hb dL_holds_290 (by decide +kernel) ?_
          refine bRV (W0 := wO cI cS qx a0 a1 a2 a3 b3 a4 sn sc has ([]) (st, tr, hi)) (wc := [(qx, .inr (6, [.ref (a0 0), .ref (a1 0), .ref (a2 0), .ref (a3 0), .ref (a4 0), .int has]))] :: wSt cI a0 st :: []) (r := (st.2.2.2.2.2 1)) ⟨hx, hb, hml, hown, hts⟩ (KR.eq (kX6_total l D cI cS qx a0 (a1 0) (a2 0) (a3 0) (a4 0) has (1 : Int32) st) (tot_i (i := 1) (by omega))) (cwV 1 hts gL_holds_X6_total rfl rfl rfl (by decide +kernel) ⟨Nat.le_of_ble_eq_true rfl, Nat.le_of_ble_eq_true rfl⟩) hE hP rfl rfl [0, 1] rfl rfl rfl hl.1 rfl (Nat.le_of_ble_eq_true rfl) ⟨Nat.le_of_ble_eq_true rfl, Nat.le_of_ble_eq_true rfl⟩ dL_holds_291 ?_
          refine lv_aload_n hx hb dL_holds_294 rfl (lv_at hl 1 rfl) ?_
          refine lv_iconst (v := (2 : Int32)) hx hb dL_holds_295 (by decide +kernel) ?_
          refine bRV (W0 := wO cI cS qx a0 a1 a2 a3 b3 a4 sn sc has ([]) (st, tr, hi)) (wc := [(qx, .inr (6, [.ref (a0 0), .ref (a1 0), .ref (a2 0), .ref (a3 0), .ref (a4 0), .int has]))] :: wSt cI a0 st :: []) (r := (st.2.2.2.2.2 2)) ⟨hx, hb, hml, hown, hts⟩ (KR.eq (kX6_total l D cI cS qx a0 (a1 0) (a2 0) (a3 0) (a4 0) has (2 : Int32) st) (tot_i (i := 2) (by omega))) (cwV 1 hts gL_holds_X6_total rfl rfl rfl (by decide +kernel) ⟨Nat.le_of_ble_eq_true rfl, Nat.le_of_ble_eq_true rfl⟩) hE hP rfl rfl [0, 1] rfl rfl rfl hl.1 rfl (Nat.le_of_ble_eq_true rfl) ⟨Nat.le_of_ble_eq_true rfl, Nat.le_of_ble_eq_true rfl⟩ dL_holds_296 ?_
          refine lv_iadd hx hb dL_holds_299 ?_
          refine lv_iload_n hx hb dL_holds_300 rfl (lv_at hl 3 rfl) ?_
          refine lv_if_eq (tgt := 308) hx hb dL_holds_301 (by decide) (fun c => absurd c (show ¬ (1 : Int32) = (0 : Int32) by decide)) (fun _ => ?_)
          refine lv_iconst (v := (1 : Int32)) hx hb dL_holds_304 (by decide +kernel) ?_
          refine lv_goto (tgt := 309) hx hb dL_holds_305 (by decide) ?_
          refine lv_iadd hx hb dL_holds_309 ?_
          refine lv_icmp_ne (tgt := 430) hx hb dL_holds_310 (by decide) (fun c => absurd (to_1 hI h0) c) (fun _ => ?_)
          refine lv_aload_n hx hb dL_holds_313 rfl (lv_at hl 1 rfl) ?_
          refine cAV (W0 := fl (wO cI cS qx a0 a1 a2 a3 b3 a4 sn sc has ([]) (st, tr, hi))) (wc := fl ([(qx, .inr (6, [.ref (a0 0), .ref (a1 0), .ref (a2 0), .ref (a3 0), .ref (a4 0), .int has]))] :: wSt cI a0 st :: [])) (r := Value.double dd) ⟨hx, hb, hml, hown, hts⟩ (KA.eq (kX6_progress l D cI cS qx a0 (a1 0) (a2 0) (a3 0) (a4 0) has st hI.ws) ed) (cwV 0 hts gL_holds_X6_progress rfl rfl rfl (by decide +kernel) ⟨Nat.le_of_ble_eq_true rfl, Nat.le_of_ble_eq_true rfl⟩) hE hP 0 rfl rfl [0, 1, 2, 3, 4, 5, 6, 7, 8, 9, 10, 11, 12, 13] rfl rfl hl.1 rfl (Nat.le_of_ble_eq_true rfl) ⟨Nat.le_of_ble_eq_true rfl, Nat.le_of_ble_eq_true rfl⟩ dL_holds_314 ?_
          refine lv_dconst0 hx hb dL_holds_317 ?_
          refine lv_dcmp hx hb dL_holds_318 ?_
          refine lv_if_lt (tgt := 430) hx hb dL_holds_319 (by decide) (fun c => absurd c dl) (fun _ => ?_)
          refine lv_aload_n hx hb dL_holds_322 rfl (lv_at hl 1 rfl) ?_
          refine cAV (W0 := fl (wO cI cS qx a0 a1 a2 a3 b3 a4 sn sc has ([]) (st, tr, hi))) (wc := fl ([(qx, .inr (6, [.ref (a0 0), .ref (a1 0), .ref (a2 0), .ref (a3 0), .ref (a4 0), .int has]))] :: wSt cI a0 st :: [])) (r := Value.double dd) ⟨hx, hb, hml, hown, hts⟩ (KA.eq (kX6_progress l D cI cS qx a0 (a1 0) (a2 0) (a3 0) (a4 0) has st hI.ws) ed) (cwV 0 hts gL_holds_X6_progress rfl rfl rfl (by decide +kernel) ⟨Nat.le_of_ble_eq_true rfl, Nat.le_of_ble_eq_true rfl⟩) hE hP 0 rfl rfl [0, 1, 2, 3, 4, 5, 6, 7, 8, 9, 10, 11, 12, 13] rfl rfl hl.1 rfl (Nat.le_of_ble_eq_true rfl) ⟨Nat.le_of_ble_eq_true rfl, Nat.le_of_ble_eq_true rfl⟩ dL_holds_323 ?_
          refine lv_dconst1 hx hb dL_holds_326 ?_
          refine lv_dcmp hx hb dL_holds_327 ?_
          refine lv_if_gt (tgt := 430) hx hb dL_holds_328 (by decide) (fun c => absurd c dg) (fun _ => ?_)
          refine lv_aload_n hx hb dL_holds_331 rfl (lv_at hl 1 rfl) ?_
          refine bIV (W0 := wO cI cS qx a0 a1 a2 a3 b3 a4 sn sc has ([]) (st, tr, hi)) (wc := [(qx, .inr (6, [.ref (a0 0), .ref (a1 0), .ref (a2 0), .ref (a3 0), .ref (a4 0), .int has]))] :: wSt cI a0 st :: wSt cI a2 tr :: []) (w1 := fun u : TTT => [(qx, .inr (6, [.ref (a0 0), .ref (a1 0), .ref (a2 0), .ref (a3 0), .ref (a4 0), .int has]))] :: wSt cI a0 u.1 :: wSt cI a2 u.2 :: []) ⟨hx, hb, hml, hown, hts⟩ (kX6_readyIn l D cI cS qx a0 a2 (a1 0) (a3 0) (a4 0) has (st, tr) hI.ws) (cwV 0 hts gL_holds_X6_readyIn rfl rfl rfl (by decide +kernel) ⟨Nat.le_of_ble_eq_true rfl, Nat.le_of_ble_eq_true rfl⟩) hE hP hD hS rfl rfl [0, 1, 3] rfl rfl (fun _ => rfl) (fun _ => rfl) rfl hl.1 rfl (Nat.le_of_ble_eq_true rfl) ⟨Nat.le_of_ble_eq_true rfl, Nat.le_of_ble_eq_true rfl⟩ dL_holds_332 (fun r_332 u_332 H locs e_332 hP hD hS => ?_)
          have hP : va_P D vwCl (fl (wO cI cS qx a0 a1 a2 a3 b3 a4 sn sc has ([]) (u_332.1, u_332.2, hi))) H := hP
          have hD : va_D A (fl (wO cI cS qx a0 a1 a2 a3 b3 a4 sn sc has ([]) (u_332.1, u_332.2, hi))) := hD
          have hr_332 := ready_chk e_332
          rw [hr_332.1] at hP hD
          refine lv_if_ne (tgt := 342) hx hb dL_holds_335 (by decide) (fun c => absurd (hr_332.2.1.mpr ⟨hph, hz⟩) c) (fun _ => ?_)
          refine lv_iconst (v := (1 : Int32)) hx hb dL_holds_338 (by decide +kernel) ?_
          refine lv_goto (tgt := 343) hx hb dL_holds_339 (by decide) ?_
          refine lv_iload hx hb dL_holds_343 (lv_at hl 0 rfl) ?_
          refine lv_icmp_ne (tgt := 430) hx hb dL_holds_345 (by decide) (fun c => absurd (show (1 : Int32) = (1 : Int32) by decide) c) (fun _ => ?_)
          refine lv_iload_n hx hb dL_holds_348 rfl (lv_at hl 2 rfl) ?_
          refine lv_iconst (v := (1 : Int32)) hx hb dL_holds_349 (by decide +kernel) ?_
          refine lv_icmp_eq (tgt := 367) hx hb dL_holds_350 (by decide) (fun c => absurd c (show ¬ (2 : Int32) = (1 : Int32) by decide)) (fun _ => ?_)
          refine lv_iload_n hx hb dL_holds_353 rfl (lv_at hl 2 rfl) ?_
          refine lv_iconst (v := (2 : Int32)) hx hb dL_holds_354 (by decide +kernel) ?_
          refine lv_icmp_eq (tgt := 367) hx hb dL_holds_355 (by decide) (fun _ => ?_) (fun c => absurd (show (2 : Int32) = (2 : Int32) by decide) c)
          refine lv_iload_n hx hb dL_holds_367 rfl (lv_at hl 3 rfl) ?_
          refine lv_if_eq (tgt := 383) hx hb dL_holds_368 (by decide) (fun c => absurd c (show ¬ (1 : Int32) = (0 : Int32) by decide)) (fun _ => ?_)
          refine lv_aload_n hx hb dL_holds_371 rfl (lv_at hl 1 rfl) ?_
          refine lv_iconst (v := (1 : Int32)) hx hb dL_holds_372 (by decide +kernel) ?_
          refine lv_iconst (v := (0 : Int32)) hx hb dL_holds_373 (by decide +kernel) ?_
          refine bRV (W0 := wO cI cS qx a0 a1 a2 a3 b3 a4 sn sc has ([]) (st, u_332.2, hi)) (wc := [(qx, .inr (6, [.ref (a0 0), .ref (a1 0), .ref (a2 0), .ref (a3 0), .ref (a4 0), .int has]))] :: wSt cI a0 st :: []) (r := (fX3_count st.2.2.2.1.1)) ⟨hx, hb, hml, hown, hts⟩ (KR.eq (kX6_table l D cI cS qx a0 (a1 0) (a2 0) (a3 0) (a4 0) has (1 : Int32) (0 : Int32) st) (tbl_1y h0)) (cwV 2 hts gL_holds_X6_table rfl rfl rfl (by decide +kernel) ⟨Nat.le_of_ble_eq_true rfl, Nat.le_of_ble_eq_true rfl⟩) hE hP rfl rfl [0, 1] rfl rfl rfl hl.1 rfl (Nat.le_of_ble_eq_true rfl) ⟨Nat.le_of_ble_eq_true rfl, Nat.le_of_ble_eq_true rfl⟩ dL_holds_374 ?_
          refine lv_if_lt (tgt := 430) hx hb dL_holds_377 (by decide) (fun c => absurd c (bd_nn (count_b _) (by omega))) (fun _ => ?_)
          refine lv_goto (tgt := 394) hx hb dL_holds_380 (by decide) ?_
          refine (Decidable.em (st.2.2.1 = (0 : Int32))).elim (fun hho => ?_) (fun hho => ?_)
          · refine lv_aload_n hx hb dL_holds_394 rfl (lv_at hl 1 rfl) ?_
            refine lv_iconst (v := (2 : Int32)) hx hb dL_holds_395 (by decide +kernel) ?_
            refine lv_iconst (v := (0 : Int32)) hx hb dL_holds_396 (by decide +kernel) ?_
            refine bRV (W0 := wO cI cS qx a0 a1 a2 a3 b3 a4 sn sc has ([]) (st, u_332.2, hi)) (wc := [(qx, .inr (6, [.ref (a0 0), .ref (a1 0), .ref (a2 0), .ref (a3 0), .ref (a4 0), .int has]))] :: wSt cI a0 st :: []) (r := (-5 : Int32)) ⟨hx, hb, hml, hown, hts⟩ (KR.eq (kX6_table l D cI cS qx a0 (a1 0) (a2 0) (a3 0) (a4 0) has (2 : Int32) (0 : Int32) st) (tbl_2n (by decide) hho)) (cwV 2 hts gL_holds_X6_table rfl rfl rfl (by decide +kernel) ⟨Nat.le_of_ble_eq_true rfl, Nat.le_of_ble_eq_true rfl⟩) hE hP rfl rfl [0, 1] rfl rfl rfl hl.1 rfl (Nat.le_of_ble_eq_true rfl) ⟨Nat.le_of_ble_eq_true rfl, Nat.le_of_ble_eq_true rfl⟩ dL_holds_397 ?_
            refine lv_bipush (v := (-5 : Int32)) hx hb dL_holds_400 (by decide +kernel) ?_
            refine lv_icmp_ne (tgt := 409) hx hb dL_holds_402 (by decide) (fun c => absurd (show (-5 : Int32) = (-5 : Int32) by decide) c) (fun _ => ?_)
            refine lv_iconst (v := (1 : Int32)) hx hb dL_holds_405 (by decide +kernel) ?_
            refine lv_goto (tgt := 410) hx hb dL_holds_406 (by decide) ?_
            refine lv_aload_n hx hb dL_holds_410 rfl (lv_at hl 1 rfl) ?_
            refine lv_iconst (v := (1 : Int32)) hx hb dL_holds_411 (by decide +kernel) ?_
            refine bRV (W0 := wO cI cS qx a0 a1 a2 a3 b3 a4 sn sc has ([]) (st, u_332.2, hi)) (wc := [(qx, .inr (6, [.ref (a0 0), .ref (a1 0), .ref (a2 0), .ref (a3 0), .ref (a4 0), .int has]))] :: wSt cI a0 st :: []) (r := (0 : Int32)) ⟨hx, hb, hml, hown, hts⟩ (KR.eq (kX6_total l D cI cS qx a0 (a1 0) (a2 0) (a3 0) (a4 0) has (1 : Int32) st) ((tot_i (i := 1) (by omega)).trans (to_y hI hho))) (cwV 1 hts gL_holds_X6_total rfl rfl rfl (by decide +kernel) ⟨Nat.le_of_ble_eq_true rfl, Nat.le_of_ble_eq_true rfl⟩) hE hP rfl rfl [0, 1] rfl rfl rfl hl.1 rfl (Nat.le_of_ble_eq_true rfl) ⟨Nat.le_of_ble_eq_true rfl, Nat.le_of_ble_eq_true rfl⟩ dL_holds_412 ?_
            refine lv_if_ne (tgt := 422) hx hb dL_holds_415 (by decide) (fun c => absurd (show (0 : Int32) = (0 : Int32) by decide) c) (fun _ => ?_)
            refine lv_iconst (v := (1 : Int32)) hx hb dL_holds_418 (by decide +kernel) ?_
            refine lv_goto (tgt := 423) hx hb dL_holds_419 (by decide) ?_
            refine lv_icmp_ne (tgt := 430) hx hb dL_holds_423 (by decide) (fun c => absurd (show (1 : Int32) = (1 : Int32) by decide) c) (fun _ => ?_)
            refine lv_iconst (v := (1 : Int32)) hx hb dL_holds_426 (by decide +kernel) ?_
            refine lv_goto (tgt := 431) hx hb dL_holds_427 (by decide) ?_
            exact hend _ _ _ u_332.2 _ _ _ _ dL_holds_431 rfl (Nat.le_refl _) (Nat.le_refl _) rfl hP hS
          · refine lv_aload_n hx hb dL_holds_394 rfl (lv_at hl 1 rfl) ?_
            refine lv_iconst (v := (2 : Int32)) hx hb dL_holds_395 (by decide +kernel) ?_
            refine lv_iconst (v := (0 : Int32)) hx hb dL_holds_396 (by decide +kernel) ?_
            refine bRV (W0 := wO cI cS qx a0 a1 a2 a3 b3 a4 sn sc has ([]) (st, u_332.2, hi)) (wc := [(qx, .inr (6, [.ref (a0 0), .ref (a1 0), .ref (a2 0), .ref (a3 0), .ref (a4 0), .int has]))] :: wSt cI a0 st :: []) (r := (fX3_count st.2.1)) ⟨hx, hb, hml, hown, hts⟩ (KR.eq (kX6_table l D cI cS qx a0 (a1 0) (a2 0) (a3 0) (a4 0) has (2 : Int32) (0 : Int32) st) (tbl_2y hho)) (cwV 2 hts gL_holds_X6_table rfl rfl rfl (by decide +kernel) ⟨Nat.le_of_ble_eq_true rfl, Nat.le_of_ble_eq_true rfl⟩) hE hP rfl rfl [0, 1] rfl rfl rfl hl.1 rfl (Nat.le_of_ble_eq_true rfl) ⟨Nat.le_of_ble_eq_true rfl, Nat.le_of_ble_eq_true rfl⟩ dL_holds_397 ?_
            refine lv_bipush (v := (-5 : Int32)) hx hb dL_holds_400 (by decide +kernel) ?_
            refine lv_icmp_ne (tgt := 409) hx hb dL_holds_402 (by decide) (fun _ => ?_) (fun c => absurd c (bd_ne (count_b _) (by omega) (by decide)))
            refine lv_iconst (v := (0 : Int32)) hx hb dL_holds_409 (by decide +kernel) ?_
            refine lv_aload_n hx hb dL_holds_410 rfl (lv_at hl 1 rfl) ?_
            refine lv_iconst (v := (1 : Int32)) hx hb dL_holds_411 (by decide +kernel) ?_
            refine bRV (W0 := wO cI cS qx a0 a1 a2 a3 b3 a4 sn sc has ([]) (st, u_332.2, hi)) (wc := [(qx, .inr (6, [.ref (a0 0), .ref (a1 0), .ref (a2 0), .ref (a3 0), .ref (a4 0), .int has]))] :: wSt cI a0 st :: []) (r := (st.2.2.2.2.2 1)) ⟨hx, hb, hml, hown, hts⟩ (KR.eq (kX6_total l D cI cS qx a0 (a1 0) (a2 0) (a3 0) (a4 0) has (1 : Int32) st) (tot_i (i := 1) (by omega))) (cwV 1 hts gL_holds_X6_total rfl rfl rfl (by decide +kernel) ⟨Nat.le_of_ble_eq_true rfl, Nat.le_of_ble_eq_true rfl⟩) hE hP rfl rfl [0, 1] rfl rfl rfl hl.1 rfl (Nat.le_of_ble_eq_true rfl) ⟨Nat.le_of_ble_eq_true rfl, Nat.le_of_ble_eq_true rfl⟩ dL_holds_412 ?_
            refine lv_if_ne (tgt := 422) hx hb dL_holds_415 (by decide) (fun _ => ?_) (fun c => absurd c (to_n hI he hho))
            refine lv_iconst (v := (0 : Int32)) hx hb dL_holds_422 (by decide +kernel) ?_
            refine lv_icmp_ne (tgt := 430) hx hb dL_holds_423 (by decide) (fun c => absurd (show (0 : Int32) = (0 : Int32) by decide) c) (fun _ => ?_)
            refine lv_iconst (v := (1 : Int32)) hx hb dL_holds_426 (by decide +kernel) ?_
            refine lv_goto (tgt := 431) hx hb dL_holds_427 (by decide) ?_
            exact hend _ _ _ u_332.2 _ _ _ _ dL_holds_431 rfl (Nat.le_refl _) (Nat.le_refl _) rfl hP hS
        | succ n ih =>
          intro hn ls hl
          rw [pk_m1 n] at hl
          have hl : lv_has ls 7 [(0, .ref qx), (1, .int ((2 : Int32))), (2, .int ((1 : Int32))), (3, .int ((unl st (32 - (n + 1))))), (4, .int ((fst st (32 - (n + 1))))), (5, .int ((nI n)))] := hl
          refine lv_iload hx hb dL_holds_26 (lv_at hl 5 rfl) ?_
          refine lv_if_lt (tgt := 91) hx hb dL_holds_28 (by decide) (fun c => absurd c (nI_pos (by omega))) (fun _ => ?_)
          refine lv_iload_n hx hb dL_holds_31 rfl (lv_at hl 2 rfl) ?_
          refine lv_if_eq (tgt := 91) hx hb dL_holds_32 (by decide) (fun c => absurd c (show ¬ (1 : Int32) = (0 : Int32) by decide)) (fun _ => ?_)
          refine lv_aload_n hx hb dL_holds_35 rfl (lv_at hl 0 rfl) ?_
          refine lv_iconst (v := (1 : Int32)) hx hb dL_holds_36 (by decide +kernel) ?_
          refine lv_iload hx hb dL_holds_37 (lv_at hl 5 rfl) ?_
          refine bRV (W0 := wO cI cS qx a0 a1 a2 a3 b3 a4 sn sc has ([]) (st, tr, hi)) (wc := [(qx, .inr (6, [.ref (a0 0), .ref (a1 0), .ref (a2 0), .ref (a3 0), .ref (a4 0), .int has]))] :: wSt cI a0 st :: []) (r := (st.2.2.2.1.1 n)) ⟨hx, hb, hml, hown, hts⟩ (KR.eq (kX6_value l D cI cS qx a0 (a1 0) (a2 0) (a3 0) (a4 0) has (1 : Int32) (nI n) st) (val_1y (by omega) h0)) (cwV 2 hts gL_holds_X6_value rfl rfl rfl (by decide +kernel) ⟨Nat.le_of_ble_eq_true rfl, Nat.le_of_ble_eq_true rfl⟩) hE hP rfl rfl [0, 1] rfl rfl rfl hl.1 rfl (Nat.le_of_ble_eq_true rfl) ⟨Nat.le_of_ble_eq_true rfl, Nat.le_of_ble_eq_true rfl⟩ dL_holds_39 ?_
          refine lv_aload_n hx hb dL_holds_42 rfl (lv_at hl 0 rfl) ?_
          refine lv_iload hx hb dL_holds_43 (lv_at hl 5 rfl) ?_
          refine bRS (W0 := wO cI cS qx a0 a1 a2 a3 b3 a4 sn sc has ([]) (st, tr, hi)) (wc := [(qx, .inr (6, [.ref (a0 0), .ref (a1 0), .ref (a2 0), .ref (a3 0), .ref (a4 0), .int has]))] :: wSt cI a0 st :: []) (r := (chg st.2.2.2.1.2.2.2.1 n (st.1 n))) ⟨hx, hb, hml, hown, hts⟩ (kL_due l D cI cS qx a0 a1 a2 a3 a4 has st hI h0 n (by omega)) (va_cwS 2 hts gL_holds_L_due rfl rfl rfl (by decide +kernel) ⟨Nat.le_of_ble_eq_true rfl, Nat.le_of_ble_eq_true rfl⟩) hE hP [0, 1] rfl rfl rfl hl.1 rfl (Nat.le_of_ble_eq_true rfl) ⟨Nat.le_of_ble_eq_true rfl, Nat.le_of_ble_eq_true rfl⟩ dL_holds_45 ?_
          refine lv_icmp_eq (tgt := 55) hx hb dL_holds_48 (by decide) (fun c_48 => ?_) (fun c_48 => ?_)
          · refine lv_iconst (v := (0 : Int32)) hx hb dL_holds_55 (by decide +kernel) ?_
            refine lv_istore (lv' := [(6, .int ((0 : Int32))), (0, .ref qx), (1, .int ((2 : Int32))), (2, .int ((1 : Int32))), (3, .int ((unl st (32 - (n + 1))))), (4, .int ((fst st (32 - (n + 1))))), (5, .int ((nI n)))]) hx hb dL_holds_56 hl (by decide) rfl (fun ls hl => ?_)
            refine lv_iload_n hx hb dL_holds_58 rfl (lv_at hl 4 rfl) ?_
            refine lv_iload hx hb dL_holds_59 (lv_at hl 0 rfl) ?_
            refine lv_if_eq (tgt := 68) hx hb dL_holds_61 (by decide) (fun _ => ?_) (fun c => absurd (show (0 : Int32) = (0 : Int32) by decide) c)
            refine lv_iconst (v := (0 : Int32)) hx hb dL_holds_68 (by decide +kernel) ?_
            refine lv_iadd hx hb dL_holds_69 ?_
            refine lv_istore_n (lv' := [(3, .int (((unl st (32 - (n + 1))) + (0 : Int32)))), (6, .int ((0 : Int32))), (0, .ref qx), (1, .int ((2 : Int32))), (2, .int ((1 : Int32))), (4, .int ((fst st (32 - (n + 1))))), (5, .int ((nI n)))]) hx hb dL_holds_70 rfl hl (by decide) rfl (fun ls hl => ?_)
            refine lv_iload hx hb dL_holds_71 (lv_at hl 1 rfl) ?_
            refine lv_if_eq (tgt := 81) hx hb dL_holds_73 (by decide) (fun _ => ?_) (fun c => absurd (show (0 : Int32) = (0 : Int32) by decide) c)
            refine lv_iload hx hb dL_holds_81 (lv_at hl 5 rfl) ?_
            refine lv_istore (lv' := [(4, .int ((fst st (32 - (n + 1))))), (3, .int (((unl st (32 - (n + 1))) + (0 : Int32)))), (6, .int ((0 : Int32))), (0, .ref qx), (1, .int ((2 : Int32))), (2, .int ((1 : Int32))), (5, .int ((nI n)))]) hx hb dL_holds_83 hl (by decide) rfl (fun ls hl => ?_)
            refine lv_iinc (v := ((nI n) + (-1 : Int32))) (lv' := [(5, .int (((nI n) + (-1 : Int32)))), (4, .int ((fst st (32 - (n + 1))))), (3, .int (((unl st (32 - (n + 1))) + (0 : Int32)))), (6, .int ((0 : Int32))), (0, .ref qx), (1, .int ((2 : Int32))), (2, .int ((1 : Int32)))]) hx hb dL_holds_85 hl (k := 6) rfl rfl (by decide) rfl (fun ls hl => ?_)
            refine lv_goto (tgt := 26) hx hb dL_holds_88 (by decide) ?_
            have q1 := un_eq (τ := st) (n := n) (by omega) c_48
            exact ih (by omega) _ (by rw [q1.1, q1.2]; exact lv_sub hl [4, 5, 6, 2, 1, 0] rfl)
          · refine lv_iconst (v := (1 : Int32)) hx hb dL_holds_51 (by decide +kernel) ?_
            refine lv_goto (tgt := 56) hx hb dL_holds_52 (by decide) ?_
            refine lv_istore (lv' := [(6, .int ((1 : Int32))), (0, .ref qx), (1, .int ((2 : Int32))), (2, .int ((1 : Int32))), (3, .int ((unl st (32 - (n + 1))))), (4, .int ((fst st (32 - (n + 1))))), (5, .int ((nI n)))]) hx hb dL_holds_56 hl (by decide) rfl (fun ls hl => ?_)
            refine lv_iload_n hx hb dL_holds_58 rfl (lv_at hl 4 rfl) ?_
            refine lv_iload hx hb dL_holds_59 (lv_at hl 0 rfl) ?_
            refine lv_if_eq (tgt := 68) hx hb dL_holds_61 (by decide) (fun c => absurd c (show ¬ (1 : Int32) = (0 : Int32) by decide)) (fun _ => ?_)
            refine lv_iconst (v := (1 : Int32)) hx hb dL_holds_64 (by decide +kernel) ?_
            refine lv_goto (tgt := 69) hx hb dL_holds_65 (by decide) ?_
            refine lv_iadd hx hb dL_holds_69 ?_
            refine lv_istore_n (lv' := [(3, .int (((unl st (32 - (n + 1))) + (1 : Int32)))), (6, .int ((1 : Int32))), (0, .ref qx), (1, .int ((2 : Int32))), (2, .int ((1 : Int32))), (4, .int ((fst st (32 - (n + 1))))), (5, .int ((nI n)))]) hx hb dL_holds_70 rfl hl (by decide) rfl (fun ls hl => ?_)
            refine lv_iload hx hb dL_holds_71 (lv_at hl 1 rfl) ?_
            refine lv_if_eq (tgt := 81) hx hb dL_holds_73 (by decide) (fun c => absurd c (show ¬ (1 : Int32) = (0 : Int32) by decide)) (fun _ => ?_)
            refine lv_iload hx hb dL_holds_76 (lv_at hl 6 rfl) ?_
            refine lv_goto (tgt := 83) hx hb dL_holds_78 (by decide) ?_
            refine lv_istore (lv' := [(4, .int ((nI n))), (3, .int (((unl st (32 - (n + 1))) + (1 : Int32)))), (6, .int ((1 : Int32))), (0, .ref qx), (1, .int ((2 : Int32))), (2, .int ((1 : Int32))), (5, .int ((nI n)))]) hx hb dL_holds_83 hl (by decide) rfl (fun ls hl => ?_)
            refine lv_iinc (v := ((nI n) + (-1 : Int32))) (lv' := [(5, .int (((nI n) + (-1 : Int32)))), (4, .int ((nI n))), (3, .int (((unl st (32 - (n + 1))) + (1 : Int32)))), (6, .int ((1 : Int32))), (0, .ref qx), (1, .int ((2 : Int32))), (2, .int ((1 : Int32)))]) hx hb dL_holds_85 hl (k := 6) rfl rfl (by decide) rfl (fun ls hl => ?_)
            refine lv_goto (tgt := 26) hx hb dL_holds_88 (by decide) ?_
            have q1 := un_ne (τ := st) (n := n) (by omega) c_48
            exact ih (by omega) _ (by rw [q1.1, q1.2]; exact lv_sub hl [4, 5, 6, 2, 1, 0] rfl)
      refine lv_aload_n hx hb dL_holds_0 rfl (lv_at hl 0 rfl) ?_
      refine lv_iconst (v := (0 : Int32)) hx hb dL_holds_1 (by decide +kernel) ?_
      refine bRV (W0 := wO cI cS qx a0 a1 a2 a3 b3 a4 sn sc has ([]) (st, tr, hi)) (wc := [(qx, .inr (6, [.ref (a0 0), .ref (a1 0), .ref (a2 0), .ref (a3 0), .ref (a4 0), .int has]))] :: wSt cI a0 st :: []) (r := (2 : Int32)) ⟨hx, hb, hml, hown, hts⟩ (KR.eq (kX6_copy l D cI cS qx a0 (a1 0) (a2 0) (a3 0) (a4 0) has (0 : Int32) st) ((cp_0 st).trans hph)) (cwV 1 hts gL_holds_X6_copy rfl rfl rfl (by decide +kernel) ⟨Nat.le_of_ble_eq_true rfl, Nat.le_of_ble_eq_true rfl⟩) hE hP rfl rfl [0, 1] rfl rfl rfl hl.1 rfl (Nat.le_of_ble_eq_true rfl) ⟨Nat.le_of_ble_eq_true rfl, Nat.le_of_ble_eq_true rfl⟩ dL_holds_2 ?_
      refine lv_istore_n (lv' := [(1, .int ((2 : Int32))), (0, .ref qx)]) hx hb dL_holds_5 rfl hl (by decide) rfl (fun ls hl => ?_)
      refine lv_iload_n hx hb dL_holds_6 rfl (lv_at hl 0 rfl) ?_
      refine lv_if_le (tgt := 14) hx hb dL_holds_7 (by decide) (fun c => absurd c (show ¬ (2 : Int32) ≤ (0 : Int32) by decide)) (fun _ => ?_)
      refine lv_iconst (v := (1 : Int32)) hx hb dL_holds_10 (by decide +kernel) ?_
      refine lv_goto (tgt := 15) hx hb dL_holds_11 (by decide) ?_
      refine lv_istore_n (lv' := [(2, .int ((1 : Int32))), (1, .int ((2 : Int32))), (0, .ref qx)]) hx hb dL_holds_15 rfl hl (by decide) rfl (fun ls hl => ?_)
      refine lv_iconst (v := (0 : Int32)) hx hb dL_holds_16 (by decide +kernel) ?_
      refine lv_istore_n (lv' := [(3, .int ((0 : Int32))), (2, .int ((1 : Int32))), (1, .int ((2 : Int32))), (0, .ref qx)]) hx hb dL_holds_17 rfl hl (by decide) rfl (fun ls hl => ?_)
      refine lv_bipush (v := (-5 : Int32)) hx hb dL_holds_18 (by decide +kernel) ?_
      refine lv_istore (lv' := [(4, .int ((-5 : Int32))), (3, .int ((0 : Int32))), (2, .int ((1 : Int32))), (1, .int ((2 : Int32))), (0, .ref qx)]) hx hb dL_holds_20 hl (by decide) rfl (fun ls hl => ?_)
      refine lv_bipush (v := (31 : Int32)) hx hb dL_holds_22 (by decide +kernel) ?_
      refine lv_istore (lv' := [(5, .int ((31 : Int32))), (4, .int ((-5 : Int32))), (3, .int ((0 : Int32))), (2, .int ((1 : Int32))), (1, .int ((2 : Int32))), (0, .ref qx)]) hx hb dL_holds_24 hl (by decide) rfl (fun ls hl => ?_)
      rw [show (31 : Int32) = (nI 32) + (-1 : Int32) from by decide] at hl
      exact loop_26 32 (by omega) _ (lv_sub hl [5, 4, 3, 2, 1, 0] rfl)
    · have nr : ¬ rdy st := fun q => hz q.2
      have h0 : ¬ st.2.2.2.1.2.2.1 = (0 : Int32) := by rw [hph]; decide
      have h1 : ¬ st.2.2.2.1.2.2.1 = (1 : Int32) := by rw [hph]; decide
      have hcp := hI.cp h0
      have hzp : (0 : Int32) < st.2.2.2.1.2.1.2.2.2 := Int32.not_le.mp (fun q => by obtain ⟨j, hj, ej⟩ := hzb.num; rw [ej] at q hz; exact nI_nle (Nat.pos_of_ne_zero (fun z => hz (by rw [z]; rfl))) (by omega) q)
      have loop_26 : ∀ n : Nat, n ≤ 32 → ∀ ls : Array Slot, lv_has ls 7 [(0, .ref qx), (1, .int ((2 : Int32))), (2, .int ((1 : Int32))), (3, .int ((unl st (32 - n)))), (4, .int ((fst st (32 - n)))), (5, .int (((nI n) + (-1 : Int32))))] → W p l e { frames := 6, cells := 0, slots := 0, locals := 129 } s m args below meth c s.heap [] 0 0 Q (F0 m 26 ls []) := by
        intro n
        induction n with
        | zero =>
          intro hn ls hl
          have hl : lv_has ls 7 [(0, .ref qx), (1, .int ((2 : Int32))), (2, .int ((1 : Int32))), (3, .int ((unl st 32))), (4, .int ((fst st 32))), (5, .int (((nI 0) + (-1 : Int32))))] := hl
          refine lv_iload hx hb dL_holds_26 (lv_at hl 5 rfl) ?_
          refine lv_if_lt (tgt := 91) hx hb dL_holds_28 (by decide) (fun _ => ?_) (fun c => absurd (show (nI 0 + (-1 : Int32)) < (0 : Int32) by decide) c)
          refine lv_iload_n hx hb dL_holds_91 rfl (lv_at hl 1 rfl) ?_
          refine lv_if_lt (tgt := 180) hx hb dL_holds_92 (by decide) (fun c => absurd c (show ¬ (2 : Int32) < (0 : Int32) by decide)) (fun _ => ?_)
          refine lv_iload_n hx hb dL_holds_95 rfl (lv_at hl 1 rfl) ?_
          refine lv_iconst (v := (3 : Int32)) hx hb dL_holds_96 (by decide +kernel) ?_
          refine lv_icmp_gt (tgt := 180) hx hb dL_holds_97 (by decide) (fun c => absurd c (show ¬ (3 : Int32) < (2 : Int32) by decide)) (fun _ => ?_)
          refine lv_aload_n hx hb dL_holds_100 rfl (lv_at hl 0 rfl) ?_
          refine bRV (W0 := wO cI cS qx a0 a1 a2 a3 b3 a4 sn sc has ([]) (st, tr, hi)) (wc := [(qx, .inr (6, [.ref (a0 0), .ref (a1 0), .ref (a2 0), .ref (a3 0), .ref (a4 0), .int has]))] :: wSt cI a0 st :: []) (r := (unl st 32)) ⟨hx, hb, hml, hown, hts⟩ (KR.eq (kX6_differences l D cI cS qx a0 (a1 0) (a2 0) (a3 0) (a4 0) has st) (dfs_y h0)) (cwV 0 hts gL_holds_X6_differences rfl rfl rfl (by decide +kernel) ⟨Nat.le_of_ble_eq_true rfl, Nat.le_of_ble_eq_true rfl⟩) hE hP rfl rfl [0, 1] rfl rfl rfl hl.1 rfl (Nat.le_of_ble_eq_true rfl) ⟨Nat.le_of_ble_eq_true rfl, Nat.le_of_ble_eq_true rfl⟩ dL_holds_101 ?_
          refine lv_iload_n hx hb dL_holds_104 rfl (lv_at hl 2 rfl) ?_
          refine lv_if_eq (tgt := 112) hx hb dL_holds_105 (by decide) (fun c => absurd c (show ¬ (1 : Int32) = (0 : Int32) by decide)) (fun _ => ?_)
          refine lv_iload_n hx hb dL_holds_108 rfl (lv_at hl 3 rfl) ?_
          refine lv_goto (tgt := 114) hx hb dL_holds_109 (by decide) ?_
          refine lv_icmp_ne (tgt := 180) hx hb dL_holds_114 (by decide) (fun c => absurd rfl c) (fun _ => ?_)
          refine lv_aload_n hx hb dL_holds_117 rfl (lv_at hl 0 rfl) ?_
          refine bRV (W0 := wO cI cS qx a0 a1 a2 a3 b3 a4 sn sc has ([]) (st, tr, hi)) (wc := [(qx, .inr (6, [.ref (a0 0), .ref (a1 0), .ref (a2 0), .ref (a3 0), .ref (a4 0), .int has]))] :: wSt cI a0 st :: []) (r := (fst st 32)) ⟨hx, hb, hml, hown, hts⟩ (KR.eq (kX6_firstDifference l D cI cS qx a0 (a1 0) (a2 0) (a3 0) (a4 0) has st) (fds_y h0)) (cwV 0 hts gL_holds_X6_firstDifference rfl rfl rfl (by decide +kernel) ⟨Nat.le_of_ble_eq_true rfl, Nat.le_of_ble_eq_true rfl⟩) hE hP rfl rfl [0, 1] rfl rfl rfl hl.1 rfl (Nat.le_of_ble_eq_true rfl) ⟨Nat.le_of_ble_eq_true rfl, Nat.le_of_ble_eq_true rfl⟩ dL_holds_118 ?_
          refine lv_iload hx hb dL_holds_121 (lv_at hl 4 rfl) ?_
          refine lv_icmp_ne (tgt := 180) hx hb dL_holds_123 (by decide) (fun c => absurd rfl c) (fun _ => ?_)
          refine lv_iload_n hx hb dL_holds_126 rfl (lv_at hl 2 rfl) ?_
          refine lv_if_eq (tgt := 158) hx hb dL_holds_127 (by decide) (fun c => absurd c (show ¬ (1 : Int32) = (0 : Int32) by decide)) (fun _ => ?_)
          refine lv_iload_n hx hb dL_holds_130 rfl (lv_at hl 1 rfl) ?_
          refine lv_iconst (v := (1 : Int32)) hx hb dL_holds_131 (by decide +kernel) ?_
          refine lv_icmp_le (tgt := 139) hx hb dL_holds_132 (by decide) (fun c => absurd c (show ¬ (2 : Int32) ≤ (1 : Int32) by decide)) (fun _ => ?_)
          refine lv_iconst (v := (1 : Int32)) hx hb dL_holds_135 (by decide +kernel) ?_
          refine lv_goto (tgt := 140) hx hb dL_holds_136 (by decide) ?_
          refine lv_aload_n hx hb dL_holds_140 rfl (lv_at hl 0 rfl) ?_
          refine lv_iconst (v := (3 : Int32)) hx hb dL_holds_141 (by decide +kernel) ?_
          refine bRV (W0 := wO cI cS qx a0 a1 a2 a3 b3 a4 sn sc has ([]) (st, tr, hi)) (wc := [(qx, .inr (6, [.ref (a0 0), .ref (a1 0), .ref (a2 0), .ref (a3 0), .ref (a4 0), .int has]))] :: wSt cI a0 st :: []) (r := (32 : Int32)) ⟨hx, hb, hml, hown, hts⟩ (KR.eq (kX6_copy l D cI cS qx a0 (a1 0) (a2 0) (a3 0) (a4 0) has (3 : Int32) st) ((cp_3 h0).trans (cu_32 hI h0 h1))) (cwV 1 hts gL_holds_X6_copy rfl rfl rfl (by decide +kernel) ⟨Nat.le_of_ble_eq_true rfl, Nat.le_of_ble_eq_true rfl⟩) hE hP rfl rfl [0, 1] rfl rfl rfl hl.1 rfl (Nat.le_of_ble_eq_true rfl) ⟨Nat.le_of_ble_eq_true rfl, Nat.le_of_ble_eq_true rfl⟩ dL_holds_142 ?_
          refine lv_bipush (v := (32 : Int32)) hx hb dL_holds_145 (by decide +kernel) ?_
          refine lv_icmp_ne (tgt := 154) hx hb dL_holds_147 (by decide) (fun c => absurd (show (32 : Int32) = (32 : Int32) by decide) c) (fun _ => ?_)
          refine lv_iconst (v := (1 : Int32)) hx hb dL_holds_150 (by decide +kernel) ?_
          refine lv_goto (tgt := 155) hx hb dL_holds_151 (by decide) ?_
          refine lv_icmp_ne (tgt := 180) hx hb dL_holds_155 (by decide) (fun c => absurd (show (1 : Int32) = (1 : Int32) by decide) c) (fun _ => ?_)
          refine lv_iload_n hx hb dL_holds_158 rfl (lv_at hl 2 rfl) ?_
          refine lv_if_eq (tgt := 182) hx hb dL_holds_159 (by decide) (fun c => absurd c (show ¬ (1 : Int32) = (0 : Int32) by decide)) (fun _ => ?_)
          refine lv_aload_n hx hb dL_holds_162 rfl (lv_at hl 0 rfl) ?_
          refine lv_iconst (v := (4 : Int32)) hx hb dL_holds_163 (by decide +kernel) ?_
          refine bRV (W0 := wO cI cS qx a0 a1 a2 a3 b3 a4 sn sc has ([]) (st, tr, hi)) (wc := [(qx, .inr (6, [.ref (a0 0), .ref (a1 0), .ref (a2 0), .ref (a3 0), .ref (a4 0), .int has]))] :: wSt cI a0 st :: []) (r := st.2.2.2.1.2.1.2.2.2) ⟨hx, hb, hml, hown, hts⟩ (KR.eq (kX6_copy l D cI cS qx a0 (a1 0) (a2 0) (a3 0) (a4 0) has (4 : Int32) st) (cp_4 h0)) (cwV 1 hts gL_holds_X6_copy rfl rfl rfl (by decide +kernel) ⟨Nat.le_of_ble_eq_true rfl, Nat.le_of_ble_eq_true rfl⟩) hE hP rfl rfl [0, 1] rfl rfl rfl hl.1 rfl (Nat.le_of_ble_eq_true rfl) ⟨Nat.le_of_ble_eq_true rfl, Nat.le_of_ble_eq_true rfl⟩ dL_holds_164 ?_
          refine lv_if_lt (tgt := 180) hx hb dL_holds_167 (by decide) (fun c => absurd c (bd_nn hzb (by omega))) (fun _ => ?_)
          refine lv_aload_n hx hb dL_holds_170 rfl (lv_at hl 0 rfl) ?_
          refine lv_iconst (v := (4 : Int32)) hx hb dL_holds_171 (by decide +kernel) ?_
          refine bRV (W0 := wO cI cS qx a0 a1 a2 a3 b3 a4 sn sc has ([]) (st, tr, hi)) (wc := [(qx, .inr (6, [.ref (a0 0), .ref (a1 0), .ref (a2 0), .ref (a3 0), .ref (a4 0), .int has]))] :: wSt cI a0 st :: []) (r := st.2.2.2.1.2.1.2.2.2) ⟨hx, hb, hml, hown, hts⟩ (KR.eq (kX6_copy l D cI cS qx a0 (a1 0) (a2 0) (a3 0) (a4 0) has (4 : Int32) st) (cp_4 h0)) (cwV 1 hts gL_holds_X6_copy rfl rfl rfl (by decide +kernel) ⟨Nat.le_of_ble_eq_true rfl, Nat.le_of_ble_eq_true rfl⟩) hE hP rfl rfl [0, 1] rfl rfl rfl hl.1 rfl (Nat.le_of_ble_eq_true rfl) ⟨Nat.le_of_ble_eq_true rfl, Nat.le_of_ble_eq_true rfl⟩ dL_holds_172 ?_
          refine lv_bipush (v := (24 : Int32)) hx hb dL_holds_175 (by decide +kernel) ?_
          refine lv_icmp_le (tgt := 182) hx hb dL_holds_177 (by decide) (fun _ => ?_) (fun c => absurd (bd_le hzb (by omega)) c)
          refine lv_iconst (v := (1 : Int32)) hx hb dL_holds_182 (by decide +kernel) ?_
          refine lv_istore (lv' := [(5, .int ((1 : Int32))), (0, .ref qx), (1, .int ((2 : Int32))), (2, .int ((1 : Int32))), (3, .int ((unl st 32))), (4, .int ((fst st 32)))]) hx hb dL_holds_183 hl (by decide) rfl (fun ls hl => ?_)
          refine lv_iload hx hb dL_holds_185 (lv_at hl 0 rfl) ?_
          refine lv_bipush (v := (6 : Int32)) hx hb dL_holds_187 (by decide +kernel) ?_
          refine lv_icmp_ge (tgt := 247) hx hb dL_holds_189 (by decide) (fun c => absurd c (show ¬ (6 : Int32) ≤ (1 : Int32) by decide)) (fun _ => ?_)
          refine lv_aload_n hx hb dL_holds_192 rfl (lv_at hl 1 rfl) ?_
          refine lv_iload hx hb dL_holds_193 (lv_at hl 0 rfl) ?_
          refine bRV (W0 := wO cI cS qx a0 a1 a2 a3 b3 a4 sn sc has ([]) (st, tr, hi)) (wc := [(qx, .inr (6, [.ref (a0 0), .ref (a1 0), .ref (a2 0), .ref (a3 0), .ref (a4 0), .int has]))] :: wSt cI a0 st :: []) (r := st.2.2.2.1.2.2.2.1) ⟨hx, hb, hml, hown, hts⟩ (KR.eq (kX6_copy l D cI cS qx a0 (a1 0) (a2 0) (a3 0) (a4 0) has (1 : Int32) st) (cp_1 h0)) (cwV 1 hts gL_holds_X6_copy rfl rfl rfl (by decide +kernel) ⟨Nat.le_of_ble_eq_true rfl, Nat.le_of_ble_eq_true rfl⟩) hE hP rfl rfl [0, 1] rfl rfl rfl hl.1 rfl (Nat.le_of_ble_eq_true rfl) ⟨Nat.le_of_ble_eq_true rfl, Nat.le_of_ble_eq_true rfl⟩ dL_holds_195 ?_
          refine lv_bipush (v := (-5 : Int32)) hx hb dL_holds_198 (by decide +kernel) ?_
          refine lv_icmp_ne (tgt := 207) hx hb dL_holds_200 (by decide) (fun _ => ?_) (fun c => absurd c (bd_ne hcp.1 (by omega) (by decide)))
          refine lv_iconst (v := (0 : Int32)) hx hb dL_holds_207 (by decide +kernel) ?_
          refine lv_iload hx hb dL_holds_208 (lv_at hl 0 rfl) ?_
          refine lv_iconst (v := (5 : Int32)) hx hb dL_holds_210 (by decide +kernel) ?_
          refine lv_icmp_ge (tgt := 226) hx hb dL_holds_211 (by decide) (fun c => absurd c (show ¬ (5 : Int32) ≤ (1 : Int32) by decide)) (fun _ => ?_)
          refine lv_iload_n hx hb dL_holds_214 rfl (lv_at hl 3 rfl) ?_
          refine lv_if_ne (tgt := 222) hx hb dL_holds_215 (by decide) (fun _ => ?_) (fun c => absurd c (show ¬ (1 : Int32) = (0 : Int32) by decide))
          refine lv_iconst (v := (0 : Int32)) hx hb dL_holds_222 (by decide +kernel) ?_
          refine lv_goto (tgt := 236) hx hb dL_holds_223 (by decide) ?_
          refine lv_icmp_eq (tgt := 241) hx hb dL_holds_236 (by decide) (fun _ => ?_) (fun c => absurd (show (0 : Int32) = (0 : Int32) by decide) c)
          refine lv_iinc (v := (2 : Int32)) (lv' := [(5, .int ((2 : Int32))), (0, .ref qx), (1, .int ((2 : Int32))), (2, .int ((1 : Int32))), (3, .int ((unl st 32))), (4, .int ((fst st 32)))]) hx hb dL_holds_241 hl (k := 0) rfl (by decide) (by decide) rfl (fun ls hl => ?_)
          refine lv_goto (tgt := 185) hx hb dL_holds_244 (by decide) ?_
          refine lv_iload hx hb dL_holds_185 (lv_at hl 0 rfl) ?_
          refine lv_bipush (v := (6 : Int32)) hx hb dL_holds_187 (by decide +kernel) ?_
          refine lv_icmp_ge (tgt := 247) hx hb dL_holds_189 (by decide) (fun c => absurd c (show ¬ (6 : Int32) ≤ (2 : Int32) by decide)) (fun _ => ?_)
          refine lv_aload_n hx hb dL_holds_192 rfl (lv_at hl 1 rfl) ?_
          refine lv_iload hx hb dL_holds_193 (lv_at hl 0 rfl) ?_
          refine bRV (W0 := wO cI cS qx a0 a1 a2 a3 b3 a4 sn sc has ([]) (st, tr, hi)) (wc := [(qx, .inr (6, [.ref (a0 0), .ref (a1 0), .ref (a2 0), .ref (a3 0), .ref (a4 0), .int has]))] :: wSt cI a0 st :: []) (r := st.2.2.2.1.2.2.2.2.1) ⟨hx, hb, hml, hown, hts⟩ (KR.eq (kX6_copy l D cI cS qx a0 (a1 0) (a2 0) (a3 0) (a4 0) has (2 : Int32) st) (cp_2 h0)) (cwV 1 hts gL_holds_X6_copy rfl rfl rfl (by decide +kernel) ⟨Nat.le_of_ble_eq_true rfl, Nat.le_of_ble_eq_true rfl⟩) hE hP rfl rfl [0, 1] rfl rfl rfl hl.1 rfl (Nat.le_of_ble_eq_true rfl) ⟨Nat.le_of_ble_eq_true rfl, Nat.le_of_ble_eq_true rfl⟩ dL_holds_195 ?_
          refine lv_bipush (v := (-5 : Int32)) hx hb dL_holds_198 (by decide +kernel) ?_
          refine lv_icmp_ne (tgt := 207) hx hb dL_holds_200 (by decide) (fun _ => ?_) (fun c => absurd c (lt_5 hcp.2.1))
          refine lv_iconst (v := (0 : Int32)) hx hb dL_holds_207 (by decide +kernel) ?_
          refine lv_iload hx hb dL_holds_208 (lv_at hl 0 rfl) ?_
          refine lv_iconst (v := (5 : Int32)) hx hb dL_holds_210 (by decide +kernel) ?_
          refine lv_icmp_ge (tgt := 226) hx hb dL_holds_211 (by decide) (fun c => absurd c (show ¬ (5 : Int32) ≤ (2 : Int32) by decide)) (fun _ => ?_)
          refine lv_iload_n hx hb dL_holds_214 rfl (lv_at hl 3 rfl) ?_
          refine lv_if_ne (tgt := 222) hx hb dL_holds_215 (by decide) (fun _ => ?_) (fun c => absurd c (show ¬ (1 : Int32) = (0 : Int32) by decide))
          refine lv_iconst (v := (0 : Int32)) hx hb dL_holds_222 (by decide +kernel) ?_
          refine lv_goto (tgt := 236) hx hb dL_holds_223 (by decide) ?_
          refine lv_icmp_eq (tgt := 241) hx hb dL_holds_236 (by decide) (fun _ => ?_) (fun c => absurd (show (0 : Int32) = (0 : Int32) by decide) c)
          refine lv_iinc (v := (3 : Int32)) (lv' := [(5, .int ((3 : Int32))), (0, .ref qx), (1, .int ((2 : Int32))), (2, .int ((1 : Int32))), (3, .int ((unl st 32))), (4, .int ((fst st 32)))]) hx hb dL_holds_241 hl (k := 0) rfl (by decide) (by decide) rfl (fun ls hl => ?_)
          refine lv_goto (tgt := 185) hx hb dL_holds_244 (by decide) ?_
          refine lv_iload hx hb dL_holds_185 (lv_at hl 0 rfl) ?_
          refine lv_bipush (v := (6 : Int32)) hx hb dL_holds_187 (by decide +kernel) ?_
          refine lv_icmp_ge (tgt := 247) hx hb dL_holds_189 (by decide) (fun c => absurd c (show ¬ (6 : Int32) ≤ (3 : Int32) by decide)) (fun _ => ?_)
          refine lv_aload_n hx hb dL_holds_192 rfl (lv_at hl 1 rfl) ?_
          refine lv_iload hx hb dL_holds_193 (lv_at hl 0 rfl) ?_
          refine bRV (W0 := wO cI cS qx a0 a1 a2 a3 b3 a4 sn sc has ([]) (st, tr, hi)) (wc := [(qx, .inr (6, [.ref (a0 0), .ref (a1 0), .ref (a2 0), .ref (a3 0), .ref (a4 0), .int has]))] :: wSt cI a0 st :: []) (r := (32 : Int32)) ⟨hx, hb, hml, hown, hts⟩ (KR.eq (kX6_copy l D cI cS qx a0 (a1 0) (a2 0) (a3 0) (a4 0) has (3 : Int32) st) ((cp_3 h0).trans (cu_32 hI h0 h1))) (cwV 1 hts gL_holds_X6_copy rfl rfl rfl (by decide +kernel) ⟨Nat.le_of_ble_eq_true rfl, Nat.le_of_ble_eq_true rfl⟩) hE hP rfl rfl [0, 1] rfl rfl rfl hl.1 rfl (Nat.le_of_ble_eq_true rfl) ⟨Nat.le_of_ble_eq_true rfl, Nat.le_of_ble_eq_true rfl⟩ dL_holds_195 ?_
          refine lv_bipush (v := (-5 : Int32)) hx hb dL_holds_198 (by decide +kernel) ?_
          refine lv_icmp_ne (tgt := 207) hx hb dL_holds_200 (by decide) (fun _ => ?_) (fun c => absurd c (show ¬ (32 : Int32) = (-5 : Int32) by decide))
          refine lv_iconst (v := (0 : Int32)) hx hb dL_holds_207 (by decide +kernel) ?_
          refine lv_iload hx hb dL_holds_208 (lv_at hl 0 rfl) ?_
          refine lv_iconst (v := (5 : Int32)) hx hb dL_holds_210 (by decide +kernel) ?_
          refine lv_icmp_ge (tgt := 226) hx hb dL_holds_211 (by decide) (fun c => absurd c (show ¬ (5 : Int32) ≤ (3 : Int32) by decide)) (fun _ => ?_)
          refine lv_iload_n hx hb dL_holds_214 rfl (lv_at hl 3 rfl) ?_
          refine lv_if_ne (tgt := 222) hx hb dL_holds_215 (by decide) (fun _ => ?_) (fun c => absurd c (show ¬ (1 : Int32) = (0 : Int32) by decide))
          refine lv_iconst (v := (0 : Int32)) hx hb dL_holds_222 (by decide +kernel) ?_
          refine lv_goto (tgt := 236) hx hb dL_holds_223 (by decide) ?_
          refine lv_icmp_eq (tgt := 241) hx hb dL_holds_236 (by decide) (fun _ => ?_) (fun c => absurd (show (0 : Int32) = (0 : Int32) by decide) c)
          refine lv_iinc (v := (4 : Int32)) (lv' := [(5, .int ((4 : Int32))), (0, .ref qx), (1, .int ((2 : Int32))), (2, .int ((1 : Int32))), (3, .int ((unl st 32))), (4, .int ((fst st 32)))]) hx hb dL_holds_241 hl (k := 0) rfl (by decide) (by decide) rfl (fun ls hl => ?_)
          refine lv_goto (tgt := 185) hx hb dL_holds_244 (by decide) ?_
          refine lv_iload hx hb dL_holds_185 (lv_at hl 0 rfl) ?_
          refine lv_bipush (v := (6 : Int32)) hx hb dL_holds_187 (by decide +kernel) ?_
          refine lv_icmp_ge (tgt := 247) hx hb dL_holds_189 (by decide) (fun c => absurd c (show ¬ (6 : Int32) ≤ (4 : Int32) by decide)) (fun _ => ?_)
          refine lv_aload_n hx hb dL_holds_192 rfl (lv_at hl 1 rfl) ?_
          refine lv_iload hx hb dL_holds_193 (lv_at hl 0 rfl) ?_
          refine bRV (W0 := wO cI cS qx a0 a1 a2 a3 b3 a4 sn sc has ([]) (st, tr, hi)) (wc := [(qx, .inr (6, [.ref (a0 0), .ref (a1 0), .ref (a2 0), .ref (a3 0), .ref (a4 0), .int has]))] :: wSt cI a0 st :: []) (r := st.2.2.2.1.2.1.2.2.2) ⟨hx, hb, hml, hown, hts⟩ (KR.eq (kX6_copy l D cI cS qx a0 (a1 0) (a2 0) (a3 0) (a4 0) has (4 : Int32) st) (cp_4 h0)) (cwV 1 hts gL_holds_X6_copy rfl rfl rfl (by decide +kernel) ⟨Nat.le_of_ble_eq_true rfl, Nat.le_of_ble_eq_true rfl⟩) hE hP rfl rfl [0, 1] rfl rfl rfl hl.1 rfl (Nat.le_of_ble_eq_true rfl) ⟨Nat.le_of_ble_eq_true rfl, Nat.le_of_ble_eq_true rfl⟩ dL_holds_195 ?_
          refine lv_bipush (v := (-5 : Int32)) hx hb dL_holds_198 (by decide +kernel) ?_
          refine lv_icmp_ne (tgt := 207) hx hb dL_holds_200 (by decide) (fun _ => ?_) (fun c => absurd c (bd_ne hzb (by omega) (by decide)))
          refine lv_iconst (v := (0 : Int32)) hx hb dL_holds_207 (by decide +kernel) ?_
          refine lv_iload hx hb dL_holds_208 (lv_at hl 0 rfl) ?_
          refine lv_iconst (v := (5 : Int32)) hx hb dL_holds_210 (by decide +kernel) ?_
          refine lv_icmp_ge (tgt := 226) hx hb dL_holds_211 (by decide) (fun c => absurd c (show ¬ (5 : Int32) ≤ (4 : Int32) by decide)) (fun _ => ?_)
          refine lv_iload_n hx hb dL_holds_214 rfl (lv_at hl 3 rfl) ?_
          refine lv_if_ne (tgt := 222) hx hb dL_holds_215 (by decide) (fun _ => ?_) (fun c => absurd c (show ¬ (1 : Int32) = (0 : Int32) by decide))
          refine lv_iconst (v := (0 : Int32)) hx hb dL_holds_222 (by decide +kernel) ?_
          refine lv_goto (tgt := 236) hx hb dL_holds_223 (by decide) ?_
          refine lv_icmp_eq (tgt := 241) hx hb dL_holds_236 (by decide) (fun _ => ?_) (fun c => absurd (show (0 : Int32) = (0 : Int32) by decide) c)
          refine lv_iinc (v := (5 : Int32)) (lv' := [(5, .int ((5 : Int32))), (0, .ref qx), (1, .int ((2 : Int32))), (2, .int ((1 : Int32))), (3, .int ((unl st 32))), (4, .int ((fst st 32)))]) hx hb dL_holds_241 hl (k := 0) rfl (by decide) (by decide) rfl (fun ls hl => ?_)
          refine lv_goto (tgt := 185) hx hb dL_holds_244 (by decide) ?_
          refine lv_iload hx hb dL_holds_185 (lv_at hl 0 rfl) ?_
          refine lv_bipush (v := (6 : Int32)) hx hb dL_holds_187 (by decide +kernel) ?_
          refine lv_icmp_ge (tgt := 247) hx hb dL_holds_189 (by decide) (fun c => absurd c (show ¬ (6 : Int32) ≤ (5 : Int32) by decide)) (fun _ => ?_)
          refine lv_aload_n hx hb dL_holds_192 rfl (lv_at hl 1 rfl) ?_
          refine lv_iload hx hb dL_holds_193 (lv_at hl 0 rfl) ?_
          refine bRV (W0 := wO cI cS qx a0 a1 a2 a3 b3 a4 sn sc has ([]) (st, tr, hi)) (wc := [(qx, .inr (6, [.ref (a0 0), .ref (a1 0), .ref (a2 0), .ref (a3 0), .ref (a4 0), .int has]))] :: wSt cI a0 st :: []) (r := (-5 : Int32)) ⟨hx, hb, hml, hown, hts⟩ (KR.eq (kX6_copy l D cI cS qx a0 (a1 0) (a2 0) (a3 0) (a4 0) has (5 : Int32) st) ((cp_5 st).trans (if_neg (by rw [hph]; decide)))) (cwV 1 hts gL_holds_X6_copy rfl rfl rfl (by decide +kernel) ⟨Nat.le_of_ble_eq_true rfl, Nat.le_of_ble_eq_true rfl⟩) hE hP rfl rfl [0, 1] rfl rfl rfl hl.1 rfl (Nat.le_of_ble_eq_true rfl) ⟨Nat.le_of_ble_eq_true rfl, Nat.le_of_ble_eq_true rfl⟩ dL_holds_195 ?_
          refine lv_bipush (v := (-5 : Int32)) hx hb dL_holds_198 (by decide +kernel) ?_
          refine lv_icmp_ne (tgt := 207) hx hb dL_holds_200 (by decide) (fun c => absurd (show (-5 : Int32) = (-5 : Int32) by decide) c) (fun _ => ?_)
          refine lv_iconst (v := (1 : Int32)) hx hb dL_holds_203 (by decide +kernel) ?_
          refine lv_goto (tgt := 208) hx hb dL_holds_204 (by decide) ?_
          refine lv_iload hx hb dL_holds_208 (lv_at hl 0 rfl) ?_
          refine lv_iconst (v := (5 : Int32)) hx hb dL_holds_210 (by decide +kernel) ?_
          refine lv_icmp_ge (tgt := 226) hx hb dL_holds_211 (by decide) (fun _ => ?_) (fun c => absurd (show (5 : Int32) ≤ (5 : Int32) by decide) c)
          refine lv_iload_n hx hb dL_holds_226 rfl (lv_at hl 2 rfl) ?_
          refine lv_iconst (v := (3 : Int32)) hx hb dL_holds_227 (by decide +kernel) ?_
          refine lv_icmp_eq (tgt := 235) hx hb dL_holds_228 (by decide) (fun c => absurd c (show ¬ (2 : Int32) = (3 : Int32) by decide)) (fun _ => ?_)
          refine lv_iconst (v := (1 : Int32)) hx hb dL_holds_231 (by decide +kernel) ?_
          refine lv_goto (tgt := 236) hx hb dL_holds_232 (by decide) ?_
          refine lv_icmp_eq (tgt := 241) hx hb dL_holds_236 (by decide) (fun _ => ?_) (fun c => absurd (show (1 : Int32) = (1 : Int32) by decide) c)
          refine lv_iinc (v := (6 : Int32)) (lv' := [(5, .int ((6 : Int32))), (0, .ref qx), (1, .int ((2 : Int32))), (2, .int ((1 : Int32))), (3, .int ((unl st 32))), (4, .int ((fst st 32)))]) hx hb dL_holds_241 hl (k := 0) rfl (by decide) (by decide) rfl (fun ls hl => ?_)
          refine lv_goto (tgt := 185) hx hb dL_holds_244 (by decide) ?_
          refine lv_iload hx hb dL_holds_185 (lv_at hl 0 rfl) ?_
          refine lv_bipush (v := (6 : Int32)) hx hb dL_holds_187 (by decide +kernel) ?_
          refine lv_icmp_ge (tgt := 247) hx hb dL_holds_189 (by decide) (fun _ => ?_) (fun c => absurd (show (6 : Int32) ≤ (6 : Int32) by decide) c)
          refine lv_iload_n hx hb dL_holds_247 rfl (lv_at hl 2 rfl) ?_
          refine lv_iconst (v := (2 : Int32)) hx hb dL_holds_248 (by decide +kernel) ?_
          refine lv_icmp_ne (tgt := 264) hx hb dL_holds_249 (by decide) (fun c => absurd (show (2 : Int32) = (2 : Int32) by decide) c) (fun _ => ?_)
          refine lv_aload_n hx hb dL_holds_252 rfl (lv_at hl 1 rfl) ?_
          refine lv_iconst (v := (4 : Int32)) hx hb dL_holds_253 (by decide +kernel) ?_
          refine bRV (W0 := wO cI cS qx a0 a1 a2 a3 b3 a4 sn sc has ([]) (st, tr, hi)) (wc := [(qx, .inr (6, [.ref (a0 0), .ref (a1 0), .ref (a2 0), .ref (a3 0), .ref (a4 0), .int has]))] :: wSt cI a0 st :: []) (r := st.2.2.2.1.2.1.2.2.2) ⟨hx, hb, hml, hown, hts⟩ (KR.eq (kX6_copy l D cI cS qx a0 (a1 0) (a2 0) (a3 0) (a4 0) has (4 : Int32) st) (cp_4 h0)) (cwV 1 hts gL_holds_X6_copy rfl rfl rfl (by decide +kernel) ⟨Nat.le_of_ble_eq_true rfl, Nat.le_of_ble_eq_true rfl⟩) hE hP rfl rfl [0, 1] rfl rfl rfl hl.1 rfl (Nat.le_of_ble_eq_true rfl) ⟨Nat.le_of_ble_eq_true rfl, Nat.le_of_ble_eq_true rfl⟩ dL_holds_254 ?_
          refine lv_if_ne (tgt := 264) hx hb dL_holds_257 (by decide) (fun _ => ?_) (fun c => absurd c hz)
          refine lv_iconst (v := (0 : Int32)) hx hb dL_holds_264 (by decide +kernel) ?_
          refine lv_istore (lv' := [(5, .int ((0 : Int32))), (0, .ref qx), (1, .int ((2 : Int32))), (2, .int ((1 : Int32))), (3, .int ((unl st 32))), (4, .int ((fst st 32)))]) hx hb dL_holds_265 hl (by decide) rfl (fun ls hl => ?_)
          refine lv_iload_n hx hb dL_holds_267 rfl (lv_at hl 2 rfl) ?_
          refine lv_iconst (v := (2 : Int32)) hx hb dL_holds_268 (by decide +kernel) ?_
          refine lv_icmp_lt (tgt := 284) hx hb dL_holds_269 (by decide) (fun c => absurd c (show ¬ (2 : Int32) < (2 : Int32) by decide)) (fun _ => ?_)
          refine lv_aload_n hx hb dL_holds_272 rfl (lv_at hl 1 rfl) ?_
          refine lv_iconst (v := (4 : Int32)) hx hb dL_holds_273 (by decide +kernel) ?_
          refine bRV (W0 := wO cI cS qx a0 a1 a2 a3 b3 a4 sn sc has ([]) (st, tr, hi)) (wc := [(qx, .inr (6, [.ref (a0 0), .ref (a1 0), .ref (a2 0), .ref (a3 0), .ref (a4 0), .int has]))] :: wSt cI a0 st :: []) (r := st.2.2.2.1.2.1.2.2.2) ⟨hx, hb, hml, hown, hts⟩ (KR.eq (kX6_copy l D cI cS qx a0 (a1 0) (a2 0) (a3 0) (a4 0) has (4 : Int32) st) (cp_4 h0)) (cwV 1 hts gL_holds_X6_copy rfl rfl rfl (by decide +kernel) ⟨Nat.le_of_ble_eq_true rfl, Nat.le_of_ble_eq_true rfl⟩) hE hP rfl rfl [0, 1] rfl rfl rfl hl.1 rfl (Nat.le_of_ble_eq_true rfl) ⟨Nat.le_of_ble_eq_true rfl, Nat.le_of_ble_eq_true rfl⟩ dL_holds_274 ?_
          refine lv_if_gt (tgt := 284) hx hb dL_holds_277 (by decide) (fun _ => ?_) (fun c => absurd hzp c)
          refine lv_aload_n hx hb dL_holds_284 rfl (lv_at hl 1 rfl) ?_
          refine lv_iconst (v := (0 : Int32)) hx hb dL_holds_285 (by decide +kernel) ?_
          refine bRV (W0 := wO cI cS qx a0 a1 a2 a3 b3 a4 sn sc has ([]) (st, tr, hi)) (wc := [(qx, .inr (6, [.ref (a0 0), .ref (a1 0), .ref (a2 0), .ref (a3 0), .ref (a4 0), .int has]))] :: wSt cI a0 st :: []) (r := (st.2.2.2.2.2 0)) ⟨hx, hb, hml, hown, hts⟩ (KR.eq (kX6_total l D cI cS qx a0 (a1 0) (a2 0) (a3 0) (a4 0) has (0 : Int32) st) (tot_i (i := 0) (by omega))) (cwV 1 hts gL_holds_X6_total rfl rfl rfl (by decide +kernel) ⟨Nat.le_of_ble_eq_true rfl, Nat.le_of_ble_eq_true rfl⟩) hE hP rfl rfl [0, 1] rfl rfl rfl hl.1 rfl (Nat.le_of_ble_eq_true rfl) ⟨Nat.le_of_ble_eq_true rfl, Nat.le_of_ble_eq_true rfl⟩ dL_holds_286 ?_
          refine lv_aload_n hx hb dL_holds_289 rfl (lv_at hl 1 rfl) ?_
          refine lv_iconst (v := (1 : Int32)) hx hb dL_holds_290 (by decide +kernel) ?_
          refine bRV (W0 := wO cI cS qx a0 a1 a2 a3 b3 a4 sn sc has ([]) (st, tr, hi)) (wc := [(qx, .inr (6, [.ref (a0 0), .ref (a1 0), .ref (a2 0), .ref (a3 0), .ref (a4 0), .int has]))] :: wSt cI a0 st :: []) (r := (st.2.2.2.2.2 1)) ⟨hx, hb, hml, hown, hts⟩ (KR.eq (kX6_total l D cI cS qx a0 (a1 0) (a2 0) (a3 0) (a4 0) has (1 : Int32) st) (tot_i (i := 1) (by omega))) (cwV 1 hts gL_holds_X6_total rfl rfl rfl (by decide +kernel) ⟨Nat.le_of_ble_eq_true rfl, Nat.le_of_ble_eq_true rfl⟩) hE hP rfl rfl [0, 1] rfl rfl rfl hl.1 rfl (Nat.le_of_ble_eq_true rfl) ⟨Nat.le_of_ble_eq_true rfl, Nat.le_of_ble_eq_true rfl⟩ dL_holds_291 ?_
          refine lv_aload_n hx hb dL_holds_294 rfl (lv_at hl 1 rfl) ?_
          refine lv_iconst (v := (2 : Int32)) hx hb dL_holds_295 (by decide +kernel) ?_
          refine bRV (W0 := wO cI cS qx a0 a1 a2 a3 b3 a4 sn sc has ([]) (st, tr, hi)) (wc := [(qx, .inr (6, [.ref (a0 0), .ref (a1 0), .ref (a2 0), .ref (a3 0), .ref (a4 0), .int has]))] :: wSt cI a0 st :: []) (r := (st.2.2.2.2.2 2)) ⟨hx, hb, hml, hown, hts⟩ (KR.eq (kX6_total l D cI cS qx a0 (a1 0) (a2 0) (a3 0) (a4 0) has (2 : Int32) st) (tot_i (i := 2) (by omega))) (cwV 1 hts gL_holds_X6_total rfl rfl rfl (by decide +kernel) ⟨Nat.le_of_ble_eq_true rfl, Nat.le_of_ble_eq_true rfl⟩) hE hP rfl rfl [0, 1] rfl rfl rfl hl.1 rfl (Nat.le_of_ble_eq_true rfl) ⟨Nat.le_of_ble_eq_true rfl, Nat.le_of_ble_eq_true rfl⟩ dL_holds_296 ?_
          refine lv_iadd hx hb dL_holds_299 ?_
          refine lv_iload_n hx hb dL_holds_300 rfl (lv_at hl 3 rfl) ?_
          refine lv_if_eq (tgt := 308) hx hb dL_holds_301 (by decide) (fun c => absurd c (show ¬ (1 : Int32) = (0 : Int32) by decide)) (fun _ => ?_)
          refine lv_iconst (v := (1 : Int32)) hx hb dL_holds_304 (by decide +kernel) ?_
          refine lv_goto (tgt := 309) hx hb dL_holds_305 (by decide) ?_
          refine lv_iadd hx hb dL_holds_309 ?_
          refine lv_icmp_ne (tgt := 430) hx hb dL_holds_310 (by decide) (fun c => absurd (to_1 hI h0) c) (fun _ => ?_)
          refine lv_aload_n hx hb dL_holds_313 rfl (lv_at hl 1 rfl) ?_
          refine cAV (W0 := fl (wO cI cS qx a0 a1 a2 a3 b3 a4 sn sc has ([]) (st, tr, hi))) (wc := fl ([(qx, .inr (6, [.ref (a0 0), .ref (a1 0), .ref (a2 0), .ref (a3 0), .ref (a4 0), .int has]))] :: wSt cI a0 st :: [])) (r := Value.double dd) ⟨hx, hb, hml, hown, hts⟩ (KA.eq (kX6_progress l D cI cS qx a0 (a1 0) (a2 0) (a3 0) (a4 0) has st hI.ws) ed) (cwV 0 hts gL_holds_X6_progress rfl rfl rfl (by decide +kernel) ⟨Nat.le_of_ble_eq_true rfl, Nat.le_of_ble_eq_true rfl⟩) hE hP 0 rfl rfl [0, 1, 2, 3, 4, 5, 6, 7, 8, 9, 10, 11, 12, 13] rfl rfl hl.1 rfl (Nat.le_of_ble_eq_true rfl) ⟨Nat.le_of_ble_eq_true rfl, Nat.le_of_ble_eq_true rfl⟩ dL_holds_314 ?_
          refine lv_dconst0 hx hb dL_holds_317 ?_
          refine lv_dcmp hx hb dL_holds_318 ?_
          refine lv_if_lt (tgt := 430) hx hb dL_holds_319 (by decide) (fun c => absurd c dl) (fun _ => ?_)
          refine lv_aload_n hx hb dL_holds_322 rfl (lv_at hl 1 rfl) ?_
          refine cAV (W0 := fl (wO cI cS qx a0 a1 a2 a3 b3 a4 sn sc has ([]) (st, tr, hi))) (wc := fl ([(qx, .inr (6, [.ref (a0 0), .ref (a1 0), .ref (a2 0), .ref (a3 0), .ref (a4 0), .int has]))] :: wSt cI a0 st :: [])) (r := Value.double dd) ⟨hx, hb, hml, hown, hts⟩ (KA.eq (kX6_progress l D cI cS qx a0 (a1 0) (a2 0) (a3 0) (a4 0) has st hI.ws) ed) (cwV 0 hts gL_holds_X6_progress rfl rfl rfl (by decide +kernel) ⟨Nat.le_of_ble_eq_true rfl, Nat.le_of_ble_eq_true rfl⟩) hE hP 0 rfl rfl [0, 1, 2, 3, 4, 5, 6, 7, 8, 9, 10, 11, 12, 13] rfl rfl hl.1 rfl (Nat.le_of_ble_eq_true rfl) ⟨Nat.le_of_ble_eq_true rfl, Nat.le_of_ble_eq_true rfl⟩ dL_holds_323 ?_
          refine lv_dconst1 hx hb dL_holds_326 ?_
          refine lv_dcmp hx hb dL_holds_327 ?_
          refine lv_if_gt (tgt := 430) hx hb dL_holds_328 (by decide) (fun c => absurd c dg) (fun _ => ?_)
          refine lv_aload_n hx hb dL_holds_331 rfl (lv_at hl 1 rfl) ?_
          refine bIV (W0 := wO cI cS qx a0 a1 a2 a3 b3 a4 sn sc has ([]) (st, tr, hi)) (wc := [(qx, .inr (6, [.ref (a0 0), .ref (a1 0), .ref (a2 0), .ref (a3 0), .ref (a4 0), .int has]))] :: wSt cI a0 st :: wSt cI a2 tr :: []) (w1 := fun u : TTT => [(qx, .inr (6, [.ref (a0 0), .ref (a1 0), .ref (a2 0), .ref (a3 0), .ref (a4 0), .int has]))] :: wSt cI a0 u.1 :: wSt cI a2 u.2 :: []) ⟨hx, hb, hml, hown, hts⟩ (kX6_readyIn l D cI cS qx a0 a2 (a1 0) (a3 0) (a4 0) has (st, tr) hI.ws) (cwV 0 hts gL_holds_X6_readyIn rfl rfl rfl (by decide +kernel) ⟨Nat.le_of_ble_eq_true rfl, Nat.le_of_ble_eq_true rfl⟩) hE hP hD hS rfl rfl [0, 1, 3] rfl rfl (fun _ => rfl) (fun _ => rfl) rfl hl.1 rfl (Nat.le_of_ble_eq_true rfl) ⟨Nat.le_of_ble_eq_true rfl, Nat.le_of_ble_eq_true rfl⟩ dL_holds_332 (fun r_332 u_332 H locs e_332 hP hD hS => ?_)
          have hP : va_P D vwCl (fl (wO cI cS qx a0 a1 a2 a3 b3 a4 sn sc has ([]) (u_332.1, u_332.2, hi))) H := hP
          have hD : va_D A (fl (wO cI cS qx a0 a1 a2 a3 b3 a4 sn sc has ([]) (u_332.1, u_332.2, hi))) := hD
          have hr_332 := ready_chk e_332
          rw [hr_332.1] at hP hD
          refine lv_if_ne (tgt := 342) hx hb dL_holds_335 (by decide) (fun _ => ?_) (fun c => absurd c (fun q => nr (hr_332.2.1.mp q)))
          refine lv_iconst (v := (0 : Int32)) hx hb dL_holds_342 (by decide +kernel) ?_
          refine lv_iload hx hb dL_holds_343 (lv_at hl 0 rfl) ?_
          refine lv_icmp_ne (tgt := 430) hx hb dL_holds_345 (by decide) (fun c => absurd (show (0 : Int32) = (0 : Int32) by decide) c) (fun _ => ?_)
          refine lv_iload_n hx hb dL_holds_348 rfl (lv_at hl 2 rfl) ?_
          refine lv_iconst (v := (1 : Int32)) hx hb dL_holds_349 (by decide +kernel) ?_
          refine lv_icmp_eq (tgt := 367) hx hb dL_holds_350 (by decide) (fun c => absurd c (show ¬ (2 : Int32) = (1 : Int32) by decide)) (fun _ => ?_)
          refine lv_iload_n hx hb dL_holds_353 rfl (lv_at hl 2 rfl) ?_
          refine lv_iconst (v := (2 : Int32)) hx hb dL_holds_354 (by decide +kernel) ?_
          refine lv_icmp_eq (tgt := 367) hx hb dL_holds_355 (by decide) (fun _ => ?_) (fun c => absurd (show (2 : Int32) = (2 : Int32) by decide) c)
          refine lv_iload_n hx hb dL_holds_367 rfl (lv_at hl 3 rfl) ?_
          refine lv_if_eq (tgt := 383) hx hb dL_holds_368 (by decide) (fun c => absurd c (show ¬ (1 : Int32) = (0 : Int32) by decide)) (fun _ => ?_)
          refine lv_aload_n hx hb dL_holds_371 rfl (lv_at hl 1 rfl) ?_
          refine lv_iconst (v := (1 : Int32)) hx hb dL_holds_372 (by decide +kernel) ?_
          refine lv_iconst (v := (0 : Int32)) hx hb dL_holds_373 (by decide +kernel) ?_
          refine bRV (W0 := wO cI cS qx a0 a1 a2 a3 b3 a4 sn sc has ([]) (st, u_332.2, hi)) (wc := [(qx, .inr (6, [.ref (a0 0), .ref (a1 0), .ref (a2 0), .ref (a3 0), .ref (a4 0), .int has]))] :: wSt cI a0 st :: []) (r := (fX3_count st.2.2.2.1.1)) ⟨hx, hb, hml, hown, hts⟩ (KR.eq (kX6_table l D cI cS qx a0 (a1 0) (a2 0) (a3 0) (a4 0) has (1 : Int32) (0 : Int32) st) (tbl_1y h0)) (cwV 2 hts gL_holds_X6_table rfl rfl rfl (by decide +kernel) ⟨Nat.le_of_ble_eq_true rfl, Nat.le_of_ble_eq_true rfl⟩) hE hP rfl rfl [0, 1] rfl rfl rfl hl.1 rfl (Nat.le_of_ble_eq_true rfl) ⟨Nat.le_of_ble_eq_true rfl, Nat.le_of_ble_eq_true rfl⟩ dL_holds_374 ?_
          refine lv_if_lt (tgt := 430) hx hb dL_holds_377 (by decide) (fun c => absurd c (bd_nn (count_b _) (by omega))) (fun _ => ?_)
          refine lv_goto (tgt := 394) hx hb dL_holds_380 (by decide) ?_
          refine (Decidable.em (st.2.2.1 = (0 : Int32))).elim (fun hho => ?_) (fun hho => ?_)
          · refine lv_aload_n hx hb dL_holds_394 rfl (lv_at hl 1 rfl) ?_
            refine lv_iconst (v := (2 : Int32)) hx hb dL_holds_395 (by decide +kernel) ?_
            refine lv_iconst (v := (0 : Int32)) hx hb dL_holds_396 (by decide +kernel) ?_
            refine bRV (W0 := wO cI cS qx a0 a1 a2 a3 b3 a4 sn sc has ([]) (st, u_332.2, hi)) (wc := [(qx, .inr (6, [.ref (a0 0), .ref (a1 0), .ref (a2 0), .ref (a3 0), .ref (a4 0), .int has]))] :: wSt cI a0 st :: []) (r := (-5 : Int32)) ⟨hx, hb, hml, hown, hts⟩ (KR.eq (kX6_table l D cI cS qx a0 (a1 0) (a2 0) (a3 0) (a4 0) has (2 : Int32) (0 : Int32) st) (tbl_2n (by decide) hho)) (cwV 2 hts gL_holds_X6_table rfl rfl rfl (by decide +kernel) ⟨Nat.le_of_ble_eq_true rfl, Nat.le_of_ble_eq_true rfl⟩) hE hP rfl rfl [0, 1] rfl rfl rfl hl.1 rfl (Nat.le_of_ble_eq_true rfl) ⟨Nat.le_of_ble_eq_true rfl, Nat.le_of_ble_eq_true rfl⟩ dL_holds_397 ?_
            refine lv_bipush (v := (-5 : Int32)) hx hb dL_holds_400 (by decide +kernel) ?_
            refine lv_icmp_ne (tgt := 409) hx hb dL_holds_402 (by decide) (fun c => absurd (show (-5 : Int32) = (-5 : Int32) by decide) c) (fun _ => ?_)
            refine lv_iconst (v := (1 : Int32)) hx hb dL_holds_405 (by decide +kernel) ?_
            refine lv_goto (tgt := 410) hx hb dL_holds_406 (by decide) ?_
            refine lv_aload_n hx hb dL_holds_410 rfl (lv_at hl 1 rfl) ?_
            refine lv_iconst (v := (1 : Int32)) hx hb dL_holds_411 (by decide +kernel) ?_
            refine bRV (W0 := wO cI cS qx a0 a1 a2 a3 b3 a4 sn sc has ([]) (st, u_332.2, hi)) (wc := [(qx, .inr (6, [.ref (a0 0), .ref (a1 0), .ref (a2 0), .ref (a3 0), .ref (a4 0), .int has]))] :: wSt cI a0 st :: []) (r := (0 : Int32)) ⟨hx, hb, hml, hown, hts⟩ (KR.eq (kX6_total l D cI cS qx a0 (a1 0) (a2 0) (a3 0) (a4 0) has (1 : Int32) st) ((tot_i (i := 1) (by omega)).trans (to_y hI hho))) (cwV 1 hts gL_holds_X6_total rfl rfl rfl (by decide +kernel) ⟨Nat.le_of_ble_eq_true rfl, Nat.le_of_ble_eq_true rfl⟩) hE hP rfl rfl [0, 1] rfl rfl rfl hl.1 rfl (Nat.le_of_ble_eq_true rfl) ⟨Nat.le_of_ble_eq_true rfl, Nat.le_of_ble_eq_true rfl⟩ dL_holds_412 ?_
            refine lv_if_ne (tgt := 422) hx hb dL_holds_415 (by decide) (fun c => absurd (show (0 : Int32) = (0 : Int32) by decide) c) (fun _ => ?_)
            refine lv_iconst (v := (1 : Int32)) hx hb dL_holds_418 (by decide +kernel) ?_
            refine lv_goto (tgt := 423) hx hb dL_holds_419 (by decide) ?_
            refine lv_icmp_ne (tgt := 430) hx hb dL_holds_423 (by decide) (fun c => absurd (show (1 : Int32) = (1 : Int32) by decide) c) (fun _ => ?_)
            refine lv_iconst (v := (1 : Int32)) hx hb dL_holds_426 (by decide +kernel) ?_
            refine lv_goto (tgt := 431) hx hb dL_holds_427 (by decide) ?_
            exact hend _ _ _ u_332.2 _ _ _ _ dL_holds_431 rfl (Nat.le_refl _) (Nat.le_refl _) rfl hP hS
          · refine lv_aload_n hx hb dL_holds_394 rfl (lv_at hl 1 rfl) ?_
            refine lv_iconst (v := (2 : Int32)) hx hb dL_holds_395 (by decide +kernel) ?_
            refine lv_iconst (v := (0 : Int32)) hx hb dL_holds_396 (by decide +kernel) ?_
            refine bRV (W0 := wO cI cS qx a0 a1 a2 a3 b3 a4 sn sc has ([]) (st, u_332.2, hi)) (wc := [(qx, .inr (6, [.ref (a0 0), .ref (a1 0), .ref (a2 0), .ref (a3 0), .ref (a4 0), .int has]))] :: wSt cI a0 st :: []) (r := (fX3_count st.2.1)) ⟨hx, hb, hml, hown, hts⟩ (KR.eq (kX6_table l D cI cS qx a0 (a1 0) (a2 0) (a3 0) (a4 0) has (2 : Int32) (0 : Int32) st) (tbl_2y hho)) (cwV 2 hts gL_holds_X6_table rfl rfl rfl (by decide +kernel) ⟨Nat.le_of_ble_eq_true rfl, Nat.le_of_ble_eq_true rfl⟩) hE hP rfl rfl [0, 1] rfl rfl rfl hl.1 rfl (Nat.le_of_ble_eq_true rfl) ⟨Nat.le_of_ble_eq_true rfl, Nat.le_of_ble_eq_true rfl⟩ dL_holds_397 ?_
            refine lv_bipush (v := (-5 : Int32)) hx hb dL_holds_400 (by decide +kernel) ?_
            refine lv_icmp_ne (tgt := 409) hx hb dL_holds_402 (by decide) (fun _ => ?_) (fun c => absurd c (bd_ne (count_b _) (by omega) (by decide)))
            refine lv_iconst (v := (0 : Int32)) hx hb dL_holds_409 (by decide +kernel) ?_
            refine lv_aload_n hx hb dL_holds_410 rfl (lv_at hl 1 rfl) ?_
            refine lv_iconst (v := (1 : Int32)) hx hb dL_holds_411 (by decide +kernel) ?_
            refine bRV (W0 := wO cI cS qx a0 a1 a2 a3 b3 a4 sn sc has ([]) (st, u_332.2, hi)) (wc := [(qx, .inr (6, [.ref (a0 0), .ref (a1 0), .ref (a2 0), .ref (a3 0), .ref (a4 0), .int has]))] :: wSt cI a0 st :: []) (r := (st.2.2.2.2.2 1)) ⟨hx, hb, hml, hown, hts⟩ (KR.eq (kX6_total l D cI cS qx a0 (a1 0) (a2 0) (a3 0) (a4 0) has (1 : Int32) st) (tot_i (i := 1) (by omega))) (cwV 1 hts gL_holds_X6_total rfl rfl rfl (by decide +kernel) ⟨Nat.le_of_ble_eq_true rfl, Nat.le_of_ble_eq_true rfl⟩) hE hP rfl rfl [0, 1] rfl rfl rfl hl.1 rfl (Nat.le_of_ble_eq_true rfl) ⟨Nat.le_of_ble_eq_true rfl, Nat.le_of_ble_eq_true rfl⟩ dL_holds_412 ?_
            refine lv_if_ne (tgt := 422) hx hb dL_holds_415 (by decide) (fun _ => ?_) (fun c => absurd c (to_n hI he hho))
            refine lv_iconst (v := (0 : Int32)) hx hb dL_holds_422 (by decide +kernel) ?_
            refine lv_icmp_ne (tgt := 430) hx hb dL_holds_423 (by decide) (fun c => absurd (show (0 : Int32) = (0 : Int32) by decide) c) (fun _ => ?_)
            refine lv_iconst (v := (1 : Int32)) hx hb dL_holds_426 (by decide +kernel) ?_
            refine lv_goto (tgt := 431) hx hb dL_holds_427 (by decide) ?_
            exact hend _ _ _ u_332.2 _ _ _ _ dL_holds_431 rfl (Nat.le_refl _) (Nat.le_refl _) rfl hP hS
        | succ n ih =>
          intro hn ls hl
          rw [pk_m1 n] at hl
          have hl : lv_has ls 7 [(0, .ref qx), (1, .int ((2 : Int32))), (2, .int ((1 : Int32))), (3, .int ((unl st (32 - (n + 1))))), (4, .int ((fst st (32 - (n + 1))))), (5, .int ((nI n)))] := hl
          refine lv_iload hx hb dL_holds_26 (lv_at hl 5 rfl) ?_
          refine lv_if_lt (tgt := 91) hx hb dL_holds_28 (by decide) (fun c => absurd c (nI_pos (by omega))) (fun _ => ?_)
          refine lv_iload_n hx hb dL_holds_31 rfl (lv_at hl 2 rfl) ?_
          refine lv_if_eq (tgt := 91) hx hb dL_holds_32 (by decide) (fun c => absurd c (show ¬ (1 : Int32) = (0 : Int32) by decide)) (fun _ => ?_)
          refine lv_aload_n hx hb dL_holds_35 rfl (lv_at hl 0 rfl) ?_
          refine lv_iconst (v := (1 : Int32)) hx hb dL_holds_36 (by decide +kernel) ?_
          refine lv_iload hx hb dL_holds_37 (lv_at hl 5 rfl) ?_
          refine bRV (W0 := wO cI cS qx a0 a1 a2 a3 b3 a4 sn sc has ([]) (st, tr, hi)) (wc := [(qx, .inr (6, [.ref (a0 0), .ref (a1 0), .ref (a2 0), .ref (a3 0), .ref (a4 0), .int has]))] :: wSt cI a0 st :: []) (r := (st.2.2.2.1.1 n)) ⟨hx, hb, hml, hown, hts⟩ (KR.eq (kX6_value l D cI cS qx a0 (a1 0) (a2 0) (a3 0) (a4 0) has (1 : Int32) (nI n) st) (val_1y (by omega) h0)) (cwV 2 hts gL_holds_X6_value rfl rfl rfl (by decide +kernel) ⟨Nat.le_of_ble_eq_true rfl, Nat.le_of_ble_eq_true rfl⟩) hE hP rfl rfl [0, 1] rfl rfl rfl hl.1 rfl (Nat.le_of_ble_eq_true rfl) ⟨Nat.le_of_ble_eq_true rfl, Nat.le_of_ble_eq_true rfl⟩ dL_holds_39 ?_
          refine lv_aload_n hx hb dL_holds_42 rfl (lv_at hl 0 rfl) ?_
          refine lv_iload hx hb dL_holds_43 (lv_at hl 5 rfl) ?_
          refine bRS (W0 := wO cI cS qx a0 a1 a2 a3 b3 a4 sn sc has ([]) (st, tr, hi)) (wc := [(qx, .inr (6, [.ref (a0 0), .ref (a1 0), .ref (a2 0), .ref (a3 0), .ref (a4 0), .int has]))] :: wSt cI a0 st :: []) (r := (chg st.2.2.2.1.2.2.2.1 n (st.1 n))) ⟨hx, hb, hml, hown, hts⟩ (kL_due l D cI cS qx a0 a1 a2 a3 a4 has st hI h0 n (by omega)) (va_cwS 2 hts gL_holds_L_due rfl rfl rfl (by decide +kernel) ⟨Nat.le_of_ble_eq_true rfl, Nat.le_of_ble_eq_true rfl⟩) hE hP [0, 1] rfl rfl rfl hl.1 rfl (Nat.le_of_ble_eq_true rfl) ⟨Nat.le_of_ble_eq_true rfl, Nat.le_of_ble_eq_true rfl⟩ dL_holds_45 ?_
          refine lv_icmp_eq (tgt := 55) hx hb dL_holds_48 (by decide) (fun c_48 => ?_) (fun c_48 => ?_)
          · refine lv_iconst (v := (0 : Int32)) hx hb dL_holds_55 (by decide +kernel) ?_
            refine lv_istore (lv' := [(6, .int ((0 : Int32))), (0, .ref qx), (1, .int ((2 : Int32))), (2, .int ((1 : Int32))), (3, .int ((unl st (32 - (n + 1))))), (4, .int ((fst st (32 - (n + 1))))), (5, .int ((nI n)))]) hx hb dL_holds_56 hl (by decide) rfl (fun ls hl => ?_)
            refine lv_iload_n hx hb dL_holds_58 rfl (lv_at hl 4 rfl) ?_
            refine lv_iload hx hb dL_holds_59 (lv_at hl 0 rfl) ?_
            refine lv_if_eq (tgt := 68) hx hb dL_holds_61 (by decide) (fun _ => ?_) (fun c => absurd (show (0 : Int32) = (0 : Int32) by decide) c)
            refine lv_iconst (v := (0 : Int32)) hx hb dL_holds_68 (by decide +kernel) ?_
            refine lv_iadd hx hb dL_holds_69 ?_
            refine lv_istore_n (lv' := [(3, .int (((unl st (32 - (n + 1))) + (0 : Int32)))), (6, .int ((0 : Int32))), (0, .ref qx), (1, .int ((2 : Int32))), (2, .int ((1 : Int32))), (4, .int ((fst st (32 - (n + 1))))), (5, .int ((nI n)))]) hx hb dL_holds_70 rfl hl (by decide) rfl (fun ls hl => ?_)
            refine lv_iload hx hb dL_holds_71 (lv_at hl 1 rfl) ?_
            refine lv_if_eq (tgt := 81) hx hb dL_holds_73 (by decide) (fun _ => ?_) (fun c => absurd (show (0 : Int32) = (0 : Int32) by decide) c)
            refine lv_iload hx hb dL_holds_81 (lv_at hl 5 rfl) ?_
            refine lv_istore (lv' := [(4, .int ((fst st (32 - (n + 1))))), (3, .int (((unl st (32 - (n + 1))) + (0 : Int32)))), (6, .int ((0 : Int32))), (0, .ref qx), (1, .int ((2 : Int32))), (2, .int ((1 : Int32))), (5, .int ((nI n)))]) hx hb dL_holds_83 hl (by decide) rfl (fun ls hl => ?_)
            refine lv_iinc (v := ((nI n) + (-1 : Int32))) (lv' := [(5, .int (((nI n) + (-1 : Int32)))), (4, .int ((fst st (32 - (n + 1))))), (3, .int (((unl st (32 - (n + 1))) + (0 : Int32)))), (6, .int ((0 : Int32))), (0, .ref qx), (1, .int ((2 : Int32))), (2, .int ((1 : Int32)))]) hx hb dL_holds_85 hl (k := 6) rfl rfl (by decide) rfl (fun ls hl => ?_)
            refine lv_goto (tgt := 26) hx hb dL_holds_88 (by decide) ?_
            have q1 := un_eq (τ := st) (n := n) (by omega) c_48
            exact ih (by omega) _ (by rw [q1.1, q1.2]; exact lv_sub hl [4, 5, 6, 2, 1, 0] rfl)
          · refine lv_iconst (v := (1 : Int32)) hx hb dL_holds_51 (by decide +kernel) ?_
            refine lv_goto (tgt := 56) hx hb dL_holds_52 (by decide) ?_
            refine lv_istore (lv' := [(6, .int ((1 : Int32))), (0, .ref qx), (1, .int ((2 : Int32))), (2, .int ((1 : Int32))), (3, .int ((unl st (32 - (n + 1))))), (4, .int ((fst st (32 - (n + 1))))), (5, .int ((nI n)))]) hx hb dL_holds_56 hl (by decide) rfl (fun ls hl => ?_)
            refine lv_iload_n hx hb dL_holds_58 rfl (lv_at hl 4 rfl) ?_
            refine lv_iload hx hb dL_holds_59 (lv_at hl 0 rfl) ?_
            refine lv_if_eq (tgt := 68) hx hb dL_holds_61 (by decide) (fun c => absurd c (show ¬ (1 : Int32) = (0 : Int32) by decide)) (fun _ => ?_)
            refine lv_iconst (v := (1 : Int32)) hx hb dL_holds_64 (by decide +kernel) ?_
            refine lv_goto (tgt := 69) hx hb dL_holds_65 (by decide) ?_
            refine lv_iadd hx hb dL_holds_69 ?_
            refine lv_istore_n (lv' := [(3, .int (((unl st (32 - (n + 1))) + (1 : Int32)))), (6, .int ((1 : Int32))), (0, .ref qx), (1, .int ((2 : Int32))), (2, .int ((1 : Int32))), (4, .int ((fst st (32 - (n + 1))))), (5, .int ((nI n)))]) hx hb dL_holds_70 rfl hl (by decide) rfl (fun ls hl => ?_)
            refine lv_iload hx hb dL_holds_71 (lv_at hl 1 rfl) ?_
            refine lv_if_eq (tgt := 81) hx hb dL_holds_73 (by decide) (fun c => absurd c (show ¬ (1 : Int32) = (0 : Int32) by decide)) (fun _ => ?_)
            refine lv_iload hx hb dL_holds_76 (lv_at hl 6 rfl) ?_
            refine lv_goto (tgt := 83) hx hb dL_holds_78 (by decide) ?_
            refine lv_istore (lv' := [(4, .int ((nI n))), (3, .int (((unl st (32 - (n + 1))) + (1 : Int32)))), (6, .int ((1 : Int32))), (0, .ref qx), (1, .int ((2 : Int32))), (2, .int ((1 : Int32))), (5, .int ((nI n)))]) hx hb dL_holds_83 hl (by decide) rfl (fun ls hl => ?_)
            refine lv_iinc (v := ((nI n) + (-1 : Int32))) (lv' := [(5, .int (((nI n) + (-1 : Int32)))), (4, .int ((nI n))), (3, .int (((unl st (32 - (n + 1))) + (1 : Int32)))), (6, .int ((1 : Int32))), (0, .ref qx), (1, .int ((2 : Int32))), (2, .int ((1 : Int32)))]) hx hb dL_holds_85 hl (k := 6) rfl rfl (by decide) rfl (fun ls hl => ?_)
            refine lv_goto (tgt := 26) hx hb dL_holds_88 (by decide) ?_
            have q1 := un_ne (τ := st) (n := n) (by omega) c_48
            exact ih (by omega) _ (by rw [q1.1, q1.2]; exact lv_sub hl [4, 5, 6, 2, 1, 0] rfl)
      refine lv_aload_n hx hb dL_holds_0 rfl (lv_at hl 0 rfl) ?_
      refine lv_iconst (v := (0 : Int32)) hx hb dL_holds_1 (by decide +kernel) ?_
      refine bRV (W0 := wO cI cS qx a0 a1 a2 a3 b3 a4 sn sc has ([]) (st, tr, hi)) (wc := [(qx, .inr (6, [.ref (a0 0), .ref (a1 0), .ref (a2 0), .ref (a3 0), .ref (a4 0), .int has]))] :: wSt cI a0 st :: []) (r := (2 : Int32)) ⟨hx, hb, hml, hown, hts⟩ (KR.eq (kX6_copy l D cI cS qx a0 (a1 0) (a2 0) (a3 0) (a4 0) has (0 : Int32) st) ((cp_0 st).trans hph)) (cwV 1 hts gL_holds_X6_copy rfl rfl rfl (by decide +kernel) ⟨Nat.le_of_ble_eq_true rfl, Nat.le_of_ble_eq_true rfl⟩) hE hP rfl rfl [0, 1] rfl rfl rfl hl.1 rfl (Nat.le_of_ble_eq_true rfl) ⟨Nat.le_of_ble_eq_true rfl, Nat.le_of_ble_eq_true rfl⟩ dL_holds_2 ?_
      refine lv_istore_n (lv' := [(1, .int ((2 : Int32))), (0, .ref qx)]) hx hb dL_holds_5 rfl hl (by decide) rfl (fun ls hl => ?_)
      refine lv_iload_n hx hb dL_holds_6 rfl (lv_at hl 0 rfl) ?_
      refine lv_if_le (tgt := 14) hx hb dL_holds_7 (by decide) (fun c => absurd c (show ¬ (2 : Int32) ≤ (0 : Int32) by decide)) (fun _ => ?_)
      refine lv_iconst (v := (1 : Int32)) hx hb dL_holds_10 (by decide +kernel) ?_
      refine lv_goto (tgt := 15) hx hb dL_holds_11 (by decide) ?_
      refine lv_istore_n (lv' := [(2, .int ((1 : Int32))), (1, .int ((2 : Int32))), (0, .ref qx)]) hx hb dL_holds_15 rfl hl (by decide) rfl (fun ls hl => ?_)
      refine lv_iconst (v := (0 : Int32)) hx hb dL_holds_16 (by decide +kernel) ?_
      refine lv_istore_n (lv' := [(3, .int ((0 : Int32))), (2, .int ((1 : Int32))), (1, .int ((2 : Int32))), (0, .ref qx)]) hx hb dL_holds_17 rfl hl (by decide) rfl (fun ls hl => ?_)
      refine lv_bipush (v := (-5 : Int32)) hx hb dL_holds_18 (by decide +kernel) ?_
      refine lv_istore (lv' := [(4, .int ((-5 : Int32))), (3, .int ((0 : Int32))), (2, .int ((1 : Int32))), (1, .int ((2 : Int32))), (0, .ref qx)]) hx hb dL_holds_20 hl (by decide) rfl (fun ls hl => ?_)
      refine lv_bipush (v := (31 : Int32)) hx hb dL_holds_22 (by decide +kernel) ?_
      refine lv_istore (lv' := [(5, .int ((31 : Int32))), (4, .int ((-5 : Int32))), (3, .int ((0 : Int32))), (2, .int ((1 : Int32))), (1, .int ((2 : Int32))), (0, .ref qx)]) hx hb dL_holds_24 hl (by decide) rfl (fun ls hl => ?_)
      rw [show (31 : Int32) = (nI 32) + (-1 : Int32) from by decide] at hl
      exact loop_26 32 (by omega) _ (lv_sub hl [5, 4, 3, 2, 1, 0] rfl)
  · by_cases hz : st.2.2.2.1.2.1.2.2.2 = (0 : Int32)
    · have nr : ¬ rdy st := fun q => absurd (hph.symm.trans q.1) (by decide)
      have h0 : ¬ st.2.2.2.1.2.2.1 = (0 : Int32) := by rw [hph]; decide
      have h1 : ¬ st.2.2.2.1.2.2.1 = (1 : Int32) := by rw [hph]; decide
      have hcp := hI.cp h0
      have hun : unl st 32 = (0 : Int32) := unl_z hI h0 h1 hz
      have h2 : ¬ st.2.2.2.1.2.2.1 = (2 : Int32) := by rw [hph]; decide
      have loop_26 : ∀ n : Nat, n ≤ 32 → ∀ ls : Array Slot, lv_has ls 7 [(0, .ref qx), (1, .int ((3 : Int32))), (2, .int ((1 : Int32))), (3, .int ((unl st (32 - n)))), (4, .int ((fst st (32 - n)))), (5, .int (((nI n) + (-1 : Int32))))] → W p l e { frames := 6, cells := 0, slots := 0, locals := 129 } s m args below meth c s.heap [] 0 0 Q (F0 m 26 ls []) := by
        intro n
        induction n with
        | zero =>
          intro hn ls hl
          have hl : lv_has ls 7 [(0, .ref qx), (1, .int ((3 : Int32))), (2, .int ((1 : Int32))), (3, .int ((unl st 32))), (4, .int ((fst st 32))), (5, .int (((nI 0) + (-1 : Int32))))] := hl
          refine lv_iload hx hb dL_holds_26 (lv_at hl 5 rfl) ?_
          refine lv_if_lt (tgt := 91) hx hb dL_holds_28 (by decide) (fun _ => ?_) (fun c => absurd (show (nI 0 + (-1 : Int32)) < (0 : Int32) by decide) c)
          refine lv_iload_n hx hb dL_holds_91 rfl (lv_at hl 1 rfl) ?_
          refine lv_if_lt (tgt := 180) hx hb dL_holds_92 (by decide) (fun c => absurd c (show ¬ (3 : Int32) < (0 : Int32) by decide)) (fun _ => ?_)
          refine lv_iload_n hx hb dL_holds_95 rfl (lv_at hl 1 rfl) ?_
          refine lv_iconst (v := (3 : Int32)) hx hb dL_holds_96 (by decide +kernel) ?_
          refine lv_icmp_gt (tgt := 180) hx hb dL_holds_97 (by decide) (fun c => absurd c (show ¬ (3 : Int32) < (3 : Int32) by decide)) (fun _ => ?_)
          refine lv_aload_n hx hb dL_holds_100 rfl (lv_at hl 0 rfl) ?_
          refine bRV (W0 := wO cI cS qx a0 a1 a2 a3 b3 a4 sn sc has ([]) (st, tr, hi)) (wc := [(qx, .inr (6, [.ref (a0 0), .ref (a1 0), .ref (a2 0), .ref (a3 0), .ref (a4 0), .int has]))] :: wSt cI a0 st :: []) (r := (unl st 32)) ⟨hx, hb, hml, hown, hts⟩ (KR.eq (kX6_differences l D cI cS qx a0 (a1 0) (a2 0) (a3 0) (a4 0) has st) (dfs_y h0)) (cwV 0 hts gL_holds_X6_differences rfl rfl rfl (by decide +kernel) ⟨Nat.le_of_ble_eq_true rfl, Nat.le_of_ble_eq_true rfl⟩) hE hP rfl rfl [0, 1] rfl rfl rfl hl.1 rfl (Nat.le_of_ble_eq_true rfl) ⟨Nat.le_of_ble_eq_true rfl, Nat.le_of_ble_eq_true rfl⟩ dL_holds_101 ?_
          refine lv_iload_n hx hb dL_holds_104 rfl (lv_at hl 2 rfl) ?_
          refine lv_if_eq (tgt := 112) hx hb dL_holds_105 (by decide) (fun c => absurd c (show ¬ (1 : Int32) = (0 : Int32) by decide)) (fun _ => ?_)
          refine lv_iload_n hx hb dL_holds_108 rfl (lv_at hl 3 rfl) ?_
          refine lv_goto (tgt := 114) hx hb dL_holds_109 (by decide) ?_
          refine lv_icmp_ne (tgt := 180) hx hb dL_holds_114 (by decide) (fun c => absurd rfl c) (fun _ => ?_)
          refine lv_aload_n hx hb dL_holds_117 rfl (lv_at hl 0 rfl) ?_
          refine bRV (W0 := wO cI cS qx a0 a1 a2 a3 b3 a4 sn sc has ([]) (st, tr, hi)) (wc := [(qx, .inr (6, [.ref (a0 0), .ref (a1 0), .ref (a2 0), .ref (a3 0), .ref (a4 0), .int has]))] :: wSt cI a0 st :: []) (r := (fst st 32)) ⟨hx, hb, hml, hown, hts⟩ (KR.eq (kX6_firstDifference l D cI cS qx a0 (a1 0) (a2 0) (a3 0) (a4 0) has st) (fds_y h0)) (cwV 0 hts gL_holds_X6_firstDifference rfl rfl rfl (by decide +kernel) ⟨Nat.le_of_ble_eq_true rfl, Nat.le_of_ble_eq_true rfl⟩) hE hP rfl rfl [0, 1] rfl rfl rfl hl.1 rfl (Nat.le_of_ble_eq_true rfl) ⟨Nat.le_of_ble_eq_true rfl, Nat.le_of_ble_eq_true rfl⟩ dL_holds_118 ?_
          refine lv_iload hx hb dL_holds_121 (lv_at hl 4 rfl) ?_
          refine lv_icmp_ne (tgt := 180) hx hb dL_holds_123 (by decide) (fun c => absurd rfl c) (fun _ => ?_)
          refine lv_iload_n hx hb dL_holds_126 rfl (lv_at hl 2 rfl) ?_
          refine lv_if_eq (tgt := 158) hx hb dL_holds_127 (by decide) (fun c => absurd c (show ¬ (1 : Int32) = (0 : Int32) by decide)) (fun _ => ?_)
          refine lv_iload_n hx hb dL_holds_130 rfl (lv_at hl 1 rfl) ?_
          refine lv_iconst (v := (1 : Int32)) hx hb dL_holds_131 (by decide +kernel) ?_
          refine lv_icmp_le (tgt := 139) hx hb dL_holds_132 (by decide) (fun c => absurd c (show ¬ (3 : Int32) ≤ (1 : Int32) by decide)) (fun _ => ?_)
          refine lv_iconst (v := (1 : Int32)) hx hb dL_holds_135 (by decide +kernel) ?_
          refine lv_goto (tgt := 140) hx hb dL_holds_136 (by decide) ?_
          refine lv_aload_n hx hb dL_holds_140 rfl (lv_at hl 0 rfl) ?_
          refine lv_iconst (v := (3 : Int32)) hx hb dL_holds_141 (by decide +kernel) ?_
          refine bRV (W0 := wO cI cS qx a0 a1 a2 a3 b3 a4 sn sc has ([]) (st, tr, hi)) (wc := [(qx, .inr (6, [.ref (a0 0), .ref (a1 0), .ref (a2 0), .ref (a3 0), .ref (a4 0), .int has]))] :: wSt cI a0 st :: []) (r := (32 : Int32)) ⟨hx, hb, hml, hown, hts⟩ (KR.eq (kX6_copy l D cI cS qx a0 (a1 0) (a2 0) (a3 0) (a4 0) has (3 : Int32) st) ((cp_3 h0).trans (cu_32 hI h0 h1))) (cwV 1 hts gL_holds_X6_copy rfl rfl rfl (by decide +kernel) ⟨Nat.le_of_ble_eq_true rfl, Nat.le_of_ble_eq_true rfl⟩) hE hP rfl rfl [0, 1] rfl rfl rfl hl.1 rfl (Nat.le_of_ble_eq_true rfl) ⟨Nat.le_of_ble_eq_true rfl, Nat.le_of_ble_eq_true rfl⟩ dL_holds_142 ?_
          refine lv_bipush (v := (32 : Int32)) hx hb dL_holds_145 (by decide +kernel) ?_
          refine lv_icmp_ne (tgt := 154) hx hb dL_holds_147 (by decide) (fun c => absurd (show (32 : Int32) = (32 : Int32) by decide) c) (fun _ => ?_)
          refine lv_iconst (v := (1 : Int32)) hx hb dL_holds_150 (by decide +kernel) ?_
          refine lv_goto (tgt := 155) hx hb dL_holds_151 (by decide) ?_
          refine lv_icmp_ne (tgt := 180) hx hb dL_holds_155 (by decide) (fun c => absurd (show (1 : Int32) = (1 : Int32) by decide) c) (fun _ => ?_)
          refine lv_iload_n hx hb dL_holds_158 rfl (lv_at hl 2 rfl) ?_
          refine lv_if_eq (tgt := 182) hx hb dL_holds_159 (by decide) (fun c => absurd c (show ¬ (1 : Int32) = (0 : Int32) by decide)) (fun _ => ?_)
          refine lv_aload_n hx hb dL_holds_162 rfl (lv_at hl 0 rfl) ?_
          refine lv_iconst (v := (4 : Int32)) hx hb dL_holds_163 (by decide +kernel) ?_
          refine bRV (W0 := wO cI cS qx a0 a1 a2 a3 b3 a4 sn sc has ([]) (st, tr, hi)) (wc := [(qx, .inr (6, [.ref (a0 0), .ref (a1 0), .ref (a2 0), .ref (a3 0), .ref (a4 0), .int has]))] :: wSt cI a0 st :: []) (r := (0 : Int32)) ⟨hx, hb, hml, hown, hts⟩ (KR.eq (kX6_copy l D cI cS qx a0 (a1 0) (a2 0) (a3 0) (a4 0) has (4 : Int32) st) ((cp_4 h0).trans hz)) (cwV 1 hts gL_holds_X6_copy rfl rfl rfl (by decide +kernel) ⟨Nat.le_of_ble_eq_true rfl, Nat.le_of_ble_eq_true rfl⟩) hE hP rfl rfl [0, 1] rfl rfl rfl hl.1 rfl (Nat.le_of_ble_eq_true rfl) ⟨Nat.le_of_ble_eq_true rfl, Nat.le_of_ble_eq_true rfl⟩ dL_holds_164 ?_
          refine lv_if_lt (tgt := 180) hx hb dL_holds_167 (by decide) (fun c => absurd c (show ¬ (0 : Int32) < (0 : Int32) by decide)) (fun _ => ?_)
          refine lv_aload_n hx hb dL_holds_170 rfl (lv_at hl 0 rfl) ?_
          refine lv_iconst (v := (4 : Int32)) hx hb dL_holds_171 (by decide +kernel) ?_
          refine bRV (W0 := wO cI cS qx a0 a1 a2 a3 b3 a4 sn sc has ([]) (st, tr, hi)) (wc := [(qx, .inr (6, [.ref (a0 0), .ref (a1 0), .ref (a2 0), .ref (a3 0), .ref (a4 0), .int has]))] :: wSt cI a0 st :: []) (r := (0 : Int32)) ⟨hx, hb, hml, hown, hts⟩ (KR.eq (kX6_copy l D cI cS qx a0 (a1 0) (a2 0) (a3 0) (a4 0) has (4 : Int32) st) ((cp_4 h0).trans hz)) (cwV 1 hts gL_holds_X6_copy rfl rfl rfl (by decide +kernel) ⟨Nat.le_of_ble_eq_true rfl, Nat.le_of_ble_eq_true rfl⟩) hE hP rfl rfl [0, 1] rfl rfl rfl hl.1 rfl (Nat.le_of_ble_eq_true rfl) ⟨Nat.le_of_ble_eq_true rfl, Nat.le_of_ble_eq_true rfl⟩ dL_holds_172 ?_
          refine lv_bipush (v := (24 : Int32)) hx hb dL_holds_175 (by decide +kernel) ?_
          refine lv_icmp_le (tgt := 182) hx hb dL_holds_177 (by decide) (fun _ => ?_) (fun c => absurd (show (0 : Int32) ≤ (24 : Int32) by decide) c)
          refine lv_iconst (v := (1 : Int32)) hx hb dL_holds_182 (by decide +kernel) ?_
          refine lv_istore (lv' := [(5, .int ((1 : Int32))), (0, .ref qx), (1, .int ((3 : Int32))), (2, .int ((1 : Int32))), (3, .int ((unl st 32))), (4, .int ((fst st 32)))]) hx hb dL_holds_183 hl (by decide) rfl (fun ls hl => ?_)
          refine lv_iload hx hb dL_holds_185 (lv_at hl 0 rfl) ?_
          refine lv_bipush (v := (6 : Int32)) hx hb dL_holds_187 (by decide +kernel) ?_
          refine lv_icmp_ge (tgt := 247) hx hb dL_holds_189 (by decide) (fun c => absurd c (show ¬ (6 : Int32) ≤ (1 : Int32) by decide)) (fun _ => ?_)
          refine lv_aload_n hx hb dL_holds_192 rfl (lv_at hl 1 rfl) ?_
          refine lv_iload hx hb dL_holds_193 (lv_at hl 0 rfl) ?_
          refine bRV (W0 := wO cI cS qx a0 a1 a2 a3 b3 a4 sn sc has ([]) (st, tr, hi)) (wc := [(qx, .inr (6, [.ref (a0 0), .ref (a1 0), .ref (a2 0), .ref (a3 0), .ref (a4 0), .int has]))] :: wSt cI a0 st :: []) (r := st.2.2.2.1.2.2.2.1) ⟨hx, hb, hml, hown, hts⟩ (KR.eq (kX6_copy l D cI cS qx a0 (a1 0) (a2 0) (a3 0) (a4 0) has (1 : Int32) st) (cp_1 h0)) (cwV 1 hts gL_holds_X6_copy rfl rfl rfl (by decide +kernel) ⟨Nat.le_of_ble_eq_true rfl, Nat.le_of_ble_eq_true rfl⟩) hE hP rfl rfl [0, 1] rfl rfl rfl hl.1 rfl (Nat.le_of_ble_eq_true rfl) ⟨Nat.le_of_ble_eq_true rfl, Nat.le_of_ble_eq_true rfl⟩ dL_holds_195 ?_
          refine lv_bipush (v := (-5 : Int32)) hx hb dL_holds_198 (by decide +kernel) ?_
          refine lv_icmp_ne (tgt := 207) hx hb dL_holds_200 (by decide) (fun _ => ?_) (fun c => absurd c (bd_ne hcp.1 (by omega) (by decide)))
          refine lv_iconst (v := (0 : Int32)) hx hb dL_holds_207 (by decide +kernel) ?_
          refine lv_iload hx hb dL_holds_208 (lv_at hl 0 rfl) ?_
          refine lv_iconst (v := (5 : Int32)) hx hb dL_holds_210 (by decide +kernel) ?_
          refine lv_icmp_ge (tgt := 226) hx hb dL_holds_211 (by decide) (fun c => absurd c (show ¬ (5 : Int32) ≤ (1 : Int32) by decide)) (fun _ => ?_)
          refine lv_iload_n hx hb dL_holds_214 rfl (lv_at hl 3 rfl) ?_
          refine lv_if_ne (tgt := 222) hx hb dL_holds_215 (by decide) (fun _ => ?_) (fun c => absurd c (show ¬ (1 : Int32) = (0 : Int32) by decide))
          refine lv_iconst (v := (0 : Int32)) hx hb dL_holds_222 (by decide +kernel) ?_
          refine lv_goto (tgt := 236) hx hb dL_holds_223 (by decide) ?_
          refine lv_icmp_eq (tgt := 241) hx hb dL_holds_236 (by decide) (fun _ => ?_) (fun c => absurd (show (0 : Int32) = (0 : Int32) by decide) c)
          refine lv_iinc (v := (2 : Int32)) (lv' := [(5, .int ((2 : Int32))), (0, .ref qx), (1, .int ((3 : Int32))), (2, .int ((1 : Int32))), (3, .int ((unl st 32))), (4, .int ((fst st 32)))]) hx hb dL_holds_241 hl (k := 0) rfl (by decide) (by decide) rfl (fun ls hl => ?_)
          refine lv_goto (tgt := 185) hx hb dL_holds_244 (by decide) ?_
          refine lv_iload hx hb dL_holds_185 (lv_at hl 0 rfl) ?_
          refine lv_bipush (v := (6 : Int32)) hx hb dL_holds_187 (by decide +kernel) ?_
          refine lv_icmp_ge (tgt := 247) hx hb dL_holds_189 (by decide) (fun c => absurd c (show ¬ (6 : Int32) ≤ (2 : Int32) by decide)) (fun _ => ?_)
          refine lv_aload_n hx hb dL_holds_192 rfl (lv_at hl 1 rfl) ?_
          refine lv_iload hx hb dL_holds_193 (lv_at hl 0 rfl) ?_
          refine bRV (W0 := wO cI cS qx a0 a1 a2 a3 b3 a4 sn sc has ([]) (st, tr, hi)) (wc := [(qx, .inr (6, [.ref (a0 0), .ref (a1 0), .ref (a2 0), .ref (a3 0), .ref (a4 0), .int has]))] :: wSt cI a0 st :: []) (r := st.2.2.2.1.2.2.2.2.1) ⟨hx, hb, hml, hown, hts⟩ (KR.eq (kX6_copy l D cI cS qx a0 (a1 0) (a2 0) (a3 0) (a4 0) has (2 : Int32) st) (cp_2 h0)) (cwV 1 hts gL_holds_X6_copy rfl rfl rfl (by decide +kernel) ⟨Nat.le_of_ble_eq_true rfl, Nat.le_of_ble_eq_true rfl⟩) hE hP rfl rfl [0, 1] rfl rfl rfl hl.1 rfl (Nat.le_of_ble_eq_true rfl) ⟨Nat.le_of_ble_eq_true rfl, Nat.le_of_ble_eq_true rfl⟩ dL_holds_195 ?_
          refine lv_bipush (v := (-5 : Int32)) hx hb dL_holds_198 (by decide +kernel) ?_
          refine lv_icmp_ne (tgt := 207) hx hb dL_holds_200 (by decide) (fun _ => ?_) (fun c => absurd c (lt_5 hcp.2.1))
          refine lv_iconst (v := (0 : Int32)) hx hb dL_holds_207 (by decide +kernel) ?_
          refine lv_iload hx hb dL_holds_208 (lv_at hl 0 rfl) ?_
          refine lv_iconst (v := (5 : Int32)) hx hb dL_holds_210 (by decide +kernel) ?_
          refine lv_icmp_ge (tgt := 226) hx hb dL_holds_211 (by decide) (fun c => absurd c (show ¬ (5 : Int32) ≤ (2 : Int32) by decide)) (fun _ => ?_)
          refine lv_iload_n hx hb dL_holds_214 rfl (lv_at hl 3 rfl) ?_
          refine lv_if_ne (tgt := 222) hx hb dL_holds_215 (by decide) (fun _ => ?_) (fun c => absurd c (show ¬ (1 : Int32) = (0 : Int32) by decide))
          refine lv_iconst (v := (0 : Int32)) hx hb dL_holds_222 (by decide +kernel) ?_
          refine lv_goto (tgt := 236) hx hb dL_holds_223 (by decide) ?_
          refine lv_icmp_eq (tgt := 241) hx hb dL_holds_236 (by decide) (fun _ => ?_) (fun c => absurd (show (0 : Int32) = (0 : Int32) by decide) c)
          refine lv_iinc (v := (3 : Int32)) (lv' := [(5, .int ((3 : Int32))), (0, .ref qx), (1, .int ((3 : Int32))), (2, .int ((1 : Int32))), (3, .int ((unl st 32))), (4, .int ((fst st 32)))]) hx hb dL_holds_241 hl (k := 0) rfl (by decide) (by decide) rfl (fun ls hl => ?_)
          refine lv_goto (tgt := 185) hx hb dL_holds_244 (by decide) ?_
          refine lv_iload hx hb dL_holds_185 (lv_at hl 0 rfl) ?_
          refine lv_bipush (v := (6 : Int32)) hx hb dL_holds_187 (by decide +kernel) ?_
          refine lv_icmp_ge (tgt := 247) hx hb dL_holds_189 (by decide) (fun c => absurd c (show ¬ (6 : Int32) ≤ (3 : Int32) by decide)) (fun _ => ?_)
          refine lv_aload_n hx hb dL_holds_192 rfl (lv_at hl 1 rfl) ?_
          refine lv_iload hx hb dL_holds_193 (lv_at hl 0 rfl) ?_
          refine bRV (W0 := wO cI cS qx a0 a1 a2 a3 b3 a4 sn sc has ([]) (st, tr, hi)) (wc := [(qx, .inr (6, [.ref (a0 0), .ref (a1 0), .ref (a2 0), .ref (a3 0), .ref (a4 0), .int has]))] :: wSt cI a0 st :: []) (r := (32 : Int32)) ⟨hx, hb, hml, hown, hts⟩ (KR.eq (kX6_copy l D cI cS qx a0 (a1 0) (a2 0) (a3 0) (a4 0) has (3 : Int32) st) ((cp_3 h0).trans (cu_32 hI h0 h1))) (cwV 1 hts gL_holds_X6_copy rfl rfl rfl (by decide +kernel) ⟨Nat.le_of_ble_eq_true rfl, Nat.le_of_ble_eq_true rfl⟩) hE hP rfl rfl [0, 1] rfl rfl rfl hl.1 rfl (Nat.le_of_ble_eq_true rfl) ⟨Nat.le_of_ble_eq_true rfl, Nat.le_of_ble_eq_true rfl⟩ dL_holds_195 ?_
          refine lv_bipush (v := (-5 : Int32)) hx hb dL_holds_198 (by decide +kernel) ?_
          refine lv_icmp_ne (tgt := 207) hx hb dL_holds_200 (by decide) (fun _ => ?_) (fun c => absurd c (show ¬ (32 : Int32) = (-5 : Int32) by decide))
          refine lv_iconst (v := (0 : Int32)) hx hb dL_holds_207 (by decide +kernel) ?_
          refine lv_iload hx hb dL_holds_208 (lv_at hl 0 rfl) ?_
          refine lv_iconst (v := (5 : Int32)) hx hb dL_holds_210 (by decide +kernel) ?_
          refine lv_icmp_ge (tgt := 226) hx hb dL_holds_211 (by decide) (fun c => absurd c (show ¬ (5 : Int32) ≤ (3 : Int32) by decide)) (fun _ => ?_)
          refine lv_iload_n hx hb dL_holds_214 rfl (lv_at hl 3 rfl) ?_
          refine lv_if_ne (tgt := 222) hx hb dL_holds_215 (by decide) (fun _ => ?_) (fun c => absurd c (show ¬ (1 : Int32) = (0 : Int32) by decide))
          refine lv_iconst (v := (0 : Int32)) hx hb dL_holds_222 (by decide +kernel) ?_
          refine lv_goto (tgt := 236) hx hb dL_holds_223 (by decide) ?_
          refine lv_icmp_eq (tgt := 241) hx hb dL_holds_236 (by decide) (fun _ => ?_) (fun c => absurd (show (0 : Int32) = (0 : Int32) by decide) c)
          refine lv_iinc (v := (4 : Int32)) (lv' := [(5, .int ((4 : Int32))), (0, .ref qx), (1, .int ((3 : Int32))), (2, .int ((1 : Int32))), (3, .int ((unl st 32))), (4, .int ((fst st 32)))]) hx hb dL_holds_241 hl (k := 0) rfl (by decide) (by decide) rfl (fun ls hl => ?_)
          refine lv_goto (tgt := 185) hx hb dL_holds_244 (by decide) ?_
          refine lv_iload hx hb dL_holds_185 (lv_at hl 0 rfl) ?_
          refine lv_bipush (v := (6 : Int32)) hx hb dL_holds_187 (by decide +kernel) ?_
          refine lv_icmp_ge (tgt := 247) hx hb dL_holds_189 (by decide) (fun c => absurd c (show ¬ (6 : Int32) ≤ (4 : Int32) by decide)) (fun _ => ?_)
          refine lv_aload_n hx hb dL_holds_192 rfl (lv_at hl 1 rfl) ?_
          refine lv_iload hx hb dL_holds_193 (lv_at hl 0 rfl) ?_
          refine bRV (W0 := wO cI cS qx a0 a1 a2 a3 b3 a4 sn sc has ([]) (st, tr, hi)) (wc := [(qx, .inr (6, [.ref (a0 0), .ref (a1 0), .ref (a2 0), .ref (a3 0), .ref (a4 0), .int has]))] :: wSt cI a0 st :: []) (r := (0 : Int32)) ⟨hx, hb, hml, hown, hts⟩ (KR.eq (kX6_copy l D cI cS qx a0 (a1 0) (a2 0) (a3 0) (a4 0) has (4 : Int32) st) ((cp_4 h0).trans hz)) (cwV 1 hts gL_holds_X6_copy rfl rfl rfl (by decide +kernel) ⟨Nat.le_of_ble_eq_true rfl, Nat.le_of_ble_eq_true rfl⟩) hE hP rfl rfl [0, 1] rfl rfl rfl hl.1 rfl (Nat.le_of_ble_eq_true rfl) ⟨Nat.le_of_ble_eq_true rfl, Nat.le_of_ble_eq_true rfl⟩ dL_holds_195 ?_
          refine lv_bipush (v := (-5 : Int32)) hx hb dL_holds_198 (by decide +kernel) ?_
          refine lv_icmp_ne (tgt := 207) hx hb dL_holds_200 (by decide) (fun _ => ?_) (fun c => absurd c (show ¬ (0 : Int32) = (-5 : Int32) by decide))
          refine lv_iconst (v := (0 : Int32)) hx hb dL_holds_207 (by decide +kernel) ?_
          refine lv_iload hx hb dL_holds_208 (lv_at hl 0 rfl) ?_
          refine lv_iconst (v := (5 : Int32)) hx hb dL_holds_210 (by decide +kernel) ?_
          refine lv_icmp_ge (tgt := 226) hx hb dL_holds_211 (by decide) (fun c => absurd c (show ¬ (5 : Int32) ≤ (4 : Int32) by decide)) (fun _ => ?_)
          refine lv_iload_n hx hb dL_holds_214 rfl (lv_at hl 3 rfl) ?_
          refine lv_if_ne (tgt := 222) hx hb dL_holds_215 (by decide) (fun _ => ?_) (fun c => absurd c (show ¬ (1 : Int32) = (0 : Int32) by decide))
          refine lv_iconst (v := (0 : Int32)) hx hb dL_holds_222 (by decide +kernel) ?_
          refine lv_goto (tgt := 236) hx hb dL_holds_223 (by decide) ?_
          refine lv_icmp_eq (tgt := 241) hx hb dL_holds_236 (by decide) (fun _ => ?_) (fun c => absurd (show (0 : Int32) = (0 : Int32) by decide) c)
          refine lv_iinc (v := (5 : Int32)) (lv' := [(5, .int ((5 : Int32))), (0, .ref qx), (1, .int ((3 : Int32))), (2, .int ((1 : Int32))), (3, .int ((unl st 32))), (4, .int ((fst st 32)))]) hx hb dL_holds_241 hl (k := 0) rfl (by decide) (by decide) rfl (fun ls hl => ?_)
          refine lv_goto (tgt := 185) hx hb dL_holds_244 (by decide) ?_
          refine lv_iload hx hb dL_holds_185 (lv_at hl 0 rfl) ?_
          refine lv_bipush (v := (6 : Int32)) hx hb dL_holds_187 (by decide +kernel) ?_
          refine lv_icmp_ge (tgt := 247) hx hb dL_holds_189 (by decide) (fun c => absurd c (show ¬ (6 : Int32) ≤ (5 : Int32) by decide)) (fun _ => ?_)
          refine lv_aload_n hx hb dL_holds_192 rfl (lv_at hl 1 rfl) ?_
          refine lv_iload hx hb dL_holds_193 (lv_at hl 0 rfl) ?_
          refine bRV (W0 := wO cI cS qx a0 a1 a2 a3 b3 a4 sn sc has ([]) (st, tr, hi)) (wc := [(qx, .inr (6, [.ref (a0 0), .ref (a1 0), .ref (a2 0), .ref (a3 0), .ref (a4 0), .int has]))] :: wSt cI a0 st :: []) (r := st.2.2.2.1.2.2.2.2.2.2) ⟨hx, hb, hml, hown, hts⟩ (KR.eq (kX6_copy l D cI cS qx a0 (a1 0) (a2 0) (a3 0) (a4 0) has (5 : Int32) st) ((cp_5 st).trans (if_pos hph))) (cwV 1 hts gL_holds_X6_copy rfl rfl rfl (by decide +kernel) ⟨Nat.le_of_ble_eq_true rfl, Nat.le_of_ble_eq_true rfl⟩) hE hP rfl rfl [0, 1] rfl rfl rfl hl.1 rfl (Nat.le_of_ble_eq_true rfl) ⟨Nat.le_of_ble_eq_true rfl, Nat.le_of_ble_eq_true rfl⟩ dL_holds_195 ?_
          refine lv_bipush (v := (-5 : Int32)) hx hb dL_holds_198 (by decide +kernel) ?_
          refine lv_icmp_ne (tgt := 207) hx hb dL_holds_200 (by decide) (fun _ => ?_) (fun c => absurd c (bd_ne hab (by omega) (by decide)))
          refine lv_iconst (v := (0 : Int32)) hx hb dL_holds_207 (by decide +kernel) ?_
          refine lv_iload hx hb dL_holds_208 (lv_at hl 0 rfl) ?_
          refine lv_iconst (v := (5 : Int32)) hx hb dL_holds_210 (by decide +kernel) ?_
          refine lv_icmp_ge (tgt := 226) hx hb dL_holds_211 (by decide) (fun _ => ?_) (fun c => absurd (show (5 : Int32) ≤ (5 : Int32) by decide) c)
          refine lv_iload_n hx hb dL_holds_226 rfl (lv_at hl 2 rfl) ?_
          refine lv_iconst (v := (3 : Int32)) hx hb dL_holds_227 (by decide +kernel) ?_
          refine lv_icmp_eq (tgt := 235) hx hb dL_holds_228 (by decide) (fun _ => ?_) (fun c => absurd (show (3 : Int32) = (3 : Int32) by decide) c)
          refine lv_iconst (v := (0 : Int32)) hx hb dL_holds_235 (by decide +kernel) ?_
          refine lv_icmp_eq (tgt := 241) hx hb dL_holds_236 (by decide) (fun _ => ?_) (fun c => absurd (show (0 : Int32) = (0 : Int32) by decide) c)
          refine lv_iinc (v := (6 : Int32)) (lv' := [(5, .int ((6 : Int32))), (0, .ref qx), (1, .int ((3 : Int32))), (2, .int ((1 : Int32))), (3, .int ((unl st 32))), (4, .int ((fst st 32)))]) hx hb dL_holds_241 hl (k := 0) rfl (by decide) (by decide) rfl (fun ls hl => ?_)
          refine lv_goto (tgt := 185) hx hb dL_holds_244 (by decide) ?_
          refine lv_iload hx hb dL_holds_185 (lv_at hl 0 rfl) ?_
          refine lv_bipush (v := (6 : Int32)) hx hb dL_holds_187 (by decide +kernel) ?_
          refine lv_icmp_ge (tgt := 247) hx hb dL_holds_189 (by decide) (fun _ => ?_) (fun c => absurd (show (6 : Int32) ≤ (6 : Int32) by decide) c)
          refine lv_iload_n hx hb dL_holds_247 rfl (lv_at hl 2 rfl) ?_
          refine lv_iconst (v := (2 : Int32)) hx hb dL_holds_248 (by decide +kernel) ?_
          refine lv_icmp_ne (tgt := 264) hx hb dL_holds_249 (by decide) (fun _ => ?_) (fun c => absurd c (show ¬ (3 : Int32) = (2 : Int32) by decide))
          refine lv_iconst (v := (0 : Int32)) hx hb dL_holds_264 (by decide +kernel) ?_
          refine lv_istore (lv' := [(5, .int ((0 : Int32))), (0, .ref qx), (1, .int ((3 : Int32))), (2, .int ((1 : Int32))), (3, .int ((unl st 32))), (4, .int ((fst st 32)))]) hx hb dL_holds_265 hl (by decide) rfl (fun ls hl => ?_)
          refine lv_iload_n hx hb dL_holds_267 rfl (lv_at hl 2 rfl) ?_
          refine lv_iconst (v := (2 : Int32)) hx hb dL_holds_268 (by decide +kernel) ?_
          refine lv_icmp_lt (tgt := 284) hx hb dL_holds_269 (by decide) (fun c => absurd c (show ¬ (3 : Int32) < (2 : Int32) by decide)) (fun _ => ?_)
          refine lv_aload_n hx hb dL_holds_272 rfl (lv_at hl 1 rfl) ?_
          refine lv_iconst (v := (4 : Int32)) hx hb dL_holds_273 (by decide +kernel) ?_
          refine bRV (W0 := wO cI cS qx a0 a1 a2 a3 b3 a4 sn sc has ([]) (st, tr, hi)) (wc := [(qx, .inr (6, [.ref (a0 0), .ref (a1 0), .ref (a2 0), .ref (a3 0), .ref (a4 0), .int has]))] :: wSt cI a0 st :: []) (r := (0 : Int32)) ⟨hx, hb, hml, hown, hts⟩ (KR.eq (kX6_copy l D cI cS qx a0 (a1 0) (a2 0) (a3 0) (a4 0) has (4 : Int32) st) ((cp_4 h0).trans hz)) (cwV 1 hts gL_holds_X6_copy rfl rfl rfl (by decide +kernel) ⟨Nat.le_of_ble_eq_true rfl, Nat.le_of_ble_eq_true rfl⟩) hE hP rfl rfl [0, 1] rfl rfl rfl hl.1 rfl (Nat.le_of_ble_eq_true rfl) ⟨Nat.le_of_ble_eq_true rfl, Nat.le_of_ble_eq_true rfl⟩ dL_holds_274 ?_
          refine lv_if_gt (tgt := 284) hx hb dL_holds_277 (by decide) (fun c => absurd c (show ¬ (0 : Int32) < (0 : Int32) by decide)) (fun _ => ?_)
          refine lv_iload_n hx hb dL_holds_280 rfl (lv_at hl 4 rfl) ?_
          refine lv_if_ne (tgt := 430) hx hb dL_holds_281 (by decide) (fun c => absurd hun c) (fun _ => ?_)
          refine lv_aload_n hx hb dL_holds_284 rfl (lv_at hl 1 rfl) ?_
          refine lv_iconst (v := (0 : Int32)) hx hb dL_holds_285 (by decide +kernel) ?_
          refine bRV (W0 := wO cI cS qx a0 a1 a2 a3 b3 a4 sn sc has ([]) (st, tr, hi)) (wc := [(qx, .inr (6, [.ref (a0 0), .ref (a1 0), .ref (a2 0), .ref (a3 0), .ref (a4 0), .int has]))] :: wSt cI a0 st :: []) (r := (st.2.2.2.2.2 0)) ⟨hx, hb, hml, hown, hts⟩ (KR.eq (kX6_total l D cI cS qx a0 (a1 0) (a2 0) (a3 0) (a4 0) has (0 : Int32) st) (tot_i (i := 0) (by omega))) (cwV 1 hts gL_holds_X6_total rfl rfl rfl (by decide +kernel) ⟨Nat.le_of_ble_eq_true rfl, Nat.le_of_ble_eq_true rfl⟩) hE hP rfl rfl [0, 1] rfl rfl rfl hl.1 rfl (Nat.le_of_ble_eq_true rfl) ⟨Nat.le_of_ble_eq_true rfl, Nat.le_of_ble_eq_true rfl⟩ dL_holds_286 ?_
          refine lv_aload_n hx hb dL_holds_289 rfl (lv_at hl 1 rfl) ?_
          refine lv_iconst (v := (1 : Int32)) hx hb dL_holds_290 (by decide +kernel) ?_
          refine bRV (W0 := wO cI cS qx a0 a1 a2 a3 b3 a4 sn sc has ([]) (st, tr, hi)) (wc := [(qx, .inr (6, [.ref (a0 0), .ref (a1 0), .ref (a2 0), .ref (a3 0), .ref (a4 0), .int has]))] :: wSt cI a0 st :: []) (r := (st.2.2.2.2.2 1)) ⟨hx, hb, hml, hown, hts⟩ (KR.eq (kX6_total l D cI cS qx a0 (a1 0) (a2 0) (a3 0) (a4 0) has (1 : Int32) st) (tot_i (i := 1) (by omega))) (cwV 1 hts gL_holds_X6_total rfl rfl rfl (by decide +kernel) ⟨Nat.le_of_ble_eq_true rfl, Nat.le_of_ble_eq_true rfl⟩) hE hP rfl rfl [0, 1] rfl rfl rfl hl.1 rfl (Nat.le_of_ble_eq_true rfl) ⟨Nat.le_of_ble_eq_true rfl, Nat.le_of_ble_eq_true rfl⟩ dL_holds_291 ?_
          refine lv_aload_n hx hb dL_holds_294 rfl (lv_at hl 1 rfl) ?_
          refine lv_iconst (v := (2 : Int32)) hx hb dL_holds_295 (by decide +kernel) ?_
          refine bRV (W0 := wO cI cS qx a0 a1 a2 a3 b3 a4 sn sc has ([]) (st, tr, hi)) (wc := [(qx, .inr (6, [.ref (a0 0), .ref (a1 0), .ref (a2 0), .ref (a3 0), .ref (a4 0), .int has]))] :: wSt cI a0 st :: []) (r := (st.2.2.2.2.2 2)) ⟨hx, hb, hml, hown, hts⟩ (KR.eq (kX6_total l D cI cS qx a0 (a1 0) (a2 0) (a3 0) (a4 0) has (2 : Int32) st) (tot_i (i := 2) (by omega))) (cwV 1 hts gL_holds_X6_total rfl rfl rfl (by decide +kernel) ⟨Nat.le_of_ble_eq_true rfl, Nat.le_of_ble_eq_true rfl⟩) hE hP rfl rfl [0, 1] rfl rfl rfl hl.1 rfl (Nat.le_of_ble_eq_true rfl) ⟨Nat.le_of_ble_eq_true rfl, Nat.le_of_ble_eq_true rfl⟩ dL_holds_296 ?_
          refine lv_iadd hx hb dL_holds_299 ?_
          refine lv_iload_n hx hb dL_holds_300 rfl (lv_at hl 3 rfl) ?_
          refine lv_if_eq (tgt := 308) hx hb dL_holds_301 (by decide) (fun c => absurd c (show ¬ (1 : Int32) = (0 : Int32) by decide)) (fun _ => ?_)
          refine lv_iconst (v := (1 : Int32)) hx hb dL_holds_304 (by decide +kernel) ?_
          refine lv_goto (tgt := 309) hx hb dL_holds_305 (by decide) ?_
          refine lv_iadd hx hb dL_holds_309 ?_
          refine lv_icmp_ne (tgt := 430) hx hb dL_holds_310 (by decide) (fun c => absurd (to_1 hI h0) c) (fun _ => ?_)
          refine lv_aload_n hx hb dL_holds_313 rfl (lv_at hl 1 rfl) ?_
          refine cAV (W0 := fl (wO cI cS qx a0 a1 a2 a3 b3 a4 sn sc has ([]) (st, tr, hi))) (wc := fl ([(qx, .inr (6, [.ref (a0 0), .ref (a1 0), .ref (a2 0), .ref (a3 0), .ref (a4 0), .int has]))] :: wSt cI a0 st :: [])) (r := Value.double dd) ⟨hx, hb, hml, hown, hts⟩ (KA.eq (kX6_progress l D cI cS qx a0 (a1 0) (a2 0) (a3 0) (a4 0) has st hI.ws) ed) (cwV 0 hts gL_holds_X6_progress rfl rfl rfl (by decide +kernel) ⟨Nat.le_of_ble_eq_true rfl, Nat.le_of_ble_eq_true rfl⟩) hE hP 0 rfl rfl [0, 1, 2, 3, 4, 5, 6, 7, 8, 9, 10, 11, 12, 13] rfl rfl hl.1 rfl (Nat.le_of_ble_eq_true rfl) ⟨Nat.le_of_ble_eq_true rfl, Nat.le_of_ble_eq_true rfl⟩ dL_holds_314 ?_
          refine lv_dconst0 hx hb dL_holds_317 ?_
          refine lv_dcmp hx hb dL_holds_318 ?_
          refine lv_if_lt (tgt := 430) hx hb dL_holds_319 (by decide) (fun c => absurd c dl) (fun _ => ?_)
          refine lv_aload_n hx hb dL_holds_322 rfl (lv_at hl 1 rfl) ?_
          refine cAV (W0 := fl (wO cI cS qx a0 a1 a2 a3 b3 a4 sn sc has ([]) (st, tr, hi))) (wc := fl ([(qx, .inr (6, [.ref (a0 0), .ref (a1 0), .ref (a2 0), .ref (a3 0), .ref (a4 0), .int has]))] :: wSt cI a0 st :: [])) (r := Value.double dd) ⟨hx, hb, hml, hown, hts⟩ (KA.eq (kX6_progress l D cI cS qx a0 (a1 0) (a2 0) (a3 0) (a4 0) has st hI.ws) ed) (cwV 0 hts gL_holds_X6_progress rfl rfl rfl (by decide +kernel) ⟨Nat.le_of_ble_eq_true rfl, Nat.le_of_ble_eq_true rfl⟩) hE hP 0 rfl rfl [0, 1, 2, 3, 4, 5, 6, 7, 8, 9, 10, 11, 12, 13] rfl rfl hl.1 rfl (Nat.le_of_ble_eq_true rfl) ⟨Nat.le_of_ble_eq_true rfl, Nat.le_of_ble_eq_true rfl⟩ dL_holds_323 ?_
          refine lv_dconst1 hx hb dL_holds_326 ?_
          refine lv_dcmp hx hb dL_holds_327 ?_
          refine lv_if_gt (tgt := 430) hx hb dL_holds_328 (by decide) (fun c => absurd c dg) (fun _ => ?_)
          refine lv_aload_n hx hb dL_holds_331 rfl (lv_at hl 1 rfl) ?_
          refine bIV (W0 := wO cI cS qx a0 a1 a2 a3 b3 a4 sn sc has ([]) (st, tr, hi)) (wc := [(qx, .inr (6, [.ref (a0 0), .ref (a1 0), .ref (a2 0), .ref (a3 0), .ref (a4 0), .int has]))] :: wSt cI a0 st :: wSt cI a2 tr :: []) (w1 := fun u : TTT => [(qx, .inr (6, [.ref (a0 0), .ref (a1 0), .ref (a2 0), .ref (a3 0), .ref (a4 0), .int has]))] :: wSt cI a0 u.1 :: wSt cI a2 u.2 :: []) ⟨hx, hb, hml, hown, hts⟩ (kX6_readyIn l D cI cS qx a0 a2 (a1 0) (a3 0) (a4 0) has (st, tr) hI.ws) (cwV 0 hts gL_holds_X6_readyIn rfl rfl rfl (by decide +kernel) ⟨Nat.le_of_ble_eq_true rfl, Nat.le_of_ble_eq_true rfl⟩) hE hP hD hS rfl rfl [0, 1, 3] rfl rfl (fun _ => rfl) (fun _ => rfl) rfl hl.1 rfl (Nat.le_of_ble_eq_true rfl) ⟨Nat.le_of_ble_eq_true rfl, Nat.le_of_ble_eq_true rfl⟩ dL_holds_332 (fun r_332 u_332 H locs e_332 hP hD hS => ?_)
          have hP : va_P D vwCl (fl (wO cI cS qx a0 a1 a2 a3 b3 a4 sn sc has ([]) (u_332.1, u_332.2, hi))) H := hP
          have hD : va_D A (fl (wO cI cS qx a0 a1 a2 a3 b3 a4 sn sc has ([]) (u_332.1, u_332.2, hi))) := hD
          have hr_332 := ready_chk e_332
          rw [hr_332.1] at hP hD
          refine lv_if_ne (tgt := 342) hx hb dL_holds_335 (by decide) (fun _ => ?_) (fun c => absurd c (fun q => nr (hr_332.2.1.mp q)))
          refine lv_iconst (v := (0 : Int32)) hx hb dL_holds_342 (by decide +kernel) ?_
          refine lv_iload hx hb dL_holds_343 (lv_at hl 0 rfl) ?_
          refine lv_icmp_ne (tgt := 430) hx hb dL_holds_345 (by decide) (fun c => absurd (show (0 : Int32) = (0 : Int32) by decide) c) (fun _ => ?_)
          refine lv_iload_n hx hb dL_holds_348 rfl (lv_at hl 2 rfl) ?_
          refine lv_iconst (v := (1 : Int32)) hx hb dL_holds_349 (by decide +kernel) ?_
          refine lv_icmp_eq (tgt := 367) hx hb dL_holds_350 (by decide) (fun c => absurd c (show ¬ (3 : Int32) = (1 : Int32) by decide)) (fun _ => ?_)
          refine lv_iload_n hx hb dL_holds_353 rfl (lv_at hl 2 rfl) ?_
          refine lv_iconst (v := (2 : Int32)) hx hb dL_holds_354 (by decide +kernel) ?_
          refine lv_icmp_eq (tgt := 367) hx hb dL_holds_355 (by decide) (fun c => absurd c (show ¬ (3 : Int32) = (2 : Int32) by decide)) (fun _ => ?_)
          refine lv_aload_n hx hb dL_holds_358 rfl (lv_at hl 1 rfl) ?_
          refine bIV (W0 := wO cI cS qx a0 a1 a2 a3 b3 a4 sn sc has ([]) (st, u_332.2, hi)) (wc := [(qx, .inr (6, [.ref (a0 0), .ref (a1 0), .ref (a2 0), .ref (a3 0), .ref (a4 0), .int has]))] :: wSt cI a0 st :: wSt cI a2 u_332.2 :: []) (w1 := fun u : TTT => [(qx, .inr (6, [.ref (a0 0), .ref (a1 0), .ref (a2 0), .ref (a3 0), .ref (a4 0), .int has]))] :: wSt cI a0 u.1 :: wSt cI a2 u.2 :: []) ⟨hx, hb, hml, hown, hts⟩ (kX6_readyIn l D cI cS qx a0 a2 (a1 0) (a3 0) (a4 0) has (st, u_332.2) hI.ws) (cwV 0 hts gL_holds_X6_readyIn rfl rfl rfl (by decide +kernel) ⟨Nat.le_of_ble_eq_true rfl, Nat.le_of_ble_eq_true rfl⟩) hE hP hD hS rfl rfl [0, 1, 3] rfl rfl (fun _ => rfl) (fun _ => rfl) rfl hl.1 rfl (Nat.le_of_ble_eq_true rfl) ⟨Nat.le_of_ble_eq_true rfl, Nat.le_of_ble_eq_true rfl⟩ dL_holds_359 (fun r_359 u_359 H locs e_359 hP hD hS => ?_)
          have hP : va_P D vwCl (fl (wO cI cS qx a0 a1 a2 a3 b3 a4 sn sc has ([]) (u_359.1, u_359.2, hi))) H := hP
          have hD : va_D A (fl (wO cI cS qx a0 a1 a2 a3 b3 a4 sn sc has ([]) (u_359.1, u_359.2, hi))) := hD
          have hr_359 := ready_chk e_359
          rw [hr_359.1] at hP hD
          refine lv_bipush (v := (-4 : Int32)) hx hb dL_holds_362 (by decide +kernel) ?_
          refine lv_icmp_ne (tgt := 430) hx hb dL_holds_364 (by decide) (fun c => absurd (hr_359.2.2 h1 h2) c) (fun _ => ?_)
          refine lv_iload_n hx hb dL_holds_367 rfl (lv_at hl 3 rfl) ?_
          refine lv_if_eq (tgt := 383) hx hb dL_holds_368 (by decide) (fun c => absurd c (show ¬ (1 : Int32) = (0 : Int32) by decide)) (fun _ => ?_)
          refine lv_aload_n hx hb dL_holds_371 rfl (lv_at hl 1 rfl) ?_
          refine lv_iconst (v := (1 : Int32)) hx hb dL_holds_372 (by decide +kernel) ?_
          refine lv_iconst (v := (0 : Int32)) hx hb dL_holds_373 (by decide +kernel) ?_
          refine bRV (W0 := wO cI cS qx a0 a1 a2 a3 b3 a4 sn sc has ([]) (st, u_359.2, hi)) (wc := [(qx, .inr (6, [.ref (a0 0), .ref (a1 0), .ref (a2 0), .ref (a3 0), .ref (a4 0), .int has]))] :: wSt cI a0 st :: []) (r := (fX3_count st.2.2.2.1.1)) ⟨hx, hb, hml, hown, hts⟩ (KR.eq (kX6_table l D cI cS qx a0 (a1 0) (a2 0) (a3 0) (a4 0) has (1 : Int32) (0 : Int32) st) (tbl_1y h0)) (cwV 2 hts gL_holds_X6_table rfl rfl rfl (by decide +kernel) ⟨Nat.le_of_ble_eq_true rfl, Nat.le_of_ble_eq_true rfl⟩) hE hP rfl rfl [0, 1] rfl rfl rfl hl.1 rfl (Nat.le_of_ble_eq_true rfl) ⟨Nat.le_of_ble_eq_true rfl, Nat.le_of_ble_eq_true rfl⟩ dL_holds_374 ?_
          refine lv_if_lt (tgt := 430) hx hb dL_holds_377 (by decide) (fun c => absurd c (bd_nn (count_b _) (by omega))) (fun _ => ?_)
          refine lv_goto (tgt := 394) hx hb dL_holds_380 (by decide) ?_
          refine (Decidable.em (st.2.2.1 = (0 : Int32))).elim (fun hho => ?_) (fun hho => ?_)
          · refine lv_aload_n hx hb dL_holds_394 rfl (lv_at hl 1 rfl) ?_
            refine lv_iconst (v := (2 : Int32)) hx hb dL_holds_395 (by decide +kernel) ?_
            refine lv_iconst (v := (0 : Int32)) hx hb dL_holds_396 (by decide +kernel) ?_
            refine bRV (W0 := wO cI cS qx a0 a1 a2 a3 b3 a4 sn sc has ([]) (st, u_359.2, hi)) (wc := [(qx, .inr (6, [.ref (a0 0), .ref (a1 0), .ref (a2 0), .ref (a3 0), .ref (a4 0), .int has]))] :: wSt cI a0 st :: []) (r := (-5 : Int32)) ⟨hx, hb, hml, hown, hts⟩ (KR.eq (kX6_table l D cI cS qx a0 (a1 0) (a2 0) (a3 0) (a4 0) has (2 : Int32) (0 : Int32) st) (tbl_2n (by decide) hho)) (cwV 2 hts gL_holds_X6_table rfl rfl rfl (by decide +kernel) ⟨Nat.le_of_ble_eq_true rfl, Nat.le_of_ble_eq_true rfl⟩) hE hP rfl rfl [0, 1] rfl rfl rfl hl.1 rfl (Nat.le_of_ble_eq_true rfl) ⟨Nat.le_of_ble_eq_true rfl, Nat.le_of_ble_eq_true rfl⟩ dL_holds_397 ?_
            refine lv_bipush (v := (-5 : Int32)) hx hb dL_holds_400 (by decide +kernel) ?_
            refine lv_icmp_ne (tgt := 409) hx hb dL_holds_402 (by decide) (fun c => absurd (show (-5 : Int32) = (-5 : Int32) by decide) c) (fun _ => ?_)
            refine lv_iconst (v := (1 : Int32)) hx hb dL_holds_405 (by decide +kernel) ?_
            refine lv_goto (tgt := 410) hx hb dL_holds_406 (by decide) ?_
            refine lv_aload_n hx hb dL_holds_410 rfl (lv_at hl 1 rfl) ?_
            refine lv_iconst (v := (1 : Int32)) hx hb dL_holds_411 (by decide +kernel) ?_
            refine bRV (W0 := wO cI cS qx a0 a1 a2 a3 b3 a4 sn sc has ([]) (st, u_359.2, hi)) (wc := [(qx, .inr (6, [.ref (a0 0), .ref (a1 0), .ref (a2 0), .ref (a3 0), .ref (a4 0), .int has]))] :: wSt cI a0 st :: []) (r := (0 : Int32)) ⟨hx, hb, hml, hown, hts⟩ (KR.eq (kX6_total l D cI cS qx a0 (a1 0) (a2 0) (a3 0) (a4 0) has (1 : Int32) st) ((tot_i (i := 1) (by omega)).trans (to_y hI hho))) (cwV 1 hts gL_holds_X6_total rfl rfl rfl (by decide +kernel) ⟨Nat.le_of_ble_eq_true rfl, Nat.le_of_ble_eq_true rfl⟩) hE hP rfl rfl [0, 1] rfl rfl rfl hl.1 rfl (Nat.le_of_ble_eq_true rfl) ⟨Nat.le_of_ble_eq_true rfl, Nat.le_of_ble_eq_true rfl⟩ dL_holds_412 ?_
            refine lv_if_ne (tgt := 422) hx hb dL_holds_415 (by decide) (fun c => absurd (show (0 : Int32) = (0 : Int32) by decide) c) (fun _ => ?_)
            refine lv_iconst (v := (1 : Int32)) hx hb dL_holds_418 (by decide +kernel) ?_
            refine lv_goto (tgt := 423) hx hb dL_holds_419 (by decide) ?_
            refine lv_icmp_ne (tgt := 430) hx hb dL_holds_423 (by decide) (fun c => absurd (show (1 : Int32) = (1 : Int32) by decide) c) (fun _ => ?_)
            refine lv_iconst (v := (1 : Int32)) hx hb dL_holds_426 (by decide +kernel) ?_
            refine lv_goto (tgt := 431) hx hb dL_holds_427 (by decide) ?_
            exact hend _ _ _ u_359.2 _ _ _ _ dL_holds_431 rfl (Nat.le_refl _) (Nat.le_refl _) rfl hP hS
          · refine lv_aload_n hx hb dL_holds_394 rfl (lv_at hl 1 rfl) ?_
            refine lv_iconst (v := (2 : Int32)) hx hb dL_holds_395 (by decide +kernel) ?_
            refine lv_iconst (v := (0 : Int32)) hx hb dL_holds_396 (by decide +kernel) ?_
            refine bRV (W0 := wO cI cS qx a0 a1 a2 a3 b3 a4 sn sc has ([]) (st, u_359.2, hi)) (wc := [(qx, .inr (6, [.ref (a0 0), .ref (a1 0), .ref (a2 0), .ref (a3 0), .ref (a4 0), .int has]))] :: wSt cI a0 st :: []) (r := (fX3_count st.2.1)) ⟨hx, hb, hml, hown, hts⟩ (KR.eq (kX6_table l D cI cS qx a0 (a1 0) (a2 0) (a3 0) (a4 0) has (2 : Int32) (0 : Int32) st) (tbl_2y hho)) (cwV 2 hts gL_holds_X6_table rfl rfl rfl (by decide +kernel) ⟨Nat.le_of_ble_eq_true rfl, Nat.le_of_ble_eq_true rfl⟩) hE hP rfl rfl [0, 1] rfl rfl rfl hl.1 rfl (Nat.le_of_ble_eq_true rfl) ⟨Nat.le_of_ble_eq_true rfl, Nat.le_of_ble_eq_true rfl⟩ dL_holds_397 ?_
            refine lv_bipush (v := (-5 : Int32)) hx hb dL_holds_400 (by decide +kernel) ?_
            refine lv_icmp_ne (tgt := 409) hx hb dL_holds_402 (by decide) (fun _ => ?_) (fun c => absurd c (bd_ne (count_b _) (by omega) (by decide)))
            refine lv_iconst (v := (0 : Int32)) hx hb dL_holds_409 (by decide +kernel) ?_
            refine lv_aload_n hx hb dL_holds_410 rfl (lv_at hl 1 rfl) ?_
            refine lv_iconst (v := (1 : Int32)) hx hb dL_holds_411 (by decide +kernel) ?_
            refine bRV (W0 := wO cI cS qx a0 a1 a2 a3 b3 a4 sn sc has ([]) (st, u_359.2, hi)) (wc := [(qx, .inr (6, [.ref (a0 0), .ref (a1 0), .ref (a2 0), .ref (a3 0), .ref (a4 0), .int has]))] :: wSt cI a0 st :: []) (r := (st.2.2.2.2.2 1)) ⟨hx, hb, hml, hown, hts⟩ (KR.eq (kX6_total l D cI cS qx a0 (a1 0) (a2 0) (a3 0) (a4 0) has (1 : Int32) st) (tot_i (i := 1) (by omega))) (cwV 1 hts gL_holds_X6_total rfl rfl rfl (by decide +kernel) ⟨Nat.le_of_ble_eq_true rfl, Nat.le_of_ble_eq_true rfl⟩) hE hP rfl rfl [0, 1] rfl rfl rfl hl.1 rfl (Nat.le_of_ble_eq_true rfl) ⟨Nat.le_of_ble_eq_true rfl, Nat.le_of_ble_eq_true rfl⟩ dL_holds_412 ?_
            refine lv_if_ne (tgt := 422) hx hb dL_holds_415 (by decide) (fun _ => ?_) (fun c => absurd c (to_n hI he hho))
            refine lv_iconst (v := (0 : Int32)) hx hb dL_holds_422 (by decide +kernel) ?_
            refine lv_icmp_ne (tgt := 430) hx hb dL_holds_423 (by decide) (fun c => absurd (show (0 : Int32) = (0 : Int32) by decide) c) (fun _ => ?_)
            refine lv_iconst (v := (1 : Int32)) hx hb dL_holds_426 (by decide +kernel) ?_
            refine lv_goto (tgt := 431) hx hb dL_holds_427 (by decide) ?_
            exact hend _ _ _ u_359.2 _ _ _ _ dL_holds_431 rfl (Nat.le_refl _) (Nat.le_refl _) rfl hP hS
        | succ n ih =>
          intro hn ls hl
          rw [pk_m1 n] at hl
          have hl : lv_has ls 7 [(0, .ref qx), (1, .int ((3 : Int32))), (2, .int ((1 : Int32))), (3, .int ((unl st (32 - (n + 1))))), (4, .int ((fst st (32 - (n + 1))))), (5, .int ((nI n)))] := hl
          refine lv_iload hx hb dL_holds_26 (lv_at hl 5 rfl) ?_
          refine lv_if_lt (tgt := 91) hx hb dL_holds_28 (by decide) (fun c => absurd c (nI_pos (by omega))) (fun _ => ?_)
          refine lv_iload_n hx hb dL_holds_31 rfl (lv_at hl 2 rfl) ?_
          refine lv_if_eq (tgt := 91) hx hb dL_holds_32 (by decide) (fun c => absurd c (show ¬ (1 : Int32) = (0 : Int32) by decide)) (fun _ => ?_)
          refine lv_aload_n hx hb dL_holds_35 rfl (lv_at hl 0 rfl) ?_
          refine lv_iconst (v := (1 : Int32)) hx hb dL_holds_36 (by decide +kernel) ?_
          refine lv_iload hx hb dL_holds_37 (lv_at hl 5 rfl) ?_
          refine bRV (W0 := wO cI cS qx a0 a1 a2 a3 b3 a4 sn sc has ([]) (st, tr, hi)) (wc := [(qx, .inr (6, [.ref (a0 0), .ref (a1 0), .ref (a2 0), .ref (a3 0), .ref (a4 0), .int has]))] :: wSt cI a0 st :: []) (r := (st.2.2.2.1.1 n)) ⟨hx, hb, hml, hown, hts⟩ (KR.eq (kX6_value l D cI cS qx a0 (a1 0) (a2 0) (a3 0) (a4 0) has (1 : Int32) (nI n) st) (val_1y (by omega) h0)) (cwV 2 hts gL_holds_X6_value rfl rfl rfl (by decide +kernel) ⟨Nat.le_of_ble_eq_true rfl, Nat.le_of_ble_eq_true rfl⟩) hE hP rfl rfl [0, 1] rfl rfl rfl hl.1 rfl (Nat.le_of_ble_eq_true rfl) ⟨Nat.le_of_ble_eq_true rfl, Nat.le_of_ble_eq_true rfl⟩ dL_holds_39 ?_
          refine lv_aload_n hx hb dL_holds_42 rfl (lv_at hl 0 rfl) ?_
          refine lv_iload hx hb dL_holds_43 (lv_at hl 5 rfl) ?_
          refine bRS (W0 := wO cI cS qx a0 a1 a2 a3 b3 a4 sn sc has ([]) (st, tr, hi)) (wc := [(qx, .inr (6, [.ref (a0 0), .ref (a1 0), .ref (a2 0), .ref (a3 0), .ref (a4 0), .int has]))] :: wSt cI a0 st :: []) (r := (chg st.2.2.2.1.2.2.2.1 n (st.1 n))) ⟨hx, hb, hml, hown, hts⟩ (kL_due l D cI cS qx a0 a1 a2 a3 a4 has st hI h0 n (by omega)) (va_cwS 2 hts gL_holds_L_due rfl rfl rfl (by decide +kernel) ⟨Nat.le_of_ble_eq_true rfl, Nat.le_of_ble_eq_true rfl⟩) hE hP [0, 1] rfl rfl rfl hl.1 rfl (Nat.le_of_ble_eq_true rfl) ⟨Nat.le_of_ble_eq_true rfl, Nat.le_of_ble_eq_true rfl⟩ dL_holds_45 ?_
          refine lv_icmp_eq (tgt := 55) hx hb dL_holds_48 (by decide) (fun c_48 => ?_) (fun c_48 => ?_)
          · refine lv_iconst (v := (0 : Int32)) hx hb dL_holds_55 (by decide +kernel) ?_
            refine lv_istore (lv' := [(6, .int ((0 : Int32))), (0, .ref qx), (1, .int ((3 : Int32))), (2, .int ((1 : Int32))), (3, .int ((unl st (32 - (n + 1))))), (4, .int ((fst st (32 - (n + 1))))), (5, .int ((nI n)))]) hx hb dL_holds_56 hl (by decide) rfl (fun ls hl => ?_)
            refine lv_iload_n hx hb dL_holds_58 rfl (lv_at hl 4 rfl) ?_
            refine lv_iload hx hb dL_holds_59 (lv_at hl 0 rfl) ?_
            refine lv_if_eq (tgt := 68) hx hb dL_holds_61 (by decide) (fun _ => ?_) (fun c => absurd (show (0 : Int32) = (0 : Int32) by decide) c)
            refine lv_iconst (v := (0 : Int32)) hx hb dL_holds_68 (by decide +kernel) ?_
            refine lv_iadd hx hb dL_holds_69 ?_
            refine lv_istore_n (lv' := [(3, .int (((unl st (32 - (n + 1))) + (0 : Int32)))), (6, .int ((0 : Int32))), (0, .ref qx), (1, .int ((3 : Int32))), (2, .int ((1 : Int32))), (4, .int ((fst st (32 - (n + 1))))), (5, .int ((nI n)))]) hx hb dL_holds_70 rfl hl (by decide) rfl (fun ls hl => ?_)
            refine lv_iload hx hb dL_holds_71 (lv_at hl 1 rfl) ?_
            refine lv_if_eq (tgt := 81) hx hb dL_holds_73 (by decide) (fun _ => ?_) (fun c => absurd (show (0 : Int32) = (0 : Int32) by decide) c)
            refine lv_iload hx hb dL_holds_81 (lv_at hl 5 rfl) ?_
            refine lv_istore (lv' := [(4, .int ((fst st (32 - (n + 1))))), (3, .int (((unl st (32 - (n + 1))) + (0 : Int32)))), (6, .int ((0 : Int32))), (0, .ref qx), (1, .int ((3 : Int32))), (2, .int ((1 : Int32))), (5, .int ((nI n)))]) hx hb dL_holds_83 hl (by decide) rfl (fun ls hl => ?_)
            refine lv_iinc (v := ((nI n) + (-1 : Int32))) (lv' := [(5, .int (((nI n) + (-1 : Int32)))), (4, .int ((fst st (32 - (n + 1))))), (3, .int (((unl st (32 - (n + 1))) + (0 : Int32)))), (6, .int ((0 : Int32))), (0, .ref qx), (1, .int ((3 : Int32))), (2, .int ((1 : Int32)))]) hx hb dL_holds_85 hl (k := 6) rfl rfl (by decide) rfl (fun ls hl => ?_)
            refine lv_goto (tgt := 26) hx hb dL_holds_88 (by decide) ?_
            have q1 := un_eq (τ := st) (n := n) (by omega) c_48
            exact ih (by omega) _ (by rw [q1.1, q1.2]; exact lv_sub hl [4, 5, 6, 2, 1, 0] rfl)
          · refine lv_iconst (v := (1 : Int32)) hx hb dL_holds_51 (by decide +kernel) ?_
            refine lv_goto (tgt := 56) hx hb dL_holds_52 (by decide) ?_
            refine lv_istore (lv' := [(6, .int ((1 : Int32))), (0, .ref qx), (1, .int ((3 : Int32))), (2, .int ((1 : Int32))), (3, .int ((unl st (32 - (n + 1))))), (4, .int ((fst st (32 - (n + 1))))), (5, .int ((nI n)))]) hx hb dL_holds_56 hl (by decide) rfl (fun ls hl => ?_)
            refine lv_iload_n hx hb dL_holds_58 rfl (lv_at hl 4 rfl) ?_
            refine lv_iload hx hb dL_holds_59 (lv_at hl 0 rfl) ?_
            refine lv_if_eq (tgt := 68) hx hb dL_holds_61 (by decide) (fun c => absurd c (show ¬ (1 : Int32) = (0 : Int32) by decide)) (fun _ => ?_)
            refine lv_iconst (v := (1 : Int32)) hx hb dL_holds_64 (by decide +kernel) ?_
            refine lv_goto (tgt := 69) hx hb dL_holds_65 (by decide) ?_
            refine lv_iadd hx hb dL_holds_69 ?_
            refine lv_istore_n (lv' := [(3, .int (((unl st (32 - (n + 1))) + (1 : Int32)))), (6, .int ((1 : Int32))), (0, .ref qx), (1, .int ((3 : Int32))), (2, .int ((1 : Int32))), (4, .int ((fst st (32 - (n + 1))))), (5, .int ((nI n)))]) hx hb dL_holds_70 rfl hl (by decide) rfl (fun ls hl => ?_)
            refine lv_iload hx hb dL_holds_71 (lv_at hl 1 rfl) ?_
            refine lv_if_eq (tgt := 81) hx hb dL_holds_73 (by decide) (fun c => absurd c (show ¬ (1 : Int32) = (0 : Int32) by decide)) (fun _ => ?_)
            refine lv_iload hx hb dL_holds_76 (lv_at hl 6 rfl) ?_
            refine lv_goto (tgt := 83) hx hb dL_holds_78 (by decide) ?_
            refine lv_istore (lv' := [(4, .int ((nI n))), (3, .int (((unl st (32 - (n + 1))) + (1 : Int32)))), (6, .int ((1 : Int32))), (0, .ref qx), (1, .int ((3 : Int32))), (2, .int ((1 : Int32))), (5, .int ((nI n)))]) hx hb dL_holds_83 hl (by decide) rfl (fun ls hl => ?_)
            refine lv_iinc (v := ((nI n) + (-1 : Int32))) (lv' := [(5, .int (((nI n) + (-1 : Int32)))), (4, .int ((nI n))), (3, .int (((unl st (32 - (n + 1))) + (1 : Int32)))), (6, .int ((1 : Int32))), (0, .ref qx), (1, .int ((3 : Int32))), (2, .int ((1 : Int32)))]) hx hb dL_holds_85 hl (k := 6) rfl rfl (by decide) rfl (fun ls hl => ?_)
            refine lv_goto (tgt := 26) hx hb dL_holds_88 (by decide) ?_
            have q1 := un_ne (τ := st) (n := n) (by omega) c_48
            exact ih (by omega) _ (by rw [q1.1, q1.2]; exact lv_sub hl [4, 5, 6, 2, 1, 0] rfl)
      refine lv_aload_n hx hb dL_holds_0 rfl (lv_at hl 0 rfl) ?_
      refine lv_iconst (v := (0 : Int32)) hx hb dL_holds_1 (by decide +kernel) ?_
      refine bRV (W0 := wO cI cS qx a0 a1 a2 a3 b3 a4 sn sc has ([]) (st, tr, hi)) (wc := [(qx, .inr (6, [.ref (a0 0), .ref (a1 0), .ref (a2 0), .ref (a3 0), .ref (a4 0), .int has]))] :: wSt cI a0 st :: []) (r := (3 : Int32)) ⟨hx, hb, hml, hown, hts⟩ (KR.eq (kX6_copy l D cI cS qx a0 (a1 0) (a2 0) (a3 0) (a4 0) has (0 : Int32) st) ((cp_0 st).trans hph)) (cwV 1 hts gL_holds_X6_copy rfl rfl rfl (by decide +kernel) ⟨Nat.le_of_ble_eq_true rfl, Nat.le_of_ble_eq_true rfl⟩) hE hP rfl rfl [0, 1] rfl rfl rfl hl.1 rfl (Nat.le_of_ble_eq_true rfl) ⟨Nat.le_of_ble_eq_true rfl, Nat.le_of_ble_eq_true rfl⟩ dL_holds_2 ?_
      refine lv_istore_n (lv' := [(1, .int ((3 : Int32))), (0, .ref qx)]) hx hb dL_holds_5 rfl hl (by decide) rfl (fun ls hl => ?_)
      refine lv_iload_n hx hb dL_holds_6 rfl (lv_at hl 0 rfl) ?_
      refine lv_if_le (tgt := 14) hx hb dL_holds_7 (by decide) (fun c => absurd c (show ¬ (3 : Int32) ≤ (0 : Int32) by decide)) (fun _ => ?_)
      refine lv_iconst (v := (1 : Int32)) hx hb dL_holds_10 (by decide +kernel) ?_
      refine lv_goto (tgt := 15) hx hb dL_holds_11 (by decide) ?_
      refine lv_istore_n (lv' := [(2, .int ((1 : Int32))), (1, .int ((3 : Int32))), (0, .ref qx)]) hx hb dL_holds_15 rfl hl (by decide) rfl (fun ls hl => ?_)
      refine lv_iconst (v := (0 : Int32)) hx hb dL_holds_16 (by decide +kernel) ?_
      refine lv_istore_n (lv' := [(3, .int ((0 : Int32))), (2, .int ((1 : Int32))), (1, .int ((3 : Int32))), (0, .ref qx)]) hx hb dL_holds_17 rfl hl (by decide) rfl (fun ls hl => ?_)
      refine lv_bipush (v := (-5 : Int32)) hx hb dL_holds_18 (by decide +kernel) ?_
      refine lv_istore (lv' := [(4, .int ((-5 : Int32))), (3, .int ((0 : Int32))), (2, .int ((1 : Int32))), (1, .int ((3 : Int32))), (0, .ref qx)]) hx hb dL_holds_20 hl (by decide) rfl (fun ls hl => ?_)
      refine lv_bipush (v := (31 : Int32)) hx hb dL_holds_22 (by decide +kernel) ?_
      refine lv_istore (lv' := [(5, .int ((31 : Int32))), (4, .int ((-5 : Int32))), (3, .int ((0 : Int32))), (2, .int ((1 : Int32))), (1, .int ((3 : Int32))), (0, .ref qx)]) hx hb dL_holds_24 hl (by decide) rfl (fun ls hl => ?_)
      rw [show (31 : Int32) = (nI 32) + (-1 : Int32) from by decide] at hl
      exact loop_26 32 (by omega) _ (lv_sub hl [5, 4, 3, 2, 1, 0] rfl)
    · have nr : ¬ rdy st := fun q => absurd (hph.symm.trans q.1) (by decide)
      have h0 : ¬ st.2.2.2.1.2.2.1 = (0 : Int32) := by rw [hph]; decide
      have h1 : ¬ st.2.2.2.1.2.2.1 = (1 : Int32) := by rw [hph]; decide
      have hcp := hI.cp h0
      have hzp : (0 : Int32) < st.2.2.2.1.2.1.2.2.2 := Int32.not_le.mp (fun q => by obtain ⟨j, hj, ej⟩ := hzb.num; rw [ej] at q hz; exact nI_nle (Nat.pos_of_ne_zero (fun z => hz (by rw [z]; rfl))) (by omega) q)
      have h2 : ¬ st.2.2.2.1.2.2.1 = (2 : Int32) := by rw [hph]; decide
      have loop_26 : ∀ n : Nat, n ≤ 32 → ∀ ls : Array Slot, lv_has ls 7 [(0, .ref qx), (1, .int ((3 : Int32))), (2, .int ((1 : Int32))), (3, .int ((unl st (32 - n)))), (4, .int ((fst st (32 - n)))), (5, .int (((nI n) + (-1 : Int32))))] → W p l e { frames := 6, cells := 0, slots := 0, locals := 129 } s m args below meth c s.heap [] 0 0 Q (F0 m 26 ls []) := by
        intro n
        induction n with
        | zero =>
          intro hn ls hl
          have hl : lv_has ls 7 [(0, .ref qx), (1, .int ((3 : Int32))), (2, .int ((1 : Int32))), (3, .int ((unl st 32))), (4, .int ((fst st 32))), (5, .int (((nI 0) + (-1 : Int32))))] := hl
          refine lv_iload hx hb dL_holds_26 (lv_at hl 5 rfl) ?_
          refine lv_if_lt (tgt := 91) hx hb dL_holds_28 (by decide) (fun _ => ?_) (fun c => absurd (show (nI 0 + (-1 : Int32)) < (0 : Int32) by decide) c)
          refine lv_iload_n hx hb dL_holds_91 rfl (lv_at hl 1 rfl) ?_
          refine lv_if_lt (tgt := 180) hx hb dL_holds_92 (by decide) (fun c => absurd c (show ¬ (3 : Int32) < (0 : Int32) by decide)) (fun _ => ?_)
          refine lv_iload_n hx hb dL_holds_95 rfl (lv_at hl 1 rfl) ?_
          refine lv_iconst (v := (3 : Int32)) hx hb dL_holds_96 (by decide +kernel) ?_
          refine lv_icmp_gt (tgt := 180) hx hb dL_holds_97 (by decide) (fun c => absurd c (show ¬ (3 : Int32) < (3 : Int32) by decide)) (fun _ => ?_)
          refine lv_aload_n hx hb dL_holds_100 rfl (lv_at hl 0 rfl) ?_
          refine bRV (W0 := wO cI cS qx a0 a1 a2 a3 b3 a4 sn sc has ([]) (st, tr, hi)) (wc := [(qx, .inr (6, [.ref (a0 0), .ref (a1 0), .ref (a2 0), .ref (a3 0), .ref (a4 0), .int has]))] :: wSt cI a0 st :: []) (r := (unl st 32)) ⟨hx, hb, hml, hown, hts⟩ (KR.eq (kX6_differences l D cI cS qx a0 (a1 0) (a2 0) (a3 0) (a4 0) has st) (dfs_y h0)) (cwV 0 hts gL_holds_X6_differences rfl rfl rfl (by decide +kernel) ⟨Nat.le_of_ble_eq_true rfl, Nat.le_of_ble_eq_true rfl⟩) hE hP rfl rfl [0, 1] rfl rfl rfl hl.1 rfl (Nat.le_of_ble_eq_true rfl) ⟨Nat.le_of_ble_eq_true rfl, Nat.le_of_ble_eq_true rfl⟩ dL_holds_101 ?_
          refine lv_iload_n hx hb dL_holds_104 rfl (lv_at hl 2 rfl) ?_
          refine lv_if_eq (tgt := 112) hx hb dL_holds_105 (by decide) (fun c => absurd c (show ¬ (1 : Int32) = (0 : Int32) by decide)) (fun _ => ?_)
          refine lv_iload_n hx hb dL_holds_108 rfl (lv_at hl 3 rfl) ?_
          refine lv_goto (tgt := 114) hx hb dL_holds_109 (by decide) ?_
          refine lv_icmp_ne (tgt := 180) hx hb dL_holds_114 (by decide) (fun c => absurd rfl c) (fun _ => ?_)
          refine lv_aload_n hx hb dL_holds_117 rfl (lv_at hl 0 rfl) ?_
          refine bRV (W0 := wO cI cS qx a0 a1 a2 a3 b3 a4 sn sc has ([]) (st, tr, hi)) (wc := [(qx, .inr (6, [.ref (a0 0), .ref (a1 0), .ref (a2 0), .ref (a3 0), .ref (a4 0), .int has]))] :: wSt cI a0 st :: []) (r := (fst st 32)) ⟨hx, hb, hml, hown, hts⟩ (KR.eq (kX6_firstDifference l D cI cS qx a0 (a1 0) (a2 0) (a3 0) (a4 0) has st) (fds_y h0)) (cwV 0 hts gL_holds_X6_firstDifference rfl rfl rfl (by decide +kernel) ⟨Nat.le_of_ble_eq_true rfl, Nat.le_of_ble_eq_true rfl⟩) hE hP rfl rfl [0, 1] rfl rfl rfl hl.1 rfl (Nat.le_of_ble_eq_true rfl) ⟨Nat.le_of_ble_eq_true rfl, Nat.le_of_ble_eq_true rfl⟩ dL_holds_118 ?_
          refine lv_iload hx hb dL_holds_121 (lv_at hl 4 rfl) ?_
          refine lv_icmp_ne (tgt := 180) hx hb dL_holds_123 (by decide) (fun c => absurd rfl c) (fun _ => ?_)
          refine lv_iload_n hx hb dL_holds_126 rfl (lv_at hl 2 rfl) ?_
          refine lv_if_eq (tgt := 158) hx hb dL_holds_127 (by decide) (fun c => absurd c (show ¬ (1 : Int32) = (0 : Int32) by decide)) (fun _ => ?_)
          refine lv_iload_n hx hb dL_holds_130 rfl (lv_at hl 1 rfl) ?_
          refine lv_iconst (v := (1 : Int32)) hx hb dL_holds_131 (by decide +kernel) ?_
          refine lv_icmp_le (tgt := 139) hx hb dL_holds_132 (by decide) (fun c => absurd c (show ¬ (3 : Int32) ≤ (1 : Int32) by decide)) (fun _ => ?_)
          refine lv_iconst (v := (1 : Int32)) hx hb dL_holds_135 (by decide +kernel) ?_
          refine lv_goto (tgt := 140) hx hb dL_holds_136 (by decide) ?_
          refine lv_aload_n hx hb dL_holds_140 rfl (lv_at hl 0 rfl) ?_
          refine lv_iconst (v := (3 : Int32)) hx hb dL_holds_141 (by decide +kernel) ?_
          refine bRV (W0 := wO cI cS qx a0 a1 a2 a3 b3 a4 sn sc has ([]) (st, tr, hi)) (wc := [(qx, .inr (6, [.ref (a0 0), .ref (a1 0), .ref (a2 0), .ref (a3 0), .ref (a4 0), .int has]))] :: wSt cI a0 st :: []) (r := (32 : Int32)) ⟨hx, hb, hml, hown, hts⟩ (KR.eq (kX6_copy l D cI cS qx a0 (a1 0) (a2 0) (a3 0) (a4 0) has (3 : Int32) st) ((cp_3 h0).trans (cu_32 hI h0 h1))) (cwV 1 hts gL_holds_X6_copy rfl rfl rfl (by decide +kernel) ⟨Nat.le_of_ble_eq_true rfl, Nat.le_of_ble_eq_true rfl⟩) hE hP rfl rfl [0, 1] rfl rfl rfl hl.1 rfl (Nat.le_of_ble_eq_true rfl) ⟨Nat.le_of_ble_eq_true rfl, Nat.le_of_ble_eq_true rfl⟩ dL_holds_142 ?_
          refine lv_bipush (v := (32 : Int32)) hx hb dL_holds_145 (by decide +kernel) ?_
          refine lv_icmp_ne (tgt := 154) hx hb dL_holds_147 (by decide) (fun c => absurd (show (32 : Int32) = (32 : Int32) by decide) c) (fun _ => ?_)
          refine lv_iconst (v := (1 : Int32)) hx hb dL_holds_150 (by decide +kernel) ?_
          refine lv_goto (tgt := 155) hx hb dL_holds_151 (by decide) ?_
          refine lv_icmp_ne (tgt := 180) hx hb dL_holds_155 (by decide) (fun c => absurd (show (1 : Int32) = (1 : Int32) by decide) c) (fun _ => ?_)
          refine lv_iload_n hx hb dL_holds_158 rfl (lv_at hl 2 rfl) ?_
          refine lv_if_eq (tgt := 182) hx hb dL_holds_159 (by decide) (fun c => absurd c (show ¬ (1 : Int32) = (0 : Int32) by decide)) (fun _ => ?_)
          refine lv_aload_n hx hb dL_holds_162 rfl (lv_at hl 0 rfl) ?_
          refine lv_iconst (v := (4 : Int32)) hx hb dL_holds_163 (by decide +kernel) ?_
          refine bRV (W0 := wO cI cS qx a0 a1 a2 a3 b3 a4 sn sc has ([]) (st, tr, hi)) (wc := [(qx, .inr (6, [.ref (a0 0), .ref (a1 0), .ref (a2 0), .ref (a3 0), .ref (a4 0), .int has]))] :: wSt cI a0 st :: []) (r := st.2.2.2.1.2.1.2.2.2) ⟨hx, hb, hml, hown, hts⟩ (KR.eq (kX6_copy l D cI cS qx a0 (a1 0) (a2 0) (a3 0) (a4 0) has (4 : Int32) st) (cp_4 h0)) (cwV 1 hts gL_holds_X6_copy rfl rfl rfl (by decide +kernel) ⟨Nat.le_of_ble_eq_true rfl, Nat.le_of_ble_eq_true rfl⟩) hE hP rfl rfl [0, 1] rfl rfl rfl hl.1 rfl (Nat.le_of_ble_eq_true rfl) ⟨Nat.le_of_ble_eq_true rfl, Nat.le_of_ble_eq_true rfl⟩ dL_holds_164 ?_
          refine lv_if_lt (tgt := 180) hx hb dL_holds_167 (by decide) (fun c => absurd c (bd_nn hzb (by omega))) (fun _ => ?_)
          refine lv_aload_n hx hb dL_holds_170 rfl (lv_at hl 0 rfl) ?_
          refine lv_iconst (v := (4 : Int32)) hx hb dL_holds_171 (by decide +kernel) ?_
          refine bRV (W0 := wO cI cS qx a0 a1 a2 a3 b3 a4 sn sc has ([]) (st, tr, hi)) (wc := [(qx, .inr (6, [.ref (a0 0), .ref (a1 0), .ref (a2 0), .ref (a3 0), .ref (a4 0), .int has]))] :: wSt cI a0 st :: []) (r := st.2.2.2.1.2.1.2.2.2) ⟨hx, hb, hml, hown, hts⟩ (KR.eq (kX6_copy l D cI cS qx a0 (a1 0) (a2 0) (a3 0) (a4 0) has (4 : Int32) st) (cp_4 h0)) (cwV 1 hts gL_holds_X6_copy rfl rfl rfl (by decide +kernel) ⟨Nat.le_of_ble_eq_true rfl, Nat.le_of_ble_eq_true rfl⟩) hE hP rfl rfl [0, 1] rfl rfl rfl hl.1 rfl (Nat.le_of_ble_eq_true rfl) ⟨Nat.le_of_ble_eq_true rfl, Nat.le_of_ble_eq_true rfl⟩ dL_holds_172 ?_
          refine lv_bipush (v := (24 : Int32)) hx hb dL_holds_175 (by decide +kernel) ?_
          refine lv_icmp_le (tgt := 182) hx hb dL_holds_177 (by decide) (fun _ => ?_) (fun c => absurd (bd_le hzb (by omega)) c)
          refine lv_iconst (v := (1 : Int32)) hx hb dL_holds_182 (by decide +kernel) ?_
          refine lv_istore (lv' := [(5, .int ((1 : Int32))), (0, .ref qx), (1, .int ((3 : Int32))), (2, .int ((1 : Int32))), (3, .int ((unl st 32))), (4, .int ((fst st 32)))]) hx hb dL_holds_183 hl (by decide) rfl (fun ls hl => ?_)
          refine lv_iload hx hb dL_holds_185 (lv_at hl 0 rfl) ?_
          refine lv_bipush (v := (6 : Int32)) hx hb dL_holds_187 (by decide +kernel) ?_
          refine lv_icmp_ge (tgt := 247) hx hb dL_holds_189 (by decide) (fun c => absurd c (show ¬ (6 : Int32) ≤ (1 : Int32) by decide)) (fun _ => ?_)
          refine lv_aload_n hx hb dL_holds_192 rfl (lv_at hl 1 rfl) ?_
          refine lv_iload hx hb dL_holds_193 (lv_at hl 0 rfl) ?_
          refine bRV (W0 := wO cI cS qx a0 a1 a2 a3 b3 a4 sn sc has ([]) (st, tr, hi)) (wc := [(qx, .inr (6, [.ref (a0 0), .ref (a1 0), .ref (a2 0), .ref (a3 0), .ref (a4 0), .int has]))] :: wSt cI a0 st :: []) (r := st.2.2.2.1.2.2.2.1) ⟨hx, hb, hml, hown, hts⟩ (KR.eq (kX6_copy l D cI cS qx a0 (a1 0) (a2 0) (a3 0) (a4 0) has (1 : Int32) st) (cp_1 h0)) (cwV 1 hts gL_holds_X6_copy rfl rfl rfl (by decide +kernel) ⟨Nat.le_of_ble_eq_true rfl, Nat.le_of_ble_eq_true rfl⟩) hE hP rfl rfl [0, 1] rfl rfl rfl hl.1 rfl (Nat.le_of_ble_eq_true rfl) ⟨Nat.le_of_ble_eq_true rfl, Nat.le_of_ble_eq_true rfl⟩ dL_holds_195 ?_
          refine lv_bipush (v := (-5 : Int32)) hx hb dL_holds_198 (by decide +kernel) ?_
          refine lv_icmp_ne (tgt := 207) hx hb dL_holds_200 (by decide) (fun _ => ?_) (fun c => absurd c (bd_ne hcp.1 (by omega) (by decide)))
          refine lv_iconst (v := (0 : Int32)) hx hb dL_holds_207 (by decide +kernel) ?_
          refine lv_iload hx hb dL_holds_208 (lv_at hl 0 rfl) ?_
          refine lv_iconst (v := (5 : Int32)) hx hb dL_holds_210 (by decide +kernel) ?_
          refine lv_icmp_ge (tgt := 226) hx hb dL_holds_211 (by decide) (fun c => absurd c (show ¬ (5 : Int32) ≤ (1 : Int32) by decide)) (fun _ => ?_)
          refine lv_iload_n hx hb dL_holds_214 rfl (lv_at hl 3 rfl) ?_
          refine lv_if_ne (tgt := 222) hx hb dL_holds_215 (by decide) (fun _ => ?_) (fun c => absurd c (show ¬ (1 : Int32) = (0 : Int32) by decide))
          refine lv_iconst (v := (0 : Int32)) hx hb dL_holds_222 (by decide +kernel) ?_
          refine lv_goto (tgt := 236) hx hb dL_holds_223 (by decide) ?_
          refine lv_icmp_eq (tgt := 241) hx hb dL_holds_236 (by decide) (fun _ => ?_) (fun c => absurd (show (0 : Int32) = (0 : Int32) by decide) c)
          refine lv_iinc (v := (2 : Int32)) (lv' := [(5, .int ((2 : Int32))), (0, .ref qx), (1, .int ((3 : Int32))), (2, .int ((1 : Int32))), (3, .int ((unl st 32))), (4, .int ((fst st 32)))]) hx hb dL_holds_241 hl (k := 0) rfl (by decide) (by decide) rfl (fun ls hl => ?_)
          refine lv_goto (tgt := 185) hx hb dL_holds_244 (by decide) ?_
          refine lv_iload hx hb dL_holds_185 (lv_at hl 0 rfl) ?_
          refine lv_bipush (v := (6 : Int32)) hx hb dL_holds_187 (by decide +kernel) ?_
          refine lv_icmp_ge (tgt := 247) hx hb dL_holds_189 (by decide) (fun c => absurd c (show ¬ (6 : Int32) ≤ (2 : Int32) by decide)) (fun _ => ?_)
          refine lv_aload_n hx hb dL_holds_192 rfl (lv_at hl 1 rfl) ?_
          refine lv_iload hx hb dL_holds_193 (lv_at hl 0 rfl) ?_
          refine bRV (W0 := wO cI cS qx a0 a1 a2 a3 b3 a4 sn sc has ([]) (st, tr, hi)) (wc := [(qx, .inr (6, [.ref (a0 0), .ref (a1 0), .ref (a2 0), .ref (a3 0), .ref (a4 0), .int has]))] :: wSt cI a0 st :: []) (r := st.2.2.2.1.2.2.2.2.1) ⟨hx, hb, hml, hown, hts⟩ (KR.eq (kX6_copy l D cI cS qx a0 (a1 0) (a2 0) (a3 0) (a4 0) has (2 : Int32) st) (cp_2 h0)) (cwV 1 hts gL_holds_X6_copy rfl rfl rfl (by decide +kernel) ⟨Nat.le_of_ble_eq_true rfl, Nat.le_of_ble_eq_true rfl⟩) hE hP rfl rfl [0, 1] rfl rfl rfl hl.1 rfl (Nat.le_of_ble_eq_true rfl) ⟨Nat.le_of_ble_eq_true rfl, Nat.le_of_ble_eq_true rfl⟩ dL_holds_195 ?_
          refine lv_bipush (v := (-5 : Int32)) hx hb dL_holds_198 (by decide +kernel) ?_
          refine lv_icmp_ne (tgt := 207) hx hb dL_holds_200 (by decide) (fun _ => ?_) (fun c => absurd c (lt_5 hcp.2.1))
          refine lv_iconst (v := (0 : Int32)) hx hb dL_holds_207 (by decide +kernel) ?_
          refine lv_iload hx hb dL_holds_208 (lv_at hl 0 rfl) ?_
          refine lv_iconst (v := (5 : Int32)) hx hb dL_holds_210 (by decide +kernel) ?_
          refine lv_icmp_ge (tgt := 226) hx hb dL_holds_211 (by decide) (fun c => absurd c (show ¬ (5 : Int32) ≤ (2 : Int32) by decide)) (fun _ => ?_)
          refine lv_iload_n hx hb dL_holds_214 rfl (lv_at hl 3 rfl) ?_
          refine lv_if_ne (tgt := 222) hx hb dL_holds_215 (by decide) (fun _ => ?_) (fun c => absurd c (show ¬ (1 : Int32) = (0 : Int32) by decide))
          refine lv_iconst (v := (0 : Int32)) hx hb dL_holds_222 (by decide +kernel) ?_
          refine lv_goto (tgt := 236) hx hb dL_holds_223 (by decide) ?_
          refine lv_icmp_eq (tgt := 241) hx hb dL_holds_236 (by decide) (fun _ => ?_) (fun c => absurd (show (0 : Int32) = (0 : Int32) by decide) c)
          refine lv_iinc (v := (3 : Int32)) (lv' := [(5, .int ((3 : Int32))), (0, .ref qx), (1, .int ((3 : Int32))), (2, .int ((1 : Int32))), (3, .int ((unl st 32))), (4, .int ((fst st 32)))]) hx hb dL_holds_241 hl (k := 0) rfl (by decide) (by decide) rfl (fun ls hl => ?_)
          refine lv_goto (tgt := 185) hx hb dL_holds_244 (by decide) ?_
          refine lv_iload hx hb dL_holds_185 (lv_at hl 0 rfl) ?_
          refine lv_bipush (v := (6 : Int32)) hx hb dL_holds_187 (by decide +kernel) ?_
          refine lv_icmp_ge (tgt := 247) hx hb dL_holds_189 (by decide) (fun c => absurd c (show ¬ (6 : Int32) ≤ (3 : Int32) by decide)) (fun _ => ?_)
          refine lv_aload_n hx hb dL_holds_192 rfl (lv_at hl 1 rfl) ?_
          refine lv_iload hx hb dL_holds_193 (lv_at hl 0 rfl) ?_
          refine bRV (W0 := wO cI cS qx a0 a1 a2 a3 b3 a4 sn sc has ([]) (st, tr, hi)) (wc := [(qx, .inr (6, [.ref (a0 0), .ref (a1 0), .ref (a2 0), .ref (a3 0), .ref (a4 0), .int has]))] :: wSt cI a0 st :: []) (r := (32 : Int32)) ⟨hx, hb, hml, hown, hts⟩ (KR.eq (kX6_copy l D cI cS qx a0 (a1 0) (a2 0) (a3 0) (a4 0) has (3 : Int32) st) ((cp_3 h0).trans (cu_32 hI h0 h1))) (cwV 1 hts gL_holds_X6_copy rfl rfl rfl (by decide +kernel) ⟨Nat.le_of_ble_eq_true rfl, Nat.le_of_ble_eq_true rfl⟩) hE hP rfl rfl [0, 1] rfl rfl rfl hl.1 rfl (Nat.le_of_ble_eq_true rfl) ⟨Nat.le_of_ble_eq_true rfl, Nat.le_of_ble_eq_true rfl⟩ dL_holds_195 ?_
          refine lv_bipush (v := (-5 : Int32)) hx hb dL_holds_198 (by decide +kernel) ?_
          refine lv_icmp_ne (tgt := 207) hx hb dL_holds_200 (by decide) (fun _ => ?_) (fun c => absurd c (show ¬ (32 : Int32) = (-5 : Int32) by decide))
          refine lv_iconst (v := (0 : Int32)) hx hb dL_holds_207 (by decide +kernel) ?_
          refine lv_iload hx hb dL_holds_208 (lv_at hl 0 rfl) ?_
          refine lv_iconst (v := (5 : Int32)) hx hb dL_holds_210 (by decide +kernel) ?_
          refine lv_icmp_ge (tgt := 226) hx hb dL_holds_211 (by decide) (fun c => absurd c (show ¬ (5 : Int32) ≤ (3 : Int32) by decide)) (fun _ => ?_)
          refine lv_iload_n hx hb dL_holds_214 rfl (lv_at hl 3 rfl) ?_
          refine lv_if_ne (tgt := 222) hx hb dL_holds_215 (by decide) (fun _ => ?_) (fun c => absurd c (show ¬ (1 : Int32) = (0 : Int32) by decide))
          refine lv_iconst (v := (0 : Int32)) hx hb dL_holds_222 (by decide +kernel) ?_
          refine lv_goto (tgt := 236) hx hb dL_holds_223 (by decide) ?_
          refine lv_icmp_eq (tgt := 241) hx hb dL_holds_236 (by decide) (fun _ => ?_) (fun c => absurd (show (0 : Int32) = (0 : Int32) by decide) c)
          refine lv_iinc (v := (4 : Int32)) (lv' := [(5, .int ((4 : Int32))), (0, .ref qx), (1, .int ((3 : Int32))), (2, .int ((1 : Int32))), (3, .int ((unl st 32))), (4, .int ((fst st 32)))]) hx hb dL_holds_241 hl (k := 0) rfl (by decide) (by decide) rfl (fun ls hl => ?_)
          refine lv_goto (tgt := 185) hx hb dL_holds_244 (by decide) ?_
          refine lv_iload hx hb dL_holds_185 (lv_at hl 0 rfl) ?_
          refine lv_bipush (v := (6 : Int32)) hx hb dL_holds_187 (by decide +kernel) ?_
          refine lv_icmp_ge (tgt := 247) hx hb dL_holds_189 (by decide) (fun c => absurd c (show ¬ (6 : Int32) ≤ (4 : Int32) by decide)) (fun _ => ?_)
          refine lv_aload_n hx hb dL_holds_192 rfl (lv_at hl 1 rfl) ?_
          refine lv_iload hx hb dL_holds_193 (lv_at hl 0 rfl) ?_
          refine bRV (W0 := wO cI cS qx a0 a1 a2 a3 b3 a4 sn sc has ([]) (st, tr, hi)) (wc := [(qx, .inr (6, [.ref (a0 0), .ref (a1 0), .ref (a2 0), .ref (a3 0), .ref (a4 0), .int has]))] :: wSt cI a0 st :: []) (r := st.2.2.2.1.2.1.2.2.2) ⟨hx, hb, hml, hown, hts⟩ (KR.eq (kX6_copy l D cI cS qx a0 (a1 0) (a2 0) (a3 0) (a4 0) has (4 : Int32) st) (cp_4 h0)) (cwV 1 hts gL_holds_X6_copy rfl rfl rfl (by decide +kernel) ⟨Nat.le_of_ble_eq_true rfl, Nat.le_of_ble_eq_true rfl⟩) hE hP rfl rfl [0, 1] rfl rfl rfl hl.1 rfl (Nat.le_of_ble_eq_true rfl) ⟨Nat.le_of_ble_eq_true rfl, Nat.le_of_ble_eq_true rfl⟩ dL_holds_195 ?_
          refine lv_bipush (v := (-5 : Int32)) hx hb dL_holds_198 (by decide +kernel) ?_
          refine lv_icmp_ne (tgt := 207) hx hb dL_holds_200 (by decide) (fun _ => ?_) (fun c => absurd c (bd_ne hzb (by omega) (by decide)))
          refine lv_iconst (v := (0 : Int32)) hx hb dL_holds_207 (by decide +kernel) ?_
          refine lv_iload hx hb dL_holds_208 (lv_at hl 0 rfl) ?_
          refine lv_iconst (v := (5 : Int32)) hx hb dL_holds_210 (by decide +kernel) ?_
          refine lv_icmp_ge (tgt := 226) hx hb dL_holds_211 (by decide) (fun c => absurd c (show ¬ (5 : Int32) ≤ (4 : Int32) by decide)) (fun _ => ?_)
          refine lv_iload_n hx hb dL_holds_214 rfl (lv_at hl 3 rfl) ?_
          refine lv_if_ne (tgt := 222) hx hb dL_holds_215 (by decide) (fun _ => ?_) (fun c => absurd c (show ¬ (1 : Int32) = (0 : Int32) by decide))
          refine lv_iconst (v := (0 : Int32)) hx hb dL_holds_222 (by decide +kernel) ?_
          refine lv_goto (tgt := 236) hx hb dL_holds_223 (by decide) ?_
          refine lv_icmp_eq (tgt := 241) hx hb dL_holds_236 (by decide) (fun _ => ?_) (fun c => absurd (show (0 : Int32) = (0 : Int32) by decide) c)
          refine lv_iinc (v := (5 : Int32)) (lv' := [(5, .int ((5 : Int32))), (0, .ref qx), (1, .int ((3 : Int32))), (2, .int ((1 : Int32))), (3, .int ((unl st 32))), (4, .int ((fst st 32)))]) hx hb dL_holds_241 hl (k := 0) rfl (by decide) (by decide) rfl (fun ls hl => ?_)
          refine lv_goto (tgt := 185) hx hb dL_holds_244 (by decide) ?_
          refine lv_iload hx hb dL_holds_185 (lv_at hl 0 rfl) ?_
          refine lv_bipush (v := (6 : Int32)) hx hb dL_holds_187 (by decide +kernel) ?_
          refine lv_icmp_ge (tgt := 247) hx hb dL_holds_189 (by decide) (fun c => absurd c (show ¬ (6 : Int32) ≤ (5 : Int32) by decide)) (fun _ => ?_)
          refine lv_aload_n hx hb dL_holds_192 rfl (lv_at hl 1 rfl) ?_
          refine lv_iload hx hb dL_holds_193 (lv_at hl 0 rfl) ?_
          refine bRV (W0 := wO cI cS qx a0 a1 a2 a3 b3 a4 sn sc has ([]) (st, tr, hi)) (wc := [(qx, .inr (6, [.ref (a0 0), .ref (a1 0), .ref (a2 0), .ref (a3 0), .ref (a4 0), .int has]))] :: wSt cI a0 st :: []) (r := st.2.2.2.1.2.2.2.2.2.2) ⟨hx, hb, hml, hown, hts⟩ (KR.eq (kX6_copy l D cI cS qx a0 (a1 0) (a2 0) (a3 0) (a4 0) has (5 : Int32) st) ((cp_5 st).trans (if_pos hph))) (cwV 1 hts gL_holds_X6_copy rfl rfl rfl (by decide +kernel) ⟨Nat.le_of_ble_eq_true rfl, Nat.le_of_ble_eq_true rfl⟩) hE hP rfl rfl [0, 1] rfl rfl rfl hl.1 rfl (Nat.le_of_ble_eq_true rfl) ⟨Nat.le_of_ble_eq_true rfl, Nat.le_of_ble_eq_true rfl⟩ dL_holds_195 ?_
          refine lv_bipush (v := (-5 : Int32)) hx hb dL_holds_198 (by decide +kernel) ?_
          refine lv_icmp_ne (tgt := 207) hx hb dL_holds_200 (by decide) (fun _ => ?_) (fun c => absurd c (bd_ne hab (by omega) (by decide)))
          refine lv_iconst (v := (0 : Int32)) hx hb dL_holds_207 (by decide +kernel) ?_
          refine lv_iload hx hb dL_holds_208 (lv_at hl 0 rfl) ?_
          refine lv_iconst (v := (5 : Int32)) hx hb dL_holds_210 (by decide +kernel) ?_
          refine lv_icmp_ge (tgt := 226) hx hb dL_holds_211 (by decide) (fun _ => ?_) (fun c => absurd (show (5 : Int32) ≤ (5 : Int32) by decide) c)
          refine lv_iload_n hx hb dL_holds_226 rfl (lv_at hl 2 rfl) ?_
          refine lv_iconst (v := (3 : Int32)) hx hb dL_holds_227 (by decide +kernel) ?_
          refine lv_icmp_eq (tgt := 235) hx hb dL_holds_228 (by decide) (fun _ => ?_) (fun c => absurd (show (3 : Int32) = (3 : Int32) by decide) c)
          refine lv_iconst (v := (0 : Int32)) hx hb dL_holds_235 (by decide +kernel) ?_
          refine lv_icmp_eq (tgt := 241) hx hb dL_holds_236 (by decide) (fun _ => ?_) (fun c => absurd (show (0 : Int32) = (0 : Int32) by decide) c)
          refine lv_iinc (v := (6 : Int32)) (lv' := [(5, .int ((6 : Int32))), (0, .ref qx), (1, .int ((3 : Int32))), (2, .int ((1 : Int32))), (3, .int ((unl st 32))), (4, .int ((fst st 32)))]) hx hb dL_holds_241 hl (k := 0) rfl (by decide) (by decide) rfl (fun ls hl => ?_)
          refine lv_goto (tgt := 185) hx hb dL_holds_244 (by decide) ?_
          refine lv_iload hx hb dL_holds_185 (lv_at hl 0 rfl) ?_
          refine lv_bipush (v := (6 : Int32)) hx hb dL_holds_187 (by decide +kernel) ?_
          refine lv_icmp_ge (tgt := 247) hx hb dL_holds_189 (by decide) (fun _ => ?_) (fun c => absurd (show (6 : Int32) ≤ (6 : Int32) by decide) c)
          refine lv_iload_n hx hb dL_holds_247 rfl (lv_at hl 2 rfl) ?_
          refine lv_iconst (v := (2 : Int32)) hx hb dL_holds_248 (by decide +kernel) ?_
          refine lv_icmp_ne (tgt := 264) hx hb dL_holds_249 (by decide) (fun _ => ?_) (fun c => absurd c (show ¬ (3 : Int32) = (2 : Int32) by decide))
          refine lv_iconst (v := (0 : Int32)) hx hb dL_holds_264 (by decide +kernel) ?_
          refine lv_istore (lv' := [(5, .int ((0 : Int32))), (0, .ref qx), (1, .int ((3 : Int32))), (2, .int ((1 : Int32))), (3, .int ((unl st 32))), (4, .int ((fst st 32)))]) hx hb dL_holds_265 hl (by decide) rfl (fun ls hl => ?_)
          refine lv_iload_n hx hb dL_holds_267 rfl (lv_at hl 2 rfl) ?_
          refine lv_iconst (v := (2 : Int32)) hx hb dL_holds_268 (by decide +kernel) ?_
          refine lv_icmp_lt (tgt := 284) hx hb dL_holds_269 (by decide) (fun c => absurd c (show ¬ (3 : Int32) < (2 : Int32) by decide)) (fun _ => ?_)
          refine lv_aload_n hx hb dL_holds_272 rfl (lv_at hl 1 rfl) ?_
          refine lv_iconst (v := (4 : Int32)) hx hb dL_holds_273 (by decide +kernel) ?_
          refine bRV (W0 := wO cI cS qx a0 a1 a2 a3 b3 a4 sn sc has ([]) (st, tr, hi)) (wc := [(qx, .inr (6, [.ref (a0 0), .ref (a1 0), .ref (a2 0), .ref (a3 0), .ref (a4 0), .int has]))] :: wSt cI a0 st :: []) (r := st.2.2.2.1.2.1.2.2.2) ⟨hx, hb, hml, hown, hts⟩ (KR.eq (kX6_copy l D cI cS qx a0 (a1 0) (a2 0) (a3 0) (a4 0) has (4 : Int32) st) (cp_4 h0)) (cwV 1 hts gL_holds_X6_copy rfl rfl rfl (by decide +kernel) ⟨Nat.le_of_ble_eq_true rfl, Nat.le_of_ble_eq_true rfl⟩) hE hP rfl rfl [0, 1] rfl rfl rfl hl.1 rfl (Nat.le_of_ble_eq_true rfl) ⟨Nat.le_of_ble_eq_true rfl, Nat.le_of_ble_eq_true rfl⟩ dL_holds_274 ?_
          refine lv_if_gt (tgt := 284) hx hb dL_holds_277 (by decide) (fun _ => ?_) (fun c => absurd hzp c)
          refine lv_aload_n hx hb dL_holds_284 rfl (lv_at hl 1 rfl) ?_
          refine lv_iconst (v := (0 : Int32)) hx hb dL_holds_285 (by decide +kernel) ?_
          refine bRV (W0 := wO cI cS qx a0 a1 a2 a3 b3 a4 sn sc has ([]) (st, tr, hi)) (wc := [(qx, .inr (6, [.ref (a0 0), .ref (a1 0), .ref (a2 0), .ref (a3 0), .ref (a4 0), .int has]))] :: wSt cI a0 st :: []) (r := (st.2.2.2.2.2 0)) ⟨hx, hb, hml, hown, hts⟩ (KR.eq (kX6_total l D cI cS qx a0 (a1 0) (a2 0) (a3 0) (a4 0) has (0 : Int32) st) (tot_i (i := 0) (by omega))) (cwV 1 hts gL_holds_X6_total rfl rfl rfl (by decide +kernel) ⟨Nat.le_of_ble_eq_true rfl, Nat.le_of_ble_eq_true rfl⟩) hE hP rfl rfl [0, 1] rfl rfl rfl hl.1 rfl (Nat.le_of_ble_eq_true rfl) ⟨Nat.le_of_ble_eq_true rfl, Nat.le_of_ble_eq_true rfl⟩ dL_holds_286 ?_
          refine lv_aload_n hx hb dL_holds_289 rfl (lv_at hl 1 rfl) ?_
          refine lv_iconst (v := (1 : Int32)) hx hb dL_holds_290 (by decide +kernel) ?_
          refine bRV (W0 := wO cI cS qx a0 a1 a2 a3 b3 a4 sn sc has ([]) (st, tr, hi)) (wc := [(qx, .inr (6, [.ref (a0 0), .ref (a1 0), .ref (a2 0), .ref (a3 0), .ref (a4 0), .int has]))] :: wSt cI a0 st :: []) (r := (st.2.2.2.2.2 1)) ⟨hx, hb, hml, hown, hts⟩ (KR.eq (kX6_total l D cI cS qx a0 (a1 0) (a2 0) (a3 0) (a4 0) has (1 : Int32) st) (tot_i (i := 1) (by omega))) (cwV 1 hts gL_holds_X6_total rfl rfl rfl (by decide +kernel) ⟨Nat.le_of_ble_eq_true rfl, Nat.le_of_ble_eq_true rfl⟩) hE hP rfl rfl [0, 1] rfl rfl rfl hl.1 rfl (Nat.le_of_ble_eq_true rfl) ⟨Nat.le_of_ble_eq_true rfl, Nat.le_of_ble_eq_true rfl⟩ dL_holds_291 ?_
          refine lv_aload_n hx hb dL_holds_294 rfl (lv_at hl 1 rfl) ?_
          refine lv_iconst (v := (2 : Int32)) hx hb dL_holds_295 (by decide +kernel) ?_
          refine bRV (W0 := wO cI cS qx a0 a1 a2 a3 b3 a4 sn sc has ([]) (st, tr, hi)) (wc := [(qx, .inr (6, [.ref (a0 0), .ref (a1 0), .ref (a2 0), .ref (a3 0), .ref (a4 0), .int has]))] :: wSt cI a0 st :: []) (r := (st.2.2.2.2.2 2)) ⟨hx, hb, hml, hown, hts⟩ (KR.eq (kX6_total l D cI cS qx a0 (a1 0) (a2 0) (a3 0) (a4 0) has (2 : Int32) st) (tot_i (i := 2) (by omega))) (cwV 1 hts gL_holds_X6_total rfl rfl rfl (by decide +kernel) ⟨Nat.le_of_ble_eq_true rfl, Nat.le_of_ble_eq_true rfl⟩) hE hP rfl rfl [0, 1] rfl rfl rfl hl.1 rfl (Nat.le_of_ble_eq_true rfl) ⟨Nat.le_of_ble_eq_true rfl, Nat.le_of_ble_eq_true rfl⟩ dL_holds_296 ?_
          refine lv_iadd hx hb dL_holds_299 ?_
          refine lv_iload_n hx hb dL_holds_300 rfl (lv_at hl 3 rfl) ?_
          refine lv_if_eq (tgt := 308) hx hb dL_holds_301 (by decide) (fun c => absurd c (show ¬ (1 : Int32) = (0 : Int32) by decide)) (fun _ => ?_)
          refine lv_iconst (v := (1 : Int32)) hx hb dL_holds_304 (by decide +kernel) ?_
          refine lv_goto (tgt := 309) hx hb dL_holds_305 (by decide) ?_
          refine lv_iadd hx hb dL_holds_309 ?_
          refine lv_icmp_ne (tgt := 430) hx hb dL_holds_310 (by decide) (fun c => absurd (to_1 hI h0) c) (fun _ => ?_)
          refine lv_aload_n hx hb dL_holds_313 rfl (lv_at hl 1 rfl) ?_
          refine cAV (W0 := fl (wO cI cS qx a0 a1 a2 a3 b3 a4 sn sc has ([]) (st, tr, hi))) (wc := fl ([(qx, .inr (6, [.ref (a0 0), .ref (a1 0), .ref (a2 0), .ref (a3 0), .ref (a4 0), .int has]))] :: wSt cI a0 st :: [])) (r := Value.double dd) ⟨hx, hb, hml, hown, hts⟩ (KA.eq (kX6_progress l D cI cS qx a0 (a1 0) (a2 0) (a3 0) (a4 0) has st hI.ws) ed) (cwV 0 hts gL_holds_X6_progress rfl rfl rfl (by decide +kernel) ⟨Nat.le_of_ble_eq_true rfl, Nat.le_of_ble_eq_true rfl⟩) hE hP 0 rfl rfl [0, 1, 2, 3, 4, 5, 6, 7, 8, 9, 10, 11, 12, 13] rfl rfl hl.1 rfl (Nat.le_of_ble_eq_true rfl) ⟨Nat.le_of_ble_eq_true rfl, Nat.le_of_ble_eq_true rfl⟩ dL_holds_314 ?_
          refine lv_dconst0 hx hb dL_holds_317 ?_
          refine lv_dcmp hx hb dL_holds_318 ?_
          refine lv_if_lt (tgt := 430) hx hb dL_holds_319 (by decide) (fun c => absurd c dl) (fun _ => ?_)
          refine lv_aload_n hx hb dL_holds_322 rfl (lv_at hl 1 rfl) ?_
          refine cAV (W0 := fl (wO cI cS qx a0 a1 a2 a3 b3 a4 sn sc has ([]) (st, tr, hi))) (wc := fl ([(qx, .inr (6, [.ref (a0 0), .ref (a1 0), .ref (a2 0), .ref (a3 0), .ref (a4 0), .int has]))] :: wSt cI a0 st :: [])) (r := Value.double dd) ⟨hx, hb, hml, hown, hts⟩ (KA.eq (kX6_progress l D cI cS qx a0 (a1 0) (a2 0) (a3 0) (a4 0) has st hI.ws) ed) (cwV 0 hts gL_holds_X6_progress rfl rfl rfl (by decide +kernel) ⟨Nat.le_of_ble_eq_true rfl, Nat.le_of_ble_eq_true rfl⟩) hE hP 0 rfl rfl [0, 1, 2, 3, 4, 5, 6, 7, 8, 9, 10, 11, 12, 13] rfl rfl hl.1 rfl (Nat.le_of_ble_eq_true rfl) ⟨Nat.le_of_ble_eq_true rfl, Nat.le_of_ble_eq_true rfl⟩ dL_holds_323 ?_
          refine lv_dconst1 hx hb dL_holds_326 ?_
          refine lv_dcmp hx hb dL_holds_327 ?_
          refine lv_if_gt (tgt := 430) hx hb dL_holds_328 (by decide) (fun c => absurd c dg) (fun _ => ?_)
          refine lv_aload_n hx hb dL_holds_331 rfl (lv_at hl 1 rfl) ?_
          refine bIV (W0 := wO cI cS qx a0 a1 a2 a3 b3 a4 sn sc has ([]) (st, tr, hi)) (wc := [(qx, .inr (6, [.ref (a0 0), .ref (a1 0), .ref (a2 0), .ref (a3 0), .ref (a4 0), .int has]))] :: wSt cI a0 st :: wSt cI a2 tr :: []) (w1 := fun u : TTT => [(qx, .inr (6, [.ref (a0 0), .ref (a1 0), .ref (a2 0), .ref (a3 0), .ref (a4 0), .int has]))] :: wSt cI a0 u.1 :: wSt cI a2 u.2 :: []) ⟨hx, hb, hml, hown, hts⟩ (kX6_readyIn l D cI cS qx a0 a2 (a1 0) (a3 0) (a4 0) has (st, tr) hI.ws) (cwV 0 hts gL_holds_X6_readyIn rfl rfl rfl (by decide +kernel) ⟨Nat.le_of_ble_eq_true rfl, Nat.le_of_ble_eq_true rfl⟩) hE hP hD hS rfl rfl [0, 1, 3] rfl rfl (fun _ => rfl) (fun _ => rfl) rfl hl.1 rfl (Nat.le_of_ble_eq_true rfl) ⟨Nat.le_of_ble_eq_true rfl, Nat.le_of_ble_eq_true rfl⟩ dL_holds_332 (fun r_332 u_332 H locs e_332 hP hD hS => ?_)
          have hP : va_P D vwCl (fl (wO cI cS qx a0 a1 a2 a3 b3 a4 sn sc has ([]) (u_332.1, u_332.2, hi))) H := hP
          have hD : va_D A (fl (wO cI cS qx a0 a1 a2 a3 b3 a4 sn sc has ([]) (u_332.1, u_332.2, hi))) := hD
          have hr_332 := ready_chk e_332
          rw [hr_332.1] at hP hD
          refine lv_if_ne (tgt := 342) hx hb dL_holds_335 (by decide) (fun _ => ?_) (fun c => absurd c (fun q => nr (hr_332.2.1.mp q)))
          refine lv_iconst (v := (0 : Int32)) hx hb dL_holds_342 (by decide +kernel) ?_
          refine lv_iload hx hb dL_holds_343 (lv_at hl 0 rfl) ?_
          refine lv_icmp_ne (tgt := 430) hx hb dL_holds_345 (by decide) (fun c => absurd (show (0 : Int32) = (0 : Int32) by decide) c) (fun _ => ?_)
          refine lv_iload_n hx hb dL_holds_348 rfl (lv_at hl 2 rfl) ?_
          refine lv_iconst (v := (1 : Int32)) hx hb dL_holds_349 (by decide +kernel) ?_
          refine lv_icmp_eq (tgt := 367) hx hb dL_holds_350 (by decide) (fun c => absurd c (show ¬ (3 : Int32) = (1 : Int32) by decide)) (fun _ => ?_)
          refine lv_iload_n hx hb dL_holds_353 rfl (lv_at hl 2 rfl) ?_
          refine lv_iconst (v := (2 : Int32)) hx hb dL_holds_354 (by decide +kernel) ?_
          refine lv_icmp_eq (tgt := 367) hx hb dL_holds_355 (by decide) (fun c => absurd c (show ¬ (3 : Int32) = (2 : Int32) by decide)) (fun _ => ?_)
          refine lv_aload_n hx hb dL_holds_358 rfl (lv_at hl 1 rfl) ?_
          refine bIV (W0 := wO cI cS qx a0 a1 a2 a3 b3 a4 sn sc has ([]) (st, u_332.2, hi)) (wc := [(qx, .inr (6, [.ref (a0 0), .ref (a1 0), .ref (a2 0), .ref (a3 0), .ref (a4 0), .int has]))] :: wSt cI a0 st :: wSt cI a2 u_332.2 :: []) (w1 := fun u : TTT => [(qx, .inr (6, [.ref (a0 0), .ref (a1 0), .ref (a2 0), .ref (a3 0), .ref (a4 0), .int has]))] :: wSt cI a0 u.1 :: wSt cI a2 u.2 :: []) ⟨hx, hb, hml, hown, hts⟩ (kX6_readyIn l D cI cS qx a0 a2 (a1 0) (a3 0) (a4 0) has (st, u_332.2) hI.ws) (cwV 0 hts gL_holds_X6_readyIn rfl rfl rfl (by decide +kernel) ⟨Nat.le_of_ble_eq_true rfl, Nat.le_of_ble_eq_true rfl⟩) hE hP hD hS rfl rfl [0, 1, 3] rfl rfl (fun _ => rfl) (fun _ => rfl) rfl hl.1 rfl (Nat.le_of_ble_eq_true rfl) ⟨Nat.le_of_ble_eq_true rfl, Nat.le_of_ble_eq_true rfl⟩ dL_holds_359 (fun r_359 u_359 H locs e_359 hP hD hS => ?_)
          have hP : va_P D vwCl (fl (wO cI cS qx a0 a1 a2 a3 b3 a4 sn sc has ([]) (u_359.1, u_359.2, hi))) H := hP
          have hD : va_D A (fl (wO cI cS qx a0 a1 a2 a3 b3 a4 sn sc has ([]) (u_359.1, u_359.2, hi))) := hD
          have hr_359 := ready_chk e_359
          rw [hr_359.1] at hP hD
          refine lv_bipush (v := (-4 : Int32)) hx hb dL_holds_362 (by decide +kernel) ?_
          refine lv_icmp_ne (tgt := 430) hx hb dL_holds_364 (by decide) (fun c => absurd (hr_359.2.2 h1 h2) c) (fun _ => ?_)
          refine lv_iload_n hx hb dL_holds_367 rfl (lv_at hl 3 rfl) ?_
          refine lv_if_eq (tgt := 383) hx hb dL_holds_368 (by decide) (fun c => absurd c (show ¬ (1 : Int32) = (0 : Int32) by decide)) (fun _ => ?_)
          refine lv_aload_n hx hb dL_holds_371 rfl (lv_at hl 1 rfl) ?_
          refine lv_iconst (v := (1 : Int32)) hx hb dL_holds_372 (by decide +kernel) ?_
          refine lv_iconst (v := (0 : Int32)) hx hb dL_holds_373 (by decide +kernel) ?_
          refine bRV (W0 := wO cI cS qx a0 a1 a2 a3 b3 a4 sn sc has ([]) (st, u_359.2, hi)) (wc := [(qx, .inr (6, [.ref (a0 0), .ref (a1 0), .ref (a2 0), .ref (a3 0), .ref (a4 0), .int has]))] :: wSt cI a0 st :: []) (r := (fX3_count st.2.2.2.1.1)) ⟨hx, hb, hml, hown, hts⟩ (KR.eq (kX6_table l D cI cS qx a0 (a1 0) (a2 0) (a3 0) (a4 0) has (1 : Int32) (0 : Int32) st) (tbl_1y h0)) (cwV 2 hts gL_holds_X6_table rfl rfl rfl (by decide +kernel) ⟨Nat.le_of_ble_eq_true rfl, Nat.le_of_ble_eq_true rfl⟩) hE hP rfl rfl [0, 1] rfl rfl rfl hl.1 rfl (Nat.le_of_ble_eq_true rfl) ⟨Nat.le_of_ble_eq_true rfl, Nat.le_of_ble_eq_true rfl⟩ dL_holds_374 ?_
          refine lv_if_lt (tgt := 430) hx hb dL_holds_377 (by decide) (fun c => absurd c (bd_nn (count_b _) (by omega))) (fun _ => ?_)
          refine lv_goto (tgt := 394) hx hb dL_holds_380 (by decide) ?_
          refine (Decidable.em (st.2.2.1 = (0 : Int32))).elim (fun hho => ?_) (fun hho => ?_)
          · refine lv_aload_n hx hb dL_holds_394 rfl (lv_at hl 1 rfl) ?_
            refine lv_iconst (v := (2 : Int32)) hx hb dL_holds_395 (by decide +kernel) ?_
            refine lv_iconst (v := (0 : Int32)) hx hb dL_holds_396 (by decide +kernel) ?_
            refine bRV (W0 := wO cI cS qx a0 a1 a2 a3 b3 a4 sn sc has ([]) (st, u_359.2, hi)) (wc := [(qx, .inr (6, [.ref (a0 0), .ref (a1 0), .ref (a2 0), .ref (a3 0), .ref (a4 0), .int has]))] :: wSt cI a0 st :: []) (r := (-5 : Int32)) ⟨hx, hb, hml, hown, hts⟩ (KR.eq (kX6_table l D cI cS qx a0 (a1 0) (a2 0) (a3 0) (a4 0) has (2 : Int32) (0 : Int32) st) (tbl_2n (by decide) hho)) (cwV 2 hts gL_holds_X6_table rfl rfl rfl (by decide +kernel) ⟨Nat.le_of_ble_eq_true rfl, Nat.le_of_ble_eq_true rfl⟩) hE hP rfl rfl [0, 1] rfl rfl rfl hl.1 rfl (Nat.le_of_ble_eq_true rfl) ⟨Nat.le_of_ble_eq_true rfl, Nat.le_of_ble_eq_true rfl⟩ dL_holds_397 ?_
            refine lv_bipush (v := (-5 : Int32)) hx hb dL_holds_400 (by decide +kernel) ?_
            refine lv_icmp_ne (tgt := 409) hx hb dL_holds_402 (by decide) (fun c => absurd (show (-5 : Int32) = (-5 : Int32) by decide) c) (fun _ => ?_)
            refine lv_iconst (v := (1 : Int32)) hx hb dL_holds_405 (by decide +kernel) ?_
            refine lv_goto (tgt := 410) hx hb dL_holds_406 (by decide) ?_
            refine lv_aload_n hx hb dL_holds_410 rfl (lv_at hl 1 rfl) ?_
            refine lv_iconst (v := (1 : Int32)) hx hb dL_holds_411 (by decide +kernel) ?_
            refine bRV (W0 := wO cI cS qx a0 a1 a2 a3 b3 a4 sn sc has ([]) (st, u_359.2, hi)) (wc := [(qx, .inr (6, [.ref (a0 0), .ref (a1 0), .ref (a2 0), .ref (a3 0), .ref (a4 0), .int has]))] :: wSt cI a0 st :: []) (r := (0 : Int32)) ⟨hx, hb, hml, hown, hts⟩ (KR.eq (kX6_total l D cI cS qx a0 (a1 0) (a2 0) (a3 0) (a4 0) has (1 : Int32) st) ((tot_i (i := 1) (by omega)).trans (to_y hI hho))) (cwV 1 hts gL_holds_X6_total rfl rfl rfl (by decide +kernel) ⟨Nat.le_of_ble_eq_true rfl, Nat.le_of_ble_eq_true rfl⟩) hE hP rfl rfl [0, 1] rfl rfl rfl hl.1 rfl (Nat.le_of_ble_eq_true rfl) ⟨Nat.le_of_ble_eq_true rfl, Nat.le_of_ble_eq_true rfl⟩ dL_holds_412 ?_
            refine lv_if_ne (tgt := 422) hx hb dL_holds_415 (by decide) (fun c => absurd (show (0 : Int32) = (0 : Int32) by decide) c) (fun _ => ?_)
            refine lv_iconst (v := (1 : Int32)) hx hb dL_holds_418 (by decide +kernel) ?_
            refine lv_goto (tgt := 423) hx hb dL_holds_419 (by decide) ?_
            refine lv_icmp_ne (tgt := 430) hx hb dL_holds_423 (by decide) (fun c => absurd (show (1 : Int32) = (1 : Int32) by decide) c) (fun _ => ?_)
            refine lv_iconst (v := (1 : Int32)) hx hb dL_holds_426 (by decide +kernel) ?_
            refine lv_goto (tgt := 431) hx hb dL_holds_427 (by decide) ?_
            exact hend _ _ _ u_359.2 _ _ _ _ dL_holds_431 rfl (Nat.le_refl _) (Nat.le_refl _) rfl hP hS
          · refine lv_aload_n hx hb dL_holds_394 rfl (lv_at hl 1 rfl) ?_
            refine lv_iconst (v := (2 : Int32)) hx hb dL_holds_395 (by decide +kernel) ?_
            refine lv_iconst (v := (0 : Int32)) hx hb dL_holds_396 (by decide +kernel) ?_
            refine bRV (W0 := wO cI cS qx a0 a1 a2 a3 b3 a4 sn sc has ([]) (st, u_359.2, hi)) (wc := [(qx, .inr (6, [.ref (a0 0), .ref (a1 0), .ref (a2 0), .ref (a3 0), .ref (a4 0), .int has]))] :: wSt cI a0 st :: []) (r := (fX3_count st.2.1)) ⟨hx, hb, hml, hown, hts⟩ (KR.eq (kX6_table l D cI cS qx a0 (a1 0) (a2 0) (a3 0) (a4 0) has (2 : Int32) (0 : Int32) st) (tbl_2y hho)) (cwV 2 hts gL_holds_X6_table rfl rfl rfl (by decide +kernel) ⟨Nat.le_of_ble_eq_true rfl, Nat.le_of_ble_eq_true rfl⟩) hE hP rfl rfl [0, 1] rfl rfl rfl hl.1 rfl (Nat.le_of_ble_eq_true rfl) ⟨Nat.le_of_ble_eq_true rfl, Nat.le_of_ble_eq_true rfl⟩ dL_holds_397 ?_
            refine lv_bipush (v := (-5 : Int32)) hx hb dL_holds_400 (by decide +kernel) ?_
            refine lv_icmp_ne (tgt := 409) hx hb dL_holds_402 (by decide) (fun _ => ?_) (fun c => absurd c (bd_ne (count_b _) (by omega) (by decide)))
            refine lv_iconst (v := (0 : Int32)) hx hb dL_holds_409 (by decide +kernel) ?_
            refine lv_aload_n hx hb dL_holds_410 rfl (lv_at hl 1 rfl) ?_
            refine lv_iconst (v := (1 : Int32)) hx hb dL_holds_411 (by decide +kernel) ?_
            refine bRV (W0 := wO cI cS qx a0 a1 a2 a3 b3 a4 sn sc has ([]) (st, u_359.2, hi)) (wc := [(qx, .inr (6, [.ref (a0 0), .ref (a1 0), .ref (a2 0), .ref (a3 0), .ref (a4 0), .int has]))] :: wSt cI a0 st :: []) (r := (st.2.2.2.2.2 1)) ⟨hx, hb, hml, hown, hts⟩ (KR.eq (kX6_total l D cI cS qx a0 (a1 0) (a2 0) (a3 0) (a4 0) has (1 : Int32) st) (tot_i (i := 1) (by omega))) (cwV 1 hts gL_holds_X6_total rfl rfl rfl (by decide +kernel) ⟨Nat.le_of_ble_eq_true rfl, Nat.le_of_ble_eq_true rfl⟩) hE hP rfl rfl [0, 1] rfl rfl rfl hl.1 rfl (Nat.le_of_ble_eq_true rfl) ⟨Nat.le_of_ble_eq_true rfl, Nat.le_of_ble_eq_true rfl⟩ dL_holds_412 ?_
            refine lv_if_ne (tgt := 422) hx hb dL_holds_415 (by decide) (fun _ => ?_) (fun c => absurd c (to_n hI he hho))
            refine lv_iconst (v := (0 : Int32)) hx hb dL_holds_422 (by decide +kernel) ?_
            refine lv_icmp_ne (tgt := 430) hx hb dL_holds_423 (by decide) (fun c => absurd (show (0 : Int32) = (0 : Int32) by decide) c) (fun _ => ?_)
            refine lv_iconst (v := (1 : Int32)) hx hb dL_holds_426 (by decide +kernel) ?_
            refine lv_goto (tgt := 431) hx hb dL_holds_427 (by decide) ?_
            exact hend _ _ _ u_359.2 _ _ _ _ dL_holds_431 rfl (Nat.le_refl _) (Nat.le_refl _) rfl hP hS
        | succ n ih =>
          intro hn ls hl
          rw [pk_m1 n] at hl
          have hl : lv_has ls 7 [(0, .ref qx), (1, .int ((3 : Int32))), (2, .int ((1 : Int32))), (3, .int ((unl st (32 - (n + 1))))), (4, .int ((fst st (32 - (n + 1))))), (5, .int ((nI n)))] := hl
          refine lv_iload hx hb dL_holds_26 (lv_at hl 5 rfl) ?_
          refine lv_if_lt (tgt := 91) hx hb dL_holds_28 (by decide) (fun c => absurd c (nI_pos (by omega))) (fun _ => ?_)
          refine lv_iload_n hx hb dL_holds_31 rfl (lv_at hl 2 rfl) ?_
          refine lv_if_eq (tgt := 91) hx hb dL_holds_32 (by decide) (fun c => absurd c (show ¬ (1 : Int32) = (0 : Int32) by decide)) (fun _ => ?_)
          refine lv_aload_n hx hb dL_holds_35 rfl (lv_at hl 0 rfl) ?_
          refine lv_iconst (v := (1 : Int32)) hx hb dL_holds_36 (by decide +kernel) ?_
          refine lv_iload hx hb dL_holds_37 (lv_at hl 5 rfl) ?_
          refine bRV (W0 := wO cI cS qx a0 a1 a2 a3 b3 a4 sn sc has ([]) (st, tr, hi)) (wc := [(qx, .inr (6, [.ref (a0 0), .ref (a1 0), .ref (a2 0), .ref (a3 0), .ref (a4 0), .int has]))] :: wSt cI a0 st :: []) (r := (st.2.2.2.1.1 n)) ⟨hx, hb, hml, hown, hts⟩ (KR.eq (kX6_value l D cI cS qx a0 (a1 0) (a2 0) (a3 0) (a4 0) has (1 : Int32) (nI n) st) (val_1y (by omega) h0)) (cwV 2 hts gL_holds_X6_value rfl rfl rfl (by decide +kernel) ⟨Nat.le_of_ble_eq_true rfl, Nat.le_of_ble_eq_true rfl⟩) hE hP rfl rfl [0, 1] rfl rfl rfl hl.1 rfl (Nat.le_of_ble_eq_true rfl) ⟨Nat.le_of_ble_eq_true rfl, Nat.le_of_ble_eq_true rfl⟩ dL_holds_39 ?_
          refine lv_aload_n hx hb dL_holds_42 rfl (lv_at hl 0 rfl) ?_
          refine lv_iload hx hb dL_holds_43 (lv_at hl 5 rfl) ?_
          refine bRS (W0 := wO cI cS qx a0 a1 a2 a3 b3 a4 sn sc has ([]) (st, tr, hi)) (wc := [(qx, .inr (6, [.ref (a0 0), .ref (a1 0), .ref (a2 0), .ref (a3 0), .ref (a4 0), .int has]))] :: wSt cI a0 st :: []) (r := (chg st.2.2.2.1.2.2.2.1 n (st.1 n))) ⟨hx, hb, hml, hown, hts⟩ (kL_due l D cI cS qx a0 a1 a2 a3 a4 has st hI h0 n (by omega)) (va_cwS 2 hts gL_holds_L_due rfl rfl rfl (by decide +kernel) ⟨Nat.le_of_ble_eq_true rfl, Nat.le_of_ble_eq_true rfl⟩) hE hP [0, 1] rfl rfl rfl hl.1 rfl (Nat.le_of_ble_eq_true rfl) ⟨Nat.le_of_ble_eq_true rfl, Nat.le_of_ble_eq_true rfl⟩ dL_holds_45 ?_
          refine lv_icmp_eq (tgt := 55) hx hb dL_holds_48 (by decide) (fun c_48 => ?_) (fun c_48 => ?_)
          · refine lv_iconst (v := (0 : Int32)) hx hb dL_holds_55 (by decide +kernel) ?_
            refine lv_istore (lv' := [(6, .int ((0 : Int32))), (0, .ref qx), (1, .int ((3 : Int32))), (2, .int ((1 : Int32))), (3, .int ((unl st (32 - (n + 1))))), (4, .int ((fst st (32 - (n + 1))))), (5, .int ((nI n)))]) hx hb dL_holds_56 hl (by decide) rfl (fun ls hl => ?_)
            refine lv_iload_n hx hb dL_holds_58 rfl (lv_at hl 4 rfl) ?_
            refine lv_iload hx hb dL_holds_59 (lv_at hl 0 rfl) ?_
            refine lv_if_eq (tgt := 68) hx hb dL_holds_61 (by decide) (fun _ => ?_) (fun c => absurd (show (0 : Int32) = (0 : Int32) by decide) c)
            refine lv_iconst (v := (0 : Int32)) hx hb dL_holds_68 (by decide +kernel) ?_
            refine lv_iadd hx hb dL_holds_69 ?_
            refine lv_istore_n (lv' := [(3, .int (((unl st (32 - (n + 1))) + (0 : Int32)))), (6, .int ((0 : Int32))), (0, .ref qx), (1, .int ((3 : Int32))), (2, .int ((1 : Int32))), (4, .int ((fst st (32 - (n + 1))))), (5, .int ((nI n)))]) hx hb dL_holds_70 rfl hl (by decide) rfl (fun ls hl => ?_)
            refine lv_iload hx hb dL_holds_71 (lv_at hl 1 rfl) ?_
            refine lv_if_eq (tgt := 81) hx hb dL_holds_73 (by decide) (fun _ => ?_) (fun c => absurd (show (0 : Int32) = (0 : Int32) by decide) c)
            refine lv_iload hx hb dL_holds_81 (lv_at hl 5 rfl) ?_
            refine lv_istore (lv' := [(4, .int ((fst st (32 - (n + 1))))), (3, .int (((unl st (32 - (n + 1))) + (0 : Int32)))), (6, .int ((0 : Int32))), (0, .ref qx), (1, .int ((3 : Int32))), (2, .int ((1 : Int32))), (5, .int ((nI n)))]) hx hb dL_holds_83 hl (by decide) rfl (fun ls hl => ?_)
            refine lv_iinc (v := ((nI n) + (-1 : Int32))) (lv' := [(5, .int (((nI n) + (-1 : Int32)))), (4, .int ((fst st (32 - (n + 1))))), (3, .int (((unl st (32 - (n + 1))) + (0 : Int32)))), (6, .int ((0 : Int32))), (0, .ref qx), (1, .int ((3 : Int32))), (2, .int ((1 : Int32)))]) hx hb dL_holds_85 hl (k := 6) rfl rfl (by decide) rfl (fun ls hl => ?_)
            refine lv_goto (tgt := 26) hx hb dL_holds_88 (by decide) ?_
            have q1 := un_eq (τ := st) (n := n) (by omega) c_48
            exact ih (by omega) _ (by rw [q1.1, q1.2]; exact lv_sub hl [4, 5, 6, 2, 1, 0] rfl)
          · refine lv_iconst (v := (1 : Int32)) hx hb dL_holds_51 (by decide +kernel) ?_
            refine lv_goto (tgt := 56) hx hb dL_holds_52 (by decide) ?_
            refine lv_istore (lv' := [(6, .int ((1 : Int32))), (0, .ref qx), (1, .int ((3 : Int32))), (2, .int ((1 : Int32))), (3, .int ((unl st (32 - (n + 1))))), (4, .int ((fst st (32 - (n + 1))))), (5, .int ((nI n)))]) hx hb dL_holds_56 hl (by decide) rfl (fun ls hl => ?_)
            refine lv_iload_n hx hb dL_holds_58 rfl (lv_at hl 4 rfl) ?_
            refine lv_iload hx hb dL_holds_59 (lv_at hl 0 rfl) ?_
            refine lv_if_eq (tgt := 68) hx hb dL_holds_61 (by decide) (fun c => absurd c (show ¬ (1 : Int32) = (0 : Int32) by decide)) (fun _ => ?_)
            refine lv_iconst (v := (1 : Int32)) hx hb dL_holds_64 (by decide +kernel) ?_
            refine lv_goto (tgt := 69) hx hb dL_holds_65 (by decide) ?_
            refine lv_iadd hx hb dL_holds_69 ?_
            refine lv_istore_n (lv' := [(3, .int (((unl st (32 - (n + 1))) + (1 : Int32)))), (6, .int ((1 : Int32))), (0, .ref qx), (1, .int ((3 : Int32))), (2, .int ((1 : Int32))), (4, .int ((fst st (32 - (n + 1))))), (5, .int ((nI n)))]) hx hb dL_holds_70 rfl hl (by decide) rfl (fun ls hl => ?_)
            refine lv_iload hx hb dL_holds_71 (lv_at hl 1 rfl) ?_
            refine lv_if_eq (tgt := 81) hx hb dL_holds_73 (by decide) (fun c => absurd c (show ¬ (1 : Int32) = (0 : Int32) by decide)) (fun _ => ?_)
            refine lv_iload hx hb dL_holds_76 (lv_at hl 6 rfl) ?_
            refine lv_goto (tgt := 83) hx hb dL_holds_78 (by decide) ?_
            refine lv_istore (lv' := [(4, .int ((nI n))), (3, .int (((unl st (32 - (n + 1))) + (1 : Int32)))), (6, .int ((1 : Int32))), (0, .ref qx), (1, .int ((3 : Int32))), (2, .int ((1 : Int32))), (5, .int ((nI n)))]) hx hb dL_holds_83 hl (by decide) rfl (fun ls hl => ?_)
            refine lv_iinc (v := ((nI n) + (-1 : Int32))) (lv' := [(5, .int (((nI n) + (-1 : Int32)))), (4, .int ((nI n))), (3, .int (((unl st (32 - (n + 1))) + (1 : Int32)))), (6, .int ((1 : Int32))), (0, .ref qx), (1, .int ((3 : Int32))), (2, .int ((1 : Int32)))]) hx hb dL_holds_85 hl (k := 6) rfl rfl (by decide) rfl (fun ls hl => ?_)
            refine lv_goto (tgt := 26) hx hb dL_holds_88 (by decide) ?_
            have q1 := un_ne (τ := st) (n := n) (by omega) c_48
            exact ih (by omega) _ (by rw [q1.1, q1.2]; exact lv_sub hl [4, 5, 6, 2, 1, 0] rfl)
      refine lv_aload_n hx hb dL_holds_0 rfl (lv_at hl 0 rfl) ?_
      refine lv_iconst (v := (0 : Int32)) hx hb dL_holds_1 (by decide +kernel) ?_
      refine bRV (W0 := wO cI cS qx a0 a1 a2 a3 b3 a4 sn sc has ([]) (st, tr, hi)) (wc := [(qx, .inr (6, [.ref (a0 0), .ref (a1 0), .ref (a2 0), .ref (a3 0), .ref (a4 0), .int has]))] :: wSt cI a0 st :: []) (r := (3 : Int32)) ⟨hx, hb, hml, hown, hts⟩ (KR.eq (kX6_copy l D cI cS qx a0 (a1 0) (a2 0) (a3 0) (a4 0) has (0 : Int32) st) ((cp_0 st).trans hph)) (cwV 1 hts gL_holds_X6_copy rfl rfl rfl (by decide +kernel) ⟨Nat.le_of_ble_eq_true rfl, Nat.le_of_ble_eq_true rfl⟩) hE hP rfl rfl [0, 1] rfl rfl rfl hl.1 rfl (Nat.le_of_ble_eq_true rfl) ⟨Nat.le_of_ble_eq_true rfl, Nat.le_of_ble_eq_true rfl⟩ dL_holds_2 ?_
      refine lv_istore_n (lv' := [(1, .int ((3 : Int32))), (0, .ref qx)]) hx hb dL_holds_5 rfl hl (by decide) rfl (fun ls hl => ?_)
      refine lv_iload_n hx hb dL_holds_6 rfl (lv_at hl 0 rfl) ?_
      refine lv_if_le (tgt := 14) hx hb dL_holds_7 (by decide) (fun c => absurd c (show ¬ (3 : Int32) ≤ (0 : Int32) by decide)) (fun _ => ?_)
      refine lv_iconst (v := (1 : Int32)) hx hb dL_holds_10 (by decide +kernel) ?_
      refine lv_goto (tgt := 15) hx hb dL_holds_11 (by decide) ?_
      refine lv_istore_n (lv' := [(2, .int ((1 : Int32))), (1, .int ((3 : Int32))), (0, .ref qx)]) hx hb dL_holds_15 rfl hl (by decide) rfl (fun ls hl => ?_)
      refine lv_iconst (v := (0 : Int32)) hx hb dL_holds_16 (by decide +kernel) ?_
      refine lv_istore_n (lv' := [(3, .int ((0 : Int32))), (2, .int ((1 : Int32))), (1, .int ((3 : Int32))), (0, .ref qx)]) hx hb dL_holds_17 rfl hl (by decide) rfl (fun ls hl => ?_)
      refine lv_bipush (v := (-5 : Int32)) hx hb dL_holds_18 (by decide +kernel) ?_
      refine lv_istore (lv' := [(4, .int ((-5 : Int32))), (3, .int ((0 : Int32))), (2, .int ((1 : Int32))), (1, .int ((3 : Int32))), (0, .ref qx)]) hx hb dL_holds_20 hl (by decide) rfl (fun ls hl => ?_)
      refine lv_bipush (v := (31 : Int32)) hx hb dL_holds_22 (by decide +kernel) ?_
      refine lv_istore (lv' := [(5, .int ((31 : Int32))), (4, .int ((-5 : Int32))), (3, .int ((0 : Int32))), (2, .int ((1 : Int32))), (1, .int ((3 : Int32))), (0, .ref qx)]) hx hb dL_holds_24 hl (by decide) rfl (fun ls hl => ?_)
      rw [show (31 : Int32) = (nI 32) + (-1 : Int32) from by decide] at hl
      exact loop_26 32 (by omega) _ (lv_sub hl [5, 4, 3, 2, 1, 0] rfl)
