theorem fl_snoc (x : va_W) : ∀ l : List va_W, fl (l ++ [x]) = fl l ++ x
  | [] => List.append_nil x
  | b :: l => by
    show b ++ fl (l ++ [x]) = (b ++ fl l) ++ x
    rw [fl_snoc x l, List.append_assoc]
theorem wO_snoc {cI cS : ClassId} {qx : Nat} {a0 a1 a2 a3 : Nat → Nat} {b3 : Nat → Nat → Nat} {a4 : Nat → Nat} {sn : StT} {sc : ScT} {has : Int32} {t : List va_W} {x : va_W} {u : TLT} : fl (wO cI cS qx a0 a1 a2 a3 b3 a4 sn sc has (t ++ [x]) u) = fl (wO cI cS qx a0 a1 a2 a3 b3 a4 sn sc has t u) ++ x := fl_snoc x (wO cI cS qx a0 a1 a2 a3 b3 a4 sn sc has t u)
theorem fl_put {f h : FnI} {k : Nat} (hf : ∀ j : Nat, j < k → f j = h j) : ∀ j : Nat, j < k + 1 → upd f k (h k) j = h j := fun j hj => by
  by_cases e : j = k
  · rw [e, pk_us]
  · rw [pk_un e]; exact hf j (by omega)
set_option maxHeartbeats 8000000 in
set_option maxRecDepth 100000 in
theorem kL_swaps (l : Launch) (D : va_G) (cI cS : ClassId) (qx : Nat) (a0 a1 a2 a3 : Nat → Nat) (b3 : Nat → Nat → Nat) (a4 : Nat → Nat) (sn : StT) (sc : ScT) (has : Int32) {e0 : Nat} (st tr : StT) (hi : HiT) (hI : IV e0 st) (hh : WH hi) (he : e0 < 1000) : KQ l yL_swaps wsL_swaps { frames := 6, cells := 2, slots := 64, locals := 128 } D (tysA cI cS) [.ref qx] (fl (wO cI cS qx a0 a1 a2 a3 b3 a4 sn sc has [] (st, tr, hi))) 2 64 (fun (x : Int32) (u : TPT) => x = (1 : Int32) ∧ IV (e0 + 1) u.1 ∧ WH u.2) (fun u => fl (wO cI cS qx a0 a1 a2 a3 b3 a4 sn sc has [] (u.1, tr, u.2))) := by
  refine KQ.of (cc := cL_swaps) (maxL := 6) (ty := .boolean) (by decide) rfl (Nat.le_of_ble_eq_true rfl) rfl (fun p e s m args below meth c ls Q A hx hb hml hown hts hE hP hD hA hS hX hl hend => ?_)
  have hown : s.vm.findClass RL = some m.cls := hown
  have hl : lv_has ls 6 [(0, .ref qx)] := hl
  have hbo : BL st.2.2.1 := hI.1.2.2.1
  rcases hI.swap he with ⟨hph, hz, u1, eS, hI1, z0, z1, z2, z3⟩ | ⟨hno, eS⟩
  · have h0 : ¬ st.2.2.2.1.2.2.1 = (0 : Int32) := by rw [hph]; decide
    have h1 : ¬ st.2.2.2.1.2.2.1 = (1 : Int32) := by rw [hph]; decide
    have eT : fX6_swap (st, hi) = ((fX3_count st.2.2.2.1.1), (u1, hiR hi st (fX3_count st.2.2.2.1.1))) := by rw [swap_eq, eS]
    have loop_98 : ∀ (q2 q7 : Nat) (f g : FnI), (∀ j : Nat, j < 32 → f j = st.1 j) → (∀ j : Nat, j < 32 → g j = (fX6_value (1 : Int32) (nI j) st)) → ∀ (H : Heap) (locs : List Loc), va_P D vwCl (fl (wO cI cS qx a0 a1 a2 a3 b3 a4 sn sc has [[(q2, .inl (cI, 32, .inl f))], [(q7, .inl (cI, 32, .inl g))]] (u1, tr, (hiR hi st (fX3_count st.2.2.2.1.1))))) H → va_D A (fl (wO cI cS qx a0 a1 a2 a3 b3 a4 sn sc has [[(q2, .inl (cI, 32, .inl f))], [(q7, .inl (cI, 32, .inl g))]] (u1, tr, (hiR hi st (fX3_count st.2.2.2.1.1))))) → va_S A s.heap H locs → ∀ n k : Nat, k + n = 32 → ∀ ls : Array Slot, lv_has ls 6 [(0, .ref qx), (1, .ref q2), (2, .ref q7), (3, .int st.2.2.2.1.2.2.2.1), (4, .int ((fX3_count st.2.2.2.1.1))), (5, .int ((nI k)))] → W p l e { frames := 6, cells := 2, slots := 64, locals := 128 } s m args below meth c H locs 2 64 Q (F0 m 98 ls []) := by
      intro q2 q7 f g hf hg H locs hP hD hS n
      induction n with
      | zero =>
        intro k hk ls hl
        refine lv_iload hx hb dL_swaps_98 (lv_at hl 5 rfl) ?_
        refine lv_bipush (v := (32 : Int32)) hx hb dL_swaps_100 (by decide +kernel) ?_
        refine lv_icmp_ge (tgt := 191) hx hb dL_swaps_102 (by decide) (fun _ => ?_) (fun c => absurd (show (32 : Int32) ≤ (nI k) from nI_le (a := 32) (by omega) (by omega)) c)
        refine lv_iload hx hb dL_swaps_191 (lv_at hl 4 rfl) ?_
        refine lv_if_lt (tgt := 204) hx hb dL_swaps_193 (by decide) (fun c => absurd c (bd_nn (count_b _) (by omega))) (fun _ => ?_)
        refine lv_aload_n hx hb dL_swaps_196 rfl (lv_at hl 0 rfl) ?_
        refine lv_iconst (v := (0 : Int32)) hx hb dL_swaps_197 (by decide +kernel) ?_
        refine bRV (W0 := wO cI cS qx a0 a1 a2 a3 b3 a4 sn sc has ([[(q2, .inl (cI, 32, .inl f))], [(q7, .inl (cI, 32, .inl g))]]) (u1, tr, (hiR hi st (fX3_count st.2.2.2.1.1)))) (wc := [(qx, .inr (6, [.ref (a0 0), .ref (a1 0), .ref (a2 0), .ref (a3 0), .ref (a4 0), .int has]))] :: wSt cI a0 u1 :: []) (r := (0 : Int32)) ⟨hx, hb, hml, hown, hts⟩ (KR.eq (kX6_copy l D cI cS qx a0 (a1 0) (a2 0) (a3 0) (a4 0) has (0 : Int32) u1) ((cp_0 u1).trans z0)) (cwV 1 hts gL_swaps_X6_copy rfl rfl rfl (by decide +kernel) ⟨Nat.le_of_ble_eq_true rfl, Nat.le_of_ble_eq_true rfl⟩) hE hP rfl rfl [0, 1] rfl rfl rfl hl.1 rfl (Nat.le_of_ble_eq_true rfl) ⟨Nat.le_of_ble_eq_true rfl, Nat.le_of_ble_eq_true rfl⟩ dL_swaps_198 ?_
        refine lv_if_ne (tgt := 208) hx hb dL_swaps_201 (by decide) (fun c => absurd (show (0 : Int32) = (0 : Int32) by decide) c) (fun _ => ?_)
        refine lv_iconst (v := (1 : Int32)) hx hb dL_swaps_204 (by decide +kernel) ?_
        refine lv_goto (tgt := 209) hx hb dL_swaps_205 (by decide) ?_
        exact hend _ _ _ (u1, (hiR hi st (fX3_count st.2.2.2.1.1))) _ _ _ _ dL_swaps_209 rfl (by decide) (by decide) ⟨rfl, hI1, (hh.rec hbo (fX3_count st.2.2.2.1.1))⟩ (fl_sub (wc := wO cI cS qx a0 a1 a2 a3 b3 a4 sn sc has [] (u1, tr, (hiR hi st (fX3_count st.2.2.2.1.1)))) (is := [0, 1, 2, 3, 4, 5, 6, 7, 8, 9, 10, 11, 12]) hP rfl rfl) hS
      | succ n ih =>
        intro k hk ls hl
        refine lv_iload hx hb dL_swaps_98 (lv_at hl 5 rfl) ?_
        refine lv_bipush (v := (32 : Int32)) hx hb dL_swaps_100 (by decide +kernel) ?_
        refine lv_icmp_ge (tgt := 191) hx hb dL_swaps_102 (by decide) (fun c => absurd c (show ¬ (32 : Int32) ≤ (nI k) from nI_ge (b := 32) (by omega) (by omega))) (fun _ => ?_)
        refine lv_iload hx hb dL_swaps_105 (lv_at hl 4 rfl) ?_
        refine lv_if_lt (tgt := 191) hx hb dL_swaps_107 (by decide) (fun c => absurd c (bd_nn (count_b _) (by omega))) (fun _ => ?_)
        refine lv_aload_n hx hb dL_swaps_110 rfl (lv_at hl 0 rfl) ?_
        refine lv_iconst (v := (2 : Int32)) hx hb dL_swaps_111 (by decide +kernel) ?_
        refine lv_iload hx hb dL_swaps_112 (lv_at hl 5 rfl) ?_
        refine bRV (W0 := wO cI cS qx a0 a1 a2 a3 b3 a4 sn sc has ([[(q2, .inl (cI, 32, .inl f))], [(q7, .inl (cI, 32, .inl g))]]) (u1, tr, (hiR hi st (fX3_count st.2.2.2.1.1)))) (wc := [(qx, .inr (6, [.ref (a0 0), .ref (a1 0), .ref (a2 0), .ref (a3 0), .ref (a4 0), .int has]))] :: wSt cI a0 u1 :: []) (r := (st.1 k)) ⟨hx, hb, hml, hown, hts⟩ (KR.eq (kX6_value l D cI cS qx a0 (a1 0) (a2 0) (a3 0) (a4 0) has (2 : Int32) (nI k) u1) ((val_2y (by omega) z3).trans (congrFun z2 k))) (cwV 2 hts gL_swaps_X6_value rfl rfl rfl (by decide +kernel) ⟨Nat.le_of_ble_eq_true rfl, Nat.le_of_ble_eq_true rfl⟩) hE hP rfl rfl [0, 1] rfl rfl rfl hl.1 rfl (Nat.le_of_ble_eq_true rfl) ⟨Nat.le_of_ble_eq_true rfl, Nat.le_of_ble_eq_true rfl⟩ dL_swaps_114 ?_
        refine lv_aload_n hx hb dL_swaps_117 rfl (lv_at hl 1 rfl) ?_
        refine lv_iload hx hb dL_swaps_118 (lv_at hl 5 rfl) ?_
        refine xld (v := (f k)) (j := k) hx hb hE hP 122 rfl rfl (nI_clamp (by omega)) (vp_in_nI (by omega) (by omega)) rfl dL_swaps_120 ?_
        refine lv_icmp_ne (tgt := 183) hx hb dL_swaps_121 (by decide) (fun c => absurd (hf k (by omega)).symm c) (fun _ => ?_)
        refine lv_aload_n hx hb dL_swaps_124 rfl (lv_at hl 0 rfl) ?_
        refine lv_iconst (v := (0 : Int32)) hx hb dL_swaps_125 (by decide +kernel) ?_
        refine lv_iload hx hb dL_swaps_126 (lv_at hl 5 rfl) ?_
        refine bRV (W0 := wO cI cS qx a0 a1 a2 a3 b3 a4 sn sc has ([[(q2, .inl (cI, 32, .inl f))], [(q7, .inl (cI, 32, .inl g))]]) (u1, tr, (hiR hi st (fX3_count st.2.2.2.1.1)))) (wc := [(qx, .inr (6, [.ref (a0 0), .ref (a1 0), .ref (a2 0), .ref (a3 0), .ref (a4 0), .int has]))] :: wSt cI a0 u1 :: []) (r := (st.2.2.2.1.1 k)) ⟨hx, hb, hml, hown, hts⟩ (KR.eq (kX6_value l D cI cS qx a0 (a1 0) (a2 0) (a3 0) (a4 0) has (0 : Int32) (nI k) u1) ((val_0 (by omega)).trans (congrFun z1 k))) (cwV 2 hts gL_swaps_X6_value rfl rfl rfl (by decide +kernel) ⟨Nat.le_of_ble_eq_true rfl, Nat.le_of_ble_eq_true rfl⟩) hE hP rfl rfl [0, 1] rfl rfl rfl hl.1 rfl (Nat.le_of_ble_eq_true rfl) ⟨Nat.le_of_ble_eq_true rfl, Nat.le_of_ble_eq_true rfl⟩ dL_swaps_128 ?_
        refine lv_aload_n hx hb dL_swaps_131 rfl (lv_at hl 2 rfl) ?_
        refine lv_iload hx hb dL_swaps_132 (lv_at hl 5 rfl) ?_
        refine xld (v := (g k)) (j := k) hx hb hE hP 123 rfl rfl (nI_clamp (by omega)) (vp_in_nI (by omega) (by omega)) rfl dL_swaps_134 ?_
        refine lv_icmp_ne (tgt := 183) hx hb dL_swaps_135 (by decide) (fun c => absurd ((hg k (by omega)).trans (val_1y (by omega) h0)).symm c) (fun _ => ?_)
        refine lv_aload_n hx hb dL_swaps_138 rfl (lv_at hl 0 rfl) ?_
        refine lv_iconst (v := (0 : Int32)) hx hb dL_swaps_139 (by decide +kernel) ?_
        refine lv_iload hx hb dL_swaps_140 (lv_at hl 5 rfl) ?_
        refine bRV (W0 := wO cI cS qx a0 a1 a2 a3 b3 a4 sn sc has ([[(q2, .inl (cI, 32, .inl f))], [(q7, .inl (cI, 32, .inl g))]]) (u1, tr, (hiR hi st (fX3_count st.2.2.2.1.1)))) (wc := [(qx, .inr (6, [.ref (a0 0), .ref (a1 0), .ref (a2 0), .ref (a3 0), .ref (a4 0), .int has]))] :: wSt cI a0 u1 :: []) (r := (st.2.2.2.1.1 k)) ⟨hx, hb, hml, hown, hts⟩ (KR.eq (kX6_value l D cI cS qx a0 (a1 0) (a2 0) (a3 0) (a4 0) has (0 : Int32) (nI k) u1) ((val_0 (by omega)).trans (congrFun z1 k))) (cwV 2 hts gL_swaps_X6_value rfl rfl rfl (by decide +kernel) ⟨Nat.le_of_ble_eq_true rfl, Nat.le_of_ble_eq_true rfl⟩) hE hP rfl rfl [0, 1] rfl rfl rfl hl.1 rfl (Nat.le_of_ble_eq_true rfl) ⟨Nat.le_of_ble_eq_true rfl, Nat.le_of_ble_eq_true rfl⟩ dL_swaps_142 ?_
        refine lv_aload_n hx hb dL_swaps_145 rfl (lv_at hl 1 rfl) ?_
        refine lv_iload hx hb dL_swaps_146 (lv_at hl 5 rfl) ?_
        refine xld (v := (f k)) (j := k) hx hb hE hP 122 rfl rfl (nI_clamp (by omega)) (vp_in_nI (by omega) (by omega)) rfl dL_swaps_148 ?_
        refine lv_if_ge (tgt := 157) hx hb dL_swaps_149 (by decide) (fun c_149 => ?_) (fun c_149 => ?_)
        · refine lv_aload_n hx hb dL_swaps_157 rfl (lv_at hl 0 rfl) ?_
          refine lv_iload_n hx hb dL_swaps_158 rfl (lv_at hl 3 rfl) ?_
          refine lv_iload hx hb dL_swaps_159 (lv_at hl 5 rfl) ?_
          refine lv_aload_n hx hb dL_swaps_161 rfl (lv_at hl 1 rfl) ?_
          refine lv_iload hx hb dL_swaps_162 (lv_at hl 5 rfl) ?_
          refine xld (v := (f k)) (j := k) hx hb hE hP 122 rfl rfl (nI_clamp (by omega)) (vp_in_nI (by omega) (by omega)) rfl dL_swaps_164 ?_
          refine cRV (W0 := fl (wO cI cS qx a0 a1 a2 a3 b3 a4 sn sc has ([[(q2, .inl (cI, 32, .inl f))], [(q7, .inl (cI, 32, .inl g))]]) (u1, tr, (hiR hi st (fX3_count st.2.2.2.1.1))))) (r := (st.2.2.2.1.1 k)) ⟨hx, hb, hml, hown, hts⟩ (KR.eq (kX6_changed l D cI cS qx st.2.2.2.1.2.2.2.1 (nI k) (f k)) ((chd_is (hI.cp h0).1 (by omega) (rw_pos (by rw [hf k (by omega)]; exact hI.1.2.2.2.1 k (by omega)) (Int32.not_lt.mpr c_149))).trans (by rw [hf k (by omega)]; exact (hI.same h0 h1 hz (by omega)).symm))) (cwV 3 hts gL_swaps_X6_changed rfl rfl rfl (by decide +kernel) ⟨Nat.le_of_ble_eq_true rfl, Nat.le_of_ble_eq_true rfl⟩) hE hP 0 rfl rfl [] rfl rfl hl.1 rfl (Nat.le_of_ble_eq_true rfl) ⟨Nat.le_of_ble_eq_true rfl, Nat.le_of_ble_eq_true rfl⟩ dL_swaps_165 ?_
          refine lv_icmp_ne (tgt := 183) hx hb dL_swaps_168 (by decide) (fun c => absurd rfl c) (fun _ => ?_)
          refine lv_aload_n hx hb dL_swaps_171 rfl (lv_at hl 0 rfl) ?_
          refine lv_iconst (v := (1 : Int32)) hx hb dL_swaps_172 (by decide +kernel) ?_
          refine lv_iload hx hb dL_swaps_173 (lv_at hl 5 rfl) ?_
          refine bRV (W0 := wO cI cS qx a0 a1 a2 a3 b3 a4 sn sc has ([[(q2, .inl (cI, 32, .inl f))], [(q7, .inl (cI, 32, .inl g))]]) (u1, tr, (hiR hi st (fX3_count st.2.2.2.1.1)))) (wc := [(qx, .inr (6, [.ref (a0 0), .ref (a1 0), .ref (a2 0), .ref (a3 0), .ref (a4 0), .int has]))] :: wSt cI a0 u1 :: []) (r := (-5 : Int32)) ⟨hx, hb, hml, hown, hts⟩ (KR.eq (kX6_value l D cI cS qx a0 (a1 0) (a2 0) (a3 0) (a4 0) has (1 : Int32) (nI k) u1) (val_1n (by omega) z0)) (cwV 2 hts gL_swaps_X6_value rfl rfl rfl (by decide +kernel) ⟨Nat.le_of_ble_eq_true rfl, Nat.le_of_ble_eq_true rfl⟩) hE hP rfl rfl [0, 1] rfl rfl rfl hl.1 rfl (Nat.le_of_ble_eq_true rfl) ⟨Nat.le_of_ble_eq_true rfl, Nat.le_of_ble_eq_true rfl⟩ dL_swaps_175 ?_
          refine lv_bipush (v := (-5 : Int32)) hx hb dL_swaps_178 (by decide +kernel) ?_
          refine lv_icmp_eq (tgt := 185) hx hb dL_swaps_180 (by decide) (fun _ => ?_) (fun c => absurd (show (-5 : Int32) = (-5 : Int32) by decide) c)
          refine lv_iinc (v := (nI (k + 1))) (lv' := [(5, .int ((nI (k + 1)))), (0, .ref qx), (1, .ref q2), (2, .ref q7), (3, .int st.2.2.2.1.2.2.2.1), (4, .int ((fX3_count st.2.2.2.1.1)))]) hx hb dL_swaps_185 hl (k := 5) rfl (nI_1 _) (by decide) rfl (fun ls hl => ?_)
          refine lv_goto (tgt := 98) hx hb dL_swaps_188 (by decide) ?_
          exact ih (k + 1) (by omega) _ (lv_sub hl [1, 2, 3, 4, 5, 0] rfl)
        · refine lv_bipush (v := (-5 : Int32)) hx hb dL_swaps_152 (by decide +kernel) ?_
          refine lv_goto (tgt := 168) hx hb dL_swaps_154 (by decide) ?_
          refine lv_icmp_ne (tgt := 183) hx hb dL_swaps_168 (by decide) (fun c => absurd ((hI.same h0 h1 hz (by omega)).trans (by rw [← hf k (by omega), rw_neg (by rw [hf k (by omega)]; exact hI.1.2.2.2.1 k (by omega)) (Int32.not_le.mp c_149)]; exact chg_none _ _)) c) (fun _ => ?_)
          refine lv_aload_n hx hb dL_swaps_171 rfl (lv_at hl 0 rfl) ?_
          refine lv_iconst (v := (1 : Int32)) hx hb dL_swaps_172 (by decide +kernel) ?_
          refine lv_iload hx hb dL_swaps_173 (lv_at hl 5 rfl) ?_
          refine bRV (W0 := wO cI cS qx a0 a1 a2 a3 b3 a4 sn sc has ([[(q2, .inl (cI, 32, .inl f))], [(q7, .inl (cI, 32, .inl g))]]) (u1, tr, (hiR hi st (fX3_count st.2.2.2.1.1)))) (wc := [(qx, .inr (6, [.ref (a0 0), .ref (a1 0), .ref (a2 0), .ref (a3 0), .ref (a4 0), .int has]))] :: wSt cI a0 u1 :: []) (r := (-5 : Int32)) ⟨hx, hb, hml, hown, hts⟩ (KR.eq (kX6_value l D cI cS qx a0 (a1 0) (a2 0) (a3 0) (a4 0) has (1 : Int32) (nI k) u1) (val_1n (by omega) z0)) (cwV 2 hts gL_swaps_X6_value rfl rfl rfl (by decide +kernel) ⟨Nat.le_of_ble_eq_true rfl, Nat.le_of_ble_eq_true rfl⟩) hE hP rfl rfl [0, 1] rfl rfl rfl hl.1 rfl (Nat.le_of_ble_eq_true rfl) ⟨Nat.le_of_ble_eq_true rfl, Nat.le_of_ble_eq_true rfl⟩ dL_swaps_175 ?_
          refine lv_bipush (v := (-5 : Int32)) hx hb dL_swaps_178 (by decide +kernel) ?_
          refine lv_icmp_eq (tgt := 185) hx hb dL_swaps_180 (by decide) (fun _ => ?_) (fun c => absurd (show (-5 : Int32) = (-5 : Int32) by decide) c)
          refine lv_iinc (v := (nI (k + 1))) (lv' := [(5, .int ((nI (k + 1)))), (0, .ref qx), (1, .ref q2), (2, .ref q7), (3, .int st.2.2.2.1.2.2.2.1), (4, .int ((fX3_count st.2.2.2.1.1)))]) hx hb dL_swaps_185 hl (k := 5) rfl (nI_1 _) (by decide) rfl (fun ls hl => ?_)
          refine lv_goto (tgt := 98) hx hb dL_swaps_188 (by decide) ?_
          exact ih (k + 1) (by omega) _ (lv_sub hl [1, 2, 3, 4, 5, 0] rfl)
    have loop_49 : ∀ (q2 q7 n k : Nat) (f g : FnI), k + n = 32 → (∀ j : Nat, j < k → f j = st.1 j) → (∀ j : Nat, j < k → g j = (fX6_value (1 : Int32) (nI j) st)) → ∀ (H : Heap) (locs : List Loc), va_P D vwCl (fl (wO cI cS qx a0 a1 a2 a3 b3 a4 sn sc has [[(q2, .inl (cI, 32, .inl f))], [(q7, .inl (cI, 32, .inl g))]] (st, tr, hi))) H → va_D A (fl (wO cI cS qx a0 a1 a2 a3 b3 a4 sn sc has [[(q2, .inl (cI, 32, .inl f))], [(q7, .inl (cI, 32, .inl g))]] (st, tr, hi))) → va_S A s.heap H locs → ∀ ls : Array Slot, lv_has ls 6 [(0, .ref qx), (1, .ref q2), (2, .ref q7), (3, .int st.2.2.2.1.2.2.2.1), (4, .int ((fX3_count st.2.2.2.1.1))), (5, .int ((nI k)))] → W p l e { frames := 6, cells := 2, slots := 64, locals := 128 } s m args below meth c H locs 2 64 Q (F0 m 49 ls []) := by
      intro q2 q7 n
      induction n with
      | zero =>
        intro k f g hk hf hg H locs hP hD hS ls hl
        have hk2 : k = 32 := by omega
        subst hk2
        refine lv_iload hx hb dL_swaps_49 (lv_at hl 5 rfl) ?_
        refine lv_bipush (v := (32 : Int32)) hx hb dL_swaps_51 (by decide +kernel) ?_
        refine lv_icmp_ge (tgt := 84) hx hb dL_swaps_53 (by decide) (fun _ => ?_) (fun c => absurd (show (32 : Int32) ≤ (nI 32) from Int32.le_refl _) c)
        refine lv_aload_n hx hb dL_swaps_84 rfl (lv_at hl 0 rfl) ?_
        refine bIV (W0 := wO cI cS qx a0 a1 a2 a3 b3 a4 sn sc has ([[(q2, .inl (cI, 32, .inl f))], [(q7, .inl (cI, 32, .inl g))]]) (st, tr, hi)) (wc := [(qx, .inr (6, [.ref (a0 0), .ref (a1 0), .ref (a2 0), .ref (a3 0), .ref (a4 0), .int has]))] :: wSt cI a0 st :: wHi cI cS a3 b3 hi []) (w1 := fun u : TPT => [(qx, .inr (6, [.ref (a0 0), .ref (a1 0), .ref (a2 0), .ref (a3 0), .ref (a4 0), .int has]))] :: wSt cI a0 u.1 :: wHi cI cS a3 b3 u.2 []) ⟨hx, hb, hml, hown, hts⟩ (kX6_swap l D cI cS qx a0 a3 b3 (a1 0) (a2 0) (a4 0) has (st, hi) hI.ws hh) (cwV 0 hts gL_swaps_X6_swap rfl rfl rfl (by decide +kernel) ⟨Nat.le_of_ble_eq_true rfl, Nat.le_of_ble_eq_true rfl⟩) hE hP hD hS rfl rfl [0, 1, 4, 5, 6, 7, 8, 9, 10, 11] rfl rfl (fun _ => rfl) (fun _ => rfl) rfl hl.1 rfl (Nat.le_of_ble_eq_true rfl) ⟨Nat.le_of_ble_eq_true rfl, Nat.le_of_ble_eq_true rfl⟩ dL_swaps_85 (fun r_85 u_85 H locs e_85 hP hD hS => ?_)
        have hP : va_P D vwCl (fl (wO cI cS qx a0 a1 a2 a3 b3 a4 sn sc has ([[(q2, .inl (cI, 32, .inl f))], [(q7, .inl (cI, 32, .inl g))]]) (u_85.1, tr, u_85.2))) H := hP
        have hD : va_D A (fl (wO cI cS qx a0 a1 a2 a3 b3 a4 sn sc has ([[(q2, .inl (cI, 32, .inl f))], [(q7, .inl (cI, 32, .inl g))]]) (u_85.1, tr, u_85.2))) := hD
        rw [eT] at e_85
        cases e_85
        have hP : va_P D vwCl (fl (wO cI cS qx a0 a1 a2 a3 b3 a4 sn sc has ([[(q2, .inl (cI, 32, .inl f))], [(q7, .inl (cI, 32, .inl g))]]) (u1, tr, (hiR hi st (fX3_count st.2.2.2.1.1))))) H := hP
        have hD : va_D A (fl (wO cI cS qx a0 a1 a2 a3 b3 a4 sn sc has ([[(q2, .inl (cI, 32, .inl f))], [(q7, .inl (cI, 32, .inl g))]]) (u1, tr, (hiR hi st (fX3_count st.2.2.2.1.1))))) := hD
        refine lv_iload hx hb dL_swaps_88 (lv_at hl 4 rfl) ?_
        refine lv_icmp_eq (tgt := 95) hx hb dL_swaps_90 (by decide) (fun _ => ?_) (fun c => absurd rfl c)
        refine lv_iconst (v := (0 : Int32)) hx hb dL_swaps_95 (by decide +kernel) ?_
        refine lv_istore (lv' := [(5, .int ((0 : Int32))), (0, .ref qx), (1, .ref q2), (2, .ref q7), (3, .int st.2.2.2.1.2.2.2.1), (4, .int ((fX3_count st.2.2.2.1.1)))]) hx hb dL_swaps_96 hl (by decide) rfl (fun ls hl => ?_)
        exact loop_98 q2 q7 f g hf hg _ _ hP hD hS 32 0 (by omega) _ (lv_sub hl [1, 2, 3, 4, 5, 0] rfl)
      | succ n ih =>
        intro k f g hk hf hg H locs hP hD hS ls hl
        refine lv_iload hx hb dL_swaps_49 (lv_at hl 5 rfl) ?_
        refine lv_bipush (v := (32 : Int32)) hx hb dL_swaps_51 (by decide +kernel) ?_
        refine lv_icmp_ge (tgt := 84) hx hb dL_swaps_53 (by decide) (fun c => absurd c (show ¬ (32 : Int32) ≤ (nI k) from nI_ge (b := 32) (by omega) (by omega))) (fun _ => ?_)
        refine lv_aload_n hx hb dL_swaps_56 rfl (lv_at hl 1 rfl) ?_
        refine lv_iload hx hb dL_swaps_57 (lv_at hl 5 rfl) ?_
        refine lv_aload_n hx hb dL_swaps_59 rfl (lv_at hl 0 rfl) ?_
        refine lv_iconst (v := (0 : Int32)) hx hb dL_swaps_60 (by decide +kernel) ?_
        refine lv_iload hx hb dL_swaps_61 (lv_at hl 5 rfl) ?_
        refine bRV (W0 := wO cI cS qx a0 a1 a2 a3 b3 a4 sn sc has ([[(q2, .inl (cI, 32, .inl f))], [(q7, .inl (cI, 32, .inl g))]]) (st, tr, hi)) (wc := [(qx, .inr (6, [.ref (a0 0), .ref (a1 0), .ref (a2 0), .ref (a3 0), .ref (a4 0), .int has]))] :: wSt cI a0 st :: []) (r := (st.1 k)) ⟨hx, hb, hml, hown, hts⟩ (KR.eq (kX6_value l D cI cS qx a0 (a1 0) (a2 0) (a3 0) (a4 0) has (0 : Int32) (nI k) st) (val_0 (by omega))) (cwV 2 hts gL_swaps_X6_value rfl rfl rfl (by decide +kernel) ⟨Nat.le_of_ble_eq_true rfl, Nat.le_of_ble_eq_true rfl⟩) hE hP rfl rfl [0, 1] rfl rfl rfl hl.1 rfl (Nat.le_of_ble_eq_true rfl) ⟨Nat.le_of_ble_eq_true rfl, Nat.le_of_ble_eq_true rfl⟩ dL_swaps_63 ?_
        refine xst (j := k) hx hb hE hP hD hS 122 rfl rfl (nI_clamp (by omega)) (vp_in_nI (by omega) (by omega)) (fl (wO cI cS qx a0 a1 a2 a3 b3 a4 sn sc has ([[(q2, .inl (cI, 32, .inl ((upd f k ((st.1 k))))))], [(q7, .inl (cI, 32, .inl g))]]) (st, tr, hi))) rfl dL_swaps_66 (fun H locs hP hD hS => ?_)
        refine lv_aload_n hx hb dL_swaps_67 rfl (lv_at hl 2 rfl) ?_
        refine lv_iload hx hb dL_swaps_68 (lv_at hl 5 rfl) ?_
        refine lv_aload_n hx hb dL_swaps_70 rfl (lv_at hl 0 rfl) ?_
        refine lv_iconst (v := (1 : Int32)) hx hb dL_swaps_71 (by decide +kernel) ?_
        refine lv_iload hx hb dL_swaps_72 (lv_at hl 5 rfl) ?_
        refine bRV (W0 := wO cI cS qx a0 a1 a2 a3 b3 a4 sn sc has ([[(q2, .inl (cI, 32, .inl ((upd f k ((st.1 k))))))], [(q7, .inl (cI, 32, .inl g))]]) (st, tr, hi)) (wc := [(qx, .inr (6, [.ref (a0 0), .ref (a1 0), .ref (a2 0), .ref (a3 0), .ref (a4 0), .int has]))] :: wSt cI a0 st :: []) (r := (fX6_value ((1 : Int32)) ((nI k)) st)) ⟨hx, hb, hml, hown, hts⟩ (kX6_value l D cI cS qx a0 (a1 0) (a2 0) (a3 0) (a4 0) has (1 : Int32) (nI k) st) (cwV 2 hts gL_swaps_X6_value rfl rfl rfl (by decide +kernel) ⟨Nat.le_of_ble_eq_true rfl, Nat.le_of_ble_eq_true rfl⟩) hE hP rfl rfl [0, 1] rfl rfl rfl hl.1 rfl (Nat.le_of_ble_eq_true rfl) ⟨Nat.le_of_ble_eq_true rfl, Nat.le_of_ble_eq_true rfl⟩ dL_swaps_74 ?_
        refine xst (j := k) hx hb hE hP hD hS 123 rfl rfl (nI_clamp (by omega)) (vp_in_nI (by omega) (by omega)) (fl (wO cI cS qx a0 a1 a2 a3 b3 a4 sn sc has ([[(q2, .inl (cI, 32, .inl ((upd f k ((st.1 k))))))], [(q7, .inl (cI, 32, .inl ((upd g k ((fX6_value ((1 : Int32)) ((nI k)) st))))))]]) (st, tr, hi))) rfl dL_swaps_77 (fun H locs hP hD hS => ?_)
        refine lv_iinc (v := (nI (k + 1))) (lv' := [(5, .int ((nI (k + 1)))), (0, .ref qx), (1, .ref q2), (2, .ref q7), (3, .int st.2.2.2.1.2.2.2.1), (4, .int ((fX3_count st.2.2.2.1.1)))]) hx hb dL_swaps_78 hl (k := 5) rfl (nI_1 _) (by decide) rfl (fun ls hl => ?_)
        refine lv_goto (tgt := 49) hx hb dL_swaps_81 (by decide) ?_
        exact ih (k + 1) _ _ (by omega) (fl_put hf) (fl_put (h := fun j => (fX6_value (1 : Int32) (nI j) st)) hg) _ _ hP hD hS _ (lv_sub hl [1, 2, 3, 4, 5, 0] rfl)
    refine lv_bipush (v := (32 : Int32)) hx hb dL_swaps_0 (by decide +kernel) ?_
    refine va_newa (atype := .int) (a0 := (32, .inl (fun _ => (0 : Int32)))) (N' := 32) hx hb (hts (.arrayClass .int) (List.mem_of_getElem? (i := 1) rfl)) rfl hE.1 hP hD hS hA (fun _ => rfl) (by decide) cl_32 (by decide) (by decide) (by decide) dL_swaps_2 (fun q2 cA H hK hP hD hS => ?_)
    have hcA := ty_int hK
    rw [hcA, ← wO_snoc] at hP hD
    clear hcA hK
    have hP : va_P D vwCl (fl (wO cI cS qx a0 a1 a2 a3 b3 a4 sn sc has ([[(q2, .inl (cI, 32, .inl ((fun _ => (0 : Int32)))))]]) (st, tr, hi))) H := hP
    have hD : va_D A (fl (wO cI cS qx a0 a1 a2 a3 b3 a4 sn sc has ([[(q2, .inl (cI, 32, .inl ((fun _ => (0 : Int32)))))]]) (st, tr, hi))) := hD
    refine lv_astore_n (lv' := [(1, .ref q2), (0, .ref qx)]) hx hb dL_swaps_4 rfl hl (by decide) rfl (fun ls hl => ?_)
    refine lv_bipush (v := (32 : Int32)) hx hb dL_swaps_5 (by decide +kernel) ?_
    refine va_newa (atype := .int) (a0 := (32, .inl (fun _ => (0 : Int32)))) (N' := 32) hx hb (hts (.arrayClass .int) (List.mem_of_getElem? (i := 1) rfl)) rfl hE.1 hP hD hS hA (fun _ => rfl) (by decide) cl_32 (by decide) (by decide) (by decide) dL_swaps_7 (fun q7 cA H hK hP hD hS => ?_)
    have hcA := ty_int hK
    rw [hcA, ← wO_snoc] at hP hD
    clear hcA hK
    have hP : va_P D vwCl (fl (wO cI cS qx a0 a1 a2 a3 b3 a4 sn sc has ([[(q2, .inl (cI, 32, .inl ((fun _ => (0 : Int32)))))], [(q7, .inl (cI, 32, .inl ((fun _ => (0 : Int32)))))]]) (st, tr, hi))) H := hP
    have hD : va_D A (fl (wO cI cS qx a0 a1 a2 a3 b3 a4 sn sc has ([[(q2, .inl (cI, 32, .inl ((fun _ => (0 : Int32)))))], [(q7, .inl (cI, 32, .inl ((fun _ => (0 : Int32)))))]]) (st, tr, hi))) := hD
    refine lv_astore_n (lv' := [(2, .ref q7), (1, .ref q2), (0, .ref qx)]) hx hb dL_swaps_9 rfl hl (by decide) rfl (fun ls hl => ?_)
    refine lv_aload_n hx hb dL_swaps_10 rfl (lv_at hl 2 rfl) ?_
    refine lv_iconst (v := (1 : Int32)) hx hb dL_swaps_11 (by decide +kernel) ?_
    refine bRV (W0 := wO cI cS qx a0 a1 a2 a3 b3 a4 sn sc has ([[(q2, .inl (cI, 32, .inl ((fun _ => (0 : Int32)))))], [(q7, .inl (cI, 32, .inl ((fun _ => (0 : Int32)))))]]) (st, tr, hi)) (wc := [(qx, .inr (6, [.ref (a0 0), .ref (a1 0), .ref (a2 0), .ref (a3 0), .ref (a4 0), .int has]))] :: wSt cI a0 st :: []) (r := st.2.2.2.1.2.2.2.1) ⟨hx, hb, hml, hown, hts⟩ (KR.eq (kX6_copy l D cI cS qx a0 (a1 0) (a2 0) (a3 0) (a4 0) has (1 : Int32) st) (cp_1 h0)) (cwV 1 hts gL_swaps_X6_copy rfl rfl rfl (by decide +kernel) ⟨Nat.le_of_ble_eq_true rfl, Nat.le_of_ble_eq_true rfl⟩) hE hP rfl rfl [0, 1] rfl rfl rfl hl.1 rfl (Nat.le_of_ble_eq_true rfl) ⟨Nat.le_of_ble_eq_true rfl, Nat.le_of_ble_eq_true rfl⟩ dL_swaps_12 ?_
    refine lv_istore_n (lv' := [(3, .int st.2.2.2.1.2.2.2.1), (2, .ref q7), (1, .ref q2), (0, .ref qx)]) hx hb dL_swaps_15 rfl hl (by decide) rfl (fun ls hl => ?_)
    refine lv_aload_n hx hb dL_swaps_16 rfl (lv_at hl 3 rfl) ?_
    refine lv_iconst (v := (0 : Int32)) hx hb dL_swaps_17 (by decide +kernel) ?_
    refine bRV (W0 := wO cI cS qx a0 a1 a2 a3 b3 a4 sn sc has ([[(q2, .inl (cI, 32, .inl ((fun _ => (0 : Int32)))))], [(q7, .inl (cI, 32, .inl ((fun _ => (0 : Int32)))))]]) (st, tr, hi)) (wc := [(qx, .inr (6, [.ref (a0 0), .ref (a1 0), .ref (a2 0), .ref (a3 0), .ref (a4 0), .int has]))] :: wSt cI a0 st :: []) (r := (3 : Int32)) ⟨hx, hb, hml, hown, hts⟩ (KR.eq (kX6_copy l D cI cS qx a0 (a1 0) (a2 0) (a3 0) (a4 0) has (0 : Int32) st) ((cp_0 st).trans hph)) (cwV 1 hts gL_swaps_X6_copy rfl rfl rfl (by decide +kernel) ⟨Nat.le_of_ble_eq_true rfl, Nat.le_of_ble_eq_true rfl⟩) hE hP rfl rfl [0, 1] rfl rfl rfl hl.1 rfl (Nat.le_of_ble_eq_true rfl) ⟨Nat.le_of_ble_eq_true rfl, Nat.le_of_ble_eq_true rfl⟩ dL_swaps_18 ?_
    refine lv_iconst (v := (3 : Int32)) hx hb dL_swaps_21 (by decide +kernel) ?_
    refine lv_icmp_ne (tgt := 42) hx hb dL_swaps_22 (by decide) (fun c => absurd (show (3 : Int32) = (3 : Int32) by decide) c) (fun _ => ?_)
    refine lv_aload_n hx hb dL_swaps_25 rfl (lv_at hl 3 rfl) ?_
    refine lv_iconst (v := (4 : Int32)) hx hb dL_swaps_26 (by decide +kernel) ?_
    refine bRV (W0 := wO cI cS qx a0 a1 a2 a3 b3 a4 sn sc has ([[(q2, .inl (cI, 32, .inl ((fun _ => (0 : Int32)))))], [(q7, .inl (cI, 32, .inl ((fun _ => (0 : Int32)))))]]) (st, tr, hi)) (wc := [(qx, .inr (6, [.ref (a0 0), .ref (a1 0), .ref (a2 0), .ref (a3 0), .ref (a4 0), .int has]))] :: wSt cI a0 st :: []) (r := (0 : Int32)) ⟨hx, hb, hml, hown, hts⟩ (KR.eq (kX6_copy l D cI cS qx a0 (a1 0) (a2 0) (a3 0) (a4 0) has (4 : Int32) st) ((cp_4 h0).trans hz)) (cwV 1 hts gL_swaps_X6_copy rfl rfl rfl (by decide +kernel) ⟨Nat.le_of_ble_eq_true rfl, Nat.le_of_ble_eq_true rfl⟩) hE hP rfl rfl [0, 1] rfl rfl rfl hl.1 rfl (Nat.le_of_ble_eq_true rfl) ⟨Nat.le_of_ble_eq_true rfl, Nat.le_of_ble_eq_true rfl⟩ dL_swaps_27 ?_
    refine lv_if_ne (tgt := 42) hx hb dL_swaps_30 (by decide) (fun c => absurd (show (0 : Int32) = (0 : Int32) by decide) c) (fun _ => ?_)
    refine lv_aload_n hx hb dL_swaps_33 rfl (lv_at hl 3 rfl) ?_
    refine lv_iconst (v := (1 : Int32)) hx hb dL_swaps_34 (by decide +kernel) ?_
    refine lv_iconst (v := (0 : Int32)) hx hb dL_swaps_35 (by decide +kernel) ?_
    refine bRV (W0 := wO cI cS qx a0 a1 a2 a3 b3 a4 sn sc has ([[(q2, .inl (cI, 32, .inl ((fun _ => (0 : Int32)))))], [(q7, .inl (cI, 32, .inl ((fun _ => (0 : Int32)))))]]) (st, tr, hi)) (wc := [(qx, .inr (6, [.ref (a0 0), .ref (a1 0), .ref (a2 0), .ref (a3 0), .ref (a4 0), .int has]))] :: wSt cI a0 st :: []) (r := (fX3_count st.2.2.2.1.1)) ⟨hx, hb, hml, hown, hts⟩ (KR.eq (kX6_table l D cI cS qx a0 (a1 0) (a2 0) (a3 0) (a4 0) has (1 : Int32) (0 : Int32) st) (tbl_1y h0)) (cwV 2 hts gL_swaps_X6_table rfl rfl rfl (by decide +kernel) ⟨Nat.le_of_ble_eq_true rfl, Nat.le_of_ble_eq_true rfl⟩) hE hP rfl rfl [0, 1] rfl rfl rfl hl.1 rfl (Nat.le_of_ble_eq_true rfl) ⟨Nat.le_of_ble_eq_true rfl, Nat.le_of_ble_eq_true rfl⟩ dL_swaps_36 ?_
    refine lv_goto (tgt := 44) hx hb dL_swaps_39 (by decide) ?_
    refine lv_istore (lv' := [(4, .int ((fX3_count st.2.2.2.1.1))), (3, .int st.2.2.2.1.2.2.2.1), (2, .ref q7), (1, .ref q2), (0, .ref qx)]) hx hb dL_swaps_44 hl (by decide) rfl (fun ls hl => ?_)
    refine lv_iconst (v := (0 : Int32)) hx hb dL_swaps_46 (by decide +kernel) ?_
    refine lv_istore (lv' := [(5, .int ((0 : Int32))), (4, .int ((fX3_count st.2.2.2.1.1))), (3, .int st.2.2.2.1.2.2.2.1), (2, .ref q7), (1, .ref q2), (0, .ref qx)]) hx hb dL_swaps_47 hl (by decide) rfl (fun ls hl => ?_)
    exact loop_49 q2 q7 32 0 _ _ (by omega) (fun j hj => absurd hj (by omega)) (fun j hj => absurd hj (by omega)) _ _ hP hD hS _ (lv_sub hl [5, 4, 3, 2, 1, 0] rfl)
  · have eT : fX6_swap (st, hi) = ((-4 : Int32), (st, hiR hi st (-4 : Int32))) := by rw [swap_eq, eS]
    refine (Decidable.em (st.2.2.2.1.2.2.1 = (3 : Int32))).elim (fun hph => ?_) (fun hph => ?_)
    · have h0 : ¬ st.2.2.2.1.2.2.1 = (0 : Int32) := by rw [hph]; decide
      have hz : ¬ st.2.2.2.1.2.1.2.2.2 = (0 : Int32) := fun q => hno ⟨hph, q⟩
      have loop_49 : ∀ (q2 q7 n k : Nat) (f g : FnI), k + n = 32 → (∀ j : Nat, j < k → f j = st.1 j) → (∀ j : Nat, j < k → g j = (fX6_value (1 : Int32) (nI j) st)) → ∀ (H : Heap) (locs : List Loc), va_P D vwCl (fl (wO cI cS qx a0 a1 a2 a3 b3 a4 sn sc has [[(q2, .inl (cI, 32, .inl f))], [(q7, .inl (cI, 32, .inl g))]] (st, tr, hi))) H → va_D A (fl (wO cI cS qx a0 a1 a2 a3 b3 a4 sn sc has [[(q2, .inl (cI, 32, .inl f))], [(q7, .inl (cI, 32, .inl g))]] (st, tr, hi))) → va_S A s.heap H locs → ∀ ls : Array Slot, lv_has ls 6 [(0, .ref qx), (1, .ref q2), (2, .ref q7), (3, .int ((fX6_copy (1 : Int32) st))), (4, .int ((-4 : Int32))), (5, .int ((nI k)))] → W p l e { frames := 6, cells := 2, slots := 64, locals := 128 } s m args below meth c H locs 2 64 Q (F0 m 49 ls []) := by
        intro q2 q7 n
        induction n with
        | zero =>
          intro k f g hk hf hg H locs hP hD hS ls hl
          have hk2 : k = 32 := by omega
          subst hk2
          refine lv_iload hx hb dL_swaps_49 (lv_at hl 5 rfl) ?_
          refine lv_bipush (v := (32 : Int32)) hx hb dL_swaps_51 (by decide +kernel) ?_
          refine lv_icmp_ge (tgt := 84) hx hb dL_swaps_53 (by decide) (fun _ => ?_) (fun c => absurd (show (32 : Int32) ≤ (nI 32) from Int32.le_refl _) c)
          refine lv_aload_n hx hb dL_swaps_84 rfl (lv_at hl 0 rfl) ?_
          refine bIV (W0 := wO cI cS qx a0 a1 a2 a3 b3 a4 sn sc has ([[(q2, .inl (cI, 32, .inl f))], [(q7, .inl (cI, 32, .inl g))]]) (st, tr, hi)) (wc := [(qx, .inr (6, [.ref (a0 0), .ref (a1 0), .ref (a2 0), .ref (a3 0), .ref (a4 0), .int has]))] :: wSt cI a0 st :: wHi cI cS a3 b3 hi []) (w1 := fun u : TPT => [(qx, .inr (6, [.ref (a0 0), .ref (a1 0), .ref (a2 0), .ref (a3 0), .ref (a4 0), .int has]))] :: wSt cI a0 u.1 :: wHi cI cS a3 b3 u.2 []) ⟨hx, hb, hml, hown, hts⟩ (kX6_swap l D cI cS qx a0 a3 b3 (a1 0) (a2 0) (a4 0) has (st, hi) hI.ws hh) (cwV 0 hts gL_swaps_X6_swap rfl rfl rfl (by decide +kernel) ⟨Nat.le_of_ble_eq_true rfl, Nat.le_of_ble_eq_true rfl⟩) hE hP hD hS rfl rfl [0, 1, 4, 5, 6, 7, 8, 9, 10, 11] rfl rfl (fun _ => rfl) (fun _ => rfl) rfl hl.1 rfl (Nat.le_of_ble_eq_true rfl) ⟨Nat.le_of_ble_eq_true rfl, Nat.le_of_ble_eq_true rfl⟩ dL_swaps_85 (fun r_85 u_85 H locs e_85 hP hD hS => ?_)
          have hP : va_P D vwCl (fl (wO cI cS qx a0 a1 a2 a3 b3 a4 sn sc has ([[(q2, .inl (cI, 32, .inl f))], [(q7, .inl (cI, 32, .inl g))]]) (u_85.1, tr, u_85.2))) H := hP
          have hD : va_D A (fl (wO cI cS qx a0 a1 a2 a3 b3 a4 sn sc has ([[(q2, .inl (cI, 32, .inl f))], [(q7, .inl (cI, 32, .inl g))]]) (u_85.1, tr, u_85.2))) := hD
          rw [eT] at e_85
          cases e_85
          have hP : va_P D vwCl (fl (wO cI cS qx a0 a1 a2 a3 b3 a4 sn sc has ([[(q2, .inl (cI, 32, .inl f))], [(q7, .inl (cI, 32, .inl g))]]) (st, tr, (hiR hi st (-4 : Int32))))) H := hP
          have hD : va_D A (fl (wO cI cS qx a0 a1 a2 a3 b3 a4 sn sc has ([[(q2, .inl (cI, 32, .inl f))], [(q7, .inl (cI, 32, .inl g))]]) (st, tr, (hiR hi st (-4 : Int32))))) := hD
          refine lv_iload hx hb dL_swaps_88 (lv_at hl 4 rfl) ?_
          refine lv_icmp_eq (tgt := 95) hx hb dL_swaps_90 (by decide) (fun _ => ?_) (fun c => absurd (show (-4 : Int32) = (-4 : Int32) by decide) c)
          refine lv_iconst (v := (0 : Int32)) hx hb dL_swaps_95 (by decide +kernel) ?_
          refine lv_istore (lv' := [(5, .int ((0 : Int32))), (0, .ref qx), (1, .ref q2), (2, .ref q7), (3, .int ((fX6_copy (1 : Int32) st))), (4, .int ((-4 : Int32)))]) hx hb dL_swaps_96 hl (by decide) rfl (fun ls hl => ?_)
          refine lv_iload hx hb dL_swaps_98 (lv_at hl 0 rfl) ?_
          refine lv_bipush (v := (32 : Int32)) hx hb dL_swaps_100 (by decide +kernel) ?_
          refine lv_icmp_ge (tgt := 191) hx hb dL_swaps_102 (by decide) (fun c => absurd c (show ¬ (32 : Int32) ≤ (0 : Int32) by decide)) (fun _ => ?_)
          refine lv_iload hx hb dL_swaps_105 (lv_at hl 5 rfl) ?_
          refine lv_if_lt (tgt := 191) hx hb dL_swaps_107 (by decide) (fun _ => ?_) (fun c => absurd (show (-4 : Int32) < (0 : Int32) by decide) c)
          refine lv_iload hx hb dL_swaps_191 (lv_at hl 5 rfl) ?_
          refine lv_if_lt (tgt := 204) hx hb dL_swaps_193 (by decide) (fun _ => ?_) (fun c => absurd (show (-4 : Int32) < (0 : Int32) by decide) c)
          refine lv_iconst (v := (1 : Int32)) hx hb dL_swaps_204 (by decide +kernel) ?_
          refine lv_goto (tgt := 209) hx hb dL_swaps_205 (by decide) ?_
          exact hend _ _ _ (st, (hiR hi st (-4 : Int32))) _ _ _ _ dL_swaps_209 rfl (by decide) (by decide) ⟨rfl, (hI.mono (by omega)), (hh.rec hbo (-4 : Int32))⟩ (fl_sub (wc := wO cI cS qx a0 a1 a2 a3 b3 a4 sn sc has [] (st, tr, (hiR hi st (-4 : Int32)))) (is := [0, 1, 2, 3, 4, 5, 6, 7, 8, 9, 10, 11, 12]) hP rfl rfl) hS
        | succ n ih =>
          intro k f g hk hf hg H locs hP hD hS ls hl
          refine lv_iload hx hb dL_swaps_49 (lv_at hl 5 rfl) ?_
          refine lv_bipush (v := (32 : Int32)) hx hb dL_swaps_51 (by decide +kernel) ?_
          refine lv_icmp_ge (tgt := 84) hx hb dL_swaps_53 (by decide) (fun c => absurd c (show ¬ (32 : Int32) ≤ (nI k) from nI_ge (b := 32) (by omega) (by omega))) (fun _ => ?_)
          refine lv_aload_n hx hb dL_swaps_56 rfl (lv_at hl 1 rfl) ?_
          refine lv_iload hx hb dL_swaps_57 (lv_at hl 5 rfl) ?_
          refine lv_aload_n hx hb dL_swaps_59 rfl (lv_at hl 0 rfl) ?_
          refine lv_iconst (v := (0 : Int32)) hx hb dL_swaps_60 (by decide +kernel) ?_
          refine lv_iload hx hb dL_swaps_61 (lv_at hl 5 rfl) ?_
          refine bRV (W0 := wO cI cS qx a0 a1 a2 a3 b3 a4 sn sc has ([[(q2, .inl (cI, 32, .inl f))], [(q7, .inl (cI, 32, .inl g))]]) (st, tr, hi)) (wc := [(qx, .inr (6, [.ref (a0 0), .ref (a1 0), .ref (a2 0), .ref (a3 0), .ref (a4 0), .int has]))] :: wSt cI a0 st :: []) (r := (st.1 k)) ⟨hx, hb, hml, hown, hts⟩ (KR.eq (kX6_value l D cI cS qx a0 (a1 0) (a2 0) (a3 0) (a4 0) has (0 : Int32) (nI k) st) (val_0 (by omega))) (cwV 2 hts gL_swaps_X6_value rfl rfl rfl (by decide +kernel) ⟨Nat.le_of_ble_eq_true rfl, Nat.le_of_ble_eq_true rfl⟩) hE hP rfl rfl [0, 1] rfl rfl rfl hl.1 rfl (Nat.le_of_ble_eq_true rfl) ⟨Nat.le_of_ble_eq_true rfl, Nat.le_of_ble_eq_true rfl⟩ dL_swaps_63 ?_
          refine xst (j := k) hx hb hE hP hD hS 122 rfl rfl (nI_clamp (by omega)) (vp_in_nI (by omega) (by omega)) (fl (wO cI cS qx a0 a1 a2 a3 b3 a4 sn sc has ([[(q2, .inl (cI, 32, .inl ((upd f k ((st.1 k))))))], [(q7, .inl (cI, 32, .inl g))]]) (st, tr, hi))) rfl dL_swaps_66 (fun H locs hP hD hS => ?_)
          refine lv_aload_n hx hb dL_swaps_67 rfl (lv_at hl 2 rfl) ?_
          refine lv_iload hx hb dL_swaps_68 (lv_at hl 5 rfl) ?_
          refine lv_aload_n hx hb dL_swaps_70 rfl (lv_at hl 0 rfl) ?_
          refine lv_iconst (v := (1 : Int32)) hx hb dL_swaps_71 (by decide +kernel) ?_
          refine lv_iload hx hb dL_swaps_72 (lv_at hl 5 rfl) ?_
          refine bRV (W0 := wO cI cS qx a0 a1 a2 a3 b3 a4 sn sc has ([[(q2, .inl (cI, 32, .inl ((upd f k ((st.1 k))))))], [(q7, .inl (cI, 32, .inl g))]]) (st, tr, hi)) (wc := [(qx, .inr (6, [.ref (a0 0), .ref (a1 0), .ref (a2 0), .ref (a3 0), .ref (a4 0), .int has]))] :: wSt cI a0 st :: []) (r := (fX6_value ((1 : Int32)) ((nI k)) st)) ⟨hx, hb, hml, hown, hts⟩ (kX6_value l D cI cS qx a0 (a1 0) (a2 0) (a3 0) (a4 0) has (1 : Int32) (nI k) st) (cwV 2 hts gL_swaps_X6_value rfl rfl rfl (by decide +kernel) ⟨Nat.le_of_ble_eq_true rfl, Nat.le_of_ble_eq_true rfl⟩) hE hP rfl rfl [0, 1] rfl rfl rfl hl.1 rfl (Nat.le_of_ble_eq_true rfl) ⟨Nat.le_of_ble_eq_true rfl, Nat.le_of_ble_eq_true rfl⟩ dL_swaps_74 ?_
          refine xst (j := k) hx hb hE hP hD hS 123 rfl rfl (nI_clamp (by omega)) (vp_in_nI (by omega) (by omega)) (fl (wO cI cS qx a0 a1 a2 a3 b3 a4 sn sc has ([[(q2, .inl (cI, 32, .inl ((upd f k ((st.1 k))))))], [(q7, .inl (cI, 32, .inl ((upd g k ((fX6_value ((1 : Int32)) ((nI k)) st))))))]]) (st, tr, hi))) rfl dL_swaps_77 (fun H locs hP hD hS => ?_)
          refine lv_iinc (v := (nI (k + 1))) (lv' := [(5, .int ((nI (k + 1)))), (0, .ref qx), (1, .ref q2), (2, .ref q7), (3, .int ((fX6_copy (1 : Int32) st))), (4, .int ((-4 : Int32)))]) hx hb dL_swaps_78 hl (k := 5) rfl (nI_1 _) (by decide) rfl (fun ls hl => ?_)
          refine lv_goto (tgt := 49) hx hb dL_swaps_81 (by decide) ?_
          exact ih (k + 1) _ _ (by omega) (fl_put hf) (fl_put (h := fun j => (fX6_value (1 : Int32) (nI j) st)) hg) _ _ hP hD hS _ (lv_sub hl [1, 2, 3, 4, 5, 0] rfl)
      refine lv_bipush (v := (32 : Int32)) hx hb dL_swaps_0 (by decide +kernel) ?_
      refine va_newa (atype := .int) (a0 := (32, .inl (fun _ => (0 : Int32)))) (N' := 32) hx hb (hts (.arrayClass .int) (List.mem_of_getElem? (i := 1) rfl)) rfl hE.1 hP hD hS hA (fun _ => rfl) (by decide) cl_32 (by decide) (by decide) (by decide) dL_swaps_2 (fun q2 cA H hK hP hD hS => ?_)
      have hcA := ty_int hK
      rw [hcA, ← wO_snoc] at hP hD
      clear hcA hK
      have hP : va_P D vwCl (fl (wO cI cS qx a0 a1 a2 a3 b3 a4 sn sc has ([[(q2, .inl (cI, 32, .inl ((fun _ => (0 : Int32)))))]]) (st, tr, hi))) H := hP
      have hD : va_D A (fl (wO cI cS qx a0 a1 a2 a3 b3 a4 sn sc has ([[(q2, .inl (cI, 32, .inl ((fun _ => (0 : Int32)))))]]) (st, tr, hi))) := hD
      refine lv_astore_n (lv' := [(1, .ref q2), (0, .ref qx)]) hx hb dL_swaps_4 rfl hl (by decide) rfl (fun ls hl => ?_)
      refine lv_bipush (v := (32 : Int32)) hx hb dL_swaps_5 (by decide +kernel) ?_
      refine va_newa (atype := .int) (a0 := (32, .inl (fun _ => (0 : Int32)))) (N' := 32) hx hb (hts (.arrayClass .int) (List.mem_of_getElem? (i := 1) rfl)) rfl hE.1 hP hD hS hA (fun _ => rfl) (by decide) cl_32 (by decide) (by decide) (by decide) dL_swaps_7 (fun q7 cA H hK hP hD hS => ?_)
      have hcA := ty_int hK
      rw [hcA, ← wO_snoc] at hP hD
      clear hcA hK
      have hP : va_P D vwCl (fl (wO cI cS qx a0 a1 a2 a3 b3 a4 sn sc has ([[(q2, .inl (cI, 32, .inl ((fun _ => (0 : Int32)))))], [(q7, .inl (cI, 32, .inl ((fun _ => (0 : Int32)))))]]) (st, tr, hi))) H := hP
      have hD : va_D A (fl (wO cI cS qx a0 a1 a2 a3 b3 a4 sn sc has ([[(q2, .inl (cI, 32, .inl ((fun _ => (0 : Int32)))))], [(q7, .inl (cI, 32, .inl ((fun _ => (0 : Int32)))))]]) (st, tr, hi))) := hD
      refine lv_astore_n (lv' := [(2, .ref q7), (1, .ref q2), (0, .ref qx)]) hx hb dL_swaps_9 rfl hl (by decide) rfl (fun ls hl => ?_)
      refine lv_aload_n hx hb dL_swaps_10 rfl (lv_at hl 2 rfl) ?_
      refine lv_iconst (v := (1 : Int32)) hx hb dL_swaps_11 (by decide +kernel) ?_
      refine bRV (W0 := wO cI cS qx a0 a1 a2 a3 b3 a4 sn sc has ([[(q2, .inl (cI, 32, .inl ((fun _ => (0 : Int32)))))], [(q7, .inl (cI, 32, .inl ((fun _ => (0 : Int32)))))]]) (st, tr, hi)) (wc := [(qx, .inr (6, [.ref (a0 0), .ref (a1 0), .ref (a2 0), .ref (a3 0), .ref (a4 0), .int has]))] :: wSt cI a0 st :: []) (r := (fX6_copy ((1 : Int32)) st)) ⟨hx, hb, hml, hown, hts⟩ (kX6_copy l D cI cS qx a0 (a1 0) (a2 0) (a3 0) (a4 0) has (1 : Int32) st) (cwV 1 hts gL_swaps_X6_copy rfl rfl rfl (by decide +kernel) ⟨Nat.le_of_ble_eq_true rfl, Nat.le_of_ble_eq_true rfl⟩) hE hP rfl rfl [0, 1] rfl rfl rfl hl.1 rfl (Nat.le_of_ble_eq_true rfl) ⟨Nat.le_of_ble_eq_true rfl, Nat.le_of_ble_eq_true rfl⟩ dL_swaps_12 ?_
      refine lv_istore_n (lv' := [(3, .int ((fX6_copy ((1 : Int32)) st))), (2, .ref q7), (1, .ref q2), (0, .ref qx)]) hx hb dL_swaps_15 rfl hl (by decide) rfl (fun ls hl => ?_)
      refine lv_aload_n hx hb dL_swaps_16 rfl (lv_at hl 3 rfl) ?_
      refine lv_iconst (v := (0 : Int32)) hx hb dL_swaps_17 (by decide +kernel) ?_
      refine bRV (W0 := wO cI cS qx a0 a1 a2 a3 b3 a4 sn sc has ([[(q2, .inl (cI, 32, .inl ((fun _ => (0 : Int32)))))], [(q7, .inl (cI, 32, .inl ((fun _ => (0 : Int32)))))]]) (st, tr, hi)) (wc := [(qx, .inr (6, [.ref (a0 0), .ref (a1 0), .ref (a2 0), .ref (a3 0), .ref (a4 0), .int has]))] :: wSt cI a0 st :: []) (r := (3 : Int32)) ⟨hx, hb, hml, hown, hts⟩ (KR.eq (kX6_copy l D cI cS qx a0 (a1 0) (a2 0) (a3 0) (a4 0) has (0 : Int32) st) ((cp_0 st).trans hph)) (cwV 1 hts gL_swaps_X6_copy rfl rfl rfl (by decide +kernel) ⟨Nat.le_of_ble_eq_true rfl, Nat.le_of_ble_eq_true rfl⟩) hE hP rfl rfl [0, 1] rfl rfl rfl hl.1 rfl (Nat.le_of_ble_eq_true rfl) ⟨Nat.le_of_ble_eq_true rfl, Nat.le_of_ble_eq_true rfl⟩ dL_swaps_18 ?_
      refine lv_iconst (v := (3 : Int32)) hx hb dL_swaps_21 (by decide +kernel) ?_
      refine lv_icmp_ne (tgt := 42) hx hb dL_swaps_22 (by decide) (fun c => absurd (show (3 : Int32) = (3 : Int32) by decide) c) (fun _ => ?_)
      refine lv_aload_n hx hb dL_swaps_25 rfl (lv_at hl 3 rfl) ?_
      refine lv_iconst (v := (4 : Int32)) hx hb dL_swaps_26 (by decide +kernel) ?_
      refine bRV (W0 := wO cI cS qx a0 a1 a2 a3 b3 a4 sn sc has ([[(q2, .inl (cI, 32, .inl ((fun _ => (0 : Int32)))))], [(q7, .inl (cI, 32, .inl ((fun _ => (0 : Int32)))))]]) (st, tr, hi)) (wc := [(qx, .inr (6, [.ref (a0 0), .ref (a1 0), .ref (a2 0), .ref (a3 0), .ref (a4 0), .int has]))] :: wSt cI a0 st :: []) (r := st.2.2.2.1.2.1.2.2.2) ⟨hx, hb, hml, hown, hts⟩ (KR.eq (kX6_copy l D cI cS qx a0 (a1 0) (a2 0) (a3 0) (a4 0) has (4 : Int32) st) (cp_4 h0)) (cwV 1 hts gL_swaps_X6_copy rfl rfl rfl (by decide +kernel) ⟨Nat.le_of_ble_eq_true rfl, Nat.le_of_ble_eq_true rfl⟩) hE hP rfl rfl [0, 1] rfl rfl rfl hl.1 rfl (Nat.le_of_ble_eq_true rfl) ⟨Nat.le_of_ble_eq_true rfl, Nat.le_of_ble_eq_true rfl⟩ dL_swaps_27 ?_
      refine lv_if_ne (tgt := 42) hx hb dL_swaps_30 (by decide) (fun _ => ?_) (fun c => absurd c hz)
      refine lv_bipush (v := (-4 : Int32)) hx hb dL_swaps_42 (by decide +kernel) ?_
      refine lv_istore (lv' := [(4, .int ((-4 : Int32))), (3, .int ((fX6_copy ((1 : Int32)) st))), (2, .ref q7), (1, .ref q2), (0, .ref qx)]) hx hb dL_swaps_44 hl (by decide) rfl (fun ls hl => ?_)
      refine lv_iconst (v := (0 : Int32)) hx hb dL_swaps_46 (by decide +kernel) ?_
      refine lv_istore (lv' := [(5, .int ((0 : Int32))), (4, .int ((-4 : Int32))), (3, .int ((fX6_copy ((1 : Int32)) st))), (2, .ref q7), (1, .ref q2), (0, .ref qx)]) hx hb dL_swaps_47 hl (by decide) rfl (fun ls hl => ?_)
      exact loop_49 q2 q7 32 0 _ _ (by omega) (fun j hj => absurd hj (by omega)) (fun j hj => absurd hj (by omega)) _ _ hP hD hS _ (lv_sub hl [5, 4, 3, 2, 1, 0] rfl)
    · have hph2 := hph
      have loop_49 : ∀ (q2 q7 n k : Nat) (f g : FnI), k + n = 32 → (∀ j : Nat, j < k → f j = st.1 j) → (∀ j : Nat, j < k → g j = (fX6_value (1 : Int32) (nI j) st)) → ∀ (H : Heap) (locs : List Loc), va_P D vwCl (fl (wO cI cS qx a0 a1 a2 a3 b3 a4 sn sc has [[(q2, .inl (cI, 32, .inl f))], [(q7, .inl (cI, 32, .inl g))]] (st, tr, hi))) H → va_D A (fl (wO cI cS qx a0 a1 a2 a3 b3 a4 sn sc has [[(q2, .inl (cI, 32, .inl f))], [(q7, .inl (cI, 32, .inl g))]] (st, tr, hi))) → va_S A s.heap H locs → ∀ ls : Array Slot, lv_has ls 6 [(0, .ref qx), (1, .ref q2), (2, .ref q7), (3, .int ((fX6_copy (1 : Int32) st))), (4, .int ((-4 : Int32))), (5, .int ((nI k)))] → W p l e { frames := 6, cells := 2, slots := 64, locals := 128 } s m args below meth c H locs 2 64 Q (F0 m 49 ls []) := by
        intro q2 q7 n
        induction n with
        | zero =>
          intro k f g hk hf hg H locs hP hD hS ls hl
          have hk2 : k = 32 := by omega
          subst hk2
          refine lv_iload hx hb dL_swaps_49 (lv_at hl 5 rfl) ?_
          refine lv_bipush (v := (32 : Int32)) hx hb dL_swaps_51 (by decide +kernel) ?_
          refine lv_icmp_ge (tgt := 84) hx hb dL_swaps_53 (by decide) (fun _ => ?_) (fun c => absurd (show (32 : Int32) ≤ (nI 32) from Int32.le_refl _) c)
          refine lv_aload_n hx hb dL_swaps_84 rfl (lv_at hl 0 rfl) ?_
          refine bIV (W0 := wO cI cS qx a0 a1 a2 a3 b3 a4 sn sc has ([[(q2, .inl (cI, 32, .inl f))], [(q7, .inl (cI, 32, .inl g))]]) (st, tr, hi)) (wc := [(qx, .inr (6, [.ref (a0 0), .ref (a1 0), .ref (a2 0), .ref (a3 0), .ref (a4 0), .int has]))] :: wSt cI a0 st :: wHi cI cS a3 b3 hi []) (w1 := fun u : TPT => [(qx, .inr (6, [.ref (a0 0), .ref (a1 0), .ref (a2 0), .ref (a3 0), .ref (a4 0), .int has]))] :: wSt cI a0 u.1 :: wHi cI cS a3 b3 u.2 []) ⟨hx, hb, hml, hown, hts⟩ (kX6_swap l D cI cS qx a0 a3 b3 (a1 0) (a2 0) (a4 0) has (st, hi) hI.ws hh) (cwV 0 hts gL_swaps_X6_swap rfl rfl rfl (by decide +kernel) ⟨Nat.le_of_ble_eq_true rfl, Nat.le_of_ble_eq_true rfl⟩) hE hP hD hS rfl rfl [0, 1, 4, 5, 6, 7, 8, 9, 10, 11] rfl rfl (fun _ => rfl) (fun _ => rfl) rfl hl.1 rfl (Nat.le_of_ble_eq_true rfl) ⟨Nat.le_of_ble_eq_true rfl, Nat.le_of_ble_eq_true rfl⟩ dL_swaps_85 (fun r_85 u_85 H locs e_85 hP hD hS => ?_)
          have hP : va_P D vwCl (fl (wO cI cS qx a0 a1 a2 a3 b3 a4 sn sc has ([[(q2, .inl (cI, 32, .inl f))], [(q7, .inl (cI, 32, .inl g))]]) (u_85.1, tr, u_85.2))) H := hP
          have hD : va_D A (fl (wO cI cS qx a0 a1 a2 a3 b3 a4 sn sc has ([[(q2, .inl (cI, 32, .inl f))], [(q7, .inl (cI, 32, .inl g))]]) (u_85.1, tr, u_85.2))) := hD
          rw [eT] at e_85
          cases e_85
          have hP : va_P D vwCl (fl (wO cI cS qx a0 a1 a2 a3 b3 a4 sn sc has ([[(q2, .inl (cI, 32, .inl f))], [(q7, .inl (cI, 32, .inl g))]]) (st, tr, (hiR hi st (-4 : Int32))))) H := hP
          have hD : va_D A (fl (wO cI cS qx a0 a1 a2 a3 b3 a4 sn sc has ([[(q2, .inl (cI, 32, .inl f))], [(q7, .inl (cI, 32, .inl g))]]) (st, tr, (hiR hi st (-4 : Int32))))) := hD
          refine lv_iload hx hb dL_swaps_88 (lv_at hl 4 rfl) ?_
          refine lv_icmp_eq (tgt := 95) hx hb dL_swaps_90 (by decide) (fun _ => ?_) (fun c => absurd (show (-4 : Int32) = (-4 : Int32) by decide) c)
          refine lv_iconst (v := (0 : Int32)) hx hb dL_swaps_95 (by decide +kernel) ?_
          refine lv_istore (lv' := [(5, .int ((0 : Int32))), (0, .ref qx), (1, .ref q2), (2, .ref q7), (3, .int ((fX6_copy (1 : Int32) st))), (4, .int ((-4 : Int32)))]) hx hb dL_swaps_96 hl (by decide) rfl (fun ls hl => ?_)
          refine lv_iload hx hb dL_swaps_98 (lv_at hl 0 rfl) ?_
          refine lv_bipush (v := (32 : Int32)) hx hb dL_swaps_100 (by decide +kernel) ?_
          refine lv_icmp_ge (tgt := 191) hx hb dL_swaps_102 (by decide) (fun c => absurd c (show ¬ (32 : Int32) ≤ (0 : Int32) by decide)) (fun _ => ?_)
          refine lv_iload hx hb dL_swaps_105 (lv_at hl 5 rfl) ?_
          refine lv_if_lt (tgt := 191) hx hb dL_swaps_107 (by decide) (fun _ => ?_) (fun c => absurd (show (-4 : Int32) < (0 : Int32) by decide) c)
          refine lv_iload hx hb dL_swaps_191 (lv_at hl 5 rfl) ?_
          refine lv_if_lt (tgt := 204) hx hb dL_swaps_193 (by decide) (fun _ => ?_) (fun c => absurd (show (-4 : Int32) < (0 : Int32) by decide) c)
          refine lv_iconst (v := (1 : Int32)) hx hb dL_swaps_204 (by decide +kernel) ?_
          refine lv_goto (tgt := 209) hx hb dL_swaps_205 (by decide) ?_
          exact hend _ _ _ (st, (hiR hi st (-4 : Int32))) _ _ _ _ dL_swaps_209 rfl (by decide) (by decide) ⟨rfl, (hI.mono (by omega)), (hh.rec hbo (-4 : Int32))⟩ (fl_sub (wc := wO cI cS qx a0 a1 a2 a3 b3 a4 sn sc has [] (st, tr, (hiR hi st (-4 : Int32)))) (is := [0, 1, 2, 3, 4, 5, 6, 7, 8, 9, 10, 11, 12]) hP rfl rfl) hS
        | succ n ih =>
          intro k f g hk hf hg H locs hP hD hS ls hl
          refine lv_iload hx hb dL_swaps_49 (lv_at hl 5 rfl) ?_
          refine lv_bipush (v := (32 : Int32)) hx hb dL_swaps_51 (by decide +kernel) ?_
          refine lv_icmp_ge (tgt := 84) hx hb dL_swaps_53 (by decide) (fun c => absurd c (show ¬ (32 : Int32) ≤ (nI k) from nI_ge (b := 32) (by omega) (by omega))) (fun _ => ?_)
          refine lv_aload_n hx hb dL_swaps_56 rfl (lv_at hl 1 rfl) ?_
          refine lv_iload hx hb dL_swaps_57 (lv_at hl 5 rfl) ?_
          refine lv_aload_n hx hb dL_swaps_59 rfl (lv_at hl 0 rfl) ?_
          refine lv_iconst (v := (0 : Int32)) hx hb dL_swaps_60 (by decide +kernel) ?_
          refine lv_iload hx hb dL_swaps_61 (lv_at hl 5 rfl) ?_
          refine bRV (W0 := wO cI cS qx a0 a1 a2 a3 b3 a4 sn sc has ([[(q2, .inl (cI, 32, .inl f))], [(q7, .inl (cI, 32, .inl g))]]) (st, tr, hi)) (wc := [(qx, .inr (6, [.ref (a0 0), .ref (a1 0), .ref (a2 0), .ref (a3 0), .ref (a4 0), .int has]))] :: wSt cI a0 st :: []) (r := (st.1 k)) ⟨hx, hb, hml, hown, hts⟩ (KR.eq (kX6_value l D cI cS qx a0 (a1 0) (a2 0) (a3 0) (a4 0) has (0 : Int32) (nI k) st) (val_0 (by omega))) (cwV 2 hts gL_swaps_X6_value rfl rfl rfl (by decide +kernel) ⟨Nat.le_of_ble_eq_true rfl, Nat.le_of_ble_eq_true rfl⟩) hE hP rfl rfl [0, 1] rfl rfl rfl hl.1 rfl (Nat.le_of_ble_eq_true rfl) ⟨Nat.le_of_ble_eq_true rfl, Nat.le_of_ble_eq_true rfl⟩ dL_swaps_63 ?_
          refine xst (j := k) hx hb hE hP hD hS 122 rfl rfl (nI_clamp (by omega)) (vp_in_nI (by omega) (by omega)) (fl (wO cI cS qx a0 a1 a2 a3 b3 a4 sn sc has ([[(q2, .inl (cI, 32, .inl ((upd f k ((st.1 k))))))], [(q7, .inl (cI, 32, .inl g))]]) (st, tr, hi))) rfl dL_swaps_66 (fun H locs hP hD hS => ?_)
          refine lv_aload_n hx hb dL_swaps_67 rfl (lv_at hl 2 rfl) ?_
          refine lv_iload hx hb dL_swaps_68 (lv_at hl 5 rfl) ?_
          refine lv_aload_n hx hb dL_swaps_70 rfl (lv_at hl 0 rfl) ?_
          refine lv_iconst (v := (1 : Int32)) hx hb dL_swaps_71 (by decide +kernel) ?_
          refine lv_iload hx hb dL_swaps_72 (lv_at hl 5 rfl) ?_
          refine bRV (W0 := wO cI cS qx a0 a1 a2 a3 b3 a4 sn sc has ([[(q2, .inl (cI, 32, .inl ((upd f k ((st.1 k))))))], [(q7, .inl (cI, 32, .inl g))]]) (st, tr, hi)) (wc := [(qx, .inr (6, [.ref (a0 0), .ref (a1 0), .ref (a2 0), .ref (a3 0), .ref (a4 0), .int has]))] :: wSt cI a0 st :: []) (r := (fX6_value ((1 : Int32)) ((nI k)) st)) ⟨hx, hb, hml, hown, hts⟩ (kX6_value l D cI cS qx a0 (a1 0) (a2 0) (a3 0) (a4 0) has (1 : Int32) (nI k) st) (cwV 2 hts gL_swaps_X6_value rfl rfl rfl (by decide +kernel) ⟨Nat.le_of_ble_eq_true rfl, Nat.le_of_ble_eq_true rfl⟩) hE hP rfl rfl [0, 1] rfl rfl rfl hl.1 rfl (Nat.le_of_ble_eq_true rfl) ⟨Nat.le_of_ble_eq_true rfl, Nat.le_of_ble_eq_true rfl⟩ dL_swaps_74 ?_
          refine xst (j := k) hx hb hE hP hD hS 123 rfl rfl (nI_clamp (by omega)) (vp_in_nI (by omega) (by omega)) (fl (wO cI cS qx a0 a1 a2 a3 b3 a4 sn sc has ([[(q2, .inl (cI, 32, .inl ((upd f k ((st.1 k))))))], [(q7, .inl (cI, 32, .inl ((upd g k ((fX6_value ((1 : Int32)) ((nI k)) st))))))]]) (st, tr, hi))) rfl dL_swaps_77 (fun H locs hP hD hS => ?_)
          refine lv_iinc (v := (nI (k + 1))) (lv' := [(5, .int ((nI (k + 1)))), (0, .ref qx), (1, .ref q2), (2, .ref q7), (3, .int ((fX6_copy (1 : Int32) st))), (4, .int ((-4 : Int32)))]) hx hb dL_swaps_78 hl (k := 5) rfl (nI_1 _) (by decide) rfl (fun ls hl => ?_)
          refine lv_goto (tgt := 49) hx hb dL_swaps_81 (by decide) ?_
          exact ih (k + 1) _ _ (by omega) (fl_put hf) (fl_put (h := fun j => (fX6_value (1 : Int32) (nI j) st)) hg) _ _ hP hD hS _ (lv_sub hl [1, 2, 3, 4, 5, 0] rfl)
      refine lv_bipush (v := (32 : Int32)) hx hb dL_swaps_0 (by decide +kernel) ?_
      refine va_newa (atype := .int) (a0 := (32, .inl (fun _ => (0 : Int32)))) (N' := 32) hx hb (hts (.arrayClass .int) (List.mem_of_getElem? (i := 1) rfl)) rfl hE.1 hP hD hS hA (fun _ => rfl) (by decide) cl_32 (by decide) (by decide) (by decide) dL_swaps_2 (fun q2 cA H hK hP hD hS => ?_)
      have hcA := ty_int hK
      rw [hcA, ← wO_snoc] at hP hD
      clear hcA hK
      have hP : va_P D vwCl (fl (wO cI cS qx a0 a1 a2 a3 b3 a4 sn sc has ([[(q2, .inl (cI, 32, .inl ((fun _ => (0 : Int32)))))]]) (st, tr, hi))) H := hP
      have hD : va_D A (fl (wO cI cS qx a0 a1 a2 a3 b3 a4 sn sc has ([[(q2, .inl (cI, 32, .inl ((fun _ => (0 : Int32)))))]]) (st, tr, hi))) := hD
      refine lv_astore_n (lv' := [(1, .ref q2), (0, .ref qx)]) hx hb dL_swaps_4 rfl hl (by decide) rfl (fun ls hl => ?_)
      refine lv_bipush (v := (32 : Int32)) hx hb dL_swaps_5 (by decide +kernel) ?_
      refine va_newa (atype := .int) (a0 := (32, .inl (fun _ => (0 : Int32)))) (N' := 32) hx hb (hts (.arrayClass .int) (List.mem_of_getElem? (i := 1) rfl)) rfl hE.1 hP hD hS hA (fun _ => rfl) (by decide) cl_32 (by decide) (by decide) (by decide) dL_swaps_7 (fun q7 cA H hK hP hD hS => ?_)
      have hcA := ty_int hK
      rw [hcA, ← wO_snoc] at hP hD
      clear hcA hK
      have hP : va_P D vwCl (fl (wO cI cS qx a0 a1 a2 a3 b3 a4 sn sc has ([[(q2, .inl (cI, 32, .inl ((fun _ => (0 : Int32)))))], [(q7, .inl (cI, 32, .inl ((fun _ => (0 : Int32)))))]]) (st, tr, hi))) H := hP
      have hD : va_D A (fl (wO cI cS qx a0 a1 a2 a3 b3 a4 sn sc has ([[(q2, .inl (cI, 32, .inl ((fun _ => (0 : Int32)))))], [(q7, .inl (cI, 32, .inl ((fun _ => (0 : Int32)))))]]) (st, tr, hi))) := hD
      refine lv_astore_n (lv' := [(2, .ref q7), (1, .ref q2), (0, .ref qx)]) hx hb dL_swaps_9 rfl hl (by decide) rfl (fun ls hl => ?_)
      refine lv_aload_n hx hb dL_swaps_10 rfl (lv_at hl 2 rfl) ?_
      refine lv_iconst (v := (1 : Int32)) hx hb dL_swaps_11 (by decide +kernel) ?_
      refine bRV (W0 := wO cI cS qx a0 a1 a2 a3 b3 a4 sn sc has ([[(q2, .inl (cI, 32, .inl ((fun _ => (0 : Int32)))))], [(q7, .inl (cI, 32, .inl ((fun _ => (0 : Int32)))))]]) (st, tr, hi)) (wc := [(qx, .inr (6, [.ref (a0 0), .ref (a1 0), .ref (a2 0), .ref (a3 0), .ref (a4 0), .int has]))] :: wSt cI a0 st :: []) (r := (fX6_copy ((1 : Int32)) st)) ⟨hx, hb, hml, hown, hts⟩ (kX6_copy l D cI cS qx a0 (a1 0) (a2 0) (a3 0) (a4 0) has (1 : Int32) st) (cwV 1 hts gL_swaps_X6_copy rfl rfl rfl (by decide +kernel) ⟨Nat.le_of_ble_eq_true rfl, Nat.le_of_ble_eq_true rfl⟩) hE hP rfl rfl [0, 1] rfl rfl rfl hl.1 rfl (Nat.le_of_ble_eq_true rfl) ⟨Nat.le_of_ble_eq_true rfl, Nat.le_of_ble_eq_true rfl⟩ dL_swaps_12 ?_
      refine lv_istore_n (lv' := [(3, .int ((fX6_copy ((1 : Int32)) st))), (2, .ref q7), (1, .ref q2), (0, .ref qx)]) hx hb dL_swaps_15 rfl hl (by decide) rfl (fun ls hl => ?_)
      refine lv_aload_n hx hb dL_swaps_16 rfl (lv_at hl 3 rfl) ?_
      refine lv_iconst (v := (0 : Int32)) hx hb dL_swaps_17 (by decide +kernel) ?_
      refine bRV (W0 := wO cI cS qx a0 a1 a2 a3 b3 a4 sn sc has ([[(q2, .inl (cI, 32, .inl ((fun _ => (0 : Int32)))))], [(q7, .inl (cI, 32, .inl ((fun _ => (0 : Int32)))))]]) (st, tr, hi)) (wc := [(qx, .inr (6, [.ref (a0 0), .ref (a1 0), .ref (a2 0), .ref (a3 0), .ref (a4 0), .int has]))] :: wSt cI a0 st :: []) (r := st.2.2.2.1.2.2.1) ⟨hx, hb, hml, hown, hts⟩ (KR.eq (kX6_copy l D cI cS qx a0 (a1 0) (a2 0) (a3 0) (a4 0) has (0 : Int32) st) (cp_0 st)) (cwV 1 hts gL_swaps_X6_copy rfl rfl rfl (by decide +kernel) ⟨Nat.le_of_ble_eq_true rfl, Nat.le_of_ble_eq_true rfl⟩) hE hP rfl rfl [0, 1] rfl rfl rfl hl.1 rfl (Nat.le_of_ble_eq_true rfl) ⟨Nat.le_of_ble_eq_true rfl, Nat.le_of_ble_eq_true rfl⟩ dL_swaps_18 ?_
      refine lv_iconst (v := (3 : Int32)) hx hb dL_swaps_21 (by decide +kernel) ?_
      refine lv_icmp_ne (tgt := 42) hx hb dL_swaps_22 (by decide) (fun _ => ?_) (fun c => absurd c hph)
      refine lv_bipush (v := (-4 : Int32)) hx hb dL_swaps_42 (by decide +kernel) ?_
      refine lv_istore (lv' := [(4, .int ((-4 : Int32))), (3, .int ((fX6_copy ((1 : Int32)) st))), (2, .ref q7), (1, .ref q2), (0, .ref qx)]) hx hb dL_swaps_44 hl (by decide) rfl (fun ls hl => ?_)
      refine lv_iconst (v := (0 : Int32)) hx hb dL_swaps_46 (by decide +kernel) ?_
      refine lv_istore (lv' := [(5, .int ((0 : Int32))), (4, .int ((-4 : Int32))), (3, .int ((fX6_copy ((1 : Int32)) st))), (2, .ref q7), (1, .ref q2), (0, .ref qx)]) hx hb dL_swaps_47 hl (by decide) rfl (fun ls hl => ?_)
      exact loop_49 q2 q7 32 0 _ _ (by omega) (fun j hj => absurd hj (by omega)) (fun j hj => absurd hj (by omega)) _ _ hP hD hS _ (lv_sub hl [5, 4, 3, 2, 1, 0] rfl)
