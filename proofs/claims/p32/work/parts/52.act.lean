theorem one_add (n : Nat) : (1 : Int32) + nI n = nI (n + 1) := by rw [Int32.add_comm]; exact nI_1 n
set_option maxHeartbeats 8000000 in
set_option maxRecDepth 100000 in
theorem kL_act (l : Launch) (D : va_G) (cI cS : ClassId) (qx : Nat) (a0 a1 a2 a3 : Nat → Nat) (b3 : Nat → Nat → Nat) (a4 : Nat → Nat) (sn : StT) (sc : ScT) (has : Int32) {e0 : Nat} (st tr : StT) (hi : HiT) (hI : IV e0 st) (hh : WH hi) (he : e0 < 900) (v x : Int32) : KQ l yL_act wsL_act { frames := 7, cells := 2, slots := 64, locals := 161 } D (tysA cI cS) [.ref qx, .int v, .int x] (fl (wO cI cS qx a0 a1 a2 a3 b3 a4 sn sc has [] (st, tr, hi))) 2 64 (fun (r : Int32) (u : TLT) => r = (1 : Int32) ∧ IV (e0 + 10) u.1 ∧ WH u.2.2) (fun u => fl (wO cI cS qx a0 a1 a2 a3 b3 a4 sn sc has [] u)) := by
  refine KQ.of (cc := cL_act) (maxL := 6) (ty := .boolean) (by decide) rfl (Nat.le_of_ble_eq_true rfl) rfl (fun p e s m args below meth c ls Q A hx hb hml hown hts hE hP hD hA hS hX hl hend => ?_)
  have hown : s.vm.findClass RL = some m.cls := hown
  have hl : lv_has ls 6 [(0, .ref qx), (1, .int v), (2, .int x)] := hl
  have hbo : BL st.2.2.1 := hI.1.2.2.1
  have hzb : Bd st.2.2.2.1.2.1.2.2.2 24 := hI.1.1.2
  have hab : Bd st.2.2.2.1.2.2.2.2.2.2 21 := hI.1.2.2.2.2.2.2.1
  have J_88 : ∀ ls : Array Slot, lv_has ls 6 [(0, .ref qx), (2, .int x)] → W p l e { frames := 7, cells := 2, slots := 64, locals := 161 } s m args below meth c s.heap [] 0 0 Q (F0 m 88 ls []) := by
    intro ls hl
    obtain ⟨b5, hb5, eb5⟩ := low_is (x >>> ((11 : Int32) &&& 31)) (n := (5 : Int32)) (N := 5) rfl (by omega) (by omega)
    have loop_90 : ∀ (n k : Nat) (st1 : StT) (hi1 : HiT) (H : Heap) (locs : List Loc), k + n = b5 + 1 → IV e0 st1 → WH hi1 → va_P D vwCl (fl (wO cI cS qx a0 a1 a2 a3 b3 a4 sn sc has [] (st1, tr, hi1))) H → va_D A (fl (wO cI cS qx a0 a1 a2 a3 b3 a4 sn sc has [] (st1, tr, hi1))) → va_S A s.heap H locs → ∀ ls : Array Slot, lv_has ls 6 [(0, .ref qx), (2, .int x), (3, .int ((nI k)))] → W p l e { frames := 7, cells := 2, slots := 64, locals := 161 } s m args below meth c H locs 0 0 Q (F0 m 90 ls []) := by
      intro n
      induction n with
      | zero =>
        intro k st1 hi1 H locs hk hI1 hh1 hP hD hS ls hl
        refine lv_iload_n hx hb dL_act_90 rfl (lv_at hl 2 rfl) ?_
        refine lv_iload_n hx hb dL_act_91 rfl (lv_at hl 1 rfl) ?_
        refine lv_bipush (v := (11 : Int32)) hx hb dL_act_92 (by decide +kernel) ?_
        refine lv_ishr hx hb dL_act_94 ?_
        refine lv_iconst (v := (5 : Int32)) hx hb dL_act_95 (by decide +kernel) ?_
        refine cRS (W0 := fl (wO cI cS qx a0 a1 a2 a3 b3 a4 sn sc has ([]) (st1, tr, hi1))) (r := (nI b5)) ⟨hx, hb, hml, hown, hts⟩ (KR.eq (kL_low l D cI cS ((x >>> ((11 : Int32) &&& 31))) ((5 : Int32)) (by decide)) eb5) (va_cwS 2 hts gL_act_L_low rfl rfl rfl (by decide +kernel) ⟨Nat.le_of_ble_eq_true rfl, Nat.le_of_ble_eq_true rfl⟩) hE hP [] rfl rfl hl.1 rfl (Nat.le_of_ble_eq_true rfl) ⟨Nat.le_of_ble_eq_true rfl, Nat.le_of_ble_eq_true rfl⟩ dL_act_96 ?_
        refine lv_icmp_gt (tgt := 156) hx hb dL_act_99 (by decide) (fun _ => ?_) (fun c => absurd (show (nI b5) < (nI k) from nI_lt (by omega) (by omega)) c)
        refine lv_iconst (v := (1 : Int32)) hx hb dL_act_156 (by decide +kernel) ?_
        exact hend _ _ _ (st1, tr, hi1) _ _ _ _ dL_act_157 rfl (by decide) (by decide) ⟨rfl, hI1.mono (by omega), hh1⟩ hP hS
      | succ n ih =>
        intro k st1 hi1 H locs hk hI1 hh1 hP hD hS ls hl
        refine lv_iload_n hx hb dL_act_90 rfl (lv_at hl 2 rfl) ?_
        refine lv_iload_n hx hb dL_act_91 rfl (lv_at hl 1 rfl) ?_
        refine lv_bipush (v := (11 : Int32)) hx hb dL_act_92 (by decide +kernel) ?_
        refine lv_ishr hx hb dL_act_94 ?_
        refine lv_iconst (v := (5 : Int32)) hx hb dL_act_95 (by decide +kernel) ?_
        refine cRS (W0 := fl (wO cI cS qx a0 a1 a2 a3 b3 a4 sn sc has ([]) (st1, tr, hi1))) (r := (nI b5)) ⟨hx, hb, hml, hown, hts⟩ (KR.eq (kL_low l D cI cS ((x >>> ((11 : Int32) &&& 31))) ((5 : Int32)) (by decide)) eb5) (va_cwS 2 hts gL_act_L_low rfl rfl rfl (by decide +kernel) ⟨Nat.le_of_ble_eq_true rfl, Nat.le_of_ble_eq_true rfl⟩) hE hP [] rfl rfl hl.1 rfl (Nat.le_of_ble_eq_true rfl) ⟨Nat.le_of_ble_eq_true rfl, Nat.le_of_ble_eq_true rfl⟩ dL_act_96 ?_
        refine lv_icmp_gt (tgt := 156) hx hb dL_act_99 (by decide) (fun c => absurd c (show ¬ (nI b5) < (nI k) from nI_nlt (by omega) (by omega))) (fun _ => ?_)
        obtain ⟨kk, hkk, ekk⟩ := low_is (x >>> (((3 : Int32) * (nI k)) &&& 31)) (n := (32 : Int32)) (N := 32) rfl (by omega) (by omega)
        obtain ⟨j2, hj2, ej2⟩ := low_is (x >>> (((2 : Int32) + (nI k)) &&& 31)) (n := (5 : Int32)) (N := 5) rfl (by omega) (by omega)
        obtain ⟨j3, hj3, ej3⟩ := low_is (x >>> (((4 : Int32) + ((2 : Int32) * (nI k))) &&& 31)) (n := (100 : Int32)) (N := 100) rfl (by omega) (by omega)
        refine lv_aload_n hx hb dL_act_102 rfl (lv_at hl 0 rfl) ?_
        refine lv_iload_n hx hb dL_act_103 rfl (lv_at hl 1 rfl) ?_
        refine lv_iconst (v := (3 : Int32)) hx hb dL_act_104 (by decide +kernel) ?_
        refine lv_iload_n hx hb dL_act_105 rfl (lv_at hl 2 rfl) ?_
        refine lv_imul hx hb dL_act_106 ?_
        refine lv_ishr hx hb dL_act_107 ?_
        refine lv_bipush (v := (32 : Int32)) hx hb dL_act_108 (by decide +kernel) ?_
        refine cRS (W0 := fl (wO cI cS qx a0 a1 a2 a3 b3 a4 sn sc has ([]) (st1, tr, hi1))) (r := (nI kk)) ⟨hx, hb, hml, hown, hts⟩ (KR.eq (kL_low l D cI cS ((x >>> (((3 : Int32) * (nI k)) &&& 31))) ((32 : Int32)) (by decide)) ekk) (va_cwS 2 hts gL_act_L_low rfl rfl rfl (by decide +kernel) ⟨Nat.le_of_ble_eq_true rfl, Nat.le_of_ble_eq_true rfl⟩) hE hP [] rfl rfl hl.1 rfl (Nat.le_of_ble_eq_true rfl) ⟨Nat.le_of_ble_eq_true rfl, Nat.le_of_ble_eq_true rfl⟩ dL_act_110 ?_
        refine lv_iload_n hx hb dL_act_113 rfl (lv_at hl 1 rfl) ?_
        refine lv_iconst (v := (2 : Int32)) hx hb dL_act_114 (by decide +kernel) ?_
        refine lv_iload_n hx hb dL_act_115 rfl (lv_at hl 2 rfl) ?_
        refine lv_iadd hx hb dL_act_116 ?_
        refine lv_ishr hx hb dL_act_117 ?_
        refine lv_iconst (v := (5 : Int32)) hx hb dL_act_118 (by decide +kernel) ?_
        refine cRS (W0 := fl (wO cI cS qx a0 a1 a2 a3 b3 a4 sn sc has ([]) (st1, tr, hi1))) (r := (nI j2)) ⟨hx, hb, hml, hown, hts⟩ (KR.eq (kL_low l D cI cS ((x >>> (((2 : Int32) + (nI k)) &&& 31))) ((5 : Int32)) (by decide)) ej2) (va_cwS 2 hts gL_act_L_low rfl rfl rfl (by decide +kernel) ⟨Nat.le_of_ble_eq_true rfl, Nat.le_of_ble_eq_true rfl⟩) hE hP [] rfl rfl hl.1 rfl (Nat.le_of_ble_eq_true rfl) ⟨Nat.le_of_ble_eq_true rfl, Nat.le_of_ble_eq_true rfl⟩ dL_act_119 ?_
        refine lv_if_ne (tgt := 130) hx hb dL_act_122 (by decide) (fun c_122 => ?_) (fun c_122 => ?_)
        · refine lv_iload_n hx hb dL_act_130 rfl (lv_at hl 1 rfl) ?_
          refine lv_iconst (v := (4 : Int32)) hx hb dL_act_131 (by decide +kernel) ?_
          refine lv_iconst (v := (2 : Int32)) hx hb dL_act_132 (by decide +kernel) ?_
          refine lv_iload_n hx hb dL_act_133 rfl (lv_at hl 2 rfl) ?_
          refine lv_imul hx hb dL_act_134 ?_
          refine lv_iadd hx hb dL_act_135 ?_
          refine lv_ishr hx hb dL_act_136 ?_
          refine lv_bipush (v := (100 : Int32)) hx hb dL_act_137 (by decide +kernel) ?_
          refine cRS (W0 := fl (wO cI cS qx a0 a1 a2 a3 b3 a4 sn sc has ([]) (st1, tr, hi1))) (r := (nI j3)) ⟨hx, hb, hml, hown, hts⟩ (KR.eq (kL_low l D cI cS ((x >>> (((4 : Int32) + ((2 : Int32) * (nI k))) &&& 31))) ((100 : Int32)) (by decide)) ej3) (va_cwS 2 hts gL_act_L_low rfl rfl rfl (by decide +kernel) ⟨Nat.le_of_ble_eq_true rfl, Nat.le_of_ble_eq_true rfl⟩) hE hP [] rfl rfl hl.1 rfl (Nat.le_of_ble_eq_true rfl) ⟨Nat.le_of_ble_eq_true rfl, Nat.le_of_ble_eq_true rfl⟩ dL_act_139 ?_
          refine bQS ⟨hx, hb, hml, hown, hts⟩ (kL_changes l D cI cS qx a0 a1 a2 a3 b3 a4 sn sc has st1 tr hi1 hI1 hh1 kk hkk (nI j3) (Or.inr (Bd.of (by omega) (by omega)))) (va_cwS 3 hts gL_act_L_changes rfl rfl rfl (by decide +kernel) ⟨Nat.le_of_ble_eq_true rfl, Nat.le_of_ble_eq_true rfl⟩) hE hP hD hA hS hX (fun _ => rfl) rfl hl.1 rfl (Nat.le_of_ble_eq_true rfl) ⟨Nat.le_of_ble_eq_true rfl, Nat.le_of_ble_eq_true rfl⟩ dL_act_142 (fun r_142 u_142 H locs e_142 hP hD hS => ?_)
          obtain ⟨q1, q2, q3⟩ := e_142
          subst q1
          have hP : va_P D vwCl (fl (wO cI cS qx a0 a1 a2 a3 b3 a4 sn sc has ([]) (u_142.1, tr, u_142.2))) H := hP
          have hD : va_D A (fl (wO cI cS qx a0 a1 a2 a3 b3 a4 sn sc has ([]) (u_142.1, tr, u_142.2))) := hD
          refine lv_if_ne (tgt := 150) hx hb dL_act_145 (by decide) (fun _ => ?_) (fun c => absurd c (show ¬ (1 : Int32) = (0 : Int32) by decide))
          refine lv_iinc (v := (nI (k + 1))) (lv' := [(3, .int ((nI (k + 1)))), (0, .ref qx), (2, .int x)]) hx hb dL_act_150 hl (k := 2) rfl (nI_1 _) (by decide) rfl (fun ls hl => ?_)
          refine lv_goto (tgt := 90) hx hb dL_act_153 (by decide) ?_
          exact ih (k + 1) u_142.1 u_142.2 _ _ (by omega) q2 q3 hP hD hS _ (lv_sub hl [1, 2, 0] rfl)
        · refine lv_bipush (v := (-5 : Int32)) hx hb dL_act_125 (by decide +kernel) ?_
          refine lv_goto (tgt := 142) hx hb dL_act_127 (by decide) ?_
          refine bQS ⟨hx, hb, hml, hown, hts⟩ (kL_changes l D cI cS qx a0 a1 a2 a3 b3 a4 sn sc has st1 tr hi1 hI1 hh1 kk hkk (-5 : Int32) (Or.inl rfl)) (va_cwS 3 hts gL_act_L_changes rfl rfl rfl (by decide +kernel) ⟨Nat.le_of_ble_eq_true rfl, Nat.le_of_ble_eq_true rfl⟩) hE hP hD hA hS hX (fun _ => rfl) rfl hl.1 rfl (Nat.le_of_ble_eq_true rfl) ⟨Nat.le_of_ble_eq_true rfl, Nat.le_of_ble_eq_true rfl⟩ dL_act_142 (fun r_142 u_142 H locs e_142 hP hD hS => ?_)
          obtain ⟨q1, q2, q3⟩ := e_142
          subst q1
          have hP : va_P D vwCl (fl (wO cI cS qx a0 a1 a2 a3 b3 a4 sn sc has ([]) (u_142.1, tr, u_142.2))) H := hP
          have hD : va_D A (fl (wO cI cS qx a0 a1 a2 a3 b3 a4 sn sc has ([]) (u_142.1, tr, u_142.2))) := hD
          refine lv_if_ne (tgt := 150) hx hb dL_act_145 (by decide) (fun _ => ?_) (fun c => absurd c (show ¬ (1 : Int32) = (0 : Int32) by decide))
          refine lv_iinc (v := (nI (k + 1))) (lv' := [(3, .int ((nI (k + 1)))), (0, .ref qx), (2, .int x)]) hx hb dL_act_150 hl (k := 2) rfl (nI_1 _) (by decide) rfl (fun ls hl => ?_)
          refine lv_goto (tgt := 90) hx hb dL_act_153 (by decide) ?_
          exact ih (k + 1) u_142.1 u_142.2 _ _ (by omega) q2 q3 hP hD hS _ (lv_sub hl [1, 2, 0] rfl)
    refine lv_iconst (v := (0 : Int32)) hx hb dL_act_88 (by decide +kernel) ?_
    refine lv_istore_n (lv' := [(3, .int ((0 : Int32))), (0, .ref qx), (2, .int x)]) hx hb dL_act_89 rfl hl (by decide) rfl (fun ls hl => ?_)
    exact loop_90 (b5 + 1) 0 st hi s.heap [] (by omega) hI hh hP hD hS _ (lv_sub hl [1, 2, 0] rfl)
  have J_158 : ∀ ls : Array Slot, lv_has ls 6 [(0, .ref qx), (2, .int x)] → W p l e { frames := 7, cells := 2, slots := 64, locals := 161 } s m args below meth c s.heap [] 0 0 Q (F0 m 158 ls []) := by
    intro ls hl
    obtain ⟨a5, ha5, ea5⟩ := low_is x (n := (5 : Int32)) (N := 5) rfl (by omega) (by omega)
    obtain ⟨b8, hb8, eb8⟩ := low_is (x >>> ((3 : Int32) &&& 31)) (n := (8 : Int32)) (N := 8) rfl (by omega) (by omega)
    rcases hI.begin (kd := a5) (l := b8) (by omega) (by omega) with ⟨hph, u1, eS, hI1, y0, y1, y2, y3, y4, y5⟩ | ⟨h0, eS⟩
    · have h0u : ¬ u1.2.2.2.1.2.2.1 = (0 : Int32) := by rw [y0]; decide
      have eT : fX6_begin (nI a5) ((1 : Int32) + (nI b8)) (st, hi) = ((fX3_count st.1), (u1, hiR hi st (fX3_count st.1))) := by rw [one_add, begin_eq, eS]
      refine lv_aload_n hx hb dL_act_158 rfl (lv_at hl 0 rfl) ?_
      refine lv_iconst (v := (0 : Int32)) hx hb dL_act_159 (by decide +kernel) ?_
      refine bRV (W0 := wO cI cS qx a0 a1 a2 a3 b3 a4 sn sc has ([]) (st, tr, hi)) (wc := [(qx, .inr (6, [.ref (a0 0), .ref (a1 0), .ref (a2 0), .ref (a3 0), .ref (a4 0), .int has]))] :: wSt cI a0 st :: []) (r := (0 : Int32)) ⟨hx, hb, hml, hown, hts⟩ (KR.eq (kX6_copy l D cI cS qx a0 (a1 0) (a2 0) (a3 0) (a4 0) has (0 : Int32) st) ((cp_0 st).trans hph)) (cwV 1 hts gL_act_X6_copy rfl rfl rfl (by decide +kernel) ⟨Nat.le_of_ble_eq_true rfl, Nat.le_of_ble_eq_true rfl⟩) hE hP rfl rfl [0, 1] rfl rfl rfl hl.1 rfl (Nat.le_of_ble_eq_true rfl) ⟨Nat.le_of_ble_eq_true rfl, Nat.le_of_ble_eq_true rfl⟩ dL_act_160 ?_
      refine lv_if_ne (tgt := 170) hx hb dL_act_163 (by decide) (fun c => absurd (show (0 : Int32) = (0 : Int32) by decide) c) (fun _ => ?_)
      refine lv_iconst (v := (1 : Int32)) hx hb dL_act_166 (by decide +kernel) ?_
      refine lv_goto (tgt := 171) hx hb dL_act_167 (by decide) ?_
      refine lv_istore_n (lv' := [(3, .int ((1 : Int32))), (0, .ref qx), (2, .int x)]) hx hb dL_act_171 rfl hl (by decide) rfl (fun ls hl => ?_)
      refine lv_aload_n hx hb dL_act_172 rfl (lv_at hl 1 rfl) ?_
      refine lv_iconst (v := (0 : Int32)) hx hb dL_act_173 (by decide +kernel) ?_
      refine lv_iconst (v := (0 : Int32)) hx hb dL_act_174 (by decide +kernel) ?_
      refine bRV (W0 := wO cI cS qx a0 a1 a2 a3 b3 a4 sn sc has ([]) (st, tr, hi)) (wc := [(qx, .inr (6, [.ref (a0 0), .ref (a1 0), .ref (a2 0), .ref (a3 0), .ref (a4 0), .int has]))] :: wSt cI a0 st :: []) (r := (fX3_count st.1)) ⟨hx, hb, hml, hown, hts⟩ (KR.eq (kX6_table l D cI cS qx a0 (a1 0) (a2 0) (a3 0) (a4 0) has (0 : Int32) (0 : Int32) st) (tbl_0 st)) (cwV 2 hts gL_act_X6_table rfl rfl rfl (by decide +kernel) ⟨Nat.le_of_ble_eq_true rfl, Nat.le_of_ble_eq_true rfl⟩) hE hP rfl rfl [0, 1] rfl rfl rfl hl.1 rfl (Nat.le_of_ble_eq_true rfl) ⟨Nat.le_of_ble_eq_true rfl, Nat.le_of_ble_eq_true rfl⟩ dL_act_175 ?_
      refine lv_istore (lv' := [(4, .int ((fX3_count st.1))), (3, .int ((1 : Int32))), (0, .ref qx), (2, .int x)]) hx hb dL_act_178 hl (by decide) rfl (fun ls hl => ?_)
      refine lv_aload_n hx hb dL_act_180 rfl (lv_at hl 2 rfl) ?_
      refine lv_iload_n hx hb dL_act_181 rfl (lv_at hl 3 rfl) ?_
      refine lv_iconst (v := (5 : Int32)) hx hb dL_act_182 (by decide +kernel) ?_
      refine cRS (W0 := fl (wO cI cS qx a0 a1 a2 a3 b3 a4 sn sc has ([]) (st, tr, hi))) (r := (nI a5)) ⟨hx, hb, hml, hown, hts⟩ (KR.eq (kL_low l D cI cS x ((5 : Int32)) (by decide)) ea5) (va_cwS 2 hts gL_act_L_low rfl rfl rfl (by decide +kernel) ⟨Nat.le_of_ble_eq_true rfl, Nat.le_of_ble_eq_true rfl⟩) hE hP [] rfl rfl hl.1 rfl (Nat.le_of_ble_eq_true rfl) ⟨Nat.le_of_ble_eq_true rfl, Nat.le_of_ble_eq_true rfl⟩ dL_act_183 ?_
      refine lv_iconst (v := (1 : Int32)) hx hb dL_act_186 (by decide +kernel) ?_
      refine lv_iload_n hx hb dL_act_187 rfl (lv_at hl 3 rfl) ?_
      refine lv_iconst (v := (3 : Int32)) hx hb dL_act_188 (by decide +kernel) ?_
      refine lv_ishr hx hb dL_act_189 ?_
      refine lv_bipush (v := (8 : Int32)) hx hb dL_act_190 (by decide +kernel) ?_
      refine cRS (W0 := fl (wO cI cS qx a0 a1 a2 a3 b3 a4 sn sc has ([]) (st, tr, hi))) (r := (nI b8)) ⟨hx, hb, hml, hown, hts⟩ (KR.eq (kL_low l D cI cS ((x >>> ((3 : Int32) &&& 31))) ((8 : Int32)) (by decide)) eb8) (va_cwS 2 hts gL_act_L_low rfl rfl rfl (by decide +kernel) ⟨Nat.le_of_ble_eq_true rfl, Nat.le_of_ble_eq_true rfl⟩) hE hP [] rfl rfl hl.1 rfl (Nat.le_of_ble_eq_true rfl) ⟨Nat.le_of_ble_eq_true rfl, Nat.le_of_ble_eq_true rfl⟩ dL_act_192 ?_
      refine lv_iadd hx hb dL_act_195 ?_
      refine bIV (W0 := wO cI cS qx a0 a1 a2 a3 b3 a4 sn sc has ([]) (st, tr, hi)) (wc := [(qx, .inr (6, [.ref (a0 0), .ref (a1 0), .ref (a2 0), .ref (a3 0), .ref (a4 0), .int has]))] :: wSt cI a0 st :: wHi cI cS a3 b3 hi []) (w1 := fun u : TPT => [(qx, .inr (6, [.ref (a0 0), .ref (a1 0), .ref (a2 0), .ref (a3 0), .ref (a4 0), .int has]))] :: wSt cI a0 u.1 :: wHi cI cS a3 b3 u.2 []) ⟨hx, hb, hml, hown, hts⟩ (kX6_begin l D cI cS qx a0 a3 b3 (a1 0) (a2 0) (a4 0) has (nI a5) ((1 : Int32) + (nI b8)) (st, hi) hI.ws hh) (cwV 2 hts gL_act_X6_begin rfl rfl rfl (by decide +kernel) ⟨Nat.le_of_ble_eq_true rfl, Nat.le_of_ble_eq_true rfl⟩) hE hP hD hS rfl rfl [0, 1, 4, 5, 6, 7, 8, 9, 10, 11] rfl rfl (fun _ => rfl) (fun _ => rfl) rfl hl.1 rfl (Nat.le_of_ble_eq_true rfl) ⟨Nat.le_of_ble_eq_true rfl, Nat.le_of_ble_eq_true rfl⟩ dL_act_196 (fun r_196 u_196 H locs e_196 hP hD hS => ?_)
      have hP : va_P D vwCl (fl (wO cI cS qx a0 a1 a2 a3 b3 a4 sn sc has ([]) (u_196.1, tr, u_196.2))) H := hP
      have hD : va_D A (fl (wO cI cS qx a0 a1 a2 a3 b3 a4 sn sc has ([]) (u_196.1, tr, u_196.2))) := hD
      rw [eT] at e_196
      cases e_196
      have hP : va_P D vwCl (fl (wO cI cS qx a0 a1 a2 a3 b3 a4 sn sc has ([]) (u1, tr, (hiR hi st (fX3_count st.1))))) H := hP
      have hD : va_D A (fl (wO cI cS qx a0 a1 a2 a3 b3 a4 sn sc has ([]) (u1, tr, (hiR hi st (fX3_count st.1))))) := hD
      refine lv_istore (lv' := [(5, .int ((fX3_count st.1))), (4, .int ((fX3_count st.1))), (3, .int ((1 : Int32))), (0, .ref qx), (2, .int x)]) hx hb dL_act_199 hl (by decide) rfl (fun ls hl => ?_)
      refine lv_iload_n hx hb dL_act_201 rfl (lv_at hl 2 rfl) ?_
      refine lv_if_eq (tgt := 285) hx hb dL_act_202 (by decide) (fun c => absurd c (show ¬ (1 : Int32) = (0 : Int32) by decide)) (fun _ => ?_)
      refine lv_iload hx hb dL_act_205 (lv_at hl 0 rfl) ?_
      refine lv_iload hx hb dL_act_207 (lv_at hl 1 rfl) ?_
      refine lv_icmp_ne (tgt := 281) hx hb dL_act_209 (by decide) (fun c => absurd rfl c) (fun _ => ?_)
      refine lv_aload_n hx hb dL_act_212 rfl (lv_at hl 3 rfl) ?_
      refine lv_iconst (v := (0 : Int32)) hx hb dL_act_213 (by decide +kernel) ?_
      refine bRV (W0 := wO cI cS qx a0 a1 a2 a3 b3 a4 sn sc has ([]) (u1, tr, (hiR hi st (fX3_count st.1)))) (wc := [(qx, .inr (6, [.ref (a0 0), .ref (a1 0), .ref (a2 0), .ref (a3 0), .ref (a4 0), .int has]))] :: wSt cI a0 u1 :: []) (r := (1 : Int32)) ⟨hx, hb, hml, hown, hts⟩ (KR.eq (kX6_copy l D cI cS qx a0 (a1 0) (a2 0) (a3 0) (a4 0) has (0 : Int32) u1) ((cp_0 u1).trans y0)) (cwV 1 hts gL_act_X6_copy rfl rfl rfl (by decide +kernel) ⟨Nat.le_of_ble_eq_true rfl, Nat.le_of_ble_eq_true rfl⟩) hE hP rfl rfl [0, 1] rfl rfl rfl hl.1 rfl (Nat.le_of_ble_eq_true rfl) ⟨Nat.le_of_ble_eq_true rfl, Nat.le_of_ble_eq_true rfl⟩ dL_act_214 ?_
      refine lv_iconst (v := (1 : Int32)) hx hb dL_act_217 (by decide +kernel) ?_
      refine lv_icmp_ne (tgt := 281) hx hb dL_act_218 (by decide) (fun c => absurd (show (1 : Int32) = (1 : Int32) by decide) c) (fun _ => ?_)
      refine lv_aload_n hx hb dL_act_221 rfl (lv_at hl 3 rfl) ?_
      refine lv_iconst (v := (1 : Int32)) hx hb dL_act_222 (by decide +kernel) ?_
      refine bRV (W0 := wO cI cS qx a0 a1 a2 a3 b3 a4 sn sc has ([]) (u1, tr, (hiR hi st (fX3_count st.1)))) (wc := [(qx, .inr (6, [.ref (a0 0), .ref (a1 0), .ref (a2 0), .ref (a3 0), .ref (a4 0), .int has]))] :: wSt cI a0 u1 :: []) (r := (nI a5)) ⟨hx, hb, hml, hown, hts⟩ (KR.eq (kX6_copy l D cI cS qx a0 (a1 0) (a2 0) (a3 0) (a4 0) has (1 : Int32) u1) ((cp_1 h0u).trans y1)) (cwV 1 hts gL_act_X6_copy rfl rfl rfl (by decide +kernel) ⟨Nat.le_of_ble_eq_true rfl, Nat.le_of_ble_eq_true rfl⟩) hE hP rfl rfl [0, 1] rfl rfl rfl hl.1 rfl (Nat.le_of_ble_eq_true rfl) ⟨Nat.le_of_ble_eq_true rfl, Nat.le_of_ble_eq_true rfl⟩ dL_act_223 ?_
      refine lv_iload_n hx hb dL_act_226 rfl (lv_at hl 4 rfl) ?_
      refine lv_iconst (v := (5 : Int32)) hx hb dL_act_227 (by decide +kernel) ?_
      refine cRS (W0 := fl (wO cI cS qx a0 a1 a2 a3 b3 a4 sn sc has ([]) (u1, tr, (hiR hi st (fX3_count st.1))))) (r := (nI a5)) ⟨hx, hb, hml, hown, hts⟩ (KR.eq (kL_low l D cI cS x ((5 : Int32)) (by decide)) ea5) (va_cwS 2 hts gL_act_L_low rfl rfl rfl (by decide +kernel) ⟨Nat.le_of_ble_eq_true rfl, Nat.le_of_ble_eq_true rfl⟩) hE hP [] rfl rfl hl.1 rfl (Nat.le_of_ble_eq_true rfl) ⟨Nat.le_of_ble_eq_true rfl, Nat.le_of_ble_eq_true rfl⟩ dL_act_228 ?_
      refine lv_icmp_ne (tgt := 281) hx hb dL_act_231 (by decide) (fun c => absurd rfl c) (fun _ => ?_)
      refine lv_aload_n hx hb dL_act_234 rfl (lv_at hl 3 rfl) ?_
      refine lv_iconst (v := (2 : Int32)) hx hb dL_act_235 (by decide +kernel) ?_
      refine bRV (W0 := wO cI cS qx a0 a1 a2 a3 b3 a4 sn sc has ([]) (u1, tr, (hiR hi st (fX3_count st.1)))) (wc := [(qx, .inr (6, [.ref (a0 0), .ref (a1 0), .ref (a2 0), .ref (a3 0), .ref (a4 0), .int has]))] :: wSt cI a0 u1 :: []) (r := ((1 : Int32) + (nI b8))) ⟨hx, hb, hml, hown, hts⟩ (KR.eq (kX6_copy l D cI cS qx a0 (a1 0) (a2 0) (a3 0) (a4 0) has (2 : Int32) u1) ((cp_2 h0u).trans (y2.trans (one_add b8).symm))) (cwV 1 hts gL_act_X6_copy rfl rfl rfl (by decide +kernel) ⟨Nat.le_of_ble_eq_true rfl, Nat.le_of_ble_eq_true rfl⟩) hE hP rfl rfl [0, 1] rfl rfl rfl hl.1 rfl (Nat.le_of_ble_eq_true rfl) ⟨Nat.le_of_ble_eq_true rfl, Nat.le_of_ble_eq_true rfl⟩ dL_act_236 ?_
      refine lv_iconst (v := (1 : Int32)) hx hb dL_act_239 (by decide +kernel) ?_
      refine lv_iload_n hx hb dL_act_240 rfl (lv_at hl 4 rfl) ?_
      refine lv_iconst (v := (3 : Int32)) hx hb dL_act_241 (by decide +kernel) ?_
      refine lv_ishr hx hb dL_act_242 ?_
      refine lv_bipush (v := (8 : Int32)) hx hb dL_act_243 (by decide +kernel) ?_
      refine cRS (W0 := fl (wO cI cS qx a0 a1 a2 a3 b3 a4 sn sc has ([]) (u1, tr, (hiR hi st (fX3_count st.1))))) (r := (nI b8)) ⟨hx, hb, hml, hown, hts⟩ (KR.eq (kL_low l D cI cS ((x >>> ((3 : Int32) &&& 31))) ((8 : Int32)) (by decide)) eb8) (va_cwS 2 hts gL_act_L_low rfl rfl rfl (by decide +kernel) ⟨Nat.le_of_ble_eq_true rfl, Nat.le_of_ble_eq_true rfl⟩) hE hP [] rfl rfl hl.1 rfl (Nat.le_of_ble_eq_true rfl) ⟨Nat.le_of_ble_eq_true rfl, Nat.le_of_ble_eq_true rfl⟩ dL_act_245 ?_
      refine lv_iadd hx hb dL_act_248 ?_
      refine lv_icmp_ne (tgt := 281) hx hb dL_act_249 (by decide) (fun c => absurd rfl c) (fun _ => ?_)
      refine lv_aload_n hx hb dL_act_252 rfl (lv_at hl 3 rfl) ?_
      refine lv_iconst (v := (3 : Int32)) hx hb dL_act_253 (by decide +kernel) ?_
      refine bRV (W0 := wO cI cS qx a0 a1 a2 a3 b3 a4 sn sc has ([]) (u1, tr, (hiR hi st (fX3_count st.1)))) (wc := [(qx, .inr (6, [.ref (a0 0), .ref (a1 0), .ref (a2 0), .ref (a3 0), .ref (a4 0), .int has]))] :: wSt cI a0 u1 :: []) (r := (0 : Int32)) ⟨hx, hb, hml, hown, hts⟩ (KR.eq (kX6_copy l D cI cS qx a0 (a1 0) (a2 0) (a3 0) (a4 0) has (3 : Int32) u1) ((cp_3 h0u).trans y3)) (cwV 1 hts gL_act_X6_copy rfl rfl rfl (by decide +kernel) ⟨Nat.le_of_ble_eq_true rfl, Nat.le_of_ble_eq_true rfl⟩) hE hP rfl rfl [0, 1] rfl rfl rfl hl.1 rfl (Nat.le_of_ble_eq_true rfl) ⟨Nat.le_of_ble_eq_true rfl, Nat.le_of_ble_eq_true rfl⟩ dL_act_254 ?_
      refine lv_if_ne (tgt := 281) hx hb dL_act_257 (by decide) (fun c => absurd (show (0 : Int32) = (0 : Int32) by decide) c) (fun _ => ?_)
      refine lv_aload_n hx hb dL_act_260 rfl (lv_at hl 3 rfl) ?_
      refine lv_iconst (v := (4 : Int32)) hx hb dL_act_261 (by decide +kernel) ?_
      refine bRV (W0 := wO cI cS qx a0 a1 a2 a3 b3 a4 sn sc has ([]) (u1, tr, (hiR hi st (fX3_count st.1)))) (wc := [(qx, .inr (6, [.ref (a0 0), .ref (a1 0), .ref (a2 0), .ref (a3 0), .ref (a4 0), .int has]))] :: wSt cI a0 u1 :: []) (r := (0 : Int32)) ⟨hx, hb, hml, hown, hts⟩ (KR.eq (kX6_copy l D cI cS qx a0 (a1 0) (a2 0) (a3 0) (a4 0) has (4 : Int32) u1) ((cp_4 h0u).trans y4)) (cwV 1 hts gL_act_X6_copy rfl rfl rfl (by decide +kernel) ⟨Nat.le_of_ble_eq_true rfl, Nat.le_of_ble_eq_true rfl⟩) hE hP rfl rfl [0, 1] rfl rfl rfl hl.1 rfl (Nat.le_of_ble_eq_true rfl) ⟨Nat.le_of_ble_eq_true rfl, Nat.le_of_ble_eq_true rfl⟩ dL_act_262 ?_
      refine lv_if_ne (tgt := 281) hx hb dL_act_265 (by decide) (fun c => absurd (show (0 : Int32) = (0 : Int32) by decide) c) (fun _ => ?_)
      refine lv_aload_n hx hb dL_act_268 rfl (lv_at hl 3 rfl) ?_
      refine lv_iconst (v := (1 : Int32)) hx hb dL_act_269 (by decide +kernel) ?_
      refine lv_iconst (v := (0 : Int32)) hx hb dL_act_270 (by decide +kernel) ?_
      refine bRV (W0 := wO cI cS qx a0 a1 a2 a3 b3 a4 sn sc has ([]) (u1, tr, (hiR hi st (fX3_count st.1)))) (wc := [(qx, .inr (6, [.ref (a0 0), .ref (a1 0), .ref (a2 0), .ref (a3 0), .ref (a4 0), .int has]))] :: wSt cI a0 u1 :: []) (r := (0 : Int32)) ⟨hx, hb, hml, hown, hts⟩ (KR.eq (kX6_table l D cI cS qx a0 (a1 0) (a2 0) (a3 0) (a4 0) has (1 : Int32) (0 : Int32) u1) ((tbl_1y h0u).trans y5)) (cwV 2 hts gL_act_X6_table rfl rfl rfl (by decide +kernel) ⟨Nat.le_of_ble_eq_true rfl, Nat.le_of_ble_eq_true rfl⟩) hE hP rfl rfl [0, 1] rfl rfl rfl hl.1 rfl (Nat.le_of_ble_eq_true rfl) ⟨Nat.le_of_ble_eq_true rfl, Nat.le_of_ble_eq_true rfl⟩ dL_act_271 ?_
      refine lv_if_ne (tgt := 281) hx hb dL_act_274 (by decide) (fun c => absurd (show (0 : Int32) = (0 : Int32) by decide) c) (fun _ => ?_)
      refine lv_iconst (v := (1 : Int32)) hx hb dL_act_277 (by decide +kernel) ?_
      refine lv_goto (tgt := 297) hx hb dL_act_278 (by decide) ?_
      exact hend _ _ _ (u1, tr, (hiR hi st (fX3_count st.1))) _ _ _ _ dL_act_297 rfl (by decide) (by decide) ⟨rfl, hI1.mono (by omega), (hh.rec hbo (fX3_count st.1))⟩ hP hS
    · have eT : fX6_begin (nI a5) ((1 : Int32) + (nI b8)) (st, hi) = ((-4 : Int32), (st, hiR hi st (-4 : Int32))) := by rw [one_add, begin_eq, eS]
      refine lv_aload_n hx hb dL_act_158 rfl (lv_at hl 0 rfl) ?_
      refine lv_iconst (v := (0 : Int32)) hx hb dL_act_159 (by decide +kernel) ?_
      refine bRV (W0 := wO cI cS qx a0 a1 a2 a3 b3 a4 sn sc has ([]) (st, tr, hi)) (wc := [(qx, .inr (6, [.ref (a0 0), .ref (a1 0), .ref (a2 0), .ref (a3 0), .ref (a4 0), .int has]))] :: wSt cI a0 st :: []) (r := st.2.2.2.1.2.2.1) ⟨hx, hb, hml, hown, hts⟩ (KR.eq (kX6_copy l D cI cS qx a0 (a1 0) (a2 0) (a3 0) (a4 0) has (0 : Int32) st) (cp_0 st)) (cwV 1 hts gL_act_X6_copy rfl rfl rfl (by decide +kernel) ⟨Nat.le_of_ble_eq_true rfl, Nat.le_of_ble_eq_true rfl⟩) hE hP rfl rfl [0, 1] rfl rfl rfl hl.1 rfl (Nat.le_of_ble_eq_true rfl) ⟨Nat.le_of_ble_eq_true rfl, Nat.le_of_ble_eq_true rfl⟩ dL_act_160 ?_
      refine lv_if_ne (tgt := 170) hx hb dL_act_163 (by decide) (fun _ => ?_) (fun c => absurd c h0)
      refine lv_iconst (v := (0 : Int32)) hx hb dL_act_170 (by decide +kernel) ?_
      refine lv_istore_n (lv' := [(3, .int ((0 : Int32))), (0, .ref qx), (2, .int x)]) hx hb dL_act_171 rfl hl (by decide) rfl (fun ls hl => ?_)
      refine lv_aload_n hx hb dL_act_172 rfl (lv_at hl 1 rfl) ?_
      refine lv_iconst (v := (0 : Int32)) hx hb dL_act_173 (by decide +kernel) ?_
      refine lv_iconst (v := (0 : Int32)) hx hb dL_act_174 (by decide +kernel) ?_
      refine bRV (W0 := wO cI cS qx a0 a1 a2 a3 b3 a4 sn sc has ([]) (st, tr, hi)) (wc := [(qx, .inr (6, [.ref (a0 0), .ref (a1 0), .ref (a2 0), .ref (a3 0), .ref (a4 0), .int has]))] :: wSt cI a0 st :: []) (r := (fX3_count st.1)) ⟨hx, hb, hml, hown, hts⟩ (KR.eq (kX6_table l D cI cS qx a0 (a1 0) (a2 0) (a3 0) (a4 0) has (0 : Int32) (0 : Int32) st) (tbl_0 st)) (cwV 2 hts gL_act_X6_table rfl rfl rfl (by decide +kernel) ⟨Nat.le_of_ble_eq_true rfl, Nat.le_of_ble_eq_true rfl⟩) hE hP rfl rfl [0, 1] rfl rfl rfl hl.1 rfl (Nat.le_of_ble_eq_true rfl) ⟨Nat.le_of_ble_eq_true rfl, Nat.le_of_ble_eq_true rfl⟩ dL_act_175 ?_
      refine lv_istore (lv' := [(4, .int ((fX3_count st.1))), (3, .int ((0 : Int32))), (0, .ref qx), (2, .int x)]) hx hb dL_act_178 hl (by decide) rfl (fun ls hl => ?_)
      refine lv_aload_n hx hb dL_act_180 rfl (lv_at hl 2 rfl) ?_
      refine lv_iload_n hx hb dL_act_181 rfl (lv_at hl 3 rfl) ?_
      refine lv_iconst (v := (5 : Int32)) hx hb dL_act_182 (by decide +kernel) ?_
      refine cRS (W0 := fl (wO cI cS qx a0 a1 a2 a3 b3 a4 sn sc has ([]) (st, tr, hi))) (r := (nI a5)) ⟨hx, hb, hml, hown, hts⟩ (KR.eq (kL_low l D cI cS x ((5 : Int32)) (by decide)) ea5) (va_cwS 2 hts gL_act_L_low rfl rfl rfl (by decide +kernel) ⟨Nat.le_of_ble_eq_true rfl, Nat.le_of_ble_eq_true rfl⟩) hE hP [] rfl rfl hl.1 rfl (Nat.le_of_ble_eq_true rfl) ⟨Nat.le_of_ble_eq_true rfl, Nat.le_of_ble_eq_true rfl⟩ dL_act_183 ?_
      refine lv_iconst (v := (1 : Int32)) hx hb dL_act_186 (by decide +kernel) ?_
      refine lv_iload_n hx hb dL_act_187 rfl (lv_at hl 3 rfl) ?_
      refine lv_iconst (v := (3 : Int32)) hx hb dL_act_188 (by decide +kernel) ?_
      refine lv_ishr hx hb dL_act_189 ?_
      refine lv_bipush (v := (8 : Int32)) hx hb dL_act_190 (by decide +kernel) ?_
      refine cRS (W0 := fl (wO cI cS qx a0 a1 a2 a3 b3 a4 sn sc has ([]) (st, tr, hi))) (r := (nI b8)) ⟨hx, hb, hml, hown, hts⟩ (KR.eq (kL_low l D cI cS ((x >>> ((3 : Int32) &&& 31))) ((8 : Int32)) (by decide)) eb8) (va_cwS 2 hts gL_act_L_low rfl rfl rfl (by decide +kernel) ⟨Nat.le_of_ble_eq_true rfl, Nat.le_of_ble_eq_true rfl⟩) hE hP [] rfl rfl hl.1 rfl (Nat.le_of_ble_eq_true rfl) ⟨Nat.le_of_ble_eq_true rfl, Nat.le_of_ble_eq_true rfl⟩ dL_act_192 ?_
      refine lv_iadd hx hb dL_act_195 ?_
      refine bIV (W0 := wO cI cS qx a0 a1 a2 a3 b3 a4 sn sc has ([]) (st, tr, hi)) (wc := [(qx, .inr (6, [.ref (a0 0), .ref (a1 0), .ref (a2 0), .ref (a3 0), .ref (a4 0), .int has]))] :: wSt cI a0 st :: wHi cI cS a3 b3 hi []) (w1 := fun u : TPT => [(qx, .inr (6, [.ref (a0 0), .ref (a1 0), .ref (a2 0), .ref (a3 0), .ref (a4 0), .int has]))] :: wSt cI a0 u.1 :: wHi cI cS a3 b3 u.2 []) ⟨hx, hb, hml, hown, hts⟩ (kX6_begin l D cI cS qx a0 a3 b3 (a1 0) (a2 0) (a4 0) has (nI a5) ((1 : Int32) + (nI b8)) (st, hi) hI.ws hh) (cwV 2 hts gL_act_X6_begin rfl rfl rfl (by decide +kernel) ⟨Nat.le_of_ble_eq_true rfl, Nat.le_of_ble_eq_true rfl⟩) hE hP hD hS rfl rfl [0, 1, 4, 5, 6, 7, 8, 9, 10, 11] rfl rfl (fun _ => rfl) (fun _ => rfl) rfl hl.1 rfl (Nat.le_of_ble_eq_true rfl) ⟨Nat.le_of_ble_eq_true rfl, Nat.le_of_ble_eq_true rfl⟩ dL_act_196 (fun r_196 u_196 H locs e_196 hP hD hS => ?_)
      have hP : va_P D vwCl (fl (wO cI cS qx a0 a1 a2 a3 b3 a4 sn sc has ([]) (u_196.1, tr, u_196.2))) H := hP
      have hD : va_D A (fl (wO cI cS qx a0 a1 a2 a3 b3 a4 sn sc has ([]) (u_196.1, tr, u_196.2))) := hD
      rw [eT] at e_196
      cases e_196
      have hP : va_P D vwCl (fl (wO cI cS qx a0 a1 a2 a3 b3 a4 sn sc has ([]) (st, tr, (hiR hi st (-4 : Int32))))) H := hP
      have hD : va_D A (fl (wO cI cS qx a0 a1 a2 a3 b3 a4 sn sc has ([]) (st, tr, (hiR hi st (-4 : Int32))))) := hD
      refine lv_istore (lv' := [(5, .int ((-4 : Int32))), (4, .int ((fX3_count st.1))), (3, .int ((0 : Int32))), (0, .ref qx), (2, .int x)]) hx hb dL_act_199 hl (by decide) rfl (fun ls hl => ?_)
      refine lv_iload_n hx hb dL_act_201 rfl (lv_at hl 2 rfl) ?_
      refine lv_if_eq (tgt := 285) hx hb dL_act_202 (by decide) (fun _ => ?_) (fun c => absurd (show (0 : Int32) = (0 : Int32) by decide) c)
      refine lv_iload hx hb dL_act_285 (lv_at hl 0 rfl) ?_
      refine lv_bipush (v := (-4 : Int32)) hx hb dL_act_287 (by decide +kernel) ?_
      refine lv_icmp_ne (tgt := 296) hx hb dL_act_289 (by decide) (fun c => absurd (show (-4 : Int32) = (-4 : Int32) by decide) c) (fun _ => ?_)
      refine lv_iconst (v := (1 : Int32)) hx hb dL_act_292 (by decide +kernel) ?_
      refine lv_goto (tgt := 297) hx hb dL_act_293 (by decide) ?_
      exact hend _ _ _ (st, tr, (hiR hi st (-4 : Int32))) _ _ _ _ dL_act_297 rfl (by decide) (by decide) ⟨rfl, hI.mono (by omega), (hh.rec hbo (-4 : Int32))⟩ hP hS
  have J_298 : ∀ ls : Array Slot, lv_has ls 6 [(0, .ref qx), (2, .int x)] → W p l e { frames := 7, cells := 2, slots := 64, locals := 161 } s m args below meth c s.heap [] 0 0 Q (F0 m 298 ls []) := by
    intro ls hl
    obtain ⟨a9, ha9, ea9⟩ := low_is x (n := (9 : Int32)) (N := 9) rfl (by omega) (by omega)
    refine lv_aload_n hx hb dL_act_298 rfl (lv_at hl 0 rfl) ?_
    refine lv_iconst (v := (1 : Int32)) hx hb dL_act_299 (by decide +kernel) ?_
    refine lv_iload_n hx hb dL_act_300 rfl (lv_at hl 1 rfl) ?_
    refine lv_bipush (v := (9 : Int32)) hx hb dL_act_301 (by decide +kernel) ?_
    refine cRS (W0 := fl (wO cI cS qx a0 a1 a2 a3 b3 a4 sn sc has ([]) (st, tr, hi))) (r := (nI a9)) ⟨hx, hb, hml, hown, hts⟩ (KR.eq (kL_low l D cI cS x ((9 : Int32)) (by decide)) ea9) (va_cwS 2 hts gL_act_L_low rfl rfl rfl (by decide +kernel) ⟨Nat.le_of_ble_eq_true rfl, Nat.le_of_ble_eq_true rfl⟩) hE hP [] rfl rfl hl.1 rfl (Nat.le_of_ble_eq_true rfl) ⟨Nat.le_of_ble_eq_true rfl, Nat.le_of_ble_eq_true rfl⟩ dL_act_303 ?_
    refine lv_iadd hx hb dL_act_306 ?_
    rw [one_add a9]
    refine bQS ⟨hx, hb, hml, hown, hts⟩ (kL_ticks l D cI cS qx a0 a1 a2 a3 b3 a4 sn sc has st tr hi hI hh he (a9 + 1) (by omega) (by omega)) (va_cwS 2 hts gL_act_L_ticks rfl rfl rfl (by decide +kernel) ⟨Nat.le_of_ble_eq_true rfl, Nat.le_of_ble_eq_true rfl⟩) hE hP hD hA hS hX (fun _ => rfl) rfl hl.1 rfl (Nat.le_of_ble_eq_true rfl) ⟨Nat.le_of_ble_eq_true rfl, Nat.le_of_ble_eq_true rfl⟩ dL_act_307 (fun r_307 u_307 H locs e_307 hP hD hS => ?_)
    obtain ⟨q1, q2, q3⟩ := e_307
    subst q1
    have hP : va_P D vwCl (fl (wO cI cS qx a0 a1 a2 a3 b3 a4 sn sc has ([]) (u_307.1, tr, u_307.2))) H := hP
    have hD : va_D A (fl (wO cI cS qx a0 a1 a2 a3 b3 a4 sn sc has ([]) (u_307.1, tr, u_307.2))) := hD
    exact hend _ _ _ (u_307.1, tr, u_307.2) _ _ _ _ dL_act_310 rfl (by decide) (by decide) ⟨rfl, q2.mono (by omega), q3⟩ hP hS
  have J_311 : ∀ ls : Array Slot, lv_has ls 6 [(0, .ref qx), (2, .int x)] → W p l e { frames := 7, cells := 2, slots := 64, locals := 161 } s m args below meth c s.heap [] 0 0 Q (F0 m 311 ls []) := by
    intro ls hl
    obtain ⟨a9, ha9, ea9⟩ := low_is x (n := (99 : Int32)) (N := 99) rfl (by omega) (by omega)
    refine lv_aload_n hx hb dL_act_311 rfl (lv_at hl 0 rfl) ?_
    refine lv_iconst (v := (1 : Int32)) hx hb dL_act_312 (by decide +kernel) ?_
    refine lv_iload_n hx hb dL_act_313 rfl (lv_at hl 1 rfl) ?_
    refine lv_bipush (v := (99 : Int32)) hx hb dL_act_314 (by decide +kernel) ?_
    refine cRS (W0 := fl (wO cI cS qx a0 a1 a2 a3 b3 a4 sn sc has ([]) (st, tr, hi))) (r := (nI a9)) ⟨hx, hb, hml, hown, hts⟩ (KR.eq (kL_low l D cI cS x ((99 : Int32)) (by decide)) ea9) (va_cwS 2 hts gL_act_L_low rfl rfl rfl (by decide +kernel) ⟨Nat.le_of_ble_eq_true rfl, Nat.le_of_ble_eq_true rfl⟩) hE hP [] rfl rfl hl.1 rfl (Nat.le_of_ble_eq_true rfl) ⟨Nat.le_of_ble_eq_true rfl, Nat.le_of_ble_eq_true rfl⟩ dL_act_316 ?_
    refine lv_iadd hx hb dL_act_319 ?_
    rw [one_add a9]
    refine bQS ⟨hx, hb, hml, hown, hts⟩ (kL_readySo l D cI cS qx a0 a1 a2 a3 b3 a4 sn sc has st tr hi hI hh (a9 + 1) (by omega) (by omega)) (va_cwS 2 hts gL_act_L_readySo rfl rfl rfl (by decide +kernel) ⟨Nat.le_of_ble_eq_true rfl, Nat.le_of_ble_eq_true rfl⟩) hE hP hD hA hS hX (fun _ => rfl) rfl hl.1 rfl (Nat.le_of_ble_eq_true rfl) ⟨Nat.le_of_ble_eq_true rfl, Nat.le_of_ble_eq_true rfl⟩ dL_act_320 (fun r_320 u_320 H locs e_320 hP hD hS => ?_)
    obtain ⟨q1, q3⟩ := e_320
    subst q1
    have hP : va_P D vwCl (fl (wO cI cS qx a0 a1 a2 a3 b3 a4 sn sc has ([]) (st, u_320.1, u_320.2))) H := hP
    have hD : va_D A (fl (wO cI cS qx a0 a1 a2 a3 b3 a4 sn sc has ([]) (st, u_320.1, u_320.2))) := hD
    exact hend _ _ _ (st, u_320.1, u_320.2) _ _ _ _ dL_act_323 rfl (by decide) (by decide) ⟨rfl, hI.mono (by omega), q3⟩ hP hS
  have J_324 : ∀ ls : Array Slot, lv_has ls 6 [(0, .ref qx), (2, .int x)] → W p l e { frames := 7, cells := 2, slots := 64, locals := 161 } s m args below meth c s.heap [] 0 0 Q (F0 m 324 ls []) := by
    intro ls hl
    rcases hI.lock with ⟨h2, u1, eS, hI1, y1, y2⟩ | ⟨hn, eS⟩
    · have h0 : ¬ st.2.2.2.1.2.2.1 = (0 : Int32) := by rw [h2]; decide
      have eT : fX6_lock (st, hi) = (st.2.2.2.1.2.1.2.2.2, (u1, hiR hi st st.2.2.2.1.2.1.2.2.2)) := by rw [lock_eq, eS]
      refine lv_aload_n hx hb dL_act_324 rfl (lv_at hl 0 rfl) ?_
      refine lv_iconst (v := (0 : Int32)) hx hb dL_act_325 (by decide +kernel) ?_
      refine bRV (W0 := wO cI cS qx a0 a1 a2 a3 b3 a4 sn sc has ([]) (st, tr, hi)) (wc := [(qx, .inr (6, [.ref (a0 0), .ref (a1 0), .ref (a2 0), .ref (a3 0), .ref (a4 0), .int has]))] :: wSt cI a0 st :: []) (r := (2 : Int32)) ⟨hx, hb, hml, hown, hts⟩ (KR.eq (kX6_copy l D cI cS qx a0 (a1 0) (a2 0) (a3 0) (a4 0) has (0 : Int32) st) ((cp_0 st).trans h2)) (cwV 1 hts gL_act_X6_copy rfl rfl rfl (by decide +kernel) ⟨Nat.le_of_ble_eq_true rfl, Nat.le_of_ble_eq_true rfl⟩) hE hP rfl rfl [0, 1] rfl rfl rfl hl.1 rfl (Nat.le_of_ble_eq_true rfl) ⟨Nat.le_of_ble_eq_true rfl, Nat.le_of_ble_eq_true rfl⟩ dL_act_326 ?_
      refine lv_iconst (v := (2 : Int32)) hx hb dL_act_329 (by decide +kernel) ?_
      refine lv_icmp_ne (tgt := 341) hx hb dL_act_330 (by decide) (fun c => absurd (show (2 : Int32) = (2 : Int32) by decide) c) (fun _ => ?_)
      refine lv_aload_n hx hb dL_act_333 rfl (lv_at hl 0 rfl) ?_
      refine lv_iconst (v := (4 : Int32)) hx hb dL_act_334 (by decide +kernel) ?_
      refine bRV (W0 := wO cI cS qx a0 a1 a2 a3 b3 a4 sn sc has ([]) (st, tr, hi)) (wc := [(qx, .inr (6, [.ref (a0 0), .ref (a1 0), .ref (a2 0), .ref (a3 0), .ref (a4 0), .int has]))] :: wSt cI a0 st :: []) (r := st.2.2.2.1.2.1.2.2.2) ⟨hx, hb, hml, hown, hts⟩ (KR.eq (kX6_copy l D cI cS qx a0 (a1 0) (a2 0) (a3 0) (a4 0) has (4 : Int32) st) (cp_4 h0)) (cwV 1 hts gL_act_X6_copy rfl rfl rfl (by decide +kernel) ⟨Nat.le_of_ble_eq_true rfl, Nat.le_of_ble_eq_true rfl⟩) hE hP rfl rfl [0, 1] rfl rfl rfl hl.1 rfl (Nat.le_of_ble_eq_true rfl) ⟨Nat.le_of_ble_eq_true rfl, Nat.le_of_ble_eq_true rfl⟩ dL_act_335 ?_
      refine lv_goto (tgt := 343) hx hb dL_act_338 (by decide) ?_
      refine lv_istore_n (lv' := [(3, .int st.2.2.2.1.2.1.2.2.2), (0, .ref qx), (2, .int x)]) hx hb dL_act_343 rfl hl (by decide) rfl (fun ls hl => ?_)
      refine lv_aload_n hx hb dL_act_344 rfl (lv_at hl 1 rfl) ?_
      refine bIV (W0 := wO cI cS qx a0 a1 a2 a3 b3 a4 sn sc has ([]) (st, tr, hi)) (wc := [(qx, .inr (6, [.ref (a0 0), .ref (a1 0), .ref (a2 0), .ref (a3 0), .ref (a4 0), .int has]))] :: wSt cI a0 st :: wHi cI cS a3 b3 hi []) (w1 := fun u : TPT => [(qx, .inr (6, [.ref (a0 0), .ref (a1 0), .ref (a2 0), .ref (a3 0), .ref (a4 0), .int has]))] :: wSt cI a0 u.1 :: wHi cI cS a3 b3 u.2 []) ⟨hx, hb, hml, hown, hts⟩ (kX6_lock l D cI cS qx a0 a3 b3 (a1 0) (a2 0) (a4 0) has (st, hi) hI.ws hh) (cwV 0 hts gL_act_X6_lock rfl rfl rfl (by decide +kernel) ⟨Nat.le_of_ble_eq_true rfl, Nat.le_of_ble_eq_true rfl⟩) hE hP hD hS rfl rfl [0, 1, 4, 5, 6, 7, 8, 9, 10, 11] rfl rfl (fun _ => rfl) (fun _ => rfl) rfl hl.1 rfl (Nat.le_of_ble_eq_true rfl) ⟨Nat.le_of_ble_eq_true rfl, Nat.le_of_ble_eq_true rfl⟩ dL_act_345 (fun r_345 u_345 H locs e_345 hP hD hS => ?_)
      have hP : va_P D vwCl (fl (wO cI cS qx a0 a1 a2 a3 b3 a4 sn sc has ([]) (u_345.1, tr, u_345.2))) H := hP
      have hD : va_D A (fl (wO cI cS qx a0 a1 a2 a3 b3 a4 sn sc has ([]) (u_345.1, tr, u_345.2))) := hD
      rw [eT] at e_345
      cases e_345
      have hP : va_P D vwCl (fl (wO cI cS qx a0 a1 a2 a3 b3 a4 sn sc has ([]) (u1, tr, (hiR hi st st.2.2.2.1.2.1.2.2.2)))) H := hP
      have hD : va_D A (fl (wO cI cS qx a0 a1 a2 a3 b3 a4 sn sc has ([]) (u1, tr, (hiR hi st st.2.2.2.1.2.1.2.2.2)))) := hD
      refine lv_iload_n hx hb dL_act_348 rfl (lv_at hl 0 rfl) ?_
      refine lv_icmp_ne (tgt := 377) hx hb dL_act_349 (by decide) (fun c => absurd rfl c) (fun _ => ?_)
      refine lv_iload_n hx hb dL_act_352 rfl (lv_at hl 0 rfl) ?_
      refine lv_if_lt (tgt := 373) hx hb dL_act_353 (by decide) (fun c => absurd c (bd_nn hzb (by omega))) (fun _ => ?_)
      refine lv_aload_n hx hb dL_act_356 rfl (lv_at hl 1 rfl) ?_
      refine lv_iconst (v := (0 : Int32)) hx hb dL_act_357 (by decide +kernel) ?_
      refine bRV (W0 := wO cI cS qx a0 a1 a2 a3 b3 a4 sn sc has ([]) (u1, tr, (hiR hi st st.2.2.2.1.2.1.2.2.2))) (wc := [(qx, .inr (6, [.ref (a0 0), .ref (a1 0), .ref (a2 0), .ref (a3 0), .ref (a4 0), .int has]))] :: wSt cI a0 u1 :: []) (r := (3 : Int32)) ⟨hx, hb, hml, hown, hts⟩ (KR.eq (kX6_copy l D cI cS qx a0 (a1 0) (a2 0) (a3 0) (a4 0) has (0 : Int32) u1) ((cp_0 u1).trans y1)) (cwV 1 hts gL_act_X6_copy rfl rfl rfl (by decide +kernel) ⟨Nat.le_of_ble_eq_true rfl, Nat.le_of_ble_eq_true rfl⟩) hE hP rfl rfl [0, 1] rfl rfl rfl hl.1 rfl (Nat.le_of_ble_eq_true rfl) ⟨Nat.le_of_ble_eq_true rfl, Nat.le_of_ble_eq_true rfl⟩ dL_act_358 ?_
      refine lv_iconst (v := (3 : Int32)) hx hb dL_act_361 (by decide +kernel) ?_
      refine lv_icmp_ne (tgt := 377) hx hb dL_act_362 (by decide) (fun c => absurd (show (3 : Int32) = (3 : Int32) by decide) c) (fun _ => ?_)
      refine lv_aload_n hx hb dL_act_365 rfl (lv_at hl 1 rfl) ?_
      refine lv_iconst (v := (5 : Int32)) hx hb dL_act_366 (by decide +kernel) ?_
      refine bRV (W0 := wO cI cS qx a0 a1 a2 a3 b3 a4 sn sc has ([]) (u1, tr, (hiR hi st st.2.2.2.1.2.1.2.2.2))) (wc := [(qx, .inr (6, [.ref (a0 0), .ref (a1 0), .ref (a2 0), .ref (a3 0), .ref (a4 0), .int has]))] :: wSt cI a0 u1 :: []) (r := (0 : Int32)) ⟨hx, hb, hml, hown, hts⟩ (KR.eq (kX6_copy l D cI cS qx a0 (a1 0) (a2 0) (a3 0) (a4 0) has (5 : Int32) u1) ((cp_5 u1).trans ((if_pos y1).trans y2))) (cwV 1 hts gL_act_X6_copy rfl rfl rfl (by decide +kernel) ⟨Nat.le_of_ble_eq_true rfl, Nat.le_of_ble_eq_true rfl⟩) hE hP rfl rfl [0, 1] rfl rfl rfl hl.1 rfl (Nat.le_of_ble_eq_true rfl) ⟨Nat.le_of_ble_eq_true rfl, Nat.le_of_ble_eq_true rfl⟩ dL_act_367 ?_
      refine lv_if_ne (tgt := 377) hx hb dL_act_370 (by decide) (fun c => absurd (show (0 : Int32) = (0 : Int32) by decide) c) (fun _ => ?_)
      refine lv_iconst (v := (1 : Int32)) hx hb dL_act_373 (by decide +kernel) ?_
      refine lv_goto (tgt := 378) hx hb dL_act_374 (by decide) ?_
      exact hend _ _ _ (u1, tr, (hiR hi st st.2.2.2.1.2.1.2.2.2)) _ _ _ _ dL_act_378 rfl (by decide) (by decide) ⟨rfl, hI1.mono (by omega), (hh.rec hbo st.2.2.2.1.2.1.2.2.2)⟩ hP hS
    · have eT : fX6_lock (st, hi) = ((-4 : Int32), (st, hiR hi st ((-4 : Int32)))) := by rw [lock_eq, eS]
      refine lv_aload_n hx hb dL_act_324 rfl (lv_at hl 0 rfl) ?_
      refine lv_iconst (v := (0 : Int32)) hx hb dL_act_325 (by decide +kernel) ?_
      refine bRV (W0 := wO cI cS qx a0 a1 a2 a3 b3 a4 sn sc has ([]) (st, tr, hi)) (wc := [(qx, .inr (6, [.ref (a0 0), .ref (a1 0), .ref (a2 0), .ref (a3 0), .ref (a4 0), .int has]))] :: wSt cI a0 st :: []) (r := st.2.2.2.1.2.2.1) ⟨hx, hb, hml, hown, hts⟩ (KR.eq (kX6_copy l D cI cS qx a0 (a1 0) (a2 0) (a3 0) (a4 0) has (0 : Int32) st) (cp_0 st)) (cwV 1 hts gL_act_X6_copy rfl rfl rfl (by decide +kernel) ⟨Nat.le_of_ble_eq_true rfl, Nat.le_of_ble_eq_true rfl⟩) hE hP rfl rfl [0, 1] rfl rfl rfl hl.1 rfl (Nat.le_of_ble_eq_true rfl) ⟨Nat.le_of_ble_eq_true rfl, Nat.le_of_ble_eq_true rfl⟩ dL_act_326 ?_
      refine lv_iconst (v := (2 : Int32)) hx hb dL_act_329 (by decide +kernel) ?_
      refine lv_icmp_ne (tgt := 341) hx hb dL_act_330 (by decide) (fun _ => ?_) (fun c => absurd c hn)
      refine lv_bipush (v := (-4 : Int32)) hx hb dL_act_341 (by decide +kernel) ?_
      refine lv_istore_n (lv' := [(3, .int ((-4 : Int32))), (0, .ref qx), (2, .int x)]) hx hb dL_act_343 rfl hl (by decide) rfl (fun ls hl => ?_)
      refine lv_aload_n hx hb dL_act_344 rfl (lv_at hl 1 rfl) ?_
      refine bIV (W0 := wO cI cS qx a0 a1 a2 a3 b3 a4 sn sc has ([]) (st, tr, hi)) (wc := [(qx, .inr (6, [.ref (a0 0), .ref (a1 0), .ref (a2 0), .ref (a3 0), .ref (a4 0), .int has]))] :: wSt cI a0 st :: wHi cI cS a3 b3 hi []) (w1 := fun u : TPT => [(qx, .inr (6, [.ref (a0 0), .ref (a1 0), .ref (a2 0), .ref (a3 0), .ref (a4 0), .int has]))] :: wSt cI a0 u.1 :: wHi cI cS a3 b3 u.2 []) ⟨hx, hb, hml, hown, hts⟩ (kX6_lock l D cI cS qx a0 a3 b3 (a1 0) (a2 0) (a4 0) has (st, hi) hI.ws hh) (cwV 0 hts gL_act_X6_lock rfl rfl rfl (by decide +kernel) ⟨Nat.le_of_ble_eq_true rfl, Nat.le_of_ble_eq_true rfl⟩) hE hP hD hS rfl rfl [0, 1, 4, 5, 6, 7, 8, 9, 10, 11] rfl rfl (fun _ => rfl) (fun _ => rfl) rfl hl.1 rfl (Nat.le_of_ble_eq_true rfl) ⟨Nat.le_of_ble_eq_true rfl, Nat.le_of_ble_eq_true rfl⟩ dL_act_345 (fun r_345 u_345 H locs e_345 hP hD hS => ?_)
      have hP : va_P D vwCl (fl (wO cI cS qx a0 a1 a2 a3 b3 a4 sn sc has ([]) (u_345.1, tr, u_345.2))) H := hP
      have hD : va_D A (fl (wO cI cS qx a0 a1 a2 a3 b3 a4 sn sc has ([]) (u_345.1, tr, u_345.2))) := hD
      rw [eT] at e_345
      cases e_345
      have hP : va_P D vwCl (fl (wO cI cS qx a0 a1 a2 a3 b3 a4 sn sc has ([]) (st, tr, (hiR hi st (-4 : Int32))))) H := hP
      have hD : va_D A (fl (wO cI cS qx a0 a1 a2 a3 b3 a4 sn sc has ([]) (st, tr, (hiR hi st (-4 : Int32))))) := hD
      refine lv_iload_n hx hb dL_act_348 rfl (lv_at hl 0 rfl) ?_
      refine lv_icmp_ne (tgt := 377) hx hb dL_act_349 (by decide) (fun c => absurd (show (-4 : Int32) = (-4 : Int32) by decide) c) (fun _ => ?_)
      refine lv_iload_n hx hb dL_act_352 rfl (lv_at hl 0 rfl) ?_
      refine lv_if_lt (tgt := 373) hx hb dL_act_353 (by decide) (fun _ => ?_) (fun c => absurd (show (-4 : Int32) < (0 : Int32) by decide) c)
      refine lv_iconst (v := (1 : Int32)) hx hb dL_act_373 (by decide +kernel) ?_
      refine lv_goto (tgt := 378) hx hb dL_act_374 (by decide) ?_
      exact hend _ _ _ (st, tr, (hiR hi st (-4 : Int32))) _ _ _ _ dL_act_378 rfl (by decide) (by decide) ⟨rfl, hI.mono (by omega), (hh.rec hbo (-4 : Int32))⟩ hP hS
  have J_379 : ∀ ls : Array Slot, lv_has ls 6 [(0, .ref qx), (2, .int x)] → W p l e { frames := 7, cells := 2, slots := 64, locals := 161 } s m args below meth c s.heap [] 0 0 Q (F0 m 379 ls []) := by
    intro ls hl
    obtain ⟨a2v, ha2v, ea2v⟩ := low_is x (n := (2 : Int32)) (N := 2) rfl (by omega) (by omega)
    rcases hI.unlock with ⟨h3, u1, eS, hI1, y1⟩ | ⟨hn, eS⟩
    · have eT : fX6_unlock (st, hi) = (st.2.2.2.1.2.2.2.2.2.2, (u1, hiR hi st st.2.2.2.1.2.2.2.2.2.2)) := by rw [unlock_eq, eS]
      refine lv_aload_n hx hb dL_act_379 rfl (lv_at hl 0 rfl) ?_
      refine lv_iconst (v := (0 : Int32)) hx hb dL_act_380 (by decide +kernel) ?_
      refine bRV (W0 := wO cI cS qx a0 a1 a2 a3 b3 a4 sn sc has ([]) (st, tr, hi)) (wc := [(qx, .inr (6, [.ref (a0 0), .ref (a1 0), .ref (a2 0), .ref (a3 0), .ref (a4 0), .int has]))] :: wSt cI a0 st :: []) (r := (3 : Int32)) ⟨hx, hb, hml, hown, hts⟩ (KR.eq (kX6_copy l D cI cS qx a0 (a1 0) (a2 0) (a3 0) (a4 0) has (0 : Int32) st) ((cp_0 st).trans h3)) (cwV 1 hts gL_act_X6_copy rfl rfl rfl (by decide +kernel) ⟨Nat.le_of_ble_eq_true rfl, Nat.le_of_ble_eq_true rfl⟩) hE hP rfl rfl [0, 1] rfl rfl rfl hl.1 rfl (Nat.le_of_ble_eq_true rfl) ⟨Nat.le_of_ble_eq_true rfl, Nat.le_of_ble_eq_true rfl⟩ dL_act_381 ?_
      refine lv_iconst (v := (3 : Int32)) hx hb dL_act_384 (by decide +kernel) ?_
      refine lv_icmp_ne (tgt := 396) hx hb dL_act_385 (by decide) (fun c => absurd (show (3 : Int32) = (3 : Int32) by decide) c) (fun _ => ?_)
      refine lv_aload_n hx hb dL_act_388 rfl (lv_at hl 0 rfl) ?_
      refine lv_iconst (v := (5 : Int32)) hx hb dL_act_389 (by decide +kernel) ?_
      refine bRV (W0 := wO cI cS qx a0 a1 a2 a3 b3 a4 sn sc has ([]) (st, tr, hi)) (wc := [(qx, .inr (6, [.ref (a0 0), .ref (a1 0), .ref (a2 0), .ref (a3 0), .ref (a4 0), .int has]))] :: wSt cI a0 st :: []) (r := st.2.2.2.1.2.2.2.2.2.2) ⟨hx, hb, hml, hown, hts⟩ (KR.eq (kX6_copy l D cI cS qx a0 (a1 0) (a2 0) (a3 0) (a4 0) has (5 : Int32) st) ((cp_5 st).trans (if_pos h3))) (cwV 1 hts gL_act_X6_copy rfl rfl rfl (by decide +kernel) ⟨Nat.le_of_ble_eq_true rfl, Nat.le_of_ble_eq_true rfl⟩) hE hP rfl rfl [0, 1] rfl rfl rfl hl.1 rfl (Nat.le_of_ble_eq_true rfl) ⟨Nat.le_of_ble_eq_true rfl, Nat.le_of_ble_eq_true rfl⟩ dL_act_390 ?_
      refine lv_goto (tgt := 398) hx hb dL_act_393 (by decide) ?_
      refine lv_istore_n (lv' := [(3, .int st.2.2.2.1.2.2.2.2.2.2), (0, .ref qx), (2, .int x)]) hx hb dL_act_398 rfl hl (by decide) rfl (fun ls hl => ?_)
      refine lv_iload_n hx hb dL_act_399 rfl (lv_at hl 2 rfl) ?_
      refine lv_iconst (v := (2 : Int32)) hx hb dL_act_400 (by decide +kernel) ?_
      refine cRS (W0 := fl (wO cI cS qx a0 a1 a2 a3 b3 a4 sn sc has ([]) (st, tr, hi))) (r := (nI a2v)) ⟨hx, hb, hml, hown, hts⟩ (KR.eq (kL_low l D cI cS x ((2 : Int32)) (by decide)) ea2v) (va_cwS 2 hts gL_act_L_low rfl rfl rfl (by decide +kernel) ⟨Nat.le_of_ble_eq_true rfl, Nat.le_of_ble_eq_true rfl⟩) hE hP [] rfl rfl hl.1 rfl (Nat.le_of_ble_eq_true rfl) ⟨Nat.le_of_ble_eq_true rfl, Nat.le_of_ble_eq_true rfl⟩ dL_act_401 ?_
      refine lv_if_eq (tgt := 428) hx hb dL_act_404 (by decide) (fun c_404 => ?_) (fun c_404 => ?_)
      · refine lv_iconst (v := (1 : Int32)) hx hb dL_act_428 (by decide +kernel) ?_
        refine lv_goto (tgt := 433) hx hb dL_act_429 (by decide) ?_
        exact hend _ _ _ (st, tr, hi) _ _ _ _ dL_act_433 rfl (by decide) (by decide) ⟨rfl, hI.mono (by omega), hh⟩ hP hS
      · refine lv_aload_n hx hb dL_act_407 rfl (lv_at hl 1 rfl) ?_
        refine bIV (W0 := wO cI cS qx a0 a1 a2 a3 b3 a4 sn sc has ([]) (st, tr, hi)) (wc := [(qx, .inr (6, [.ref (a0 0), .ref (a1 0), .ref (a2 0), .ref (a3 0), .ref (a4 0), .int has]))] :: wSt cI a0 st :: wHi cI cS a3 b3 hi []) (w1 := fun u : TPT => [(qx, .inr (6, [.ref (a0 0), .ref (a1 0), .ref (a2 0), .ref (a3 0), .ref (a4 0), .int has]))] :: wSt cI a0 u.1 :: wHi cI cS a3 b3 u.2 []) ⟨hx, hb, hml, hown, hts⟩ (kX6_unlock l D cI cS qx a0 a3 b3 (a1 0) (a2 0) (a4 0) has (st, hi) hI.ws hh) (cwV 0 hts gL_act_X6_unlock rfl rfl rfl (by decide +kernel) ⟨Nat.le_of_ble_eq_true rfl, Nat.le_of_ble_eq_true rfl⟩) hE hP hD hS rfl rfl [0, 1, 4, 5, 6, 7, 8, 9, 10, 11] rfl rfl (fun _ => rfl) (fun _ => rfl) rfl hl.1 rfl (Nat.le_of_ble_eq_true rfl) ⟨Nat.le_of_ble_eq_true rfl, Nat.le_of_ble_eq_true rfl⟩ dL_act_408 (fun r_408 u_408 H locs e_408 hP hD hS => ?_)
        have hP : va_P D vwCl (fl (wO cI cS qx a0 a1 a2 a3 b3 a4 sn sc has ([]) (u_408.1, tr, u_408.2))) H := hP
        have hD : va_D A (fl (wO cI cS qx a0 a1 a2 a3 b3 a4 sn sc has ([]) (u_408.1, tr, u_408.2))) := hD
        rw [eT] at e_408
        cases e_408
        have hP : va_P D vwCl (fl (wO cI cS qx a0 a1 a2 a3 b3 a4 sn sc has ([]) (u1, tr, (hiR hi st st.2.2.2.1.2.2.2.2.2.2)))) H := hP
        have hD : va_D A (fl (wO cI cS qx a0 a1 a2 a3 b3 a4 sn sc has ([]) (u1, tr, (hiR hi st st.2.2.2.1.2.2.2.2.2.2)))) := hD
        refine lv_iload_n hx hb dL_act_411 rfl (lv_at hl 0 rfl) ?_
        refine lv_icmp_ne (tgt := 432) hx hb dL_act_412 (by decide) (fun c => absurd rfl c) (fun _ => ?_)
        refine lv_iload_n hx hb dL_act_415 rfl (lv_at hl 0 rfl) ?_
        refine lv_if_lt (tgt := 428) hx hb dL_act_416 (by decide) (fun c => absurd c (bd_nn hab (by omega))) (fun _ => ?_)
        refine lv_aload_n hx hb dL_act_419 rfl (lv_at hl 1 rfl) ?_
        refine lv_iconst (v := (0 : Int32)) hx hb dL_act_420 (by decide +kernel) ?_
        refine bRV (W0 := wO cI cS qx a0 a1 a2 a3 b3 a4 sn sc has ([]) (u1, tr, (hiR hi st st.2.2.2.1.2.2.2.2.2.2))) (wc := [(qx, .inr (6, [.ref (a0 0), .ref (a1 0), .ref (a2 0), .ref (a3 0), .ref (a4 0), .int has]))] :: wSt cI a0 u1 :: []) (r := (2 : Int32)) ⟨hx, hb, hml, hown, hts⟩ (KR.eq (kX6_copy l D cI cS qx a0 (a1 0) (a2 0) (a3 0) (a4 0) has (0 : Int32) u1) ((cp_0 u1).trans y1)) (cwV 1 hts gL_act_X6_copy rfl rfl rfl (by decide +kernel) ⟨Nat.le_of_ble_eq_true rfl, Nat.le_of_ble_eq_true rfl⟩) hE hP rfl rfl [0, 1] rfl rfl rfl hl.1 rfl (Nat.le_of_ble_eq_true rfl) ⟨Nat.le_of_ble_eq_true rfl, Nat.le_of_ble_eq_true rfl⟩ dL_act_421 ?_
        refine lv_iconst (v := (2 : Int32)) hx hb dL_act_424 (by decide +kernel) ?_
        refine lv_icmp_ne (tgt := 432) hx hb dL_act_425 (by decide) (fun c => absurd (show (2 : Int32) = (2 : Int32) by decide) c) (fun _ => ?_)
        refine lv_iconst (v := (1 : Int32)) hx hb dL_act_428 (by decide +kernel) ?_
        refine lv_goto (tgt := 433) hx hb dL_act_429 (by decide) ?_
        exact hend _ _ _ (u1, tr, (hiR hi st st.2.2.2.1.2.2.2.2.2.2)) _ _ _ _ dL_act_433 rfl (by decide) (by decide) ⟨rfl, hI1.mono (by omega), (hh.rec hbo st.2.2.2.1.2.2.2.2.2.2)⟩ hP hS
    · have eT : fX6_unlock (st, hi) = ((-4 : Int32), (st, hiR hi st ((-4 : Int32)))) := by rw [unlock_eq, eS]
      refine lv_aload_n hx hb dL_act_379 rfl (lv_at hl 0 rfl) ?_
      refine lv_iconst (v := (0 : Int32)) hx hb dL_act_380 (by decide +kernel) ?_
      refine bRV (W0 := wO cI cS qx a0 a1 a2 a3 b3 a4 sn sc has ([]) (st, tr, hi)) (wc := [(qx, .inr (6, [.ref (a0 0), .ref (a1 0), .ref (a2 0), .ref (a3 0), .ref (a4 0), .int has]))] :: wSt cI a0 st :: []) (r := st.2.2.2.1.2.2.1) ⟨hx, hb, hml, hown, hts⟩ (KR.eq (kX6_copy l D cI cS qx a0 (a1 0) (a2 0) (a3 0) (a4 0) has (0 : Int32) st) (cp_0 st)) (cwV 1 hts gL_act_X6_copy rfl rfl rfl (by decide +kernel) ⟨Nat.le_of_ble_eq_true rfl, Nat.le_of_ble_eq_true rfl⟩) hE hP rfl rfl [0, 1] rfl rfl rfl hl.1 rfl (Nat.le_of_ble_eq_true rfl) ⟨Nat.le_of_ble_eq_true rfl, Nat.le_of_ble_eq_true rfl⟩ dL_act_381 ?_
      refine lv_iconst (v := (3 : Int32)) hx hb dL_act_384 (by decide +kernel) ?_
      refine lv_icmp_ne (tgt := 396) hx hb dL_act_385 (by decide) (fun _ => ?_) (fun c => absurd c hn)
      refine lv_bipush (v := (-4 : Int32)) hx hb dL_act_396 (by decide +kernel) ?_
      refine lv_istore_n (lv' := [(3, .int ((-4 : Int32))), (0, .ref qx), (2, .int x)]) hx hb dL_act_398 rfl hl (by decide) rfl (fun ls hl => ?_)
      refine lv_iload_n hx hb dL_act_399 rfl (lv_at hl 2 rfl) ?_
      refine lv_iconst (v := (2 : Int32)) hx hb dL_act_400 (by decide +kernel) ?_
      refine cRS (W0 := fl (wO cI cS qx a0 a1 a2 a3 b3 a4 sn sc has ([]) (st, tr, hi))) (r := (nI a2v)) ⟨hx, hb, hml, hown, hts⟩ (KR.eq (kL_low l D cI cS x ((2 : Int32)) (by decide)) ea2v) (va_cwS 2 hts gL_act_L_low rfl rfl rfl (by decide +kernel) ⟨Nat.le_of_ble_eq_true rfl, Nat.le_of_ble_eq_true rfl⟩) hE hP [] rfl rfl hl.1 rfl (Nat.le_of_ble_eq_true rfl) ⟨Nat.le_of_ble_eq_true rfl, Nat.le_of_ble_eq_true rfl⟩ dL_act_401 ?_
      refine lv_if_eq (tgt := 428) hx hb dL_act_404 (by decide) (fun c_404 => ?_) (fun c_404 => ?_)
      · refine lv_iconst (v := (1 : Int32)) hx hb dL_act_428 (by decide +kernel) ?_
        refine lv_goto (tgt := 433) hx hb dL_act_429 (by decide) ?_
        exact hend _ _ _ (st, tr, hi) _ _ _ _ dL_act_433 rfl (by decide) (by decide) ⟨rfl, hI.mono (by omega), hh⟩ hP hS
      · refine lv_aload_n hx hb dL_act_407 rfl (lv_at hl 1 rfl) ?_
        refine bIV (W0 := wO cI cS qx a0 a1 a2 a3 b3 a4 sn sc has ([]) (st, tr, hi)) (wc := [(qx, .inr (6, [.ref (a0 0), .ref (a1 0), .ref (a2 0), .ref (a3 0), .ref (a4 0), .int has]))] :: wSt cI a0 st :: wHi cI cS a3 b3 hi []) (w1 := fun u : TPT => [(qx, .inr (6, [.ref (a0 0), .ref (a1 0), .ref (a2 0), .ref (a3 0), .ref (a4 0), .int has]))] :: wSt cI a0 u.1 :: wHi cI cS a3 b3 u.2 []) ⟨hx, hb, hml, hown, hts⟩ (kX6_unlock l D cI cS qx a0 a3 b3 (a1 0) (a2 0) (a4 0) has (st, hi) hI.ws hh) (cwV 0 hts gL_act_X6_unlock rfl rfl rfl (by decide +kernel) ⟨Nat.le_of_ble_eq_true rfl, Nat.le_of_ble_eq_true rfl⟩) hE hP hD hS rfl rfl [0, 1, 4, 5, 6, 7, 8, 9, 10, 11] rfl rfl (fun _ => rfl) (fun _ => rfl) rfl hl.1 rfl (Nat.le_of_ble_eq_true rfl) ⟨Nat.le_of_ble_eq_true rfl, Nat.le_of_ble_eq_true rfl⟩ dL_act_408 (fun r_408 u_408 H locs e_408 hP hD hS => ?_)
        have hP : va_P D vwCl (fl (wO cI cS qx a0 a1 a2 a3 b3 a4 sn sc has ([]) (u_408.1, tr, u_408.2))) H := hP
        have hD : va_D A (fl (wO cI cS qx a0 a1 a2 a3 b3 a4 sn sc has ([]) (u_408.1, tr, u_408.2))) := hD
        rw [eT] at e_408
        cases e_408
        have hP : va_P D vwCl (fl (wO cI cS qx a0 a1 a2 a3 b3 a4 sn sc has ([]) (st, tr, (hiR hi st (-4 : Int32))))) H := hP
        have hD : va_D A (fl (wO cI cS qx a0 a1 a2 a3 b3 a4 sn sc has ([]) (st, tr, (hiR hi st (-4 : Int32))))) := hD
        refine lv_iload_n hx hb dL_act_411 rfl (lv_at hl 0 rfl) ?_
        refine lv_icmp_ne (tgt := 432) hx hb dL_act_412 (by decide) (fun c => absurd (show (-4 : Int32) = (-4 : Int32) by decide) c) (fun _ => ?_)
        refine lv_iload_n hx hb dL_act_415 rfl (lv_at hl 0 rfl) ?_
        refine lv_if_lt (tgt := 428) hx hb dL_act_416 (by decide) (fun _ => ?_) (fun c => absurd (show (-4 : Int32) < (0 : Int32) by decide) c)
        refine lv_iconst (v := (1 : Int32)) hx hb dL_act_428 (by decide +kernel) ?_
        refine lv_goto (tgt := 433) hx hb dL_act_429 (by decide) ?_
        exact hend _ _ _ (st, tr, (hiR hi st (-4 : Int32))) _ _ _ _ dL_act_433 rfl (by decide) (by decide) ⟨rfl, hI.mono (by omega), (hh.rec hbo (-4 : Int32))⟩ hP hS
  have J_434 : ∀ ls : Array Slot, lv_has ls 6 [(0, .ref qx), (2, .int x)] → W p l e { frames := 7, cells := 2, slots := 64, locals := 161 } s m args below meth c s.heap [] 0 0 Q (F0 m 434 ls []) := by
    intro ls hl
    refine lv_aload_n hx hb dL_act_434 rfl (lv_at hl 0 rfl) ?_
    refine bQS ⟨hx, hb, hml, hown, hts⟩ (kL_swaps l D cI cS qx a0 a1 a2 a3 b3 a4 sn sc has st tr hi hI hh (by omega)) (va_cwS 1 hts gL_act_L_swaps rfl rfl rfl (by decide +kernel) ⟨Nat.le_of_ble_eq_true rfl, Nat.le_of_ble_eq_true rfl⟩) hE hP hD hA hS hX (fun _ => rfl) rfl hl.1 rfl (Nat.le_of_ble_eq_true rfl) ⟨Nat.le_of_ble_eq_true rfl, Nat.le_of_ble_eq_true rfl⟩ dL_act_435 (fun r_435 u_435 H locs e_435 hP hD hS => ?_)
    obtain ⟨q1, q2, q3⟩ := e_435
    subst q1
    have hP : va_P D vwCl (fl (wO cI cS qx a0 a1 a2 a3 b3 a4 sn sc has ([]) (u_435.1, tr, u_435.2))) H := hP
    have hD : va_D A (fl (wO cI cS qx a0 a1 a2 a3 b3 a4 sn sc has ([]) (u_435.1, tr, u_435.2))) := hD
    exact hend _ _ _ (u_435.1, tr, u_435.2) _ _ _ _ dL_act_438 rfl (by decide) (by decide) ⟨rfl, q2.mono (by omega), q3⟩ hP hS
  have J_439 : ∀ ls : Array Slot, lv_has ls 6 [(0, .ref qx), (2, .int x)] → W p l e { frames := 7, cells := 2, slots := 64, locals := 161 } s m args below meth c s.heap [] 0 0 Q (F0 m 439 ls []) := by
    intro ls hl
    obtain ⟨w4, hw4, ew4⟩ := low_is x (n := (4 : Int32)) (N := 4) rfl (by omega) (by omega)
    by_cases hw : w4 = 0
    · subst hw
      obtain ⟨cc4, hcc4, ecc4⟩ := low_is (x >>> ((2 : Int32) &&& 31)) (n := (8 : Int32)) (N := 8) rfl (by omega) (by omega)
      have eTO : ((1 : Int32) + (nI cc4)) = nI (cc4 + 1) := one_add cc4
      obtain ⟨u1, eS, hI1, ySe⟩ := hI.set (w := 0) (x := (cc4 + 1)) (Or.inl ⟨rfl, by omega, by omega⟩)
      have eT : fX6_set (0 : Int32) ((1 : Int32) + (nI cc4)) (st, hi) = ((st.2.2.2.2.1 0), (u1, hiR hi st (st.2.2.2.2.1 0))) := by
        show fX6_set (nI 0) ((1 : Int32) + (nI cc4)) (st, hi) = _
        rw [eTO, set_eq, eS]
      refine lv_iload_n hx hb dL_act_439 rfl (lv_at hl 1 rfl) ?_
      refine lv_iconst (v := (4 : Int32)) hx hb dL_act_440 (by decide +kernel) ?_
      refine cRS (W0 := fl (wO cI cS qx a0 a1 a2 a3 b3 a4 sn sc has ([]) (st, tr, hi))) (r := (0 : Int32)) ⟨hx, hb, hml, hown, hts⟩ (KR.eq (kL_low l D cI cS x ((4 : Int32)) (by decide)) ew4) (va_cwS 2 hts gL_act_L_low rfl rfl rfl (by decide +kernel) ⟨Nat.le_of_ble_eq_true rfl, Nat.le_of_ble_eq_true rfl⟩) hE hP [] rfl rfl hl.1 rfl (Nat.le_of_ble_eq_true rfl) ⟨Nat.le_of_ble_eq_true rfl, Nat.le_of_ble_eq_true rfl⟩ dL_act_441 ?_
      refine lv_istore_n (lv' := [(3, .int ((0 : Int32))), (0, .ref qx), (2, .int x)]) hx hb dL_act_444 rfl hl (by decide) rfl (fun ls hl => ?_)
      refine lv_iload_n hx hb dL_act_445 rfl (lv_at hl 0 rfl) ?_
      refine lv_if_ne (tgt := 462) hx hb dL_act_446 (by decide) (fun c => absurd (show (0 : Int32) = (0 : Int32) by decide) c) (fun _ => ?_)
      refine lv_iconst (v := (1 : Int32)) hx hb dL_act_449 (by decide +kernel) ?_
      refine lv_iload_n hx hb dL_act_450 rfl (lv_at hl 2 rfl) ?_
      refine lv_iconst (v := (2 : Int32)) hx hb dL_act_451 (by decide +kernel) ?_
      refine lv_ishr hx hb dL_act_452 ?_
      refine lv_bipush (v := (8 : Int32)) hx hb dL_act_453 (by decide +kernel) ?_
      refine cRS (W0 := fl (wO cI cS qx a0 a1 a2 a3 b3 a4 sn sc has ([]) (st, tr, hi))) (r := (nI cc4)) ⟨hx, hb, hml, hown, hts⟩ (KR.eq (kL_low l D cI cS ((x >>> ((2 : Int32) &&& 31))) ((8 : Int32)) (by decide)) ecc4) (va_cwS 2 hts gL_act_L_low rfl rfl rfl (by decide +kernel) ⟨Nat.le_of_ble_eq_true rfl, Nat.le_of_ble_eq_true rfl⟩) hE hP [] rfl rfl hl.1 rfl (Nat.le_of_ble_eq_true rfl) ⟨Nat.le_of_ble_eq_true rfl, Nat.le_of_ble_eq_true rfl⟩ dL_act_455 ?_
      refine lv_iadd hx hb dL_act_458 ?_
      refine lv_goto (tgt := 503) hx hb dL_act_459 (by decide) ?_
      refine lv_istore (lv' := [(4, .int (((1 : Int32) + (nI cc4)))), (3, .int ((0 : Int32))), (0, .ref qx), (2, .int x)]) hx hb dL_act_503 hl (by decide) rfl (fun ls hl => ?_)
      refine lv_aload_n hx hb dL_act_505 rfl (lv_at hl 2 rfl) ?_
      refine lv_iload_n hx hb dL_act_506 rfl (lv_at hl 1 rfl) ?_
      refine bRV (W0 := wO cI cS qx a0 a1 a2 a3 b3 a4 sn sc has ([]) (st, tr, hi)) (wc := [(qx, .inr (6, [.ref (a0 0), .ref (a1 0), .ref (a2 0), .ref (a3 0), .ref (a4 0), .int has]))] :: wSt cI a0 st :: []) (r := (st.2.2.2.2.1 0)) ⟨hx, hb, hml, hown, hts⟩ (KR.eq (kX6_setting l D cI cS qx a0 (a1 0) (a2 0) (a3 0) (a4 0) has (0 : Int32) st) (set_i (i := 0) (by omega))) (cwV 1 hts gL_act_X6_setting rfl rfl rfl (by decide +kernel) ⟨Nat.le_of_ble_eq_true rfl, Nat.le_of_ble_eq_true rfl⟩) hE hP rfl rfl [0, 1] rfl rfl rfl hl.1 rfl (Nat.le_of_ble_eq_true rfl) ⟨Nat.le_of_ble_eq_true rfl, Nat.le_of_ble_eq_true rfl⟩ dL_act_507 ?_
      refine lv_istore (lv' := [(5, .int ((st.2.2.2.2.1 0))), (4, .int (((1 : Int32) + (nI cc4)))), (3, .int ((0 : Int32))), (0, .ref qx), (2, .int x)]) hx hb dL_act_510 hl (by decide) rfl (fun ls hl => ?_)
      refine lv_iload_n hx hb dL_act_512 rfl (lv_at hl 2 rfl) ?_
      refine lv_iconst (v := (2 : Int32)) hx hb dL_act_513 (by decide +kernel) ?_
      refine lv_icmp_ne (tgt := 526) hx hb dL_act_514 (by decide) (fun _ => ?_) (fun c => absurd c (show ¬ (0 : Int32) = (2 : Int32) by decide))
      refine lv_aload_n hx hb dL_act_526 rfl (lv_at hl 3 rfl) ?_
      refine lv_iload_n hx hb dL_act_527 rfl (lv_at hl 2 rfl) ?_
      refine lv_iload hx hb dL_act_528 (lv_at hl 1 rfl) ?_
      refine bISV (W0 := wO cI cS qx a0 a1 a2 a3 b3 a4 sn sc has ([]) (st, tr, hi)) (wc := [(qx, .inr (6, [.ref (a0 0), .ref (a1 0), .ref (a2 0), .ref (a3 0), .ref (a4 0), .int has]))] :: wSt cI a0 st :: wHi cI cS a3 b3 hi []) (w1 := fun u : TPT => [(qx, .inr (6, [.ref (a0 0), .ref (a1 0), .ref (a2 0), .ref (a3 0), .ref (a4 0), .int has]))] :: wSt cI a0 u.1 :: wHi cI cS a3 b3 u.2 []) ⟨hx, hb, hml, hown, hts⟩ (kX6_set l D cI cS qx a0 a3 b3 (a1 0) (a2 0) (a4 0) has (0 : Int32) ((1 : Int32) + (nI cc4)) (st, hi) hI.ws hh) (cwV 2 hts gL_act_X6_set rfl rfl rfl (by decide +kernel) ⟨Nat.le_of_ble_eq_true rfl, Nat.le_of_ble_eq_true rfl⟩) hE hP hD hS hX rfl rfl [0, 1, 4, 5, 6, 7, 8, 9, 10, 11] rfl rfl (fun _ => rfl) (fun _ => rfl) rfl hl.1 rfl (Nat.le_of_ble_eq_true rfl) ⟨Nat.le_of_ble_eq_true rfl, Nat.le_of_ble_eq_true rfl⟩ dL_act_530 (fun r_530 u_530 H locs e_530 hP hD hS => ?_)
      have hP : va_P D vwCl (fl (wO cI cS qx a0 a1 a2 a3 b3 a4 sn sc has ([]) (u_530.1, tr, u_530.2))) H := hP
      have hD : va_D A (fl (wO cI cS qx a0 a1 a2 a3 b3 a4 sn sc has ([]) (u_530.1, tr, u_530.2))) := hD
      rw [eT] at e_530
      cases e_530
      have hP : va_P D vwCl (fl (wO cI cS qx a0 a1 a2 a3 b3 a4 sn sc has ([]) (u1, tr, (hiR hi st (st.2.2.2.2.1 0))))) H := hP
      have hD : va_D A (fl (wO cI cS qx a0 a1 a2 a3 b3 a4 sn sc has ([]) (u1, tr, (hiR hi st (st.2.2.2.2.1 0))))) := hD
      refine lv_iload hx hb dL_act_533 (lv_at hl 0 rfl) ?_
      refine lv_icmp_ne (tgt := 552) hx hb dL_act_535 (by decide) (fun c => absurd rfl c) (fun _ => ?_)
      refine lv_aload_n hx hb dL_act_538 rfl (lv_at hl 3 rfl) ?_
      refine lv_iload_n hx hb dL_act_539 rfl (lv_at hl 2 rfl) ?_
      refine bRV (W0 := wO cI cS qx a0 a1 a2 a3 b3 a4 sn sc has ([]) (u1, tr, (hiR hi st (st.2.2.2.2.1 0)))) (wc := [(qx, .inr (6, [.ref (a0 0), .ref (a1 0), .ref (a2 0), .ref (a3 0), .ref (a4 0), .int has]))] :: wSt cI a0 u1 :: []) (r := ((1 : Int32) + (nI cc4))) ⟨hx, hb, hml, hown, hts⟩ (KR.eq (kX6_setting l D cI cS qx a0 (a1 0) (a2 0) (a3 0) (a4 0) has (0 : Int32) u1) ((set_i (i := 0) (by omega)).trans ((congrFun ySe 0).trans (pk_us.trans eTO.symm)))) (cwV 1 hts gL_act_X6_setting rfl rfl rfl (by decide +kernel) ⟨Nat.le_of_ble_eq_true rfl, Nat.le_of_ble_eq_true rfl⟩) hE hP rfl rfl [0, 1] rfl rfl rfl hl.1 rfl (Nat.le_of_ble_eq_true rfl) ⟨Nat.le_of_ble_eq_true rfl, Nat.le_of_ble_eq_true rfl⟩ dL_act_540 ?_
      refine lv_iload hx hb dL_act_543 (lv_at hl 1 rfl) ?_
      refine lv_icmp_ne (tgt := 552) hx hb dL_act_545 (by decide) (fun c => absurd rfl c) (fun _ => ?_)
      refine lv_iconst (v := (1 : Int32)) hx hb dL_act_548 (by decide +kernel) ?_
      refine lv_goto (tgt := 553) hx hb dL_act_549 (by decide) ?_
      exact hend _ _ _ (u1, tr, (hiR hi st (st.2.2.2.2.1 0))) _ _ _ _ dL_act_553 rfl (by decide) (by decide) ⟨rfl, hI1.mono (by omega), (hh.rec hbo (st.2.2.2.2.1 0))⟩ hP hS
    · by_cases hw : w4 = 1
      · subst hw
        obtain ⟨cc4, hcc4, ecc4⟩ := low_is (x >>> ((2 : Int32) &&& 31)) (n := (10 : Int32)) (N := 10) rfl (by omega) (by omega)
        have eTO : (nI cc4) = nI cc4 := rfl
        obtain ⟨u1, eS, hI1, ySe⟩ := hI.set (w := 1) (x := cc4) (Or.inr (Or.inl ⟨rfl, by omega⟩))
        have eT : fX6_set (1 : Int32) (nI cc4) (st, hi) = ((st.2.2.2.2.1 1), (u1, hiR hi st (st.2.2.2.2.1 1))) := by
          show fX6_set (nI 1) (nI cc4) (st, hi) = _
          rw [eTO, set_eq, eS]
        refine lv_iload_n hx hb dL_act_439 rfl (lv_at hl 1 rfl) ?_
        refine lv_iconst (v := (4 : Int32)) hx hb dL_act_440 (by decide +kernel) ?_
        refine cRS (W0 := fl (wO cI cS qx a0 a1 a2 a3 b3 a4 sn sc has ([]) (st, tr, hi))) (r := (1 : Int32)) ⟨hx, hb, hml, hown, hts⟩ (KR.eq (kL_low l D cI cS x ((4 : Int32)) (by decide)) ew4) (va_cwS 2 hts gL_act_L_low rfl rfl rfl (by decide +kernel) ⟨Nat.le_of_ble_eq_true rfl, Nat.le_of_ble_eq_true rfl⟩) hE hP [] rfl rfl hl.1 rfl (Nat.le_of_ble_eq_true rfl) ⟨Nat.le_of_ble_eq_true rfl, Nat.le_of_ble_eq_true rfl⟩ dL_act_441 ?_
        refine lv_istore_n (lv' := [(3, .int ((1 : Int32))), (0, .ref qx), (2, .int x)]) hx hb dL_act_444 rfl hl (by decide) rfl (fun ls hl => ?_)
        refine lv_iload_n hx hb dL_act_445 rfl (lv_at hl 0 rfl) ?_
        refine lv_if_ne (tgt := 462) hx hb dL_act_446 (by decide) (fun _ => ?_) (fun c => absurd c (show ¬ (1 : Int32) = (0 : Int32) by decide))
        refine lv_iload_n hx hb dL_act_462 rfl (lv_at hl 0 rfl) ?_
        refine lv_iconst (v := (1 : Int32)) hx hb dL_act_463 (by decide +kernel) ?_
        refine lv_icmp_ne (tgt := 478) hx hb dL_act_464 (by decide) (fun c => absurd (show (1 : Int32) = (1 : Int32) by decide) c) (fun _ => ?_)
        refine lv_iload_n hx hb dL_act_467 rfl (lv_at hl 2 rfl) ?_
        refine lv_iconst (v := (2 : Int32)) hx hb dL_act_468 (by decide +kernel) ?_
        refine lv_ishr hx hb dL_act_469 ?_
        refine lv_bipush (v := (10 : Int32)) hx hb dL_act_470 (by decide +kernel) ?_
        refine cRS (W0 := fl (wO cI cS qx a0 a1 a2 a3 b3 a4 sn sc has ([]) (st, tr, hi))) (r := (nI cc4)) ⟨hx, hb, hml, hown, hts⟩ (KR.eq (kL_low l D cI cS ((x >>> ((2 : Int32) &&& 31))) ((10 : Int32)) (by decide)) ecc4) (va_cwS 2 hts gL_act_L_low rfl rfl rfl (by decide +kernel) ⟨Nat.le_of_ble_eq_true rfl, Nat.le_of_ble_eq_true rfl⟩) hE hP [] rfl rfl hl.1 rfl (Nat.le_of_ble_eq_true rfl) ⟨Nat.le_of_ble_eq_true rfl, Nat.le_of_ble_eq_true rfl⟩ dL_act_472 ?_
        refine lv_goto (tgt := 503) hx hb dL_act_475 (by decide) ?_
        refine lv_istore (lv' := [(4, .int ((nI cc4))), (3, .int ((1 : Int32))), (0, .ref qx), (2, .int x)]) hx hb dL_act_503 hl (by decide) rfl (fun ls hl => ?_)
        refine lv_aload_n hx hb dL_act_505 rfl (lv_at hl 2 rfl) ?_
        refine lv_iload_n hx hb dL_act_506 rfl (lv_at hl 1 rfl) ?_
        refine bRV (W0 := wO cI cS qx a0 a1 a2 a3 b3 a4 sn sc has ([]) (st, tr, hi)) (wc := [(qx, .inr (6, [.ref (a0 0), .ref (a1 0), .ref (a2 0), .ref (a3 0), .ref (a4 0), .int has]))] :: wSt cI a0 st :: []) (r := (st.2.2.2.2.1 1)) ⟨hx, hb, hml, hown, hts⟩ (KR.eq (kX6_setting l D cI cS qx a0 (a1 0) (a2 0) (a3 0) (a4 0) has (1 : Int32) st) (set_i (i := 1) (by omega))) (cwV 1 hts gL_act_X6_setting rfl rfl rfl (by decide +kernel) ⟨Nat.le_of_ble_eq_true rfl, Nat.le_of_ble_eq_true rfl⟩) hE hP rfl rfl [0, 1] rfl rfl rfl hl.1 rfl (Nat.le_of_ble_eq_true rfl) ⟨Nat.le_of_ble_eq_true rfl, Nat.le_of_ble_eq_true rfl⟩ dL_act_507 ?_
        refine lv_istore (lv' := [(5, .int ((st.2.2.2.2.1 1))), (4, .int ((nI cc4))), (3, .int ((1 : Int32))), (0, .ref qx), (2, .int x)]) hx hb dL_act_510 hl (by decide) rfl (fun ls hl => ?_)
        refine lv_iload_n hx hb dL_act_512 rfl (lv_at hl 2 rfl) ?_
        refine lv_iconst (v := (2 : Int32)) hx hb dL_act_513 (by decide +kernel) ?_
        refine lv_icmp_ne (tgt := 526) hx hb dL_act_514 (by decide) (fun _ => ?_) (fun c => absurd c (show ¬ (1 : Int32) = (2 : Int32) by decide))
        refine lv_aload_n hx hb dL_act_526 rfl (lv_at hl 3 rfl) ?_
        refine lv_iload_n hx hb dL_act_527 rfl (lv_at hl 2 rfl) ?_
        refine lv_iload hx hb dL_act_528 (lv_at hl 1 rfl) ?_
        refine bISV (W0 := wO cI cS qx a0 a1 a2 a3 b3 a4 sn sc has ([]) (st, tr, hi)) (wc := [(qx, .inr (6, [.ref (a0 0), .ref (a1 0), .ref (a2 0), .ref (a3 0), .ref (a4 0), .int has]))] :: wSt cI a0 st :: wHi cI cS a3 b3 hi []) (w1 := fun u : TPT => [(qx, .inr (6, [.ref (a0 0), .ref (a1 0), .ref (a2 0), .ref (a3 0), .ref (a4 0), .int has]))] :: wSt cI a0 u.1 :: wHi cI cS a3 b3 u.2 []) ⟨hx, hb, hml, hown, hts⟩ (kX6_set l D cI cS qx a0 a3 b3 (a1 0) (a2 0) (a4 0) has (1 : Int32) (nI cc4) (st, hi) hI.ws hh) (cwV 2 hts gL_act_X6_set rfl rfl rfl (by decide +kernel) ⟨Nat.le_of_ble_eq_true rfl, Nat.le_of_ble_eq_true rfl⟩) hE hP hD hS hX rfl rfl [0, 1, 4, 5, 6, 7, 8, 9, 10, 11] rfl rfl (fun _ => rfl) (fun _ => rfl) rfl hl.1 rfl (Nat.le_of_ble_eq_true rfl) ⟨Nat.le_of_ble_eq_true rfl, Nat.le_of_ble_eq_true rfl⟩ dL_act_530 (fun r_530 u_530 H locs e_530 hP hD hS => ?_)
        have hP : va_P D vwCl (fl (wO cI cS qx a0 a1 a2 a3 b3 a4 sn sc has ([]) (u_530.1, tr, u_530.2))) H := hP
        have hD : va_D A (fl (wO cI cS qx a0 a1 a2 a3 b3 a4 sn sc has ([]) (u_530.1, tr, u_530.2))) := hD
        rw [eT] at e_530
        cases e_530
        have hP : va_P D vwCl (fl (wO cI cS qx a0 a1 a2 a3 b3 a4 sn sc has ([]) (u1, tr, (hiR hi st (st.2.2.2.2.1 1))))) H := hP
        have hD : va_D A (fl (wO cI cS qx a0 a1 a2 a3 b3 a4 sn sc has ([]) (u1, tr, (hiR hi st (st.2.2.2.2.1 1))))) := hD
        refine lv_iload hx hb dL_act_533 (lv_at hl 0 rfl) ?_
        refine lv_icmp_ne (tgt := 552) hx hb dL_act_535 (by decide) (fun c => absurd rfl c) (fun _ => ?_)
        refine lv_aload_n hx hb dL_act_538 rfl (lv_at hl 3 rfl) ?_
        refine lv_iload_n hx hb dL_act_539 rfl (lv_at hl 2 rfl) ?_
        refine bRV (W0 := wO cI cS qx a0 a1 a2 a3 b3 a4 sn sc has ([]) (u1, tr, (hiR hi st (st.2.2.2.2.1 1)))) (wc := [(qx, .inr (6, [.ref (a0 0), .ref (a1 0), .ref (a2 0), .ref (a3 0), .ref (a4 0), .int has]))] :: wSt cI a0 u1 :: []) (r := (nI cc4)) ⟨hx, hb, hml, hown, hts⟩ (KR.eq (kX6_setting l D cI cS qx a0 (a1 0) (a2 0) (a3 0) (a4 0) has (1 : Int32) u1) ((set_i (i := 1) (by omega)).trans ((congrFun ySe 1).trans (pk_us.trans eTO.symm)))) (cwV 1 hts gL_act_X6_setting rfl rfl rfl (by decide +kernel) ⟨Nat.le_of_ble_eq_true rfl, Nat.le_of_ble_eq_true rfl⟩) hE hP rfl rfl [0, 1] rfl rfl rfl hl.1 rfl (Nat.le_of_ble_eq_true rfl) ⟨Nat.le_of_ble_eq_true rfl, Nat.le_of_ble_eq_true rfl⟩ dL_act_540 ?_
        refine lv_iload hx hb dL_act_543 (lv_at hl 1 rfl) ?_
        refine lv_icmp_ne (tgt := 552) hx hb dL_act_545 (by decide) (fun c => absurd rfl c) (fun _ => ?_)
        refine lv_iconst (v := (1 : Int32)) hx hb dL_act_548 (by decide +kernel) ?_
        refine lv_goto (tgt := 553) hx hb dL_act_549 (by decide) ?_
        exact hend _ _ _ (u1, tr, (hiR hi st (st.2.2.2.2.1 1))) _ _ _ _ dL_act_553 rfl (by decide) (by decide) ⟨rfl, hI1.mono (by omega), (hh.rec hbo (st.2.2.2.2.1 1))⟩ hP hS
      · by_cases hw : w4 = 2
        · subst hw
          obtain ⟨cc4, hcc4, ecc4⟩ := low_is (x >>> ((2 : Int32) &&& 31)) (n := (20 : Int32)) (N := 20) rfl (by omega) (by omega)
          have eTO : ((1 : Int32) + (nI cc4)) = nI (cc4 + 1) := one_add cc4
          obtain ⟨u1, eS, hI1, ySe⟩ := hI.set (w := 2) (x := (cc4 + 1)) (Or.inr (Or.inr (Or.inl ⟨rfl, by omega, by omega⟩)))
          have eT : fX6_set (2 : Int32) ((1 : Int32) + (nI cc4)) (st, hi) = ((st.2.2.2.2.1 2), (u1, hiR hi st (st.2.2.2.2.1 2))) := by
            show fX6_set (nI 2) ((1 : Int32) + (nI cc4)) (st, hi) = _
            rw [eTO, set_eq, eS]
          refine lv_iload_n hx hb dL_act_439 rfl (lv_at hl 1 rfl) ?_
          refine lv_iconst (v := (4 : Int32)) hx hb dL_act_440 (by decide +kernel) ?_
          refine cRS (W0 := fl (wO cI cS qx a0 a1 a2 a3 b3 a4 sn sc has ([]) (st, tr, hi))) (r := (2 : Int32)) ⟨hx, hb, hml, hown, hts⟩ (KR.eq (kL_low l D cI cS x ((4 : Int32)) (by decide)) ew4) (va_cwS 2 hts gL_act_L_low rfl rfl rfl (by decide +kernel) ⟨Nat.le_of_ble_eq_true rfl, Nat.le_of_ble_eq_true rfl⟩) hE hP [] rfl rfl hl.1 rfl (Nat.le_of_ble_eq_true rfl) ⟨Nat.le_of_ble_eq_true rfl, Nat.le_of_ble_eq_true rfl⟩ dL_act_441 ?_
          refine lv_istore_n (lv' := [(3, .int ((2 : Int32))), (0, .ref qx), (2, .int x)]) hx hb dL_act_444 rfl hl (by decide) rfl (fun ls hl => ?_)
          refine lv_iload_n hx hb dL_act_445 rfl (lv_at hl 0 rfl) ?_
          refine lv_if_ne (tgt := 462) hx hb dL_act_446 (by decide) (fun _ => ?_) (fun c => absurd c (show ¬ (2 : Int32) = (0 : Int32) by decide))
          refine lv_iload_n hx hb dL_act_462 rfl (lv_at hl 0 rfl) ?_
          refine lv_iconst (v := (1 : Int32)) hx hb dL_act_463 (by decide +kernel) ?_
          refine lv_icmp_ne (tgt := 478) hx hb dL_act_464 (by decide) (fun _ => ?_) (fun c => absurd c (show ¬ (2 : Int32) = (1 : Int32) by decide))
          refine lv_iload_n hx hb dL_act_478 rfl (lv_at hl 0 rfl) ?_
          refine lv_iconst (v := (2 : Int32)) hx hb dL_act_479 (by decide +kernel) ?_
          refine lv_icmp_ne (tgt := 496) hx hb dL_act_480 (by decide) (fun c => absurd (show (2 : Int32) = (2 : Int32) by decide) c) (fun _ => ?_)
          refine lv_iconst (v := (1 : Int32)) hx hb dL_act_483 (by decide +kernel) ?_
          refine lv_iload_n hx hb dL_act_484 rfl (lv_at hl 2 rfl) ?_
          refine lv_iconst (v := (2 : Int32)) hx hb dL_act_485 (by decide +kernel) ?_
          refine lv_ishr hx hb dL_act_486 ?_
          refine lv_bipush (v := (20 : Int32)) hx hb dL_act_487 (by decide +kernel) ?_
          refine cRS (W0 := fl (wO cI cS qx a0 a1 a2 a3 b3 a4 sn sc has ([]) (st, tr, hi))) (r := (nI cc4)) ⟨hx, hb, hml, hown, hts⟩ (KR.eq (kL_low l D cI cS ((x >>> ((2 : Int32) &&& 31))) ((20 : Int32)) (by decide)) ecc4) (va_cwS 2 hts gL_act_L_low rfl rfl rfl (by decide +kernel) ⟨Nat.le_of_ble_eq_true rfl, Nat.le_of_ble_eq_true rfl⟩) hE hP [] rfl rfl hl.1 rfl (Nat.le_of_ble_eq_true rfl) ⟨Nat.le_of_ble_eq_true rfl, Nat.le_of_ble_eq_true rfl⟩ dL_act_489 ?_
          refine lv_iadd hx hb dL_act_492 ?_
          refine lv_goto (tgt := 503) hx hb dL_act_493 (by decide) ?_
          refine lv_istore (lv' := [(4, .int (((1 : Int32) + (nI cc4)))), (3, .int ((2 : Int32))), (0, .ref qx), (2, .int x)]) hx hb dL_act_503 hl (by decide) rfl (fun ls hl => ?_)
          refine lv_aload_n hx hb dL_act_505 rfl (lv_at hl 2 rfl) ?_
          refine lv_iload_n hx hb dL_act_506 rfl (lv_at hl 1 rfl) ?_
          refine bRV (W0 := wO cI cS qx a0 a1 a2 a3 b3 a4 sn sc has ([]) (st, tr, hi)) (wc := [(qx, .inr (6, [.ref (a0 0), .ref (a1 0), .ref (a2 0), .ref (a3 0), .ref (a4 0), .int has]))] :: wSt cI a0 st :: []) (r := (st.2.2.2.2.1 2)) ⟨hx, hb, hml, hown, hts⟩ (KR.eq (kX6_setting l D cI cS qx a0 (a1 0) (a2 0) (a3 0) (a4 0) has (2 : Int32) st) (set_i (i := 2) (by omega))) (cwV 1 hts gL_act_X6_setting rfl rfl rfl (by decide +kernel) ⟨Nat.le_of_ble_eq_true rfl, Nat.le_of_ble_eq_true rfl⟩) hE hP rfl rfl [0, 1] rfl rfl rfl hl.1 rfl (Nat.le_of_ble_eq_true rfl) ⟨Nat.le_of_ble_eq_true rfl, Nat.le_of_ble_eq_true rfl⟩ dL_act_507 ?_
          refine lv_istore (lv' := [(5, .int ((st.2.2.2.2.1 2))), (4, .int (((1 : Int32) + (nI cc4)))), (3, .int ((2 : Int32))), (0, .ref qx), (2, .int x)]) hx hb dL_act_510 hl (by decide) rfl (fun ls hl => ?_)
          refine lv_iload_n hx hb dL_act_512 rfl (lv_at hl 2 rfl) ?_
          refine lv_iconst (v := (2 : Int32)) hx hb dL_act_513 (by decide +kernel) ?_
          refine lv_icmp_ne (tgt := 526) hx hb dL_act_514 (by decide) (fun c => absurd (show (2 : Int32) = (2 : Int32) by decide) c) (fun _ => ?_)
          refine lv_aload_n hx hb dL_act_517 rfl (lv_at hl 3 rfl) ?_
          refine lv_iconst (v := (0 : Int32)) hx hb dL_act_518 (by decide +kernel) ?_
          refine bRV (W0 := wO cI cS qx a0 a1 a2 a3 b3 a4 sn sc has ([]) (st, tr, hi)) (wc := [(qx, .inr (6, [.ref (a0 0), .ref (a1 0), .ref (a2 0), .ref (a3 0), .ref (a4 0), .int has]))] :: wSt cI a0 st :: []) (r := st.2.2.2.1.2.2.1) ⟨hx, hb, hml, hown, hts⟩ (KR.eq (kX6_copy l D cI cS qx a0 (a1 0) (a2 0) (a3 0) (a4 0) has (0 : Int32) st) (cp_0 st)) (cwV 1 hts gL_act_X6_copy rfl rfl rfl (by decide +kernel) ⟨Nat.le_of_ble_eq_true rfl, Nat.le_of_ble_eq_true rfl⟩) hE hP rfl rfl [0, 1] rfl rfl rfl hl.1 rfl (Nat.le_of_ble_eq_true rfl) ⟨Nat.le_of_ble_eq_true rfl, Nat.le_of_ble_eq_true rfl⟩ dL_act_519 ?_
          refine lv_iconst (v := (3 : Int32)) hx hb dL_act_522 (by decide +kernel) ?_
          refine lv_icmp_eq (tgt := 548) hx hb dL_act_523 (by decide) (fun c_523 => ?_) (fun c_523 => ?_)
          · refine lv_iconst (v := (1 : Int32)) hx hb dL_act_548 (by decide +kernel) ?_
            refine lv_goto (tgt := 553) hx hb dL_act_549 (by decide) ?_
            exact hend _ _ _ (st, tr, hi) _ _ _ _ dL_act_553 rfl (by decide) (by decide) ⟨rfl, hI.mono (by omega), hh⟩ hP hS
          · refine lv_aload_n hx hb dL_act_526 rfl (lv_at hl 3 rfl) ?_
            refine lv_iload_n hx hb dL_act_527 rfl (lv_at hl 2 rfl) ?_
            refine lv_iload hx hb dL_act_528 (lv_at hl 1 rfl) ?_
            refine bISV (W0 := wO cI cS qx a0 a1 a2 a3 b3 a4 sn sc has ([]) (st, tr, hi)) (wc := [(qx, .inr (6, [.ref (a0 0), .ref (a1 0), .ref (a2 0), .ref (a3 0), .ref (a4 0), .int has]))] :: wSt cI a0 st :: wHi cI cS a3 b3 hi []) (w1 := fun u : TPT => [(qx, .inr (6, [.ref (a0 0), .ref (a1 0), .ref (a2 0), .ref (a3 0), .ref (a4 0), .int has]))] :: wSt cI a0 u.1 :: wHi cI cS a3 b3 u.2 []) ⟨hx, hb, hml, hown, hts⟩ (kX6_set l D cI cS qx a0 a3 b3 (a1 0) (a2 0) (a4 0) has (2 : Int32) ((1 : Int32) + (nI cc4)) (st, hi) hI.ws hh) (cwV 2 hts gL_act_X6_set rfl rfl rfl (by decide +kernel) ⟨Nat.le_of_ble_eq_true rfl, Nat.le_of_ble_eq_true rfl⟩) hE hP hD hS hX rfl rfl [0, 1, 4, 5, 6, 7, 8, 9, 10, 11] rfl rfl (fun _ => rfl) (fun _ => rfl) rfl hl.1 rfl (Nat.le_of_ble_eq_true rfl) ⟨Nat.le_of_ble_eq_true rfl, Nat.le_of_ble_eq_true rfl⟩ dL_act_530 (fun r_530 u_530 H locs e_530 hP hD hS => ?_)
            have hP : va_P D vwCl (fl (wO cI cS qx a0 a1 a2 a3 b3 a4 sn sc has ([]) (u_530.1, tr, u_530.2))) H := hP
            have hD : va_D A (fl (wO cI cS qx a0 a1 a2 a3 b3 a4 sn sc has ([]) (u_530.1, tr, u_530.2))) := hD
            rw [eT] at e_530
            cases e_530
            have hP : va_P D vwCl (fl (wO cI cS qx a0 a1 a2 a3 b3 a4 sn sc has ([]) (u1, tr, (hiR hi st (st.2.2.2.2.1 2))))) H := hP
            have hD : va_D A (fl (wO cI cS qx a0 a1 a2 a3 b3 a4 sn sc has ([]) (u1, tr, (hiR hi st (st.2.2.2.2.1 2))))) := hD
            refine lv_iload hx hb dL_act_533 (lv_at hl 0 rfl) ?_
            refine lv_icmp_ne (tgt := 552) hx hb dL_act_535 (by decide) (fun c => absurd rfl c) (fun _ => ?_)
            refine lv_aload_n hx hb dL_act_538 rfl (lv_at hl 3 rfl) ?_
            refine lv_iload_n hx hb dL_act_539 rfl (lv_at hl 2 rfl) ?_
            refine bRV (W0 := wO cI cS qx a0 a1 a2 a3 b3 a4 sn sc has ([]) (u1, tr, (hiR hi st (st.2.2.2.2.1 2)))) (wc := [(qx, .inr (6, [.ref (a0 0), .ref (a1 0), .ref (a2 0), .ref (a3 0), .ref (a4 0), .int has]))] :: wSt cI a0 u1 :: []) (r := ((1 : Int32) + (nI cc4))) ⟨hx, hb, hml, hown, hts⟩ (KR.eq (kX6_setting l D cI cS qx a0 (a1 0) (a2 0) (a3 0) (a4 0) has (2 : Int32) u1) ((set_i (i := 2) (by omega)).trans ((congrFun ySe 2).trans (pk_us.trans eTO.symm)))) (cwV 1 hts gL_act_X6_setting rfl rfl rfl (by decide +kernel) ⟨Nat.le_of_ble_eq_true rfl, Nat.le_of_ble_eq_true rfl⟩) hE hP rfl rfl [0, 1] rfl rfl rfl hl.1 rfl (Nat.le_of_ble_eq_true rfl) ⟨Nat.le_of_ble_eq_true rfl, Nat.le_of_ble_eq_true rfl⟩ dL_act_540 ?_
            refine lv_iload hx hb dL_act_543 (lv_at hl 1 rfl) ?_
            refine lv_icmp_ne (tgt := 552) hx hb dL_act_545 (by decide) (fun c => absurd rfl c) (fun _ => ?_)
            refine lv_iconst (v := (1 : Int32)) hx hb dL_act_548 (by decide +kernel) ?_
            refine lv_goto (tgt := 553) hx hb dL_act_549 (by decide) ?_
            exact hend _ _ _ (u1, tr, (hiR hi st (st.2.2.2.2.1 2))) _ _ _ _ dL_act_553 rfl (by decide) (by decide) ⟨rfl, hI1.mono (by omega), (hh.rec hbo (st.2.2.2.2.1 2))⟩ hP hS
        · have hw : w4 = 3 := by omega
          subst hw
          obtain ⟨cc4, hcc4, ecc4⟩ := low_is (x >>> ((2 : Int32) &&& 31)) (n := (2 : Int32)) (N := 2) rfl (by omega) (by omega)
          have eTO : (nI cc4) = nI cc4 := rfl
          obtain ⟨u1, eS, hI1, ySe⟩ := hI.set (w := 3) (x := cc4) (Or.inr (Or.inr (Or.inr ⟨rfl, by omega⟩)))
          have eT : fX6_set (3 : Int32) (nI cc4) (st, hi) = ((st.2.2.2.2.1 3), (u1, hiR hi st (st.2.2.2.2.1 3))) := by
            show fX6_set (nI 3) (nI cc4) (st, hi) = _
            rw [eTO, set_eq, eS]
          refine lv_iload_n hx hb dL_act_439 rfl (lv_at hl 1 rfl) ?_
          refine lv_iconst (v := (4 : Int32)) hx hb dL_act_440 (by decide +kernel) ?_
          refine cRS (W0 := fl (wO cI cS qx a0 a1 a2 a3 b3 a4 sn sc has ([]) (st, tr, hi))) (r := (3 : Int32)) ⟨hx, hb, hml, hown, hts⟩ (KR.eq (kL_low l D cI cS x ((4 : Int32)) (by decide)) ew4) (va_cwS 2 hts gL_act_L_low rfl rfl rfl (by decide +kernel) ⟨Nat.le_of_ble_eq_true rfl, Nat.le_of_ble_eq_true rfl⟩) hE hP [] rfl rfl hl.1 rfl (Nat.le_of_ble_eq_true rfl) ⟨Nat.le_of_ble_eq_true rfl, Nat.le_of_ble_eq_true rfl⟩ dL_act_441 ?_
          refine lv_istore_n (lv' := [(3, .int ((3 : Int32))), (0, .ref qx), (2, .int x)]) hx hb dL_act_444 rfl hl (by decide) rfl (fun ls hl => ?_)
          refine lv_iload_n hx hb dL_act_445 rfl (lv_at hl 0 rfl) ?_
          refine lv_if_ne (tgt := 462) hx hb dL_act_446 (by decide) (fun _ => ?_) (fun c => absurd c (show ¬ (3 : Int32) = (0 : Int32) by decide))
          refine lv_iload_n hx hb dL_act_462 rfl (lv_at hl 0 rfl) ?_
          refine lv_iconst (v := (1 : Int32)) hx hb dL_act_463 (by decide +kernel) ?_
          refine lv_icmp_ne (tgt := 478) hx hb dL_act_464 (by decide) (fun _ => ?_) (fun c => absurd c (show ¬ (3 : Int32) = (1 : Int32) by decide))
          refine lv_iload_n hx hb dL_act_478 rfl (lv_at hl 0 rfl) ?_
          refine lv_iconst (v := (2 : Int32)) hx hb dL_act_479 (by decide +kernel) ?_
          refine lv_icmp_ne (tgt := 496) hx hb dL_act_480 (by decide) (fun _ => ?_) (fun c => absurd c (show ¬ (3 : Int32) = (2 : Int32) by decide))
          refine lv_iload_n hx hb dL_act_496 rfl (lv_at hl 2 rfl) ?_
          refine lv_iconst (v := (2 : Int32)) hx hb dL_act_497 (by decide +kernel) ?_
          refine lv_ishr hx hb dL_act_498 ?_
          refine lv_iconst (v := (2 : Int32)) hx hb dL_act_499 (by decide +kernel) ?_
          refine cRS (W0 := fl (wO cI cS qx a0 a1 a2 a3 b3 a4 sn sc has ([]) (st, tr, hi))) (r := (nI cc4)) ⟨hx, hb, hml, hown, hts⟩ (KR.eq (kL_low l D cI cS ((x >>> ((2 : Int32) &&& 31))) ((2 : Int32)) (by decide)) ecc4) (va_cwS 2 hts gL_act_L_low rfl rfl rfl (by decide +kernel) ⟨Nat.le_of_ble_eq_true rfl, Nat.le_of_ble_eq_true rfl⟩) hE hP [] rfl rfl hl.1 rfl (Nat.le_of_ble_eq_true rfl) ⟨Nat.le_of_ble_eq_true rfl, Nat.le_of_ble_eq_true rfl⟩ dL_act_500 ?_
          refine lv_istore (lv' := [(4, .int ((nI cc4))), (3, .int ((3 : Int32))), (0, .ref qx), (2, .int x)]) hx hb dL_act_503 hl (by decide) rfl (fun ls hl => ?_)
          refine lv_aload_n hx hb dL_act_505 rfl (lv_at hl 2 rfl) ?_
          refine lv_iload_n hx hb dL_act_506 rfl (lv_at hl 1 rfl) ?_
          refine bRV (W0 := wO cI cS qx a0 a1 a2 a3 b3 a4 sn sc has ([]) (st, tr, hi)) (wc := [(qx, .inr (6, [.ref (a0 0), .ref (a1 0), .ref (a2 0), .ref (a3 0), .ref (a4 0), .int has]))] :: wSt cI a0 st :: []) (r := (st.2.2.2.2.1 3)) ⟨hx, hb, hml, hown, hts⟩ (KR.eq (kX6_setting l D cI cS qx a0 (a1 0) (a2 0) (a3 0) (a4 0) has (3 : Int32) st) (set_i (i := 3) (by omega))) (cwV 1 hts gL_act_X6_setting rfl rfl rfl (by decide +kernel) ⟨Nat.le_of_ble_eq_true rfl, Nat.le_of_ble_eq_true rfl⟩) hE hP rfl rfl [0, 1] rfl rfl rfl hl.1 rfl (Nat.le_of_ble_eq_true rfl) ⟨Nat.le_of_ble_eq_true rfl, Nat.le_of_ble_eq_true rfl⟩ dL_act_507 ?_
          refine lv_istore (lv' := [(5, .int ((st.2.2.2.2.1 3))), (4, .int ((nI cc4))), (3, .int ((3 : Int32))), (0, .ref qx), (2, .int x)]) hx hb dL_act_510 hl (by decide) rfl (fun ls hl => ?_)
          refine lv_iload_n hx hb dL_act_512 rfl (lv_at hl 2 rfl) ?_
          refine lv_iconst (v := (2 : Int32)) hx hb dL_act_513 (by decide +kernel) ?_
          refine lv_icmp_ne (tgt := 526) hx hb dL_act_514 (by decide) (fun _ => ?_) (fun c => absurd c (show ¬ (3 : Int32) = (2 : Int32) by decide))
          refine lv_aload_n hx hb dL_act_526 rfl (lv_at hl 3 rfl) ?_
          refine lv_iload_n hx hb dL_act_527 rfl (lv_at hl 2 rfl) ?_
          refine lv_iload hx hb dL_act_528 (lv_at hl 1 rfl) ?_
          refine bISV (W0 := wO cI cS qx a0 a1 a2 a3 b3 a4 sn sc has ([]) (st, tr, hi)) (wc := [(qx, .inr (6, [.ref (a0 0), .ref (a1 0), .ref (a2 0), .ref (a3 0), .ref (a4 0), .int has]))] :: wSt cI a0 st :: wHi cI cS a3 b3 hi []) (w1 := fun u : TPT => [(qx, .inr (6, [.ref (a0 0), .ref (a1 0), .ref (a2 0), .ref (a3 0), .ref (a4 0), .int has]))] :: wSt cI a0 u.1 :: wHi cI cS a3 b3 u.2 []) ⟨hx, hb, hml, hown, hts⟩ (kX6_set l D cI cS qx a0 a3 b3 (a1 0) (a2 0) (a4 0) has (3 : Int32) (nI cc4) (st, hi) hI.ws hh) (cwV 2 hts gL_act_X6_set rfl rfl rfl (by decide +kernel) ⟨Nat.le_of_ble_eq_true rfl, Nat.le_of_ble_eq_true rfl⟩) hE hP hD hS hX rfl rfl [0, 1, 4, 5, 6, 7, 8, 9, 10, 11] rfl rfl (fun _ => rfl) (fun _ => rfl) rfl hl.1 rfl (Nat.le_of_ble_eq_true rfl) ⟨Nat.le_of_ble_eq_true rfl, Nat.le_of_ble_eq_true rfl⟩ dL_act_530 (fun r_530 u_530 H locs e_530 hP hD hS => ?_)
          have hP : va_P D vwCl (fl (wO cI cS qx a0 a1 a2 a3 b3 a4 sn sc has ([]) (u_530.1, tr, u_530.2))) H := hP
          have hD : va_D A (fl (wO cI cS qx a0 a1 a2 a3 b3 a4 sn sc has ([]) (u_530.1, tr, u_530.2))) := hD
          rw [eT] at e_530
          cases e_530
          have hP : va_P D vwCl (fl (wO cI cS qx a0 a1 a2 a3 b3 a4 sn sc has ([]) (u1, tr, (hiR hi st (st.2.2.2.2.1 3))))) H := hP
          have hD : va_D A (fl (wO cI cS qx a0 a1 a2 a3 b3 a4 sn sc has ([]) (u1, tr, (hiR hi st (st.2.2.2.2.1 3))))) := hD
          refine lv_iload hx hb dL_act_533 (lv_at hl 0 rfl) ?_
          refine lv_icmp_ne (tgt := 552) hx hb dL_act_535 (by decide) (fun c => absurd rfl c) (fun _ => ?_)
          refine lv_aload_n hx hb dL_act_538 rfl (lv_at hl 3 rfl) ?_
          refine lv_iload_n hx hb dL_act_539 rfl (lv_at hl 2 rfl) ?_
          refine bRV (W0 := wO cI cS qx a0 a1 a2 a3 b3 a4 sn sc has ([]) (u1, tr, (hiR hi st (st.2.2.2.2.1 3)))) (wc := [(qx, .inr (6, [.ref (a0 0), .ref (a1 0), .ref (a2 0), .ref (a3 0), .ref (a4 0), .int has]))] :: wSt cI a0 u1 :: []) (r := (nI cc4)) ⟨hx, hb, hml, hown, hts⟩ (KR.eq (kX6_setting l D cI cS qx a0 (a1 0) (a2 0) (a3 0) (a4 0) has (3 : Int32) u1) ((set_i (i := 3) (by omega)).trans ((congrFun ySe 3).trans (pk_us.trans eTO.symm)))) (cwV 1 hts gL_act_X6_setting rfl rfl rfl (by decide +kernel) ⟨Nat.le_of_ble_eq_true rfl, Nat.le_of_ble_eq_true rfl⟩) hE hP rfl rfl [0, 1] rfl rfl rfl hl.1 rfl (Nat.le_of_ble_eq_true rfl) ⟨Nat.le_of_ble_eq_true rfl, Nat.le_of_ble_eq_true rfl⟩ dL_act_540 ?_
          refine lv_iload hx hb dL_act_543 (lv_at hl 1 rfl) ?_
          refine lv_icmp_ne (tgt := 552) hx hb dL_act_545 (by decide) (fun c => absurd rfl c) (fun _ => ?_)
          refine lv_iconst (v := (1 : Int32)) hx hb dL_act_548 (by decide +kernel) ?_
          refine lv_goto (tgt := 553) hx hb dL_act_549 (by decide) ?_
          exact hend _ _ _ (u1, tr, (hiR hi st (st.2.2.2.2.1 3))) _ _ _ _ dL_act_553 rfl (by decide) (by decide) ⟨rfl, hI1.mono (by omega), (hh.rec hbo (st.2.2.2.2.1 3))⟩ hP hS
  have J_554 : ∀ ls : Array Slot, lv_has ls 6 [(0, .ref qx), (2, .int x)] → W p l e { frames := 7, cells := 2, slots := 64, locals := 161 } s m args below meth c s.heap [] 0 0 Q (F0 m 554 ls []) := by
    intro ls hl
    obtain ⟨a3v, ha3v, ea3v⟩ := low_is x (n := (3 : Int32)) (N := 3) rfl (by omega) (by omega)
    rcases hI.give with ⟨h0, u1, eS, hI1, y0⟩ | ⟨hph, eS⟩
    · have eT : fX6_giveUp (st, hi) = ((fX3_count st.2.2.2.1.1), (u1, hiR hi st (fX3_count st.2.2.2.1.1))) := by rw [give_eq, eS]
      refine lv_aload_n hx hb dL_act_554 rfl (lv_at hl 0 rfl) ?_
      refine lv_iconst (v := (0 : Int32)) hx hb dL_act_555 (by decide +kernel) ?_
      refine bRV (W0 := wO cI cS qx a0 a1 a2 a3 b3 a4 sn sc has ([]) (st, tr, hi)) (wc := [(qx, .inr (6, [.ref (a0 0), .ref (a1 0), .ref (a2 0), .ref (a3 0), .ref (a4 0), .int has]))] :: wSt cI a0 st :: []) (r := st.2.2.2.1.2.2.1) ⟨hx, hb, hml, hown, hts⟩ (KR.eq (kX6_copy l D cI cS qx a0 (a1 0) (a2 0) (a3 0) (a4 0) has (0 : Int32) st) (cp_0 st)) (cwV 1 hts gL_act_X6_copy rfl rfl rfl (by decide +kernel) ⟨Nat.le_of_ble_eq_true rfl, Nat.le_of_ble_eq_true rfl⟩) hE hP rfl rfl [0, 1] rfl rfl rfl hl.1 rfl (Nat.le_of_ble_eq_true rfl) ⟨Nat.le_of_ble_eq_true rfl, Nat.le_of_ble_eq_true rfl⟩ dL_act_556 ?_
      refine lv_if_ne (tgt := 567) hx hb dL_act_559 (by decide) (fun _ => ?_) (fun c => absurd c h0)
      refine lv_aload_n hx hb dL_act_567 rfl (lv_at hl 0 rfl) ?_
      refine lv_iconst (v := (1 : Int32)) hx hb dL_act_568 (by decide +kernel) ?_
      refine lv_iconst (v := (0 : Int32)) hx hb dL_act_569 (by decide +kernel) ?_
      refine bRV (W0 := wO cI cS qx a0 a1 a2 a3 b3 a4 sn sc has ([]) (st, tr, hi)) (wc := [(qx, .inr (6, [.ref (a0 0), .ref (a1 0), .ref (a2 0), .ref (a3 0), .ref (a4 0), .int has]))] :: wSt cI a0 st :: []) (r := (fX3_count st.2.2.2.1.1)) ⟨hx, hb, hml, hown, hts⟩ (KR.eq (kX6_table l D cI cS qx a0 (a1 0) (a2 0) (a3 0) (a4 0) has (1 : Int32) (0 : Int32) st) (tbl_1y h0)) (cwV 2 hts gL_act_X6_table rfl rfl rfl (by decide +kernel) ⟨Nat.le_of_ble_eq_true rfl, Nat.le_of_ble_eq_true rfl⟩) hE hP rfl rfl [0, 1] rfl rfl rfl hl.1 rfl (Nat.le_of_ble_eq_true rfl) ⟨Nat.le_of_ble_eq_true rfl, Nat.le_of_ble_eq_true rfl⟩ dL_act_570 ?_
      refine lv_istore_n (lv' := [(3, .int ((fX3_count st.2.2.2.1.1))), (0, .ref qx), (2, .int x)]) hx hb dL_act_573 rfl hl (by decide) rfl (fun ls hl => ?_)
      refine lv_iload_n hx hb dL_act_574 rfl (lv_at hl 2 rfl) ?_
      refine lv_iconst (v := (3 : Int32)) hx hb dL_act_575 (by decide +kernel) ?_
      refine cRS (W0 := fl (wO cI cS qx a0 a1 a2 a3 b3 a4 sn sc has ([]) (st, tr, hi))) (r := (nI a3v)) ⟨hx, hb, hml, hown, hts⟩ (KR.eq (kL_low l D cI cS x ((3 : Int32)) (by decide)) ea3v) (va_cwS 2 hts gL_act_L_low rfl rfl rfl (by decide +kernel) ⟨Nat.le_of_ble_eq_true rfl, Nat.le_of_ble_eq_true rfl⟩) hE hP [] rfl rfl hl.1 rfl (Nat.le_of_ble_eq_true rfl) ⟨Nat.le_of_ble_eq_true rfl, Nat.le_of_ble_eq_true rfl⟩ dL_act_576 ?_
      refine lv_if_gt (tgt := 598) hx hb dL_act_579 (by decide) (fun c_579 => ?_) (fun c_579 => ?_)
      · refine lv_iconst (v := (1 : Int32)) hx hb dL_act_598 (by decide +kernel) ?_
        refine lv_goto (tgt := 603) hx hb dL_act_599 (by decide) ?_
        exact hend _ _ _ (st, tr, hi) _ _ _ _ dL_act_603 rfl (by decide) (by decide) ⟨rfl, hI.mono (by omega), hh⟩ hP hS
      · refine lv_aload_n hx hb dL_act_582 rfl (lv_at hl 1 rfl) ?_
        refine bIV (W0 := wO cI cS qx a0 a1 a2 a3 b3 a4 sn sc has ([]) (st, tr, hi)) (wc := [(qx, .inr (6, [.ref (a0 0), .ref (a1 0), .ref (a2 0), .ref (a3 0), .ref (a4 0), .int has]))] :: wSt cI a0 st :: wHi cI cS a3 b3 hi []) (w1 := fun u : TPT => [(qx, .inr (6, [.ref (a0 0), .ref (a1 0), .ref (a2 0), .ref (a3 0), .ref (a4 0), .int has]))] :: wSt cI a0 u.1 :: wHi cI cS a3 b3 u.2 []) ⟨hx, hb, hml, hown, hts⟩ (kX6_giveUp l D cI cS qx a0 a3 b3 (a1 0) (a2 0) (a4 0) has (st, hi) hI.ws hh) (cwV 0 hts gL_act_X6_giveUp rfl rfl rfl (by decide +kernel) ⟨Nat.le_of_ble_eq_true rfl, Nat.le_of_ble_eq_true rfl⟩) hE hP hD hS rfl rfl [0, 1, 4, 5, 6, 7, 8, 9, 10, 11] rfl rfl (fun _ => rfl) (fun _ => rfl) rfl hl.1 rfl (Nat.le_of_ble_eq_true rfl) ⟨Nat.le_of_ble_eq_true rfl, Nat.le_of_ble_eq_true rfl⟩ dL_act_583 (fun r_583 u_583 H locs e_583 hP hD hS => ?_)
        have hP : va_P D vwCl (fl (wO cI cS qx a0 a1 a2 a3 b3 a4 sn sc has ([]) (u_583.1, tr, u_583.2))) H := hP
        have hD : va_D A (fl (wO cI cS qx a0 a1 a2 a3 b3 a4 sn sc has ([]) (u_583.1, tr, u_583.2))) := hD
        rw [eT] at e_583
        cases e_583
        have hP : va_P D vwCl (fl (wO cI cS qx a0 a1 a2 a3 b3 a4 sn sc has ([]) (u1, tr, (hiR hi st (fX3_count st.2.2.2.1.1))))) H := hP
        have hD : va_D A (fl (wO cI cS qx a0 a1 a2 a3 b3 a4 sn sc has ([]) (u1, tr, (hiR hi st (fX3_count st.2.2.2.1.1))))) := hD
        refine lv_iload_n hx hb dL_act_586 rfl (lv_at hl 0 rfl) ?_
        refine lv_icmp_ne (tgt := 602) hx hb dL_act_587 (by decide) (fun c => absurd rfl c) (fun _ => ?_)
        refine lv_aload_n hx hb dL_act_590 rfl (lv_at hl 1 rfl) ?_
        refine lv_iconst (v := (0 : Int32)) hx hb dL_act_591 (by decide +kernel) ?_
        refine bRV (W0 := wO cI cS qx a0 a1 a2 a3 b3 a4 sn sc has ([]) (u1, tr, (hiR hi st (fX3_count st.2.2.2.1.1)))) (wc := [(qx, .inr (6, [.ref (a0 0), .ref (a1 0), .ref (a2 0), .ref (a3 0), .ref (a4 0), .int has]))] :: wSt cI a0 u1 :: []) (r := (0 : Int32)) ⟨hx, hb, hml, hown, hts⟩ (KR.eq (kX6_copy l D cI cS qx a0 (a1 0) (a2 0) (a3 0) (a4 0) has (0 : Int32) u1) ((cp_0 u1).trans y0)) (cwV 1 hts gL_act_X6_copy rfl rfl rfl (by decide +kernel) ⟨Nat.le_of_ble_eq_true rfl, Nat.le_of_ble_eq_true rfl⟩) hE hP rfl rfl [0, 1] rfl rfl rfl hl.1 rfl (Nat.le_of_ble_eq_true rfl) ⟨Nat.le_of_ble_eq_true rfl, Nat.le_of_ble_eq_true rfl⟩ dL_act_592 ?_
        refine lv_if_ne (tgt := 602) hx hb dL_act_595 (by decide) (fun c => absurd (show (0 : Int32) = (0 : Int32) by decide) c) (fun _ => ?_)
        refine lv_iconst (v := (1 : Int32)) hx hb dL_act_598 (by decide +kernel) ?_
        refine lv_goto (tgt := 603) hx hb dL_act_599 (by decide) ?_
        exact hend _ _ _ (u1, tr, (hiR hi st (fX3_count st.2.2.2.1.1))) _ _ _ _ dL_act_603 rfl (by decide) (by decide) ⟨rfl, hI1.mono (by omega), (hh.rec hbo (fX3_count st.2.2.2.1.1))⟩ hP hS
    · have eT : fX6_giveUp (st, hi) = ((-4 : Int32), (st, hiR hi st (-4 : Int32))) := by rw [give_eq, eS]
      refine lv_aload_n hx hb dL_act_554 rfl (lv_at hl 0 rfl) ?_
      refine lv_iconst (v := (0 : Int32)) hx hb dL_act_555 (by decide +kernel) ?_
      refine bRV (W0 := wO cI cS qx a0 a1 a2 a3 b3 a4 sn sc has ([]) (st, tr, hi)) (wc := [(qx, .inr (6, [.ref (a0 0), .ref (a1 0), .ref (a2 0), .ref (a3 0), .ref (a4 0), .int has]))] :: wSt cI a0 st :: []) (r := (0 : Int32)) ⟨hx, hb, hml, hown, hts⟩ (KR.eq (kX6_copy l D cI cS qx a0 (a1 0) (a2 0) (a3 0) (a4 0) has (0 : Int32) st) ((cp_0 st).trans hph)) (cwV 1 hts gL_act_X6_copy rfl rfl rfl (by decide +kernel) ⟨Nat.le_of_ble_eq_true rfl, Nat.le_of_ble_eq_true rfl⟩) hE hP rfl rfl [0, 1] rfl rfl rfl hl.1 rfl (Nat.le_of_ble_eq_true rfl) ⟨Nat.le_of_ble_eq_true rfl, Nat.le_of_ble_eq_true rfl⟩ dL_act_556 ?_
      refine lv_if_ne (tgt := 567) hx hb dL_act_559 (by decide) (fun c => absurd (show (0 : Int32) = (0 : Int32) by decide) c) (fun _ => ?_)
      refine lv_bipush (v := (-4 : Int32)) hx hb dL_act_562 (by decide +kernel) ?_
      refine lv_goto (tgt := 573) hx hb dL_act_564 (by decide) ?_
      refine lv_istore_n (lv' := [(3, .int ((-4 : Int32))), (0, .ref qx), (2, .int x)]) hx hb dL_act_573 rfl hl (by decide) rfl (fun ls hl => ?_)
      refine lv_iload_n hx hb dL_act_574 rfl (lv_at hl 2 rfl) ?_
      refine lv_iconst (v := (3 : Int32)) hx hb dL_act_575 (by decide +kernel) ?_
      refine cRS (W0 := fl (wO cI cS qx a0 a1 a2 a3 b3 a4 sn sc has ([]) (st, tr, hi))) (r := (nI a3v)) ⟨hx, hb, hml, hown, hts⟩ (KR.eq (kL_low l D cI cS x ((3 : Int32)) (by decide)) ea3v) (va_cwS 2 hts gL_act_L_low rfl rfl rfl (by decide +kernel) ⟨Nat.le_of_ble_eq_true rfl, Nat.le_of_ble_eq_true rfl⟩) hE hP [] rfl rfl hl.1 rfl (Nat.le_of_ble_eq_true rfl) ⟨Nat.le_of_ble_eq_true rfl, Nat.le_of_ble_eq_true rfl⟩ dL_act_576 ?_
      refine lv_if_gt (tgt := 598) hx hb dL_act_579 (by decide) (fun c_579 => ?_) (fun c_579 => ?_)
      · refine lv_iconst (v := (1 : Int32)) hx hb dL_act_598 (by decide +kernel) ?_
        refine lv_goto (tgt := 603) hx hb dL_act_599 (by decide) ?_
        exact hend _ _ _ (st, tr, hi) _ _ _ _ dL_act_603 rfl (by decide) (by decide) ⟨rfl, hI.mono (by omega), hh⟩ hP hS
      · refine lv_aload_n hx hb dL_act_582 rfl (lv_at hl 1 rfl) ?_
        refine bIV (W0 := wO cI cS qx a0 a1 a2 a3 b3 a4 sn sc has ([]) (st, tr, hi)) (wc := [(qx, .inr (6, [.ref (a0 0), .ref (a1 0), .ref (a2 0), .ref (a3 0), .ref (a4 0), .int has]))] :: wSt cI a0 st :: wHi cI cS a3 b3 hi []) (w1 := fun u : TPT => [(qx, .inr (6, [.ref (a0 0), .ref (a1 0), .ref (a2 0), .ref (a3 0), .ref (a4 0), .int has]))] :: wSt cI a0 u.1 :: wHi cI cS a3 b3 u.2 []) ⟨hx, hb, hml, hown, hts⟩ (kX6_giveUp l D cI cS qx a0 a3 b3 (a1 0) (a2 0) (a4 0) has (st, hi) hI.ws hh) (cwV 0 hts gL_act_X6_giveUp rfl rfl rfl (by decide +kernel) ⟨Nat.le_of_ble_eq_true rfl, Nat.le_of_ble_eq_true rfl⟩) hE hP hD hS rfl rfl [0, 1, 4, 5, 6, 7, 8, 9, 10, 11] rfl rfl (fun _ => rfl) (fun _ => rfl) rfl hl.1 rfl (Nat.le_of_ble_eq_true rfl) ⟨Nat.le_of_ble_eq_true rfl, Nat.le_of_ble_eq_true rfl⟩ dL_act_583 (fun r_583 u_583 H locs e_583 hP hD hS => ?_)
        have hP : va_P D vwCl (fl (wO cI cS qx a0 a1 a2 a3 b3 a4 sn sc has ([]) (u_583.1, tr, u_583.2))) H := hP
        have hD : va_D A (fl (wO cI cS qx a0 a1 a2 a3 b3 a4 sn sc has ([]) (u_583.1, tr, u_583.2))) := hD
        rw [eT] at e_583
        cases e_583
        have hP : va_P D vwCl (fl (wO cI cS qx a0 a1 a2 a3 b3 a4 sn sc has ([]) (st, tr, (hiR hi st (-4 : Int32))))) H := hP
        have hD : va_D A (fl (wO cI cS qx a0 a1 a2 a3 b3 a4 sn sc has ([]) (st, tr, (hiR hi st (-4 : Int32))))) := hD
        refine lv_iload_n hx hb dL_act_586 rfl (lv_at hl 0 rfl) ?_
        refine lv_icmp_ne (tgt := 602) hx hb dL_act_587 (by decide) (fun c => absurd (show (-4 : Int32) = (-4 : Int32) by decide) c) (fun _ => ?_)
        refine lv_aload_n hx hb dL_act_590 rfl (lv_at hl 1 rfl) ?_
        refine lv_iconst (v := (0 : Int32)) hx hb dL_act_591 (by decide +kernel) ?_
        refine bRV (W0 := wO cI cS qx a0 a1 a2 a3 b3 a4 sn sc has ([]) (st, tr, (hiR hi st (-4 : Int32)))) (wc := [(qx, .inr (6, [.ref (a0 0), .ref (a1 0), .ref (a2 0), .ref (a3 0), .ref (a4 0), .int has]))] :: wSt cI a0 st :: []) (r := (0 : Int32)) ⟨hx, hb, hml, hown, hts⟩ (KR.eq (kX6_copy l D cI cS qx a0 (a1 0) (a2 0) (a3 0) (a4 0) has (0 : Int32) st) ((cp_0 st).trans hph)) (cwV 1 hts gL_act_X6_copy rfl rfl rfl (by decide +kernel) ⟨Nat.le_of_ble_eq_true rfl, Nat.le_of_ble_eq_true rfl⟩) hE hP rfl rfl [0, 1] rfl rfl rfl hl.1 rfl (Nat.le_of_ble_eq_true rfl) ⟨Nat.le_of_ble_eq_true rfl, Nat.le_of_ble_eq_true rfl⟩ dL_act_592 ?_
        refine lv_if_ne (tgt := 602) hx hb dL_act_595 (by decide) (fun c => absurd (show (0 : Int32) = (0 : Int32) by decide) c) (fun _ => ?_)
        refine lv_iconst (v := (1 : Int32)) hx hb dL_act_598 (by decide +kernel) ?_
        refine lv_goto (tgt := 603) hx hb dL_act_599 (by decide) ?_
        exact hend _ _ _ (st, tr, (hiR hi st (-4 : Int32))) _ _ _ _ dL_act_603 rfl (by decide) (by decide) ⟨rfl, hI.mono (by omega), (hh.rec hbo (-4 : Int32))⟩ hP hS
  obtain ⟨z, hz, ez⟩ := low_is v (n := (18 : Int32)) (N := 18) rfl (by omega) (by omega)
  refine lv_iload_n hx hb dL_act_0 rfl (lv_at hl 1 rfl) ?_
  refine lv_bipush (v := (18 : Int32)) hx hb dL_act_1 (by decide +kernel) ?_
  refine cRS (W0 := fl (wO cI cS qx a0 a1 a2 a3 b3 a4 sn sc has ([]) (st, tr, hi))) (r := (nI z)) ⟨hx, hb, hml, hown, hts⟩ (KR.eq (kL_low l D cI cS v ((18 : Int32)) (by decide)) ez) (va_cwS 2 hts gL_act_L_low rfl rfl rfl (by decide +kernel) ⟨Nat.le_of_ble_eq_true rfl, Nat.le_of_ble_eq_true rfl⟩) hE hP [] rfl rfl hl.1 rfl (Nat.le_of_ble_eq_true rfl) ⟨Nat.le_of_ble_eq_true rfl, Nat.le_of_ble_eq_true rfl⟩ dL_act_3 ?_
  refine (Decidable.em (z = 0)).elim (fun hz1 => ?_) (fun n0 => ?_)
  · subst hz1
    refine lv_tableIn (off := 82) (tgt := 88) hx hb dL_act_6 (by decide +kernel) (by decide +kernel) (by decide +kernel) (by decide) ?_
    exact J_88 _ (lv_sub hl [0, 2] rfl)
  refine (Decidable.em (z = 1)).elim (fun hz1 => ?_) (fun n1 => ?_)
  · subst hz1
    refine lv_tableIn (off := 82) (tgt := 88) hx hb dL_act_6 (by decide +kernel) (by decide +kernel) (by decide +kernel) (by decide) ?_
    exact J_88 _ (lv_sub hl [0, 2] rfl)
  refine (Decidable.em (z = 2)).elim (fun hz1 => ?_) (fun n2 => ?_)
  · subst hz1
    refine lv_tableIn (off := 82) (tgt := 88) hx hb dL_act_6 (by decide +kernel) (by decide +kernel) (by decide +kernel) (by decide) ?_
    exact J_88 _ (lv_sub hl [0, 2] rfl)
  refine (Decidable.em (z = 3)).elim (fun hz1 => ?_) (fun n3 => ?_)
  · subst hz1
    refine lv_tableIn (off := 82) (tgt := 88) hx hb dL_act_6 (by decide +kernel) (by decide +kernel) (by decide +kernel) (by decide) ?_
    exact J_88 _ (lv_sub hl [0, 2] rfl)
  refine (Decidable.em (z = 4)).elim (fun hz1 => ?_) (fun n4 => ?_)
  · subst hz1
    refine lv_tableIn (off := 82) (tgt := 88) hx hb dL_act_6 (by decide +kernel) (by decide +kernel) (by decide +kernel) (by decide) ?_
    exact J_88 _ (lv_sub hl [0, 2] rfl)
  refine (Decidable.em (z = 5)).elim (fun hz1 => ?_) (fun n5 => ?_)
  · subst hz1
    refine lv_tableIn (off := 82) (tgt := 88) hx hb dL_act_6 (by decide +kernel) (by decide +kernel) (by decide +kernel) (by decide) ?_
    exact J_88 _ (lv_sub hl [0, 2] rfl)
  refine (Decidable.em (z = 6)).elim (fun hz1 => ?_) (fun n6 => ?_)
  · subst hz1
    refine lv_tableIn (off := 152) (tgt := 158) hx hb dL_act_6 (by decide +kernel) (by decide +kernel) (by decide +kernel) (by decide) ?_
    exact J_158 _ (lv_sub hl [0, 2] rfl)
  refine (Decidable.em (z = 7)).elim (fun hz1 => ?_) (fun n7 => ?_)
  · subst hz1
    refine lv_tableIn (off := 152) (tgt := 158) hx hb dL_act_6 (by decide +kernel) (by decide +kernel) (by decide +kernel) (by decide) ?_
    exact J_158 _ (lv_sub hl [0, 2] rfl)
  refine (Decidable.em (z = 8)).elim (fun hz1 => ?_) (fun n8 => ?_)
  · subst hz1
    refine lv_tableIn (off := 292) (tgt := 298) hx hb dL_act_6 (by decide +kernel) (by decide +kernel) (by decide +kernel) (by decide) ?_
    exact J_298 _ (lv_sub hl [0, 2] rfl)
  refine (Decidable.em (z = 9)).elim (fun hz1 => ?_) (fun n9 => ?_)
  · subst hz1
    refine lv_tableIn (off := 292) (tgt := 298) hx hb dL_act_6 (by decide +kernel) (by decide +kernel) (by decide +kernel) (by decide) ?_
    exact J_298 _ (lv_sub hl [0, 2] rfl)
  refine (Decidable.em (z = 10)).elim (fun hz1 => ?_) (fun n10 => ?_)
  · subst hz1
    refine lv_tableIn (off := 292) (tgt := 298) hx hb dL_act_6 (by decide +kernel) (by decide +kernel) (by decide +kernel) (by decide) ?_
    exact J_298 _ (lv_sub hl [0, 2] rfl)
  refine (Decidable.em (z = 11)).elim (fun hz1 => ?_) (fun n11 => ?_)
  · subst hz1
    refine lv_tableIn (off := 305) (tgt := 311) hx hb dL_act_6 (by decide +kernel) (by decide +kernel) (by decide +kernel) (by decide) ?_
    exact J_311 _ (lv_sub hl [0, 2] rfl)
  refine (Decidable.em (z = 12)).elim (fun hz1 => ?_) (fun n12 => ?_)
  · subst hz1
    refine lv_tableIn (off := 318) (tgt := 324) hx hb dL_act_6 (by decide +kernel) (by decide +kernel) (by decide +kernel) (by decide) ?_
    exact J_324 _ (lv_sub hl [0, 2] rfl)
  refine (Decidable.em (z = 13)).elim (fun hz1 => ?_) (fun n13 => ?_)
  · subst hz1
    refine lv_tableIn (off := 318) (tgt := 324) hx hb dL_act_6 (by decide +kernel) (by decide +kernel) (by decide +kernel) (by decide) ?_
    exact J_324 _ (lv_sub hl [0, 2] rfl)
  refine (Decidable.em (z = 14)).elim (fun hz1 => ?_) (fun n14 => ?_)
  · subst hz1
    refine lv_tableIn (off := 373) (tgt := 379) hx hb dL_act_6 (by decide +kernel) (by decide +kernel) (by decide +kernel) (by decide) ?_
    exact J_379 _ (lv_sub hl [0, 2] rfl)
  refine (Decidable.em (z = 15)).elim (fun hz1 => ?_) (fun n15 => ?_)
  · subst hz1
    refine lv_tableIn (off := 428) (tgt := 434) hx hb dL_act_6 (by decide +kernel) (by decide +kernel) (by decide +kernel) (by decide) ?_
    exact J_434 _ (lv_sub hl [0, 2] rfl)
  refine (Decidable.em (z = 16)).elim (fun hz1 => ?_) (fun n16 => ?_)
  · subst hz1
    refine lv_tableIn (off := 433) (tgt := 439) hx hb dL_act_6 (by decide +kernel) (by decide +kernel) (by decide +kernel) (by decide) ?_
    exact J_439 _ (lv_sub hl [0, 2] rfl)
  have hz1 : z = 17 := by omega
  subst hz1
  refine lv_tableOut (tgt := 554) hx hb dL_act_6 (Or.inr (by decide +kernel)) (by decide) ?_
  exact J_554 _ (lv_sub hl [0, 2] rfl)
