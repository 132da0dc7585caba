/-! ticks -/
def stepA (σ : StT) : StT := (σ.1, σ.2.1, σ.2.2.1, ((fX3_place (fX2_keyAt (0 : Int32) σ.2.2.2.1.2.1) (fX6_changedValue σ.2.2.2.1.2.2.2.1 (fX2_keyAt (0 : Int32) σ.2.2.2.1.2.1) (fX2_valueAt (0 : Int32) σ.2.2.2.1.2.1)) σ.2.2.2.1.1), (fX2_removeFirst σ.2.2.2.1.2.1), σ.2.2.2.1.2.2.1, σ.2.2.2.1.2.2.2.1, σ.2.2.2.1.2.2.2.2.1, σ.2.2.2.1.2.2.2.2.2.1, σ.2.2.2.1.2.2.2.2.2.2), σ.2.2.2.2.1, (upd σ.2.2.2.2.2 5 ((σ.2.2.2.2.2 5) + (1 : Int32))))
theorem key0 {ks vs : FnI} {st sz : Int32} (hw : Bd st 23) (hz : ¬ sz ≤ (0 : Int32)) : fX2_keyAt (0 : Int32) (ks, vs, st, sz) = ks (st.toNatClampNeg % 24) ∧ fX2_valueAt (0 : Int32) (ks, vs, st, sz) = vs (st.toNatClampNeg % 24) := by
  unfold fX2_keyAt fX2_valueAt
  dsimp only
  rw [if_neg (by decide), if_neg hz, if_neg (by decide), if_neg hz, show fX2_slotOf (0 : Int32) (ks, vs, st, sz) = fX2_slotOf (nI 0) (ks, vs, st, sz) from rfl, slotN hw (by omega)]
  exact ⟨rfl, rfl⟩
theorem first_is {ks vs : FnI} {st sz : Int32} (hw : Bd st 23) (hz : ¬ sz ≤ (0 : Int32)) : ∃ st2 : Int32, fX2_removeFirst (ks, vs, st, sz) = (ks, vs, st2, sz - (1 : Int32)) ∧ st2.toNatClampNeg = (st.toNatClampNeg + 1) % 24 := by
  unfold fX2_removeFirst
  dsimp only
  rw [if_neg hz]
  exact ⟨_, rfl, slotN (ks := ks) (vs := vs) (sz := sz) (e := 1) hw (by omega)⟩
set_option maxHeartbeats 1000000 in
theorem T_apply {τ : StT} {s : FnI} (R : RS τ s) (c0 : ¬ s 0 = (0 : Int32)) (hz : ¬ s 4 ≤ (0 : Int32)) : RS (stepA τ) (fX7_apply s) := by
  obtain ⟨hw, hm, hc⟩ := R
  have hw2 : WS (stepA τ) := And.intro (zz_WL_rf (τ := τ.2.2.2.1.2.1) rfl hw.1) hw.2
  have hm2 : WM (fX7_apply s) := zz_WM_apply rfl hm hz
  have hA := apply_is hm hz
  have hk := zz_m0 hm hz
  obtain ⟨p1, p2⟩ := m_pred hm hz
  generalize fX7_apply s = u at hm2 hA ⊢
  refine ⟨hw2, hm2, ?_⟩
  obtain ⟨lv, od, ho, ⟨sh, ⟨ks, vs, st, sz⟩, ph, kd, lt, cu, ag⟩, se, to⟩ := τ
  dsimp only at hc
  obtain ⟨hlv, hsh, hod, ⟨rfl, rfl, rfl, rfl, rfl, rfl⟩, hse, hto, hb, hzz, hg⟩ := hc
  obtain ⟨g1, g2⟩ := hg c0
  subst g1
  have hst : Bd st 23 := hw.1.1
  obtain ⟨k1, k2⟩ := key0 (ks := ks) (vs := vs) hst hz
  obtain ⟨st2, f1, f2⟩ := first_is (ks := ks) (vs := vs) hst hz
  have hN := hm.1.2
  obtain ⟨z1, z2, z3⟩ := g2 0 (by omega)
  have z1 : ks (st.toNatClampNeg % 24) = s 115 := z1
  have z2 : vs (st.toNatClampNeg % 24) = fX7_outside (s 116) := z2
  have z3 : RV (s 116) := z3
  obtain ⟨v1, v2⟩ := chg (kind := s 1) hk z3
  have kb := bdk hk
  have lo : ∀ j : Nat, j < 115 → j ≠ 4 → j ≠ 16 → j ≠ 51 + (s 115).toNatClampNeg → u j = s j := fun j h1 h4 h16 h51 => by
    rw [hA j, if_neg h16, if_neg h4, if_neg (by omega), lay1 hk, pk_un h51]
  unfold stepA
  dsimp only
  rw [k1, k2, f1, z1, z2, v1, place_is hk]
  refine ⟨hlv.frame (fun q hq => lo _ (by omega) (by omega) (by omega) (by omega)), fun q hq => ?_, hod.frame (fun q hq => lo _ (by omega) (by omega) (by omega) (by omega)), ⟨(lo 6 (by omega) (by omega) (by omega) (by omega)).symm, (lo 0 (by omega) (by omega) (by omega) (by omega)).symm, (lo 1 (by omega) (by omega) (by omega) (by omega)).symm, (lo 2 (by omega) (by omega) (by omega) (by omega)).symm, (lo 3 (by omega) (by omega) (by omega) (by omega)).symm, (lo 5 (by omega) (by omega) (by omega) (by omega)).symm⟩, fun q hq => ?_, ?_, ?_, fun q => ?_, fun q => ?_⟩
  · by_cases e : q = (s 115).toNatClampNeg
    · subst e
      rw [pk_us, hA _, if_neg (by omega), if_neg (by omega), if_neg (by omega), lay1 hk, pk_us]
      exact ⟨rfl, v2⟩
    · rw [pk_un e, lo _ (by omega) (by omega) (by omega) (by omega)]
      exact hsh q hq
  · rw [lo _ (by omega) (by omega) (by omega) (by omega)]; exact hse q hq
  · exact tot_fr hto (i := 5) (by omega) (by rw [hA (11 + 5)]; rfl) (fun q h1 h2 => lo _ (by omega) (by omega) (by omega) (by omega))
  · unfold RB
    rw [lo 0 (by omega) (by omega) (by omega) (by omega), lo 5 (by omega) (by omega) (by omega) (by omega), lo 9 (by omega) (by omega) (by omega) (by omega)]
    exact And.intro hb.1 (And.intro hb.2.1 (And.intro hb.2.2.1 (And.intro (fun q hq => by rw [lo _ (by omega) (by omega) (by omega) (by omega)]; exact hb.2.2.2.1 q hq) hb.2.2.2.2)))
  · rw [lo 0 (by omega) (by omega) (by omega) (by omega)] at q
    exact absurd q c0
  · have e4 : u 4 = s 4 - (1 : Int32) := by rw [hA 4]; rfl
    rw [e4]
    refine ⟨rfl, fun i hi => ?_⟩
    have hi2 : i + 1 < (s 4).toNatClampNeg := by omega
    have g3 := g2 (i + 1) hi2
    have e5 : (st2.toNatClampNeg + i) % 24 = (st.toNatClampNeg + (i + 1)) % 24 := by rw [f2]; omega
    have e6 : u (115 + 2 * i) = s (115 + 2 * (i + 1)) := by
      rw [hA _, if_neg (by omega), if_neg (by omega), if_pos (by omega)]
      exact congrArg s (by omega)
    have e7 : u (115 + 2 * i + 1) = s (115 + 2 * (i + 1) + 1) := by
      rw [hA _, if_neg (by omega), if_neg (by omega), if_pos (by omega)]
      exact congrArg s (by omega)
    rw [e5, e6, e7]
    exact g3
/-- the cursor goes on, without a row and with one -/
def nxA (k : Nat) (σ : StT) : StT := (σ.1, σ.2.1, σ.2.2.1, (σ.2.2.2.1.1, σ.2.2.2.1.2.1, σ.2.2.2.1.2.2.1, σ.2.2.2.1.2.2.2.1, σ.2.2.2.1.2.2.2.2.1, nI k + (1 : Int32), σ.2.2.2.1.2.2.2.2.2.2), σ.2.2.2.2.1, σ.2.2.2.2.2)
def nxB (k : Nat) (d : Int32) (σ : StT) : StT := (σ.1, σ.2.1, σ.2.2.1, (upd σ.2.2.2.1.1 k d, σ.2.2.2.1.2.1, σ.2.2.2.1.2.2.1, σ.2.2.2.1.2.2.2.1, σ.2.2.2.1.2.2.2.2.1, nI k + (1 : Int32), σ.2.2.2.1.2.2.2.2.2.2), σ.2.2.2.2.1, (upd σ.2.2.2.2.2 6 ((σ.2.2.2.2.2 6) + (1 : Int32))))
theorem WS_nx {τ u : StT} {k : Nat} (hk : k < 32) (hw : WS τ) (h1 : u.2.2.2.1.2.1 = τ.2.2.2.1.2.1) (h2 : u.2.2.2.1.2.2.2.2.2.1 = nI k + (1 : Int32)) (h3 : u.2.2.1 = τ.2.2.1) : WS u := by
  refine And.intro ?_ (And.intro ?_ ?_)
  · rw [h1]; exact hw.1
  · rw [h2, nI_1]; exact Bd.of (by omega) (by omega)
  · rw [h3]; exact hw.2.2
theorem T_nxA {τ : StT} {s : FnI} {k : Nat} (R : RS τ s) (hk : k < 32) (h3 : s 3 = nI k) : RS (nxA k τ) (upd s 3 (s 3 + (1 : Int32))) := by
  obtain ⟨hw, hm, hc⟩ := R
  refine ⟨WS_nx hk hw rfl rfl rfl, WM_nx hm (by rw [h3, nI_1]; exact Bd.of (by omega) (by omega)) rfl (fun _ _ => rfl), ?_⟩
  have h2 := hc.scal hm (to' := τ.2.2.2.2.2) (u := upd s 3 (s 3 + (1 : Int32))) (fun j h1 h2 => by rw [pk_un (by omega)]) rfl (fun q hq => by rw [pk_un (by omega)]) (fun q hq => by rw [pk_un (by omega)]; exact hc.2.2.2.2.2.1 q hq) (hc.2.2.2.2.2.2.1.up (by omega) (by omega) (by omega)) hc.2.2.2.2.2.2.2.1 (fun q => ⟨q, rfl⟩)
  obtain ⟨-, -, -, ⟨-, g0, g1, g2, -, g4⟩, -⟩ := hc
  unfold nxA
  dsimp only
  rw [g0, g1, g2, g4]
  rw [show upd s 3 (s 3 + (1 : Int32)) 3 = nI k + (1 : Int32) from by rw [pk_us, h3]] at h2
  exact h2
theorem T_nxB {τ : StT} {s : FnI} {k : Nat} {d : Int32} (R : RS τ s) (hk : k < 32) (h3 : s 3 = nI k) (hd : RV d) : RS (nxB k (fX7_outside d) τ) (upd (upd (upd s (51 + k) d) 17 (s 17 + (1 : Int32))) 3 (s 3 + (1 : Int32))) := by
  obtain ⟨hw, hm, hc⟩ := R
  have lo : ∀ j : Nat, j ≠ 3 → j ≠ 17 → j ≠ 51 + k → upd (upd (upd s (51 + k) d) 17 (s 17 + (1 : Int32))) 3 (s 3 + (1 : Int32)) j = s j := fun j h1 h2 h4 => by rw [pk_un h1, pk_un h2, pk_un h4]
  refine ⟨WS_nx hk hw rfl rfl rfl, hm.congr (by rw [pk_us, h3, nI_1]; exact Bd.of (by omega) (by omega)) (lo 4 (by omega) (by omega) (by omega)) (fun j hj => lo j (by omega) (by omega) (by omega)), ?_⟩
  obtain ⟨hlv, hsh, hod, ⟨g6, g0, g1, g2, g3, g5⟩, hse, hto, hb, hz, hg⟩ := hc
  unfold nxB
  dsimp only
  refine ⟨hlv.frame (fun q hq => lo _ (by omega) (by omega) (by omega)), ((hsh.put hd).up (by omega)).up (by omega), hod.frame (fun q hq => lo _ (by omega) (by omega) (by omega)), ⟨?_, ?_, ?_, ?_, ?_, ?_⟩, fun q hq => ?_, ?_, ?_, fun q => ?_, fun q => ?_⟩
  · rw [lo 6 (by omega) (by omega) (by omega)]; exact g6
  · rw [lo 0 (by omega) (by omega) (by omega)]; exact g0
  · rw [lo 1 (by omega) (by omega) (by omega)]; exact g1
  · rw [lo 2 (by omega) (by omega) (by omega)]; exact g2
  · rw [pk_us, h3]
  · rw [lo 5 (by omega) (by omega) (by omega)]; exact g5
  · rw [lo _ (by omega) (by omega) (by omega)]; exact hse q hq
  · exact tot_fr hto (i := 6) (by omega) rfl (fun q h1 h2 => lo _ (by omega) (by omega) (by omega))
  · unfold RB
    rw [lo 0 (by omega) (by omega) (by omega), lo 5 (by omega) (by omega) (by omega), lo 9 (by omega) (by omega) (by omega)]
    exact And.intro hb.1 (And.intro hb.2.1 (And.intro hb.2.2.1 (And.intro (fun q hq => by rw [lo _ (by omega) (by omega) (by omega)]; exact hb.2.2.2.1 q hq) hb.2.2.2.2)))
  · rw [lo 0 (by omega) (by omega) (by omega)] at q
    rw [lo 4 (by omega) (by omega) (by omega)]; exact hz q
  · rw [lo 0 (by omega) (by omega) (by omega)] at q
    rw [lo 4 (by omega) (by omega) (by omega)]
    exact ⟨(hg q).1, (hg q).2.frame hm.1.2 (fun j h1 h2 => lo j (by omega) (by omega) (by omega))⟩
/-- the copied row's key is behind the cursor now -/
theorem key_is {τ : StT} {s : FnI} {k : Nat} (R : RS τ s) (hk : k < 32) (h3 : s 3 = nI k) :
    fX0_copyKey (nI k) (fX3_at (nI k) τ.1) τ.2.2.2.1 = if fX7_row (1 : Int32) (nI k) s = (-1 : Int32) ∧ ¬ fX7_due (nI k) s = (-1 : Int32) then ((1 : Int32), (nxB k (fX7_outside (fX7_due (nI k) s)) τ).2.2.2.1) else ((0 : Int32), (nxA k τ).2.2.2.1) := by
  have hb : Bd (nI k) 31 := bnI (by omega) (by omega)
  have e0 : fX3_at (nI k) τ.1 = fX7_outside (fX7_row (0 : Int32) (nI k) s) ∧ RV (fX7_row (0 : Int32) (nI k) s) := by
    rw [at_is hb, row0 hb]; exact R.2.2.1 _ (bdk hb)
  have e1 : fX3_at (nI k) τ.2.2.2.1.1 = fX7_outside (fX7_row (1 : Int32) (nI k) s) ∧ RV (fX7_row (1 : Int32) (nI k) s) := by
    rw [at_is hb, row1 hb]; exact R.2.2.2.1 _ (bdk hb)
  have ek : τ.2.2.2.1.2.2.2.1 = s 1 := R.2.2.2.2.2.1.2.2.1
  obtain ⟨v1, v2⟩ := chg (kind := s 1) hb e0.2
  have e2 : fX6_changedValue τ.2.2.2.1.2.2.2.1 (nI k) (fX3_at (nI k) τ.1) = fX7_outside (fX7_due (nI k) s) := by
    rw [ek, e0.1, v1]; rfl
  have e3 : RV (fX7_due (nI k) s) := v2
  unfold fX0_copyKey
  rw [e2, e1.1]
  by_cases c1 : fX7_due (nI k) s = (-1 : Int32)
  · rw [if_pos ((out_i e3).mpr c1), if_neg (fun q => q.2 c1)]
    rfl
  · rw [if_neg (fun q => c1 ((out_i e3).mp q))]
    by_cases c2 : fX7_row (1 : Int32) (nI k) s = (-1 : Int32)
    · rw [if_pos ((out_i e1.2).mpr c2), if_pos ⟨c2, c1⟩]
      dsimp only
      rw [place_is hb, nI_clamp (by omega)]
      rfl
    · rw [if_neg (fun q => c2 ((out_i e1.2).mp q)), if_neg (fun q => c2 q.1)]
      rfl
theorem upd_same {s : FnI} {j : Nat} {x : Int32} (h : s j = x) : upd s j x = s := by
  funext q
  by_cases e : q = j
  · rw [e, pk_us, h]
  · rw [pk_un e]
theorem RS.phase {τ : StT} {s : FnI} {x : Int32} (R : RS τ s) (c0 : ¬ s 0 = (0 : Int32)) (hx : Bd x 3) (h3 : ¬ x = (3 : Int32)) (h0 : ¬ x = (0 : Int32)) : RS (τ.1, τ.2.1, τ.2.2.1, (τ.2.2.2.1.1, τ.2.2.2.1.2.1, x, τ.2.2.2.1.2.2.2.1, τ.2.2.2.1.2.2.2.2.1, τ.2.2.2.1.2.2.2.2.2.1, τ.2.2.2.1.2.2.2.2.2.2), τ.2.2.2.2.1, τ.2.2.2.2.2) (upd s 0 x) := by
  obtain ⟨hw, hm, hc⟩ := R
  refine ⟨hw, WM_u hm (by omega) (by omega) (by omega), ?_⟩
  have h2 := hc.scal hm (to' := τ.2.2.2.2.2) (u := upd s 0 x) (fun j h1 h2 => by rw [pk_un (by omega)]) rfl (fun q hq => by rw [pk_un (by omega)]) (fun q hq => by rw [pk_un (by omega)]; exact hc.2.2.2.2.2.1 q hq) (hc.2.2.2.2.2.2.1.phase hx h3) (fun q => absurd (by rw [pk_us] at q; exact q) h0) (fun _ => ⟨c0, rfl⟩)
  obtain ⟨-, -, -, ⟨-, -, g1, g2, g3, g4⟩, -⟩ := hc
  dsimp only
  rw [g1, g2, g3, g4]
  rw [show upd s 0 x 0 = x from pk_us] at h2
  exact h2
theorem nI_lt32 {k : Nat} (hk : k < 32) : nI k < (32 : Int32) := by
  rw [Int32.lt_iff_toInt_lt, nI_toInt (by omega)]
  show (k : Int) < 32
  omega
theorem nI_ne32 {k : Nat} (hk : k < 32) : ¬ nI k = (32 : Int32) := fun e => by
  have h := congrArg Int32.toInt e
  rw [nI_toInt (by omega), show (32 : Int32).toInt = 32 from by decide] at h
  omega
theorem R_at {τ : StT} {s : FnI} {k : Nat} (R : RS τ s) (hk : k < 32) : (fX3_at (nI k) τ.1 = (-5 : Int32) ↔ fX7_row (0 : Int32) (nI k) s = (-1 : Int32)) := by
  have hb : Bd (nI k) 31 := bnI (by omega) (by omega)
  have h := R.2.2.1 _ (bdk hb)
  rw [at_is hb, row0 hb, h.1]
  exact out_i h.2
theorem lot_step {τ : StT} {s : FnI} {k : Nat} {cnt : Int32} (R : RS τ s) (hk : k < 32) (h3 : s 3 = nI k) (hl : ¬ s 2 ≤ cnt) (n : Nat) :
    fX5_copyLot_40 (n + 1) cnt k τ = fX5_copyLot_40 n (if fX7_row (0 : Int32) (nI k) s = (-1 : Int32) then cnt else cnt + (1 : Int32)) (k + 1) (if fX7_row (1 : Int32) (nI k) s = (-1 : Int32) ∧ ¬ fX7_due (nI k) s = (-1 : Int32) then nxB k (fX7_outside (fX7_due (nI k) s)) τ else nxA k τ) := by
  have el : τ.2.2.2.1.2.2.2.2.1 = s 2 := R.2.2.2.2.2.1.2.2.2.1
  conv => lhs; unfold fX5_copyLot_40
  rw [if_neg (n32 (by omega)), if_neg (by rw [el]; exact hl), key_is R hk h3]
  by_cases c1 : fX7_row (0 : Int32) (nI k) s = (-1 : Int32)
  · rw [if_pos ((R_at R hk).mpr c1), if_pos c1]
    by_cases c2 : fX7_row (1 : Int32) (nI k) s = (-1 : Int32) ∧ ¬ fX7_due (nI k) s = (-1 : Int32)
    · rw [if_pos c2, if_pos c2]
      dsimp only
      rw [if_neg (by decide)]
      rfl
    · rw [if_neg c2, if_neg c2]
      dsimp only
      rw [if_pos rfl]
      rfl
  · rw [if_neg (fun q => c1 ((R_at R hk).mp q)), if_neg c1]
    by_cases c2 : fX7_row (1 : Int32) (nI k) s = (-1 : Int32) ∧ ¬ fX7_due (nI k) s = (-1 : Int32)
    · rw [if_pos c2, if_pos c2]
      dsimp only
      rw [if_neg (by decide)]
      rfl
    · rw [if_neg c2, if_neg c2]
      dsimp only
      rw [if_pos rfl]
      rfl
theorem keys_step {s : FnI} {k : Nat} {cnt : Int32} (hk : k < 32) (h3 : s 3 = nI k) (hl : ¬ s 2 ≤ cnt) (n : Nat) :
    fX7_copyKeys_2 (n + 1) cnt s = fX7_copyKeys_2 n (if fX7_row (0 : Int32) (nI k) s = (-1 : Int32) then cnt else cnt + (1 : Int32)) (if fX7_row (1 : Int32) (nI k) s = (-1 : Int32) ∧ ¬ fX7_due (nI k) s = (-1 : Int32) then upd (upd (upd s (51 + k) (fX7_due (nI k) s)) 17 (s 17 + (1 : Int32))) 3 (s 3 + (1 : Int32)) else upd s 3 (s 3 + (1 : Int32))) := by
  have hb : Bd (nI k) 31 := bnI (by omega) (by omega)
  have eL : fX7_lay (1 : Int32) (s 3) (fX7_due (s 3) s) s = upd s (51 + k) (fX7_due (nI k) s) := by rw [h3, lay1 hb, nI_clamp (by omega)]
  have e17 : upd s (51 + k) (fX7_due (nI k) s) 17 = s 17 := pk_un (by omega)
  have e3 : upd s (51 + k) (fX7_due (nI k) s) 3 = s 3 := pk_un (by omega)
  conv => lhs; unfold fX7_copyKeys_2
  rw [if_neg (by rw [h3]; exact n32 (by omega)), if_neg hl, eL, i_add0]
  dsimp only
  rw [e17, e3, h3]
  by_cases c1 : fX7_row (0 : Int32) (nI k) s = (-1 : Int32)
  · rw [if_pos c1, if_pos c1]
    by_cases c2 : fX7_row (1 : Int32) (nI k) s = (-1 : Int32)
    · rw [if_pos c2]
      by_cases c4 : fX7_due (nI k) s = (-1 : Int32)
      · rw [if_pos c4, if_neg (fun q => q.2 c4)]
      · rw [if_neg c4, if_pos ⟨c2, c4⟩]
    · rw [if_neg c2, if_neg (fun q => c2 q.1)]
  · rw [if_neg c1, if_neg c1]
    by_cases c2 : fX7_row (1 : Int32) (nI k) s = (-1 : Int32)
    · rw [if_pos c2]
      by_cases c4 : fX7_due (nI k) s = (-1 : Int32)
      · rw [if_pos c4, if_neg (fun q => q.2 c4)]
      · rw [if_neg c4, if_pos ⟨c2, c4⟩]
    · rw [if_neg c2, if_neg (fun q => c2 q.1)]
theorem lot_end {τ : StT} {k : Nat} {cnt : Int32} (n : Nat) (ec : τ.2.2.2.1.2.2.2.2.2.1 = nI k) (c : (32 : Int32) ≤ nI k) (hk : k = 32) : fX5_copyLot_40 (n + 1) cnt k τ = (τ.1, τ.2.1, τ.2.2.1, (τ.2.2.2.1.1, τ.2.2.2.1.2.1, (2 : Int32), τ.2.2.2.1.2.2.2.1, τ.2.2.2.1.2.2.2.2.1, τ.2.2.2.1.2.2.2.2.2.1, τ.2.2.2.1.2.2.2.2.2.2), τ.2.2.2.2.1, τ.2.2.2.2.2) := by
  have h : ¬ τ.2.2.2.1.2.2.2.2.2.1 < (32 : Int32) := by rw [ec, hk]; decide
  conv => lhs; unfold fX5_copyLot_40
  rw [if_pos c, if_neg h]
theorem lot_stay {τ : StT} {k : Nat} {cnt : Int32} (n : Nat) (hk : k < 32) (ec : τ.2.2.2.1.2.2.2.2.2.1 = nI k) (d : τ.2.2.2.1.2.2.2.2.1 ≤ cnt) : fX5_copyLot_40 (n + 1) cnt k τ = τ := by
  have h : τ.2.2.2.1.2.2.2.2.2.1 < (32 : Int32) := by rw [ec]; exact nI_lt32 hk
  conv => lhs; unfold fX5_copyLot_40
  rw [if_neg (n32 hk), if_pos d, if_pos h]
theorem keys_end {s : FnI} {k : Nat} {cnt : Int32} (n : Nat) (h3 : s 3 = nI k) (hk : k = 32) : fX7_copyKeys_2 (n + 1) cnt s = upd s 0 (2 : Int32) := by
  have h : s 3 = (32 : Int32) := by rw [h3, hk]; rfl
  conv => lhs; unfold fX7_copyKeys_2
  rw [if_pos (by rw [h]; decide), if_pos h]
theorem keys_stay {s : FnI} {k : Nat} {cnt : Int32} (n : Nat) (hk : k < 32) (h1 : s 0 = (1 : Int32)) (h3 : s 3 = nI k) (d : s 2 ≤ cnt) : fX7_copyKeys_2 (n + 1) cnt s = s := by
  have h : ¬ s 3 = (32 : Int32) := by rw [h3]; exact nI_ne32 hk
  have g : ¬ (32 : Int32) ≤ s 3 := by rw [h3]; exact n32 hk
  conv => lhs; unfold fX7_copyKeys_2
  rw [if_neg g, if_pos d, if_neg h, upd_same h1]
theorem T_lot : ∀ (n k : Nat) (cnt : Int32) (τ : StT) (s : FnI), RS τ s → s 0 = (1 : Int32) → s 3 = nI k → k ≤ 32 → 32 - k < n → RS (fX5_copyLot_40 n cnt k τ) (fX7_copyKeys_2 n cnt s) := by
  intro n
  induction n with
  | zero => intro k cnt τ s _ _ _ _ h; exact absurd h (by omega)
  | succ n ih =>
    intro k cnt τ s R h1 h3 hk hn
    have ec : τ.2.2.2.1.2.2.2.2.2.1 = nI k := Eq.trans R.2.2.2.2.2.1.2.2.2.2.1 h3
    have el : τ.2.2.2.1.2.2.2.2.1 = s 2 := R.2.2.2.2.2.1.2.2.2.1
    by_cases c : (32 : Int32) ≤ nI k
    · have e := ge32 hk c
      rw [lot_end n ec c e, keys_end n h3 e]
      exact R.phase (x := (2 : Int32)) (by rw [h1]; decide) (Bd.of (j := 2) (by omega) (by omega)) (by decide) (by decide)
    · have hk2 := lt32 hk c
      by_cases d : s 2 ≤ cnt
      · rw [lot_stay n hk2 ec (by rw [el]; exact d), keys_stay n hk2 h1 h3 d]
        exact R
      · rw [lot_step R hk2 h3 d n, keys_step hk2 h3 d n]
        by_cases g : fX7_row (1 : Int32) (nI k) s = (-1 : Int32) ∧ ¬ fX7_due (nI k) s = (-1 : Int32)
        · rw [if_pos g, if_pos g]
          have hb : Bd (nI k) 31 := bnI (by omega) (by omega)
          have hd : RV (fX7_due (nI k) s) := (chg (kind := s 1) hb (by rw [row0 hb]; exact (R.2.2.1 _ (bdk hb)).2)).2
          exact ih (k + 1) _ _ _ (T_nxB R hk2 h3 hd) (by rw [pk_un (by omega), pk_un (by omega), pk_un (by omega)]; exact h1) (by rw [pk_us, h3, nI_1]) (by omega) (by omega)
        · rw [if_neg g, if_neg g]
          exact ih (k + 1) _ _ _ (T_nxA R hk2 h3) (by rw [pk_un (by omega)]; exact h1) (by rw [pk_us, h3, nI_1]) (by omega) (by omega)
/-- the totals alone have changed -/
theorem tot_up {to s : FnI} (h : ∀ k : Nat, k < 8 → to k = s (11 + k)) {i : Nat} (hi : i < 8) : ∀ k : Nat, k < 8 → upd to i (to i + (1 : Int32)) k = upd s (11 + i) (s (11 + i) + (1 : Int32)) (11 + k) := tot_fr h hi pk_us (fun q _ h2 => pk_un (by omega))
theorem RS.tot {τ : StT} {s : FnI} (R : RS τ s) {i : Nat} (hi : i < 8) : RS (τ.1, τ.2.1, τ.2.2.1, τ.2.2.2.1, τ.2.2.2.2.1, upd τ.2.2.2.2.2 i (τ.2.2.2.2.2 i + (1 : Int32))) (upd s (11 + i) (s (11 + i) + (1 : Int32))) := by
  obtain ⟨hw, hm, hc⟩ := R
  refine ⟨hw, WM_u hm (by omega) (by omega) (by omega), ?_⟩
  have lo : ∀ j : Nat, j < 11 → upd s (11 + i) (s (11 + i) + (1 : Int32)) j = s j := fun j hj => pk_un (by omega)
  have h2 := hc.scal hm (to' := upd τ.2.2.2.2.2 i (τ.2.2.2.2.2 i + (1 : Int32))) (u := upd s (11 + i) (s (11 + i) + (1 : Int32))) (fun j h1 h2 => by rw [pk_un (by omega)]) (lo 6 (by omega)) (fun q hq => lo _ (by omega)) (tot_up hc.2.2.2.2.2.1 hi) (hc.2.2.2.2.2.2.1.up (by omega) (by omega) (by omega)) (by rw [lo 0 (by omega), lo 4 (by omega)]; exact hc.2.2.2.2.2.2.2.1) (by rw [lo 0 (by omega), lo 4 (by omega)]; exact fun q => ⟨q, rfl⟩)
  obtain ⟨-, -, -, ⟨-, g0, g1, g2, g3, g4⟩, -⟩ := hc
  rw [lo 0 (by omega), lo 1 (by omega), lo 2 (by omega), lo 3 (by omega), lo 5 (by omega), ← g0, ← g1, ← g2, ← g3, ← g4] at h2
  exact h2
def finC (σ : StT) : StT := if σ.2.2.2.1.2.2.1 = (1 : Int32) then fX5_copyLot σ else σ
def finM (s : FnI) : FnI := if s 0 = (1 : Int32) then (if s 4 ≤ s 8 then fX7_copyKeys s else upd s 15 (s 15 + (1 : Int32))) else s
theorem T_fin {τ : StT} {s : FnI} (R : RS τ s) (c0 : ¬ s 0 = (0 : Int32)) : RS (finC τ) (finM s) := by
  have hp := R_ph R
  unfold finC finM
  by_cases c1 : s 0 = (1 : Int32)
  · rw [if_pos (hp.trans c1), if_pos c1]
    have hsz : τ.2.2.2.1.2.1.2.2.2 = s 4 := (R.2.2.2.2.2.2.2.2.2.2 c0).1
    have h8 : τ.2.2.2.2.1 1 = s 8 := R.2.2.2.2.2.2.1 1 (by omega)
    unfold fX5_copyLot fX7_copyKeys
    by_cases c2 : s 4 ≤ s 8
    · rw [if_pos (by rw [hsz, h8]; exact c2), if_pos c2]
      have ec : τ.2.2.2.1.2.2.2.2.2.1 = s 3 := R.2.2.2.2.2.1.2.2.2.2.1
      rw [ec]
      have h3 := R.2.1.2.1
      exact T_lot 33 _ _ _ _ R c1 h3.1 h3.2 (by omega)
    · rw [if_neg (by rw [hsz, h8]; exact c2), if_neg c2]
      exact R.tot (i := 4) (by omega)
  · rw [if_neg (fun q => c1 (hp.symm.trans q)), if_neg c1]
    exact R
theorem T_76 : ∀ (n k : Nat) (τ : StT) (s : FnI), RS τ s → ¬ s 0 = (0 : Int32) → (s 4).toNatClampNeg < n → RS (finC (fX5_applyEntries_10 n k τ)) (fX7_tickOnce_76 n k s)
  | 0, _, _, _, _, _, h => absurd h (by omega)
  | n + 1, k, τ, s, R, c0, hn => by
    have h7 : τ.2.2.2.2.1 0 = s 7 := R.2.2.2.2.2.2.1 0 (by omega)
    have hsz : τ.2.2.2.1.2.1.2.2.2 = s 4 := (R.2.2.2.2.2.2.2.2.2.2 c0).1
    unfold fX5_applyEntries_10 fX7_tickOnce_76
    by_cases c1 : s 7 ≤ nI k
    · rw [if_pos (by rw [h7]; exact c1), if_pos c1]
      exact T_fin R c0
    · rw [if_neg (by rw [h7]; exact c1), if_neg c1]
      by_cases c2 : s 4 ≤ (0 : Int32)
      · rw [if_pos (by rw [hsz]; exact c2), if_pos c2]
        exact T_fin R c0
      · rw [if_neg (by rw [hsz]; exact c2), if_neg c2]
        have R2 := T_apply R c0 c2
        have e0 : fX7_apply s 0 = s 0 := by
          rw [apply_is R.2.1 c2 0, if_neg (by omega), if_neg (by omega), if_neg (by omega)]
          exact lay_other zz_T1 (zz_m0 R.2.1 c2) (by omega)
        have e4 : (fX7_apply s 4).toNatClampNeg < n := zz_apply_sz rfl R.2.1 c2 hn
        exact T_76 n (k + 1) (stepA τ) (fX7_apply s) R2 (by rw [e0]; exact c0) e4
theorem T_tick {τ : StT} {s : FnI} (R : RS τ s) : RS (fX5_makeTick τ) (fX7_tickOnce s) := by
  have hp := R_ph R
  have R1 := R.tot (i := 7) (by omega)
  have h9 : τ.2.2.2.2.1 2 = s 9 := R.2.2.2.2.2.2.1 2 (by omega)
  have h5 : τ.2.2.2.1.2.2.2.2.2.2 = s 5 := R.2.2.2.2.2.1.2.2.2.2.2
  have hb := R.2.2.2.2.2.2.2.2.1
  have hh : ∀ x : FnI, fX5_hasCopy (τ.1, τ.2.1, τ.2.2.1, τ.2.2.2.1, τ.2.2.2.2.1, x) = fX5_hasCopy τ := fun _ => rfl
  have hi : fX7_isCopy (upd s 18 (s 18 + (1 : Int32))) = fX7_isCopy s := rfl
  unfold fX5_makeTick fX7_tickOnce
  rw [hh, hi]
  by_cases c0 : s 0 = (0 : Int32)
  · rw [if_pos (hc_0.mpr (hp.trans c0)), if_pos (ic_0.mpr c0)]
    exact R1
  · rw [if_neg (fun q => c0 (hp.symm.trans (hc_0.mp q))), if_neg (fun q => c0 (ic_0.mp q))]
    unfold fX5_lockRunsOut fX5_applyEntries
    dsimp only
    by_cases c3 : s 0 = (3 : Int32)
    · rw [if_pos (hp.trans c3), if_pos c3]
      have h20 := hb.2.2.1 c3
      obtain ⟨a, ha, ea⟩ := h20.num
      obtain ⟨p, hpp, ep⟩ := hb.2.2.2.2.num
      obtain ⟨hw1, hm1, hc1⟩ := R1
      by_cases c4 : s 5 + (1 : Int32) ≤ s 9
      · rw [if_neg (show ¬ (τ.2.2.2.2.1 2) < (τ.2.2.2.1.2.2.2.2.2.2 + (1 : Int32)) from by rw [h9, h5]; exact Int32.not_lt.mpr c4), if_pos c4]
        dsimp only
        rw [if_pos rfl]
        have hle : a + 1 ≤ p := by
          rw [ea, ep, nI_1] at c4
          exact (nI_leI (by omega) (by omega)).mp c4
        have hS := hc1.scal hm1 (to' := upd τ.2.2.2.2.2 7 (τ.2.2.2.2.2 7 + (1 : Int32))) (u := upd (upd s 18 (s 18 + (1 : Int32))) 5 (s 5 + (1 : Int32))) (fun j h1 h2 => by rw [pk_un (by omega)]) rfl (fun q hq => by rw [pk_un (by omega)]) (fun q hq => (hc1.2.2.2.2.2.1 q hq).trans (pk_un (by omega)).symm) (And.intro hb.1 (And.intro (by rw [pk_us, ea, nI_1]; exact Bd.of (by omega) (by omega)) (And.intro (fun _ => by rw [pk_us, ea, nI_1]; exact Bd.of (by omega) (by omega)) (And.intro (fun q hq => by rw [pk_un (by omega), pk_un (by omega)]; exact hb.2.2.2.1 q hq) hb.2.2.2.2)))) (fun q => absurd q c0) (fun q => ⟨q, rfl⟩)
        refine T_76 25 0 _ _ ⟨hw1, WM_u hm1 (by omega) (by omega) (by omega), ?_⟩ c0 (Nat.lt_succ_of_le hm1.1.2)
        obtain ⟨-, -, -, ⟨-, -, g1, g2, g3, -⟩, -⟩ := hc1
        dsimp only
        dsimp only at g1 g2 g3
        rw [g1, g2, g3, hp, h5]
        exact hS
      · rw [if_pos (show (τ.2.2.2.2.1 2) < (τ.2.2.2.1.2.2.2.2.2.2 + (1 : Int32)) from by rw [h9, h5]; exact Int32.not_le.mp c4), if_neg c4]
        dsimp only
        rw [if_neg (by decide)]
        have hb2 : RB (upd (upd (upd (upd s 18 (s 18 + (1 : Int32))) 5 (s 5 + (1 : Int32))) 0 (2 : Int32)) 14 (s 14 + (1 : Int32))) := And.intro (Bd.of (j := 2) (by omega) (by omega)) (And.intro (by show Bd (s 5 + (1 : Int32)) 21; rw [ea, nI_1]; exact Bd.of (by omega) (by omega)) (And.intro (fun q => absurd q (by show ¬ (2 : Int32) = 3; decide)) (And.intro (fun q hq => by rw [pk_un (by omega), pk_un (by omega), pk_un (by omega), pk_un (by omega)]; exact hb.2.2.2.1 q hq) hb.2.2.2.2)))
        have hS := hc1.scal hm1 (to' := upd (upd τ.2.2.2.2.2 7 (τ.2.2.2.2.2 7 + (1 : Int32))) 3 (upd τ.2.2.2.2.2 7 (τ.2.2.2.2.2 7 + (1 : Int32)) 3 + (1 : Int32))) (u := upd (upd (upd (upd s 18 (s 18 + (1 : Int32))) 5 (s 5 + (1 : Int32))) 0 (2 : Int32)) 14 (s 14 + (1 : Int32))) (fun j h1 h2 => by rw [pk_un (by omega), pk_un (by omega), pk_un (by omega)]) rfl (fun q hq => by rw [pk_un (by omega), pk_un (by omega), pk_un (by omega)]) (tot_fr hc1.2.2.2.2.2.1 (i := 3) (by omega) rfl (fun q h1 h2 => by rw [pk_un (by omega), pk_un (by omega), pk_un (by omega)])) hb2 (fun q => absurd q (by show ¬ (2 : Int32) = 0; decide)) (fun _ => ⟨c0, rfl⟩)
        refine ⟨hw1, WM_u (WM_u (WM_u hm1 (by omega) (by omega) (by omega)) (by omega) (by omega) (by omega)) (by omega) (by omega) (by omega), ?_⟩
        obtain ⟨-, -, -, ⟨-, -, g1, g2, g3, -⟩, -⟩ := hc1
        dsimp only
        dsimp only at g1 g2 g3
        rw [g1, g2, g3, h5]
        exact hS
    · rw [if_neg (fun q => c3 (hp.symm.trans q)), if_neg c3]
      dsimp only
      rw [if_pos rfl]
      exact T_76 25 0 _ _ R1 c0 (Nat.lt_succ_of_le R1.2.1.1.2)
theorem T_ticks (p : Int32) : ∀ (n k : Nat) (τ : StT) (s : FnI), RS τ s → (fX5_makeTicks_12 p n k τ).1 = (fX7_doTick_2 p n k s).1 ∧ RS (fX5_makeTicks_12 p n k τ).2 (fX7_doTick_2 p n k s).2 ∧ fX6_isError (fX7_doTick_2 p n k s).1 = (0 : Int32)
  | 0, _, _, _, R => ⟨rfl, R, show fX6_isError (0 : Int32) = (0 : Int32) by decide⟩
  | n + 1, k, τ, s, R => by
    unfold fX5_makeTicks_12 fX7_doTick_2
    by_cases c : p ≤ nI k
    · rw [if_pos c, if_pos c]
      exact ⟨R_ph R, R, ie_bd R.2.2.2.2.2.2.2.2.1.1 (by omega)⟩
    · rw [if_neg c, if_neg c]
      exact T_ticks p n (k + 1) _ _ (T_tick R)
def tickErr (p : Int32) : Int32 := if fX7_in p (1 : Int32) (99 : Int32) = (0 : Int32) then (-2 : Int32) else (0 : Int32)
theorem A_tick {τ : StT} {s : FnI} {p : Int32} (R : RS τ s) : Act (fX5_makeTicks p τ) (tickErr p) (fX7_doTick p s) s := by
  unfold fX5_makeTicks tickErr fX7_doTick
  by_cases c : fX7_in p (1 : Int32) (99 : Int32) = (0 : Int32)
  · rw [if_pos (show fX6_isTicks p = (0 : Int32) from c), if_pos c]
    exact Act.no (by decide) rfl R (by decide)
  · rw [if_neg (show ¬ fX6_isTicks p = (0 : Int32) from c), if_neg c]
    obtain ⟨h1, h2, h3⟩ := T_ticks p 100 0 τ s R
    exact Act.yes (by decide) h1 h2 h3
theorem RS.congr {τ : StT} {s u : FnI} (R : RS τ s) (h : ∀ j : Nat, j < 163 → u j = s j) : RS τ u := by
  obtain ⟨hw, hm, hlv, hsh, hod, ⟨g6, g0, g1, g2, g3, g5⟩, hse, hto, hb, hz, hg⟩ := R
  have hN := hm.1.2
  refine ⟨hw, hm.congr2 h, hlv.frame (fun q hq => h _ (by omega)), hsh.frame (fun q hq => h _ (by omega)), hod.frame (fun q hq => h _ (by omega)), ⟨by rw [h 6 (by omega)]; exact g6, by rw [h 0 (by omega)]; exact g0, by rw [h 1 (by omega)]; exact g1, by rw [h 2 (by omega)]; exact g2, by rw [h 3 (by omega)]; exact g3, by rw [h 5 (by omega)]; exact g5⟩, fun q hq => by rw [h _ (by omega)]; exact hse q hq, fun q hq => by rw [h _ (by omega)]; exact hto q hq, ?_, ?_, ?_⟩
  · unfold RB
    rw [h 0 (by omega), h 5 (by omega), h 9 (by omega)]
    exact And.intro hb.1 (And.intro hb.2.1 (And.intro hb.2.2.1 (And.intro (fun q hq => by rw [h _ (by omega)]; exact hb.2.2.2.1 q hq) hb.2.2.2.2)))
  · rw [h 0 (by omega), h 4 (by omega)]; exact hz
  · rw [h 0 (by omega), h 4 (by omega)]
    exact fun q => ⟨(hg q).1, (hg q).2.frame hN (fun j _ h2 => h j h2)⟩
/-! what would be -/
theorem rdy_0 {s : FnI} : fX7_isReady s = (0 : Int32) ↔ ¬ (s 0 = (2 : Int32) ∧ s 4 = (0 : Int32)) := by
  unfold fX7_isReady
  by_cases c : s 0 = (2 : Int32)
  · rw [if_pos c]
    by_cases d : s 4 = (0 : Int32)
    · rw [if_pos d]; exact ⟨fun h => absurd h (by decide), fun h => absurd ⟨c, d⟩ h⟩
    · rw [if_neg d]; exact ⟨fun _ h => d h.2, fun _ => rfl⟩
  · rw [if_neg c]; exact ⟨fun _ h => c h.1, fun _ => rfl⟩
theorem T_until (P : Nat) (hP : P ≤ 200) (q : Int32) (b : FnI) : ∀ (m n k : Nat) (τ : StT) (s : FnI), RS τ s → k ≤ P → P + 1 - k < m → P - k < n → (fX5_ticksUntilReady_2 (nI P) m k τ).1 = (fX7_until_22 (nI P) q n k (s, b)).1
  | 0, _, _, _, _, _, _, h, _ => absurd h (by omega)
  | _, 0, _, _, _, _, _, _, h => absurd h (by omega)
  | m + 1, n + 1, k, τ, s, R, hk, hm, hn => by
    have hp := R_ph R
    unfold fX5_ticksUntilReady_2 fX7_until_22
    rw [if_neg (Int32.not_lt.mpr (nI_le hk (by omega)))]
    dsimp only
    by_cases c : s 0 = (2 : Int32) ∧ s 4 = (0 : Int32)
    · have c0 : ¬ s 0 = (0 : Int32) := by rw [c.1]; decide
      have hsz : τ.2.2.2.1.2.1.2.2.2 = s 4 := (R.2.2.2.2.2.2.2.2.2.2 c0).1
      have hr : ¬ fX7_isReady s = (0 : Int32) := fun q => rdy_0.mp q c
      rw [if_pos (hp.trans c.1), if_pos (hsz.trans c.2), if_neg hr]
      by_cases d : nI P ≤ nI k
      · rw [if_pos d]
      · rw [if_neg d, if_neg hr]
    · have hr : fX7_isReady s = (0 : Int32) := rdy_0.mpr c
      have eC : (if τ.2.2.2.1.2.2.1 = (2 : Int32) then (if τ.2.2.2.1.2.1.2.2.2 = (0 : Int32) then ((nI k), τ) else fX5_ticksUntilReady_2 (nI P) m (k + 1) (fX5_makeTick τ)) else fX5_ticksUntilReady_2 (nI P) m (k + 1) (fX5_makeTick τ)) = fX5_ticksUntilReady_2 (nI P) m (k + 1) (fX5_makeTick τ) := by
        by_cases d : s 0 = (2 : Int32)
        · have c0 : ¬ s 0 = (0 : Int32) := by rw [d]; decide
          have hsz : τ.2.2.2.1.2.1.2.2.2 = s 4 := (R.2.2.2.2.2.2.2.2.2.2 c0).1
          rw [if_pos (hp.trans d), if_neg (fun q => c ⟨d, hsz.symm.trans q⟩)]
        · rw [if_neg (fun q => d (hp.symm.trans q))]
      rw [eC, if_pos hr, if_pos hr]
      by_cases d : nI P ≤ nI k
      · have e : k = P := by
          have := (nI_leI (by omega) (by omega)).mp d
          omega
        rw [if_pos d]
        subst e
        cases m with
        | zero => omega
        | succ m =>
          unfold fX5_ticksUntilReady_2
          rw [if_pos (by rw [Int32.lt_iff_toInt_lt, nI_toInt (by omega), nI_toInt (by omega)]; omega)]
      · have hk2 : k < P := Nat.lt_of_not_le (fun q => d (nI_le q (by omega)))
        rw [if_neg d]
        exact T_until P hP q b m n (k + 1) _ _ (T_tick R) (by omega) (by omega) (by omega)
