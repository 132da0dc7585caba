/-! what the class's questions answer, at the law's calls -/
section FACTS
variable {e : Nat} {τ : StT}
theorem cp_0 (τ : StT) : fX6_copy (0 : Int32) τ = τ.2.2.2.1.2.2.1 := by
  unfold fX6_copy fX0_tell
  rw [if_neg (by decide), if_pos rfl]
theorem cp_i {i : Nat} (h0 : 1 ≤ i) (h5 : i ≤ 4) : fX6_copy (nI i) τ = if τ.2.2.2.1.2.2.1 = (0 : Int32) then (-5 : Int32) else if i = 1 then τ.2.2.2.1.2.2.2.1 else if i = 2 then τ.2.2.2.1.2.2.2.2.1 else if i = 3 then τ.2.2.2.1.2.2.2.2.2.1 else τ.2.2.2.1.2.1.2.2.2 := by
  unfold fX6_copy fX0_tell
  match i, h0, h5 with
  | 1, _, _ => rw [if_neg (by decide), if_neg (by decide), if_neg (by decide), if_pos (show nI 1 = (1 : Int32) from rfl), if_pos (show (1 : Nat) = 1 from rfl)]
  | 2, _, _ => rw [if_neg (show ¬ fX6_isIn (nI 2) (0 : Int32) (5 : Int32) = (0 : Int32) by decide), if_neg (show ¬ nI 2 = (0 : Int32) by decide), if_neg (show ¬ nI 2 = (5 : Int32) by decide), if_neg (show ¬ nI 2 = (1 : Int32) by decide), if_pos (show nI 2 = (2 : Int32) from rfl), if_neg (show ¬ (2 : Nat) = 1 by decide), if_pos (show (2 : Nat) = 2 from rfl)]
  | 3, _, _ => rw [if_neg (show ¬ fX6_isIn (nI 3) (0 : Int32) (5 : Int32) = (0 : Int32) by decide), if_neg (show ¬ nI 3 = (0 : Int32) by decide), if_neg (show ¬ nI 3 = (5 : Int32) by decide), if_neg (show ¬ nI 3 = (1 : Int32) by decide), if_neg (show ¬ nI 3 = (2 : Int32) by decide), if_pos (show nI 3 = (3 : Int32) from rfl), if_neg (show ¬ (3 : Nat) = 1 by decide), if_neg (show ¬ (3 : Nat) = 2 by decide), if_pos (show (3 : Nat) = 3 from rfl)]
  | 4, _, _ => rw [if_neg (show ¬ fX6_isIn (nI 4) (0 : Int32) (5 : Int32) = (0 : Int32) by decide), if_neg (show ¬ nI 4 = (0 : Int32) by decide), if_neg (show ¬ nI 4 = (5 : Int32) by decide), if_neg (show ¬ nI 4 = (1 : Int32) by decide), if_neg (show ¬ nI 4 = (2 : Int32) by decide), if_neg (show ¬ nI 4 = (3 : Int32) by decide), if_neg (show ¬ (4 : Nat) = 1 by decide), if_neg (show ¬ (4 : Nat) = 2 by decide), if_neg (show ¬ (4 : Nat) = 3 by decide)]
theorem cp_5 (τ : StT) : fX6_copy (5 : Int32) τ = if τ.2.2.2.1.2.2.1 = (3 : Int32) then τ.2.2.2.1.2.2.2.2.2.2 else (-5 : Int32) := by
  unfold fX6_copy fX0_tell
  rw [if_neg (by decide), if_neg (by decide), if_pos rfl]
theorem cp_n {i : Nat} (h0 : 1 ≤ i) (h5 : i ≤ 4) (h : τ.2.2.2.1.2.2.1 = (0 : Int32)) : fX6_copy (nI i) τ = (-5 : Int32) := by rw [cp_i h0 h5, if_pos h]
theorem cp_1 (h : ¬ τ.2.2.2.1.2.2.1 = (0 : Int32)) : fX6_copy (1 : Int32) τ = τ.2.2.2.1.2.2.2.1 := (cp_i (i := 1) (by omega) (by omega)).trans (by rw [if_neg h]; rfl)
theorem cp_2 (h : ¬ τ.2.2.2.1.2.2.1 = (0 : Int32)) : fX6_copy (2 : Int32) τ = τ.2.2.2.1.2.2.2.2.1 := (cp_i (i := 2) (by omega) (by omega)).trans (by rw [if_neg h]; rfl)
theorem cp_3 (h : ¬ τ.2.2.2.1.2.2.1 = (0 : Int32)) : fX6_copy (3 : Int32) τ = τ.2.2.2.1.2.2.2.2.2.1 := (cp_i (i := 3) (by omega) (by omega)).trans (by rw [if_neg h]; rfl)
theorem cp_4 (h : ¬ τ.2.2.2.1.2.2.1 = (0 : Int32)) : fX6_copy (4 : Int32) τ = τ.2.2.2.1.2.1.2.2.2 := (cp_i (i := 4) (by omega) (by omega)).trans (by rw [if_neg h]; rfl)
theorem key_y {k : Nat} (hk : k < 32) : ¬ fX6_isKey (nI k) = (0 : Int32) := in6_b (N := 31) rfl (by omega) (by omega)
theorem val_0 {k : Nat} (hk : k < 32) : fX6_value (0 : Int32) (nI k) τ = τ.1 k := by
  unfold fX6_value
  rw [if_neg (key_y hk), if_neg (by decide), if_pos rfl, atN hk]
theorem val_1 {k : Nat} (hk : k < 32) : fX6_value (1 : Int32) (nI k) τ = if τ.2.2.2.1.2.2.1 = (0 : Int32) then (-5 : Int32) else τ.2.2.2.1.1 k := by
  unfold fX6_value
  rw [if_neg (key_y hk), if_neg (by decide), if_neg (by decide), if_pos rfl, atN hk]
  by_cases c : τ.2.2.2.1.2.2.1 = (0 : Int32)
  · rw [if_pos c, if_pos (hc_0.mpr c)]
  · rw [if_neg c, if_neg (fun q => c (hc_0.mp q))]
theorem val_1n {k : Nat} (hk : k < 32) (h : τ.2.2.2.1.2.2.1 = (0 : Int32)) : fX6_value (1 : Int32) (nI k) τ = (-5 : Int32) := by rw [val_1 hk, if_pos h]
theorem val_1y {k : Nat} (hk : k < 32) (h : ¬ τ.2.2.2.1.2.2.1 = (0 : Int32)) : fX6_value (1 : Int32) (nI k) τ = τ.2.2.2.1.1 k := by rw [val_1 hk, if_neg h]
theorem val_2y {k : Nat} (hk : k < 32) (h : τ.2.2.1 = (1 : Int32)) : fX6_value (2 : Int32) (nI k) τ = τ.2.1 k := by
  unfold fX6_value
  rw [if_neg (key_y hk), if_neg (by decide), if_neg (by decide), if_neg (by decide), if_neg (by rw [h]; decide), atN hk]
theorem tbl_0 (τ : StT) : fX6_table (0 : Int32) (0 : Int32) τ = fX3_count τ.1 := by
  unfold fX6_table
  rw [if_neg (by decide), if_neg (by decide), if_pos rfl]
  rfl
theorem tbl_1n (h : τ.2.2.2.1.2.2.1 = (0 : Int32)) : fX6_table (1 : Int32) (0 : Int32) τ = (-5 : Int32) := by
  unfold fX6_table
  rw [if_neg (by decide), if_neg (by decide), if_neg (by decide), if_pos rfl, if_pos (hc_0.mpr h)]
theorem tbl_1y (h : ¬ τ.2.2.2.1.2.2.1 = (0 : Int32)) : fX6_table (1 : Int32) (0 : Int32) τ = fX3_count τ.2.2.2.1.1 := by
  unfold fX6_table
  rw [if_neg (by decide), if_neg (by decide), if_neg (by decide), if_pos rfl, if_neg (fun q => h (hc_0.mp q))]
  rfl
theorem tbl_2n {w : Int32} (hw : ¬ fX6_isIn w (0 : Int32) (3 : Int32) = (0 : Int32)) (h : τ.2.2.1 = (0 : Int32)) : fX6_table (2 : Int32) w τ = (-5 : Int32) := by
  unfold fX6_table
  rw [if_neg (by decide), if_neg hw, if_neg (by decide), if_neg (by decide), if_pos h]
theorem tbl_2y (h : ¬ τ.2.2.1 = (0 : Int32)) : fX6_table (2 : Int32) (0 : Int32) τ = fX3_count τ.2.1 := by
  unfold fX6_table
  rw [if_neg (by decide), if_neg (by decide), if_neg (by decide), if_neg (by decide), if_neg h]
  rfl
theorem set_i {i : Nat} (h : i < 4) : fX6_setting (nI i) τ = τ.2.2.2.2.1 i := by
  unfold fX6_setting
  rw [if_neg (show ¬ fX6_isSetting (nI i) = (0 : Int32) from in6_b (N := 3) rfl (by omega) (by omega)), nI_clamp (by omega)]
theorem tot_i {i : Nat} (h : i < 8) : fX6_total (nI i) τ = τ.2.2.2.2.2 i := by
  unfold fX6_total
  rw [if_neg (show ¬ fX6_isIn (nI i) (0 : Int32) (7 : Int32) = (0 : Int32) from in6_b (N := 7) rfl (by omega) (by omega)), nI_clamp (by omega)]
theorem chd_is {kd v : Int32} {k : Nat} (hd : Bd kd 4) (hk : k < 32) (hv : Bd v 99) : fX6_changed kd (nI k) v = chg kd k v := by
  obtain ⟨a, ha, rfl⟩ := hd.num
  obtain ⟨b, hb, rfl⟩ := hv.num
  unfold fX6_changed
  rw [if_neg (key_y hk), if_neg (show ¬ fX6_isKind (nI a) = (0 : Int32) from in6_b (N := 4) rfl ha (by omega)), if_neg (show ¬ fX6_isValue (nI b) = (0 : Int32) from in6_b (N := 99) rfl hb (by omega))]
  rfl
theorem rw_neg {v : Int32} (h : RW v) (c : v < (0 : Int32)) : v = (-5 : Int32) := by
  rcases h with h | h
  · exact h
  · obtain ⟨j, hj, rfl⟩ := h.num
    exact absurd c (nI_pos (by omega))
theorem rw_pos {v : Int32} (h : RW v) (c : ¬ v < (0 : Int32)) : Bd v 99 := by
  rcases h with h | h
  · rw [h] at c; exact absurd (by decide) c
  · exact h
/-- where the shadow table differs -/
def dif (τ : StT) (k : Nat) : Prop := ¬ τ.2.2.2.1.1 k = chg τ.2.2.2.1.2.2.2.1 k (τ.1 k)
end FACTS
theorem df_0 {τ : StT} {k : Nat} (hk : k < 32) : fX5_differsAt (nI k) τ = (0 : Int32) ↔ τ.2.2.2.1.1 k = chg τ.2.2.2.1.2.2.2.1 k (τ.1 k) := by
  unfold fX5_differsAt chg
  rw [atN hk, atN hk]
  by_cases c : τ.2.2.2.1.1 k = fX6_changedValue τ.2.2.2.1.2.2.2.1 (nI k) (τ.1 k)
  · rw [if_pos c]; exact ⟨fun _ => c, fun _ => rfl⟩
  · rw [if_neg c]; exact ⟨fun h => absurd h (by decide), fun h => absurd h c⟩
/-- how many keys of the last m differ; the least of them -/
def unl (τ : StT) : Nat → Int32
  | 0 => (0 : Int32)
  | m + 1 => if τ.2.2.2.1.1 (31 - m) = chg τ.2.2.2.1.2.2.2.1 (31 - m) (τ.1 (31 - m)) then unl τ m else unl τ m + (1 : Int32)
def fst (τ : StT) : Nat → Int32
  | 0 => (-5 : Int32)
  | m + 1 => if τ.2.2.2.1.1 (31 - m) = chg τ.2.2.2.1.2.2.2.1 (31 - m) (τ.1 (31 - m)) then fst τ m else nI (31 - m)
theorem dfs_is (τ : StT) : ∀ (n k : Nat) (cnt : Int32), k ≤ 32 → 32 - k < n → fX6_differences_17 τ n cnt k = cnt + unl τ (32 - k)
  | 0, _, _, _, h => absurd h (by omega)
  | n + 1, k, cnt, hk, hn => by
    unfold fX6_differences_17
    by_cases c : (32 : Int32) ≤ nI k
    · rw [if_pos c, ge32 hk c]
      exact (i_add0 cnt).symm
    · have hk2 := lt32 hk c
      have e1 : 32 - k = (32 - (k + 1)) + 1 := by omega
      have e2 : 31 - (32 - (k + 1)) = k := by omega
      rw [if_neg c, e1]
      unfold unl
      rw [e2]
      by_cases d : τ.2.2.2.1.1 k = chg τ.2.2.2.1.2.2.2.1 k (τ.1 k)
      · rw [if_pos ((df_0 hk2).mpr d), if_pos d]
        exact dfs_is τ n (k + 1) cnt (by omega) (by omega)
      · rw [if_neg (fun q => d ((df_0 hk2).mp q)), if_neg d, dfs_is τ n (k + 1) _ (by omega) (by omega), Int32.add_assoc, Int32.add_comm (1 : Int32)]
theorem fds_is (τ : StT) : ∀ (n k : Nat), k ≤ 32 → 32 - k < n → fX6_firstDifference_15 τ n k = fst τ (32 - k)
  | 0, _, _, h => absurd h (by omega)
  | n + 1, k, hk, hn => by
    unfold fX6_firstDifference_15
    by_cases c : (32 : Int32) ≤ nI k
    · rw [if_pos c, ge32 hk c]; rfl
    · have hk2 := lt32 hk c
      have e1 : 32 - k = (32 - (k + 1)) + 1 := by omega
      have e2 : 31 - (32 - (k + 1)) = k := by omega
      rw [if_neg c, e1]
      unfold fst
      rw [e2]
      by_cases d : τ.2.2.2.1.1 k = chg τ.2.2.2.1.2.2.2.1 k (τ.1 k)
      · rw [if_pos ((df_0 hk2).mpr d), if_pos d]
        exact fds_is τ n (k + 1) (by omega) (by omega)
      · rw [if_neg (fun q => d ((df_0 hk2).mp q)), if_neg d]
section FACTS2
variable {e : Nat} {τ : StT}
theorem dfs_n (h : τ.2.2.2.1.2.2.1 = (0 : Int32)) : fX6_differences τ = (-5 : Int32) := by
  unfold fX6_differences
  rw [if_pos (hc_0.mpr h)]
theorem dfs_y (h : ¬ τ.2.2.2.1.2.2.1 = (0 : Int32)) : fX6_differences τ = unl τ 32 := by
  unfold fX6_differences
  rw [if_neg (fun q => h (hc_0.mp q)), dfs_is τ 33 0 _ (by omega) (by omega), Int32.add_comm]
  exact i_add0 _
theorem fds_n (h : τ.2.2.2.1.2.2.1 = (0 : Int32)) : fX6_firstDifference τ = (-5 : Int32) := by
  unfold fX6_firstDifference
  rw [if_pos (hc_0.mpr h)]
theorem fds_y (h : ¬ τ.2.2.2.1.2.2.1 = (0 : Int32)) : fX6_firstDifference τ = fst τ 32 := by
  unfold fX6_firstDifference
  rw [if_neg (fun q => h (hc_0.mp q)), fds_is τ 33 0 (by omega) (by omega)]
theorem unl_0 (h : ∀ k : Nat, k < 32 → τ.2.2.2.1.1 k = chg τ.2.2.2.1.2.2.2.1 k (τ.1 k)) : ∀ m : Nat, unl τ m = (0 : Int32)
  | 0 => rfl
  | m + 1 => by
    unfold unl
    rw [if_pos (h _ (by omega))]
    exact unl_0 h m
theorem unl_z (h : IV e τ) (h0 : ¬ τ.2.2.2.1.2.2.1 = (0 : Int32)) (h1 : ¬ τ.2.2.2.1.2.2.1 = (1 : Int32)) (hz : τ.2.2.2.1.2.1.2.2.2 = (0 : Int32)) : unl τ 32 = (0 : Int32) := unl_0 (fun _ hk => h.same h0 h1 hz hk) 32
theorem pr_l : ∀ c : Fin 33, ¬ Op.cmpValue (FP.dcmp (FP.ddiv (FP.i2d (nI c.val)) (4629700416936869888 : UInt64)) FP.dconst0) .l < (0 : Int32) := by decide +kernel
theorem pr_g : ∀ c : Fin 33, ¬ (0 : Int32) < Op.cmpValue (FP.dcmp (FP.ddiv (FP.i2d (nI c.val)) (4629700416936869888 : UInt64)) FP.dconst1) .g := by decide +kernel
theorem prog_is (h : IV e τ) : ∃ d : UInt64, fX6_progress τ = Value.double d ∧ ¬ Op.cmpValue (FP.dcmp d FP.dconst0) .l < (0 : Int32) ∧ ¬ (0 : Int32) < Op.cmpValue (FP.dcmp d FP.dconst1) .g := by
  unfold fX6_progress
  by_cases c : fX5_hasCopy τ = (0 : Int32)
  · rw [if_pos c]
    exact ⟨_, rfl, by decide +kernel, by decide +kernel⟩
  · rw [if_neg c]
    obtain ⟨j, hj, ej⟩ := h.1.2.1.num
    refine ⟨_, rfl, ?_, ?_⟩
    · rw [ej]; exact pr_l ⟨j, by omega⟩
    · rw [ej]; exact pr_g ⟨j, by omega⟩
end FACTS2
