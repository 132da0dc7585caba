/-! the law's worlds: the class's object, the reference's behind it -/
def wX (cI cS : ClassId) (qx : Nat) (a0 a1 a2 a3 : Nat → Nat) (b3 : Nat → Nat → Nat) (a4 : Nat → Nat) (st sn tr : StT) (hi : HiT) (sc : ScT) (has : Int32) (w : List va_W) : List va_W := [(qx, .inr (6, [.ref (a0 0), .ref (a1 0), .ref (a2 0), .ref (a3 0), .ref (a4 0), .int has]))] :: wSt cI a0 st :: wSt cI a1 sn :: wSt cI a2 tr :: wHi cI cS a3 b3 hi (wSc cI a4 sc :: w)
def wM (cI : ClassId) (qm m1 m2 m3 m5 m6 : Nat) (t h : FnI) (k : Int32) (sm : FnI) (tk : Int32) (bf tx : FnI) (ln pl le on ot ca : Int32) : List va_W := [[(qm, .inr (7, [.ref m1, .ref m2, .int k, .ref m3, .int tk, .ref m5, .ref m6, .int ln, .int pl, .int le, .int on, .int ot, .int ca]))], [(m1, .inl (cI, 163, .inl t))], [(m2, .inl (cI, 815, .inl h))], [(m3, .inl (cI, 163, .inl sm))], [(m5, .inl (cI, 163, .inl bf))], [(m6, .inl (cI, 80, .inl tx))]]
abbrev Anew (s : State) : Nat → Prop := fun q => s.heap.size ≤ q
/-- behind a call of each side, at the loop's step -/
def LBack (p : Program) (l : Launch) (e : Env) (s : State) (m : MethodId) (b : Nat) (below : List Frame) (meth : Method) (c : Code) (D : va_G) (cI cS : ClassId) (qx qm : Nat) (a0 a1 a2 a3 : Nat → Nat) (b3 : Nat → Nat → Nat) (a4 : Nat → Nat) (m1 m2 m3 m5 m6 : Nat) (i : Nat) (Q : State → Prop) : Prop := ∀ (st sn tr : StT) (hi : HiT) (sc : ScT) (has : Int32) (t h : FnI) (k : Int32) (sm : FnI) (tk : Int32) (bf tx : FnI) (ln pl le on ot ca : Int32) (H : Heap) (locs : List Loc) (ls : Array Slot), TopR st sn hi sc has t h k sm tk tx ln → va_P D vwCl (fl (wX cI cS qx a0 a1 a2 a3 b3 a4 st sn tr hi sc has (wM cI qm m1 m2 m3 m5 m6 t h k sm tk bf tx ln pl le on ot ca))) H → va_D (Anew s) (fl (wX cI cS qx a0 a1 a2 a3 b3 a4 st sn tr hi sc has (wM cI qm m1 m2 m3 m5 m6 t h k sm tk bf tx ln pl le on ot ca))) → va_S (Anew s) s.heap H locs → lv_has ls 8 [(0, .ref b), (1, .ref qx), (2, .ref qm), (3, .int (nI i))] → W p l e room_1 s m #[Value.ref b] below meth c H locs 128 3083 Q (F0 m 789 ls [])
theorem zz_s1 {i L : Nat} (h : i + 4 ≤ L) (hL : L ≤ 2048) : vp_in (nI i + (1 : Int32)) L := by
  rw [nI_1]; exact vp_in_nI (by omega) (by omega)
theorem zz_s2 {i L : Nat} (h : i + 4 ≤ L) (hL : L ≤ 2048) : vp_in (nI i + (2 : Int32)) L := by
  rw [show nI i + (2 : Int32) = nI (i + 2) from nI_add i 2]; exact vp_in_nI (by omega) (by omega)
theorem zz_s3 {i L : Nat} (h : i + 4 ≤ L) (hL : L ≤ 2048) : vp_in (nI i + (3 : Int32)) L := by
  rw [show nI i + (3 : Int32) = nI (i + 3) from nI_add i 3]; exact vp_in_nI (by omega) (by omega)
theorem TopR.k5 {st snap : StT} {hi : HiT} {sc : ScT} {has : Int32} {s h : FnI} {k : Int32} {sm : FnI} {tk : Int32} {tx : FnI} {ln : Int32} (R : TopR st snap hi sc has s h k sm tk tx ln) : Bd k 5 := by
  have h1 : hi.2.2 = k := R.1.2.2.1
  rw [← h1]
  exact R.1.2.1.2.1
theorem TopR.wc {st snap : StT} {hi : HiT} {sc : ScT} {has : Int32} {s h : FnI} {k : Int32} {sm : FnI} {tk : Int32} {tx : FnI} {ln : Int32} (R : TopR st snap hi sc has s h k sm tk tx ln) : WC sc := by
  unfold WC
  rw [R.2.2.2.2.1]
  exact R.2.2.2.2.2.1
