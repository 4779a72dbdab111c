/-! SlotFileModel: w 1 its d, w 2 its synced, w 3 its changes; w 0 3 .. w 0 7 its numbers -/
def isMod (g : GT) (a : Nat) (o : Int) : Prop := isO g 4 a o ∧ ∃ r1 r2 r3, (gR g a 0 = some r1 ∧ isA g r1 o 1 18816) ∧ (gR g a 1 = some r2 ∧ isA g r2 o 2 18816) ∧ (gR g a 2 = some r3 ∧ isA g r3 o 3 16000)
def mwf (w : Int → Int → Int) : Prop := ∀ k, 0 ≤ k → k < 18816 → sm (w 1 k)
def mSz (w : Int → Int → Int) (p s : Int) : Int := w 1 (384 + 32 * p + s)
def mSl (w : Int → Int → Int) (p : Int) : Nat → Int
  | 0 => 0
  | n + 1 => if 0 < mSz w p n then (n : Int) + 1 else mSl w p n
def mCf (w : Int → Int → Int) (p s : Int) : Int := if 0 < mSz w p s then 1 else 0
abbrev mCe (w : Int → Int → Int) (p : Int) : Int := sumF (mCf w p) 32
abbrev mTk (w : Int → Int → Int) (p : Int) : Int := sumF (mSz w p) 32
def mRoom (w : Int → Int → Int) (p : Int) : Int := 248 - 4 * mSl w p 32 - mTk w p
theorem mSl_bd (w : Int → Int → Int) (p : Int) (n : Nat) : 0 ≤ mSl w p n ∧ mSl w p n ≤ n := by
  induction n with
  | zero => exact ⟨Int.le_refl _, Int.le_refl _⟩
  | succ n ih => unfold mSl; split <;> omega
theorem mCf_bd (w : Int → Int → Int) (p : Int) (n : Nat) : 0 ≤ sumF (mCf w p) n ∧ sumF (mCf w p) n ≤ n := by
  induction n with
  | zero => exact ⟨Int.le_refl _, Int.le_refl _⟩
  | succ n ih => unfold sumF; have : 0 ≤ mCf w p n ∧ mCf w p n ≤ 1 := (by unfold mCf; split <;> omega); omega
theorem mTk_bd {w : Int → Int → Int} {p : Int} (hw : mwf w) (hp : 0 ≤ p ∧ p < 96) (n : Nat) (hn : n ≤ 32) : -1000000 * n ≤ sumF (mSz w p) n ∧ sumF (mSz w p) n ≤ 1000000 * n := by
  induction n with
  | zero => exact ⟨by simp [sumF], by simp [sumF]⟩
  | succ n ih =>
    unfold sumF
    have h1 := ih (by omega)
    have h2 : sm (mSz w p n) := hw _ (by omega) (by omega)
    unfold sm at h2
    omega
def mIsV (n s : Int) : Prop := (0 ≤ n ∧ n ≤ 1200) ∧ (0 ≤ s ∧ s ≤ 255)
def mIsR (w : Int → Int → Int) (x : Int) : Prop := (0 ≤ x ∧ x < 3072) ∧ w 1 (6528 + x) ≠ -1
def mKeep (w : Int → Int → Int) (x c n sd f : Int) : Int → Int → Int := upw (upw (upw (upw w 1 (6528 + x) c) 1 (9600 + x) n) 1 (12672 + x) sd) 1 (15744 + x) f
def mTake (w : Int → Int → Int) (p s : Int) : Int → Int → Int :=
  if mCe (upw w 1 (384 + 32 * p + s) 0) p = 0 then upw (upw (upw w 1 (384 + 32 * p + s) 0) 1 p 0) 1 (96 + p) 0 else upw w 1 (384 + 32 * p + s) 0
def mFreeL (w : Int → Int → Int) : List Int → (Int → Int → Int)
  | [] => w
  | p :: L => mFreeL (upw w 1 p 0) L
abbrev mNx (w : Int → Int → Int) : Int → Int := fun i => w 1 (192 + i)
def mNote (w : Int → Int → Int) (k x n sd : Int) : Int → Int → Int := upw (upw (upw (upw (upw w 3 (4 * w 0 3) k) 3 (4 * w 0 3 + 1) x) 3 (4 * w 0 3 + 2) n) 3 (4 * w 0 3 + 3) sd) 0 3 (w 0 3 + 1)
def mEmpty (w : Int → Int → Int) (p r : Int) : Prop := (0 ≤ r ∧ r < 32) ∧ mSz w p r ≤ 0 ∧ ∀ i, 0 ≤ i → i < r → 0 < mSz w p i
set_option maxHeartbeats 4000000 in
set_option maxRecDepth 100000 in
theorem c_X4_sizeOf (l : Launch) (D : va_G) (cy : ClassId × ClassId) (g : GT) (V : VT) (w : Int → Int → Int) (a : Nat) (o : Int) (p s : Int) (hap : Apart g) (hm : isMod g a o) (hp : 0 ≤ p ∧ p < 96) (hs : 0 ≤ s ∧ s < 32) : MetI l yX4_sizeOf cX4_sizeOf 3 (some .int) 0 D cy g [.ref a, vI p, vI s] (setp V o w) (fun r V' => r = mSz w p s ∧ V' = setp V o w) := by
  obtain ⟨hm1, r1, r2, r3, ⟨hr1, ha1⟩, ⟨hr2, ha2⟩, ⟨hr3, ha3⟩⟩ := id hm
  refine MetI.of (by decide) (Nat.le_of_ble_eq_true rfl) hap ?_
  intro p_ e_ s_ m_ args_ below_ meth_ c_ C
  refine g_aload_n C 0 rfl dX4_sizeOf_0 ?_
  refine gf_Mod_d C hm1 hr1 lf_X4_7 dX4_sizeOf_1 ?_
  refine g_sipush C 384 rfl dX4_sizeOf_4 ?_
  refine g_bipush C 32 rfl dX4_sizeOf_7 ?_
  refine g_iload_n C 1 rfl dX4_sizeOf_9 ?_
  refine g_imul C dX4_sizeOf_10 ?_
  refine g_iadd C dX4_sizeOf_11 ?_
  refine g_iload_n C 2 rfl dX4_sizeOf_12 ?_
  refine g_iadd C dX4_sizeOf_13 ?_
  refine s_iald C (w 1 ((384 + (32 * p)) + s)) ha1 (by omega) (by decide) rfl dX4_sizeOf_14 ?_
  exact g_iret C dX4_sizeOf_15 ⟨rfl, rfl⟩
set_option maxHeartbeats 4000000 in
set_option maxRecDepth 100000 in
theorem c_X4_slots (l : Launch) (D : va_G) (cy : ClassId × ClassId) (g : GT) (V : VT) (w : Int → Int → Int) (a : Nat) (o : Int) (p : Int) (hap : Apart g) (hm : isMod g a o) (hw : mwf w) (hp : 0 ≤ p ∧ p < 96) : MetI l yX4_slots cX4_slots 4 (some .int) 1 D cy g [.ref a, vI p] (setp V o w) (fun r V' => r = mSl w p 32 ∧ V' = setp V o w) := by
  obtain ⟨hm1, r1, r2, r3, ⟨hr1, ha1⟩, ⟨hr2, ha2⟩, ⟨hr3, ha3⟩⟩ := id hm
  refine MetI.of (by decide) (Nat.le_of_ble_eq_true rfl) hap ?_
  intro p_ e_ s_ m_ args_ below_ meth_ c_ C
  have loop : ∀ (n : Nat) (k : Nat), k + n = 32 → G p_ l e_ (rmd 1) s_ m_ args_ below_ meth_ c_ 4 0 0 (MQ below_ (QcI D cy g (fun r V' => r = mSl w p 32 ∧ V' = setp V o w)) args_ s_ 0 0 (fun q => q ∈ gL g)) D cy g (fun q => q ∈ gL g) s_.heap (setp V o w) 4 [(3, vI ((k : Int))), (2, vI (mSl w p k)), (0, .ref a), (1, vI p)] [] := by
    intro n
    induction n with
    | zero =>
      intro k hkn
      have hk : k = 32 := by omega
      subst hk
      refine g_iload_n C 0 rfl dX4_slots_4 ?_
      refine g_bipush C 32 rfl dX4_slots_5 ?_
      refine g_icmp_ge C (by unfold rng; omega) (by unfold rng; omega) 29 dX4_slots_7 (by decide) (fun c7 => ?_) (fun c7 => absurd c7 (by omega))
      refine g_iload_n C 1 rfl dX4_slots_29 ?_
      exact g_iret C dX4_slots_30 ⟨rfl, rfl⟩
    | succ n ih =>
      intro k hkn
      refine g_iload_n C 0 rfl dX4_slots_4 ?_
      refine g_bipush C 32 rfl dX4_slots_5 ?_
      refine g_icmp_ge C (by unfold rng; omega) (by unfold rng; omega) 29 dX4_slots_7 (by decide) (fun c7 => absurd c7 (by omega)) (fun c7 => ?_)
      refine g_aload_n C 2 rfl dX4_slots_10 ?_
      refine g_iload_n C 3 rfl dX4_slots_11 ?_
      refine g_iload_n C 0 rfl dX4_slots_12 ?_
      refine g_callI C [vI p, vI ((k : Int))] [] (c_X4_sizeOf l D cy g V w a o p ((k : Int)) hap hm (by omega) (by omega)) lm_X4_27 (rcv_Mod hm.1) rfl (Nat.le_of_ble_eq_true rfl) ⟨(Nat.le_of_ble_eq_true rfl), (Nat.le_of_ble_eq_true rfl)⟩ ⟨Nat.zero_le _, Nat.zero_le _⟩ dX4_slots_13 ?_
      rintro _ _ ⟨rfl, rfl⟩
      refine g_if_le C (by have z9 : sm (mSz w p k) := hw _ (by omega) (by omega); unfold sm at z9; unfold rng; omega) 23 dX4_slots_16 (by decide) (fun c16 => ?_) (fun c16 => ?_)
      · refine g_iinc C [(3, vI (((k : Int)) + 1)), (2, vI (mSl w p k)), (0, .ref a), (1, vI p)] 0 rfl dX4_slots_23 (by decide) rfl ?_
        refine g_goto C 4 dX4_slots_26 (by decide) ?_
        refine g_sub [0, 1, 2, 3] rfl ?_
        have e1 : mSl w p (k + 1) = mSl w p k := if_neg (by omega)
        have h9 := ih (k + 1) (by omega)
        rw [e1] at h9
        exact h9
      · refine g_iload_n C 0 rfl dX4_slots_19 ?_
        refine g_iconst C 1 rfl dX4_slots_20 ?_
        refine g_iadd C dX4_slots_21 ?_
        refine g_istore_n C [(2, vI (((k : Int)) + 1)), (3, vI ((k : Int))), (0, .ref a), (1, vI p)] dX4_slots_22 rfl (by decide) rfl ?_
        refine g_iinc C [(3, vI (((k : Int)) + 1)), (2, vI (((k : Int)) + 1)), (0, .ref a), (1, vI p)] 1 rfl dX4_slots_23 (by decide) rfl ?_
        refine g_goto C 4 dX4_slots_26 (by decide) ?_
        refine g_sub [0, 1, 2, 3] rfl ?_
        have e1 : mSl w p (k + 1) = (k : Int) + 1 := if_pos c16
        have h9 := ih (k + 1) (by omega)
        rw [e1] at h9
        exact h9
  refine g_iconst C 0 rfl dX4_slots_0 ?_
  refine g_istore_n C [(2, vI 0), (0, .ref a), (1, vI p)] dX4_slots_1 rfl (by decide) rfl ?_
  refine g_iconst C 0 rfl dX4_slots_2 ?_
  refine g_istore_n C [(3, vI 0), (2, vI 0), (0, .ref a), (1, vI p)] dX4_slots_3 rfl (by decide) rfl ?_
  refine g_sub [0, 1, 2, 3] rfl ?_
  exact loop 32 0 (by omega)
set_option maxHeartbeats 4000000 in
set_option maxRecDepth 100000 in
theorem c_X4_cells (l : Launch) (D : va_G) (cy : ClassId × ClassId) (g : GT) (V : VT) (w : Int → Int → Int) (a : Nat) (o : Int) (p : Int) (hap : Apart g) (hm : isMod g a o) (hw : mwf w) (hp : 0 ≤ p ∧ p < 96) : MetI l yX4_cells cX4_cells 4 (some .int) 1 D cy g [.ref a, vI p] (setp V o w) (fun r V' => r = mCe w p ∧ V' = setp V o w) := by
  obtain ⟨hm1, r1, r2, r3, ⟨hr1, ha1⟩, ⟨hr2, ha2⟩, ⟨hr3, ha3⟩⟩ := id hm
  refine MetI.of (by decide) (Nat.le_of_ble_eq_true rfl) hap ?_
  intro p_ e_ s_ m_ args_ below_ meth_ c_ C
  have loop : ∀ (n : Nat) (k : Nat), k + n = 32 → G p_ l e_ (rmd 1) s_ m_ args_ below_ meth_ c_ 4 0 0 (MQ below_ (QcI D cy g (fun r V' => r = mCe w p ∧ V' = setp V o w)) args_ s_ 0 0 (fun q => q ∈ gL g)) D cy g (fun q => q ∈ gL g) s_.heap (setp V o w) 4 [(3, vI ((k : Int))), (2, vI (sumF (mCf w p) k)), (0, .ref a), (1, vI p)] [] := by
    intro n
    induction n with
    | zero =>
      intro k hkn
      have hk : k = 32 := by omega
      subst hk
      refine g_iload_n C 0 rfl dX4_cells_4 ?_
      refine g_bipush C 32 rfl dX4_cells_5 ?_
      refine g_icmp_ge C (by unfold rng; omega) (by unfold rng; omega) 33 dX4_cells_7 (by decide) (fun c7 => ?_) (fun c7 => absurd c7 (by omega))
      refine g_iload_n C 1 rfl dX4_cells_33 ?_
      exact g_iret C dX4_cells_34 ⟨rfl, rfl⟩
    | succ n ih =>
      intro k hkn
      refine g_iload_n C 0 rfl dX4_cells_4 ?_
      refine g_bipush C 32 rfl dX4_cells_5 ?_
      refine g_icmp_ge C (by unfold rng; omega) (by unfold rng; omega) 33 dX4_cells_7 (by decide) (fun c7 => absurd c7 (by omega)) (fun c7 => ?_)
      refine g_iload_n C 1 rfl dX4_cells_10 ?_
      refine g_aload_n C 2 rfl dX4_cells_11 ?_
      refine g_iload_n C 3 rfl dX4_cells_12 ?_
      refine g_iload_n C 0 rfl dX4_cells_13 ?_
      refine g_callI C [vI p, vI ((k : Int))] [vI (sumF (mCf w p) k)] (c_X4_sizeOf l D cy g V w a o p ((k : Int)) hap hm (by omega) (by omega)) lm_X4_27 (rcv_Mod hm.1) rfl (Nat.le_of_ble_eq_true rfl) ⟨(Nat.le_of_ble_eq_true rfl), (Nat.le_of_ble_eq_true rfl)⟩ ⟨Nat.zero_le _, Nat.zero_le _⟩ dX4_cells_14 ?_
      rintro _ _ ⟨rfl, rfl⟩
      refine g_if_le C (by have z9 : sm (mSz w p k) := hw _ (by omega) (by omega); unfold sm at z9; unfold rng; omega) 24 dX4_cells_17 (by decide) (fun c17 => ?_) (fun c17 => ?_)
      · refine g_iconst C 0 rfl dX4_cells_24 ?_
        refine g_iadd C dX4_cells_25 ?_
        refine g_istore_n C [(2, vI ((sumF (mCf w p) k) + 0)), (3, vI ((k : Int))), (0, .ref a), (1, vI p)] dX4_cells_26 rfl (by decide) rfl ?_
        refine g_iinc C [(3, vI (((k : Int)) + 1)), (2, vI ((sumF (mCf w p) k) + 0)), (0, .ref a), (1, vI p)] 1 rfl dX4_cells_27 (by decide) rfl ?_
        refine g_goto C 4 dX4_cells_30 (by decide) ?_
        refine g_sub [0, 1, 2, 3] rfl ?_
        have e1 : sumF (mCf w p) (k + 1) = sumF (mCf w p) k + 0 := by show sumF (mCf w p) k + mCf w p k = _; unfold mCf; rw [if_neg (by omega)]
        have h9 := ih (k + 1) (by omega)
        rw [e1] at h9
        exact h9
      · refine g_iconst C 1 rfl dX4_cells_20 ?_
        refine g_goto C 25 dX4_cells_21 (by decide) ?_
        refine g_iadd C dX4_cells_25 ?_
        refine g_istore_n C [(2, vI ((sumF (mCf w p) k) + 1)), (3, vI ((k : Int))), (0, .ref a), (1, vI p)] dX4_cells_26 rfl (by decide) rfl ?_
        refine g_iinc C [(3, vI (((k : Int)) + 1)), (2, vI ((sumF (mCf w p) k) + 1)), (0, .ref a), (1, vI p)] 1 rfl dX4_cells_27 (by decide) rfl ?_
        refine g_goto C 4 dX4_cells_30 (by decide) ?_
        refine g_sub [0, 1, 2, 3] rfl ?_
        have e1 : sumF (mCf w p) (k + 1) = sumF (mCf w p) k + 1 := by show sumF (mCf w p) k + mCf w p k = _; unfold mCf; rw [if_pos c17]
        have h9 := ih (k + 1) (by omega)
        rw [e1] at h9
        exact h9
  refine g_iconst C 0 rfl dX4_cells_0 ?_
  refine g_istore_n C [(2, vI 0), (0, .ref a), (1, vI p)] dX4_cells_1 rfl (by decide) rfl ?_
  refine g_iconst C 0 rfl dX4_cells_2 ?_
  refine g_istore_n C [(3, vI 0), (2, vI 0), (0, .ref a), (1, vI p)] dX4_cells_3 rfl (by decide) rfl ?_
  refine g_sub [0, 1, 2, 3] rfl ?_
  exact loop 32 0 (by omega)
set_option maxHeartbeats 4000000 in
set_option maxRecDepth 100000 in
theorem c_X4_taken (l : Launch) (D : va_G) (cy : ClassId × ClassId) (g : GT) (V : VT) (w : Int → Int → Int) (a : Nat) (o : Int) (p : Int) (hap : Apart g) (hm : isMod g a o) (hw : mwf w) (hp : 0 ≤ p ∧ p < 96) : MetI l yX4_taken cX4_taken 4 (some .int) 1 D cy g [.ref a, vI p] (setp V o w) (fun r V' => r = mTk w p ∧ V' = setp V o w) := by
  obtain ⟨hm1, r1, r2, r3, ⟨hr1, ha1⟩, ⟨hr2, ha2⟩, ⟨hr3, ha3⟩⟩ := id hm
  refine MetI.of (by decide) (Nat.le_of_ble_eq_true rfl) hap ?_
  intro p_ e_ s_ m_ args_ below_ meth_ c_ C
  have loop : ∀ (n : Nat) (k : Nat), k + n = 32 → G p_ l e_ (rmd 1) s_ m_ args_ below_ meth_ c_ 4 0 0 (MQ below_ (QcI D cy g (fun r V' => r = mTk w p ∧ V' = setp V o w)) args_ s_ 0 0 (fun q => q ∈ gL g)) D cy g (fun q => q ∈ gL g) s_.heap (setp V o w) 4 [(3, vI ((k : Int))), (2, vI (sumF (mSz w p) k)), (0, .ref a), (1, vI p)] [] := by
    intro n
    induction n with
    | zero =>
      intro k hkn
      have hk : k = 32 := by omega
      subst hk
      refine g_iload_n C 0 rfl dX4_taken_4 ?_
      refine g_bipush C 32 rfl dX4_taken_5 ?_
      refine g_icmp_ge C (by unfold rng; omega) (by unfold rng; omega) 25 dX4_taken_7 (by decide) (fun c7 => ?_) (fun c7 => absurd c7 (by omega))
      refine g_iload_n C 1 rfl dX4_taken_25 ?_
      exact g_iret C dX4_taken_26 ⟨rfl, rfl⟩
    | succ n ih =>
      intro k hkn
      refine g_iload_n C 0 rfl dX4_taken_4 ?_
      refine g_bipush C 32 rfl dX4_taken_5 ?_
      refine g_icmp_ge C (by unfold rng; omega) (by unfold rng; omega) 25 dX4_taken_7 (by decide) (fun c7 => absurd c7 (by omega)) (fun c7 => ?_)
      refine g_iload_n C 1 rfl dX4_taken_10 ?_
      refine g_aload_n C 2 rfl dX4_taken_11 ?_
      refine g_iload_n C 3 rfl dX4_taken_12 ?_
      refine g_iload_n C 0 rfl dX4_taken_13 ?_
      refine g_callI C [vI p, vI ((k : Int))] [vI (sumF (mSz w p) k)] (c_X4_sizeOf l D cy g V w a o p ((k : Int)) hap hm (by omega) (by omega)) lm_X4_27 (rcv_Mod hm.1) rfl (Nat.le_of_ble_eq_true rfl) ⟨(Nat.le_of_ble_eq_true rfl), (Nat.le_of_ble_eq_true rfl)⟩ ⟨Nat.zero_le _, Nat.zero_le _⟩ dX4_taken_14 ?_
      rintro _ _ ⟨rfl, rfl⟩
      refine g_iadd C dX4_taken_17 ?_
      refine g_istore_n C [(2, vI ((sumF (mSz w p) k) + (mSz w p ((k : Int))))), (3, vI ((k : Int))), (0, .ref a), (1, vI p)] dX4_taken_18 rfl (by decide) rfl ?_
      refine g_iinc C [(3, vI (((k : Int)) + 1)), (2, vI ((sumF (mSz w p) k) + (mSz w p ((k : Int))))), (0, .ref a), (1, vI p)] 1 rfl dX4_taken_19 (by decide) rfl ?_
      refine g_goto C 4 dX4_taken_22 (by decide) ?_
      refine g_sub [0, 1, 2, 3] rfl ?_
      exact ih (k + 1) (by omega)
  refine g_iconst C 0 rfl dX4_taken_0 ?_
  refine g_istore_n C [(2, vI 0), (0, .ref a), (1, vI p)] dX4_taken_1 rfl (by decide) rfl ?_
  refine g_iconst C 0 rfl dX4_taken_2 ?_
  refine g_istore_n C [(3, vI 0), (2, vI 0), (0, .ref a), (1, vI p)] dX4_taken_3 rfl (by decide) rfl ?_
  refine g_sub [0, 1, 2, 3] rfl ?_
  exact loop 32 0 (by omega)
set_option maxHeartbeats 4000000 in
set_option maxRecDepth 100000 in
theorem c_X4_room (l : Launch) (D : va_G) (cy : ClassId × ClassId) (g : GT) (V : VT) (w : Int → Int → Int) (a : Nat) (o : Int) (p : Int) (hap : Apart g) (hm : isMod g a o) (hw : mwf w) (hp : 0 ≤ p ∧ p < 96) : MetI l yX4_room cX4_room 2 (some .int) 2 D cy g [.ref a, vI p] (setp V o w) (fun r V' => r = mRoom w p ∧ V' = setp V o w) := by
  obtain ⟨hm1, r1, r2, r3, ⟨hr1, ha1⟩, ⟨hr2, ha2⟩, ⟨hr3, ha3⟩⟩ := id hm
  refine MetI.of (by decide) (Nat.le_of_ble_eq_true rfl) hap ?_
  intro p_ e_ s_ m_ args_ below_ meth_ c_ C
  refine g_sipush C 248 rfl dX4_room_0 ?_
  refine g_iconst C 4 rfl dX4_room_3 ?_
  refine g_aload_n C 0 rfl dX4_room_4 ?_
  refine g_iload_n C 1 rfl dX4_room_5 ?_
  refine g_callI C [vI p] [vI 4, vI 248] (c_X4_slots l D cy g V w a o p hap hm hw (by omega)) lm_X4_31 (rcv_Mod hm.1) rfl (Nat.le_of_ble_eq_true rfl) ⟨(Nat.le_of_ble_eq_true rfl), (Nat.le_of_ble_eq_true rfl)⟩ ⟨Nat.zero_le _, Nat.zero_le _⟩ dX4_room_6 ?_
  rintro _ _ ⟨rfl, rfl⟩
  refine g_imul C dX4_room_9 ?_
  refine g_isub C dX4_room_10 ?_
  refine g_aload_n C 0 rfl dX4_room_11 ?_
  refine g_iload_n C 1 rfl dX4_room_12 ?_
  refine g_callI C [vI p] [vI (248 - (4 * (mSl w p 32)))] (c_X4_taken l D cy g V w a o p hap hm hw (by omega)) lm_X4_35 (rcv_Mod hm.1) rfl (Nat.le_of_ble_eq_true rfl) ⟨(Nat.le_of_ble_eq_true rfl), (Nat.le_of_ble_eq_true rfl)⟩ ⟨Nat.zero_le _, Nat.zero_le _⟩ dX4_room_13 ?_
  rintro _ _ ⟨rfl, rfl⟩
  refine g_isub C dX4_room_16 ?_
  exact g_iret C dX4_room_17 ⟨rfl, rfl⟩
set_option maxHeartbeats 4000000 in
set_option maxRecDepth 100000 in
theorem c_X4_firstFree (l : Launch) (D : va_G) (cy : ClassId × ClassId) (g : GT) (V : VT) (w : Int → Int → Int) (a : Nat) (o : Int) (hap : Apart g) (hm : isMod g a o) (hw : mwf w) : MetI l yX4_firstFree cX4_firstFree 2 (some .int) 0 D cy g [.ref a] (setp V o w) (fun r V' => isLF (w 1) 0 r ∧ V' = setp V o w) := by
  obtain ⟨hm1, r1, r2, r3, ⟨hr1, ha1⟩, ⟨hr2, ha2⟩, ⟨hr3, ha3⟩⟩ := id hm
  refine MetI.of (by decide) (Nat.le_of_ble_eq_true rfl) hap ?_
  intro p_ e_ s_ m_ args_ below_ meth_ c_ C
  have loop : ∀ (n : Nat) (i : Int), 0 ≤ i ∧ i ≤ 96 → 96 - i ≤ n → (∀ j, 0 ≤ j → j < i → w 1 j ≠ 0) → G p_ l e_ (rmd 0) s_ m_ args_ below_ meth_ c_ 2 0 0 (MQ below_ (QcI D cy g (fun r V' => isLF (w 1) 0 r ∧ V' = setp V o w)) args_ s_ 0 0 (fun q => q ∈ gL g)) D cy g (fun q => q ∈ gL g) s_.heap (setp V o w) 2 [(1, vI i), (0, .ref a)] [] := by
    intro n
    induction n with
    | zero =>
      intro i h1 h3 h4
      refine g_iload_n C 0 rfl dX4_firstFree_2 ?_
      refine g_bipush C 96 rfl dX4_firstFree_3 ?_
      refine g_icmp_ge C (by unfold rng; omega) (by unfold rng; omega) 25 dX4_firstFree_5 (by decide) (fun c5 => ?_) (fun c5 => absurd c5 (by omega))
      refine g_iconst C (-1) rfl dX4_firstFree_25 ?_
      exact g_iret C dX4_firstFree_26 ⟨Or.inl ⟨rfl, fun j q1 q2 => h4 j q1 (by omega)⟩, rfl⟩
    | succ n ih =>
      intro i h1 h3 h4
      refine g_iload_n C 0 rfl dX4_firstFree_2 ?_
      refine g_bipush C 96 rfl dX4_firstFree_3 ?_
      refine g_icmp_ge C (by unfold rng; omega) (by unfold rng; omega) 25 dX4_firstFree_5 (by decide) (fun c5 => ?_) (fun c5 => ?_)
      · refine g_iconst C (-1) rfl dX4_firstFree_25 ?_
        exact g_iret C dX4_firstFree_26 ⟨Or.inl ⟨rfl, fun j q1 q2 => h4 j q1 (by omega)⟩, rfl⟩
      · refine g_aload_n C 1 rfl dX4_firstFree_8 ?_
        refine gf_Mod_d C hm1 hr1 lf_X4_7 dX4_firstFree_9 ?_
        refine g_iload_n C 0 rfl dX4_firstFree_12 ?_
        refine s_iald C (w 1 i) ha1 (by omega) (by decide) rfl dX4_firstFree_13 ?_
        refine g_if_ne C (by have z9 := hw (i) (by omega) (by omega); unfold sm at z9; unfold rng; omega) 19 dX4_firstFree_14 (by decide) (fun c14 => ?_) (fun c14 => ?_)
        · refine g_iinc C [(1, vI (i + 1)), (0, .ref a)] 0 rfl dX4_firstFree_19 (by decide) rfl ?_
          refine g_goto C 2 dX4_firstFree_22 (by decide) ?_
          refine g_sub [0, 1] rfl ?_
          refine ih (i + 1) (by omega) (by omega) (fun j q1 q2 => ?_)
          by_cases hj : j = i
          · subst hj; exact c14
          · exact h4 j q1 (by omega)
        · refine g_iload_n C 0 rfl dX4_firstFree_17 ?_
          exact g_iret C dX4_firstFree_18 ⟨Or.inr ⟨by omega, by omega, c14, h4⟩, rfl⟩
  refine g_iconst C 0 rfl dX4_firstFree_0 ?_
  refine g_istore_n C [(1, vI 0), (0, .ref a)] dX4_firstFree_1 rfl (by decide) rfl ?_
  refine g_sub [0, 1] rfl ?_
  exact loop 96 0 (by omega) (by omega) (fun j q1 q2 => absurd q1 (by omega))
set_option maxHeartbeats 4000000 in
set_option maxRecDepth 100000 in
theorem c_X4_freePages (l : Launch) (D : va_G) (cy : ClassId × ClassId) (g : GT) (V : VT) (w : Int → Int → Int) (a : Nat) (o : Int) (hap : Apart g) (hm : isMod g a o) (hw : mwf w) : MetI l yX4_freePages cX4_freePages 3 (some .int) 0 D cy g [.ref a] (setp V o w) (fun r V' => r = cntK (w 1) 0 96 ∧ V' = setp V o w) := by
  obtain ⟨hm1, r1, r2, r3, ⟨hr1, ha1⟩, ⟨hr2, ha2⟩, ⟨hr3, ha3⟩⟩ := id hm
  refine MetI.of (by decide) (Nat.le_of_ble_eq_true rfl) hap ?_
  intro p_ e_ s_ m_ args_ below_ meth_ c_ C
  have loop : ∀ (n : Nat) (k : Nat), k + n = 96 → G p_ l e_ (rmd 0) s_ m_ args_ below_ meth_ c_ 3 0 0 (MQ below_ (QcI D cy g (fun r V' => r = cntK (w 1) 0 96 ∧ V' = setp V o w)) args_ s_ 0 0 (fun q => q ∈ gL g)) D cy g (fun q => q ∈ gL g) s_.heap (setp V o w) 4 [(2, vI ((k : Int))), (1, vI (cntK (w 1) 0 k)), (0, .ref a)] [] := by
    intro n
    induction n with
    | zero =>
      intro k hkn
      have hk : k = 96 := by omega
      subst hk
      refine g_iload_n C 0 rfl dX4_freePages_4 ?_
      refine g_bipush C 96 rfl dX4_freePages_5 ?_
      refine g_icmp_ge C (by unfold rng; omega) (by unfold rng; omega) 33 dX4_freePages_7 (by decide) (fun c7 => ?_) (fun c7 => absurd c7 (by omega))
      refine g_iload_n C 1 rfl dX4_freePages_33 ?_
      exact g_iret C dX4_freePages_34 ⟨rfl, rfl⟩
    | succ n ih =>
      intro k hkn
      refine g_iload_n C 0 rfl dX4_freePages_4 ?_
      refine g_bipush C 96 rfl dX4_freePages_5 ?_
      refine g_icmp_ge C (by unfold rng; omega) (by unfold rng; omega) 33 dX4_freePages_7 (by decide) (fun c7 => absurd c7 (by omega)) (fun c7 => ?_)
      refine g_iload_n C 1 rfl dX4_freePages_10 ?_
      refine g_aload_n C 2 rfl dX4_freePages_11 ?_
      refine gf_Mod_d C hm1 hr1 lf_X4_7 dX4_freePages_12 ?_
      refine g_iload_n C 0 rfl dX4_freePages_15 ?_
      refine s_iald C (w 1 ((k : Int))) ha1 (by omega) (by decide) rfl dX4_freePages_16 ?_
      refine g_if_ne C (by have z9 := hw ((k : Int)) (by omega) (by omega); unfold sm at z9; unfold rng; omega) 24 dX4_freePages_17 (by decide) (fun c17 => ?_) (fun c17 => ?_)
      · refine g_iconst C 0 rfl dX4_freePages_24 ?_
        refine g_iadd C dX4_freePages_25 ?_
        refine g_istore_n C [(1, vI ((cntK (w 1) 0 k) + 0)), (2, vI ((k : Int))), (0, .ref a)] dX4_freePages_26 rfl (by decide) rfl ?_
        refine g_iinc C [(2, vI (((k : Int)) + 1)), (1, vI ((cntK (w 1) 0 k) + 0)), (0, .ref a)] 1 rfl dX4_freePages_27 (by decide) rfl ?_
        refine g_goto C 4 dX4_freePages_30 (by decide) ?_
        refine g_sub [0, 1, 2] rfl ?_
        have e1 : cntK (w 1) 0 (k + 1) = cntK (w 1) 0 k + 0 := by rw [Int.add_zero]; exact if_neg c17
        have h9 := ih (k + 1) (by omega)
        rw [e1] at h9
        exact h9
      · refine g_iconst C 1 rfl dX4_freePages_20 ?_
        refine g_goto C 25 dX4_freePages_21 (by decide) ?_
        refine g_iadd C dX4_freePages_25 ?_
        refine g_istore_n C [(1, vI ((cntK (w 1) 0 k) + 1)), (2, vI ((k : Int))), (0, .ref a)] dX4_freePages_26 rfl (by decide) rfl ?_
        refine g_iinc C [(2, vI (((k : Int)) + 1)), (1, vI ((cntK (w 1) 0 k) + 1)), (0, .ref a)] 1 rfl dX4_freePages_27 (by decide) rfl ?_
        refine g_goto C 4 dX4_freePages_30 (by decide) ?_
        refine g_sub [0, 1, 2] rfl ?_
        have e1 : cntK (w 1) 0 (k + 1) = cntK (w 1) 0 k + 1 := by exact if_pos c17
        have h9 := ih (k + 1) (by omega)
        rw [e1] at h9
        exact h9
  refine g_iconst C 0 rfl dX4_freePages_0 ?_
  refine g_istore_n C [(1, vI 0), (0, .ref a)] dX4_freePages_1 rfl (by decide) rfl ?_
  refine g_iconst C 0 rfl dX4_freePages_2 ?_
  refine g_istore_n C [(2, vI 0), (1, vI 0), (0, .ref a)] dX4_freePages_3 rfl (by decide) rfl ?_
  refine g_sub [0, 1, 2] rfl ?_
  exact loop 96 0 (by omega)
set_option maxHeartbeats 4000000 in
set_option maxRecDepth 100000 in
theorem c_X4_pagesOf (l : Launch) (D : va_G) (cy : ClassId × ClassId) (g : GT) (V : VT) (w : Int → Int → Int) (a : Nat) (o : Int) (q : Int) (hap : Apart g) (hm : isMod g a o) (hw : mwf w) (hq : sm q) : MetI l yX4_pagesOf cX4_pagesOf 4 (some .int) 0 D cy g [.ref a, vI q] (setp V o w) (fun r V' => r = cntK (w 1) q 96 ∧ V' = setp V o w) := by
  obtain ⟨hm1, r1, r2, r3, ⟨hr1, ha1⟩, ⟨hr2, ha2⟩, ⟨hr3, ha3⟩⟩ := id hm
  simp only [sm] at hq
  refine MetI.of (by decide) (Nat.le_of_ble_eq_true rfl) hap ?_
  intro p_ e_ s_ m_ args_ below_ meth_ c_ C
  have loop : ∀ (n : Nat) (k : Nat), k + n = 96 → G p_ l e_ (rmd 0) s_ m_ args_ below_ meth_ c_ 4 0 0 (MQ below_ (QcI D cy g (fun r V' => r = cntK (w 1) q 96 ∧ V' = setp V o w)) args_ s_ 0 0 (fun q => q ∈ gL g)) D cy g (fun q => q ∈ gL g) s_.heap (setp V o w) 4 [(3, vI ((k : Int))), (2, vI (cntK (w 1) q k)), (0, .ref a), (1, vI q)] [] := by
    intro n
    induction n with
    | zero =>
      intro k hkn
      have hk : k = 96 := by omega
      subst hk
      refine g_iload_n C 0 rfl dX4_pagesOf_4 ?_
      refine g_bipush C 96 rfl dX4_pagesOf_5 ?_
      refine g_icmp_ge C (by unfold rng; omega) (by unfold rng; omega) 34 dX4_pagesOf_7 (by decide) (fun c7 => ?_) (fun c7 => absurd c7 (by omega))
      refine g_iload_n C 1 rfl dX4_pagesOf_34 ?_
      exact g_iret C dX4_pagesOf_35 ⟨rfl, rfl⟩
    | succ n ih =>
      intro k hkn
      refine g_iload_n C 0 rfl dX4_pagesOf_4 ?_
      refine g_bipush C 96 rfl dX4_pagesOf_5 ?_
      refine g_icmp_ge C (by unfold rng; omega) (by unfold rng; omega) 34 dX4_pagesOf_7 (by decide) (fun c7 => absurd c7 (by omega)) (fun c7 => ?_)
      refine g_iload_n C 1 rfl dX4_pagesOf_10 ?_
      refine g_aload_n C 2 rfl dX4_pagesOf_11 ?_
      refine gf_Mod_d C hm1 hr1 lf_X4_7 dX4_pagesOf_12 ?_
      refine g_iload_n C 0 rfl dX4_pagesOf_15 ?_
      refine s_iald C (w 1 ((k : Int))) ha1 (by omega) (by decide) rfl dX4_pagesOf_16 ?_
      refine g_iload_n C 3 rfl dX4_pagesOf_17 ?_
      refine g_icmp_ne C (by have z9 := hw ((k : Int)) (by omega) (by omega); unfold sm at z9; unfold rng; omega) (by unfold rng; omega) 25 dX4_pagesOf_18 (by decide) (fun c18 => ?_) (fun c18 => ?_)
      · refine g_iconst C 0 rfl dX4_pagesOf_25 ?_
        refine g_iadd C dX4_pagesOf_26 ?_
        refine g_istore_n C [(2, vI ((cntK (w 1) q k) + 0)), (3, vI ((k : Int))), (0, .ref a), (1, vI q)] dX4_pagesOf_27 rfl (by decide) rfl ?_
        refine g_iinc C [(3, vI (((k : Int)) + 1)), (2, vI ((cntK (w 1) q k) + 0)), (0, .ref a), (1, vI q)] 1 rfl dX4_pagesOf_28 (by decide) rfl ?_
        refine g_goto C 4 dX4_pagesOf_31 (by decide) ?_
        refine g_sub [0, 1, 2, 3] rfl ?_
        have e1 : cntK (w 1) q (k + 1) = cntK (w 1) q k + 0 := by rw [Int.add_zero]; exact if_neg c18
        have h9 := ih (k + 1) (by omega)
        rw [e1] at h9
        exact h9
      · refine g_iconst C 1 rfl dX4_pagesOf_21 ?_
        refine g_goto C 26 dX4_pagesOf_22 (by decide) ?_
        refine g_iadd C dX4_pagesOf_26 ?_
        refine g_istore_n C [(2, vI ((cntK (w 1) q k) + 1)), (3, vI ((k : Int))), (0, .ref a), (1, vI q)] dX4_pagesOf_27 rfl (by decide) rfl ?_
        refine g_iinc C [(3, vI (((k : Int)) + 1)), (2, vI ((cntK (w 1) q k) + 1)), (0, .ref a), (1, vI q)] 1 rfl dX4_pagesOf_28 (by decide) rfl ?_
        refine g_goto C 4 dX4_pagesOf_31 (by decide) ?_
        refine g_sub [0, 1, 2, 3] rfl ?_
        have e1 : cntK (w 1) q (k + 1) = cntK (w 1) q k + 1 := by exact if_pos c18
        have h9 := ih (k + 1) (by omega)
        rw [e1] at h9
        exact h9
  refine g_iconst C 0 rfl dX4_pagesOf_0 ?_
  refine g_istore_n C [(2, vI 0), (0, .ref a), (1, vI q)] dX4_pagesOf_1 rfl (by decide) rfl ?_
  refine g_iconst C 0 rfl dX4_pagesOf_2 ?_
  refine g_istore_n C [(3, vI 0), (2, vI 0), (0, .ref a), (1, vI q)] dX4_pagesOf_3 rfl (by decide) rfl ?_
  refine g_sub [0, 1, 2, 3] rfl ?_
  exact loop 96 0 (by omega)
set_option maxHeartbeats 4000000 in
set_option maxRecDepth 100000 in
theorem c_X4_slotIn (l : Launch) (D : va_G) (cy : ClassId × ClassId) (g : GT) (V : VT) (w : Int → Int → Int) (a : Nat) (o : Int) (p s0 : Int) (hap : Apart g) (hm : isMod g a o) (hw : mwf w) (hp : 0 ≤ p ∧ p < 96) (hs0 : (0 ≤ s0 ∧ s0 < 32) ∧ mSz w p s0 ≤ 0) : MetI l yX4_slotIn cX4_slotIn 3 (some .int) 1 D cy g [.ref a, vI p] (setp V o w) (fun r V' => mEmpty w p r ∧ V' = setp V o w) := by
  obtain ⟨hm1, r1, r2, r3, ⟨hr1, ha1⟩, ⟨hr2, ha2⟩, ⟨hr3, ha3⟩⟩ := id hm
  refine MetI.of (by decide) (Nat.le_of_ble_eq_true rfl) hap ?_
  intro p_ e_ s_ m_ args_ below_ meth_ c_ C
  have loop : ∀ (n : Nat) (i : Int), 0 ≤ i ∧ i ≤ s0 → 33 - i ≤ n → (∀ j, 0 ≤ j → j < i → 0 < mSz w p j) → G p_ l e_ (rmd 1) s_ m_ args_ below_ meth_ c_ 3 0 0 (MQ below_ (QcI D cy g (fun r V' => mEmpty w p r ∧ V' = setp V o w)) args_ s_ 0 0 (fun q => q ∈ gL g)) D cy g (fun q => q ∈ gL g) s_.heap (setp V o w) 2 [(2, vI i), (0, .ref a), (1, vI p)] [] := by
    intro n
    induction n with
    | zero =>
      intro i h1 h3 h4
      exact absurd h3 (by omega)
    | succ n ih =>
      intro i h1 h3 h4
      refine g_aload_n C 1 rfl dX4_slotIn_2 ?_
      refine g_iload_n C 2 rfl dX4_slotIn_3 ?_
      refine g_iload_n C 0 rfl dX4_slotIn_4 ?_
      refine g_callI C [vI p, vI i] [] (c_X4_sizeOf l D cy g V w a o p i hap hm (by omega) (by omega)) lm_X4_27 (rcv_Mod hm.1) rfl (Nat.le_of_ble_eq_true rfl) ⟨(Nat.le_of_ble_eq_true rfl), (Nat.le_of_ble_eq_true rfl)⟩ ⟨Nat.zero_le _, Nat.zero_le _⟩ dX4_slotIn_5 ?_
      rintro _ _ ⟨rfl, rfl⟩
      refine g_if_le C (by have z9 : sm (mSz w p i) := hw _ (by omega) (by omega); unfold sm at z9; unfold rng; omega) 17 dX4_slotIn_8 (by decide) (fun c8 => ?_) (fun c8 => ?_)
      · refine g_iload_n C 0 rfl dX4_slotIn_17 ?_
        exact g_iret C dX4_slotIn_18 ⟨⟨by omega, c8, h4⟩, rfl⟩
      · refine g_iinc C [(2, vI (i + 1)), (0, .ref a), (1, vI p)] 0 rfl dX4_slotIn_11 (by decide) rfl ?_
        refine g_goto C 2 dX4_slotIn_14 (by decide) ?_
        refine g_sub [0, 1, 2] rfl ?_
        refine ih (i + 1) ?_ (by omega) (fun j q1 q2 => ?_)
        · by_cases hi : i = s0
          · subst hi; omega
          · omega
        · by_cases hj : j = i
          · subst hj; exact c8
          · exact h4 j q1 (by omega)
  refine g_iconst C 0 rfl dX4_slotIn_0 ?_
  refine g_istore_n C [(2, vI 0), (0, .ref a), (1, vI p)] dX4_slotIn_1 rfl (by decide) rfl ?_
  refine g_sub [0, 1, 2] rfl ?_
  exact loop 33 0 (by omega) (by omega) (fun j q1 q2 => absurd q1 (by omega))
set_option maxHeartbeats 4000000 in
set_option maxRecDepth 100000 in
theorem c_X4_cellSize (l : Launch) (D : va_G) (cy : ClassId × ClassId) (g : GT) (V : VT) (n z : Int) (hap : Apart g) (hn : -1 ≤ n ∧ n ≤ 1200) (hz : z = 0 ∨ z = 1) : MetI l yX4_cellSize cX4_cellSize 3 (some .int) 0 D cy g [vI n, vI z] V (fun r V' => r = cellB (1 + 2 * z) n ∧ V' = V) := by
  refine MetI.of (by decide) (Nat.le_of_ble_eq_true rfl) hap ?_
  intro p_ e_ s_ m_ args_ below_ meth_ c_ C
  refine g_iload_n C 0 rfl dX4_cellSize_0 ?_
  refine g_bipush C 100 rfl dX4_cellSize_1 ?_
  refine g_icmp_le C (by unfold rng; omega) (by unfold rng; omega) 11 dX4_cellSize_3 (by decide) (fun c3 => ?_) (fun c3 => ?_)
  · refine g_iload_n C 0 rfl dX4_cellSize_11 ?_
    refine g_iconst C 1 rfl dX4_cellSize_12 ?_
    refine g_iadd C dX4_cellSize_13 ?_
    refine g_iload_n C 1 rfl dX4_cellSize_14 ?_
    refine g_if_eq C (by unfold rng; omega) 22 dX4_cellSize_15 (by decide) (fun c15 => ?_) (fun c15 => ?_)
    · refine g_iconst C 0 rfl dX4_cellSize_22 ?_
      refine g_iadd C dX4_cellSize_23 ?_
      refine g_istore_n C [(2, vI ((n + 1) + 0)), (0, vI n), (1, vI z)] dX4_cellSize_24 rfl (by decide) rfl ?_
      refine g_iload_n C 0 rfl dX4_cellSize_25 ?_
      refine g_iconst C 5 rfl dX4_cellSize_26 ?_
      refine g_icmp_ge C (by unfold rng; omega) (by unfold rng; omega) 34 dX4_cellSize_27 (by decide) (fun c27 => ?_) (fun c27 => ?_)
      · refine g_iload_n C 0 rfl dX4_cellSize_34 ?_
        exact g_iret C dX4_cellSize_35 ⟨by unfold cellB cellA cellH; repeat' split; all_goals omega, rfl⟩
      · refine g_iconst C 5 rfl dX4_cellSize_30 ?_
        refine g_goto C 35 dX4_cellSize_31 (by decide) ?_
        exact g_iret C dX4_cellSize_35 ⟨by unfold cellB cellA cellH; repeat' split; all_goals omega, rfl⟩
    · refine g_iconst C 4 rfl dX4_cellSize_18 ?_
      refine g_goto C 23 dX4_cellSize_19 (by decide) ?_
      refine g_iadd C dX4_cellSize_23 ?_
      refine g_istore_n C [(2, vI ((n + 1) + 4)), (0, vI n), (1, vI z)] dX4_cellSize_24 rfl (by decide) rfl ?_
      refine g_iload_n C 0 rfl dX4_cellSize_25 ?_
      refine g_iconst C 5 rfl dX4_cellSize_26 ?_
      refine g_icmp_ge C (by unfold rng; omega) (by unfold rng; omega) 34 dX4_cellSize_27 (by decide) (fun c27 => ?_) (fun c27 => ?_)
      · refine g_iload_n C 0 rfl dX4_cellSize_34 ?_
        exact g_iret C dX4_cellSize_35 ⟨by unfold cellB cellA cellH; repeat' split; all_goals omega, rfl⟩
      · refine g_iconst C 5 rfl dX4_cellSize_30 ?_
        refine g_goto C 35 dX4_cellSize_31 (by decide) ?_
        exact g_iret C dX4_cellSize_35 ⟨by unfold cellB cellA cellH; repeat' split; all_goals omega, rfl⟩
  · refine g_bipush C 9 rfl dX4_cellSize_6 ?_
    refine g_goto C 14 dX4_cellSize_8 (by decide) ?_
    refine g_iload_n C 1 rfl dX4_cellSize_14 ?_
    refine g_if_eq C (by unfold rng; omega) 22 dX4_cellSize_15 (by decide) (fun c15 => ?_) (fun c15 => ?_)
    · refine g_iconst C 0 rfl dX4_cellSize_22 ?_
      refine g_iadd C dX4_cellSize_23 ?_
      refine g_istore_n C [(2, vI (9 + 0)), (0, vI n), (1, vI z)] dX4_cellSize_24 rfl (by decide) rfl ?_
      refine g_iload_n C 0 rfl dX4_cellSize_25 ?_
      refine g_iconst C 5 rfl dX4_cellSize_26 ?_
      refine g_icmp_ge C (by unfold rng; omega) (by unfold rng; omega) 34 dX4_cellSize_27 (by decide) (fun c27 => ?_) (fun c27 => ?_)
      · refine g_iload_n C 0 rfl dX4_cellSize_34 ?_
        exact g_iret C dX4_cellSize_35 ⟨by unfold cellB cellA cellH; repeat' split; all_goals omega, rfl⟩
      · refine g_iconst C 5 rfl dX4_cellSize_30 ?_
        refine g_goto C 35 dX4_cellSize_31 (by decide) ?_
        exact g_iret C dX4_cellSize_35 ⟨by unfold cellB cellA cellH; repeat' split; all_goals omega, rfl⟩
    · refine g_iconst C 4 rfl dX4_cellSize_18 ?_
      refine g_goto C 23 dX4_cellSize_19 (by decide) ?_
      refine g_iadd C dX4_cellSize_23 ?_
      refine g_istore_n C [(2, vI (9 + 4)), (0, vI n), (1, vI z)] dX4_cellSize_24 rfl (by decide) rfl ?_
      refine g_iload_n C 0 rfl dX4_cellSize_25 ?_
      refine g_iconst C 5 rfl dX4_cellSize_26 ?_
      refine g_icmp_ge C (by unfold rng; omega) (by unfold rng; omega) 34 dX4_cellSize_27 (by decide) (fun c27 => ?_) (fun c27 => ?_)
      · refine g_iload_n C 0 rfl dX4_cellSize_34 ?_
        exact g_iret C dX4_cellSize_35 ⟨by unfold cellB cellA cellH; repeat' split; all_goals omega, rfl⟩
      · refine g_iconst C 5 rfl dX4_cellSize_30 ?_
        refine g_goto C 35 dX4_cellSize_31 (by decide) ?_
        exact g_iret C dX4_cellSize_35 ⟨by unfold cellB cellA cellH; repeat' split; all_goals omega, rfl⟩
set_option maxHeartbeats 4000000 in
set_option maxRecDepth 100000 in
theorem c_X4_chainSize (l : Launch) (D : va_G) (cy : ClassId × ClassId) (g : GT) (V : VT) (n : Int) (hap : Apart g) (hn : 0 ≤ n ∧ n ≤ 1200) : MetI l yX4_chainSize cX4_chainSize 1 (some .int) 0 D cy g [vI n] V (fun r V' => r = chP n ∧ V' = V) := by
  refine MetI.of (by decide) (Nat.le_of_ble_eq_true rfl) hap ?_
  intro p_ e_ s_ m_ args_ below_ meth_ c_ C
  refine g_iload_n C 0 rfl dX4_chainSize_0 ?_
  refine g_bipush C 100 rfl dX4_chainSize_1 ?_
  refine g_icmp_le C (by unfold rng; omega) (by unfold rng; omega) 20 dX4_chainSize_3 (by decide) (fun c3 => ?_) (fun c3 => ?_)
  · refine g_iconst C 0 rfl dX4_chainSize_20 ?_
    refine g_iret C dX4_chainSize_21 ⟨?_, rfl⟩
    unfold chP
    first | rw [if_pos (by omega)]; omega | rw [if_neg (by omega)]
  · refine g_iload_n C 0 rfl dX4_chainSize_6 ?_
    refine g_sipush C 240 rfl dX4_chainSize_7 ?_
    refine g_iadd C dX4_chainSize_10 ?_
    refine g_iconst C 1 rfl dX4_chainSize_11 ?_
    refine g_isub C dX4_chainSize_12 ?_
    refine g_sipush C 240 rfl dX4_chainSize_13 ?_
    refine g_idiv C (by omega) (by omega) dX4_chainSize_16 ?_
    refine g_goto C 21 dX4_chainSize_17 (by decide) ?_
    refine g_iret C dX4_chainSize_21 ⟨?_, rfl⟩
    unfold chP
    first | rw [if_pos (by omega)]; omega | rw [if_neg (by omega)]
set_option maxHeartbeats 4000000 in
set_option maxRecDepth 100000 in
theorem c_X4_isValue (l : Launch) (D : va_G) (cy : ClassId × ClassId) (g : GT) (V : VT) (n z : Int) (hap : Apart g) (hn : rng n) (hz : rng z) : MetI l yX4_isValue cX4_isValue 2 (some .boolean) 0 D cy g [vI n, vI z] V (fun r V' => r = (if (0 ≤ n ∧ n ≤ 1200) ∧ (0 ≤ z ∧ z ≤ 255) then 1 else 0) ∧ V' = V) := by
  unfold rng at hn hz
  refine MetI.of (by decide) (Nat.le_of_ble_eq_true rfl) hap ?_
  intro p_ e_ s_ m_ args_ below_ meth_ c_ C
  refine g_iload_n C 0 rfl dX4_isValue_0 ?_
  refine g_if_lt C (by unfold rng; omega) 26 dX4_isValue_1 (by decide) (fun c1 => ?_) (fun c1 => ?_)
  · refine g_iconst C 0 rfl dX4_isValue_26 ?_
    exact g_zret C (by omega) dX4_isValue_27 ⟨by first | rw [if_pos ⟨⟨by omega, by omega⟩, by omega, by omega⟩] | rw [if_neg (by omega)], rfl⟩
  · refine g_iload_n C 0 rfl dX4_isValue_4 ?_
    refine g_sipush C 1200 rfl dX4_isValue_5 ?_
    refine g_icmp_gt C (by unfold rng; omega) (by unfold rng; omega) 26 dX4_isValue_8 (by decide) (fun c8 => ?_) (fun c8 => ?_)
    · refine g_iconst C 0 rfl dX4_isValue_26 ?_
      exact g_zret C (by omega) dX4_isValue_27 ⟨by first | rw [if_pos ⟨⟨by omega, by omega⟩, by omega, by omega⟩] | rw [if_neg (by omega)], rfl⟩
    · refine g_iload_n C 1 rfl dX4_isValue_11 ?_
      refine g_if_lt C (by unfold rng; omega) 26 dX4_isValue_12 (by decide) (fun c12 => ?_) (fun c12 => ?_)
      · refine g_iconst C 0 rfl dX4_isValue_26 ?_
        exact g_zret C (by omega) dX4_isValue_27 ⟨by first | rw [if_pos ⟨⟨by omega, by omega⟩, by omega, by omega⟩] | rw [if_neg (by omega)], rfl⟩
      · refine g_iload_n C 1 rfl dX4_isValue_15 ?_
        refine g_sipush C 255 rfl dX4_isValue_16 ?_
        refine g_icmp_gt C (by unfold rng; omega) (by unfold rng; omega) 26 dX4_isValue_19 (by decide) (fun c19 => ?_) (fun c19 => ?_)
        · refine g_iconst C 0 rfl dX4_isValue_26 ?_
          exact g_zret C (by omega) dX4_isValue_27 ⟨by first | rw [if_pos ⟨⟨by omega, by omega⟩, by omega, by omega⟩] | rw [if_neg (by omega)], rfl⟩
        · refine g_iconst C 1 rfl dX4_isValue_22 ?_
          refine g_goto C 27 dX4_isValue_23 (by decide) ?_
          exact g_zret C (by omega) dX4_isValue_27 ⟨by first | rw [if_pos ⟨⟨by omega, by omega⟩, by omega, by omega⟩] | rw [if_neg (by omega)], rfl⟩
set_option maxHeartbeats 4000000 in
set_option maxRecDepth 100000 in
theorem c_X4_isRecord (l : Launch) (D : va_G) (cy : ClassId × ClassId) (g : GT) (V : VT) (w : Int → Int → Int) (a : Nat) (o : Int) (x : Int) (hap : Apart g) (hm : isMod g a o) (hw : mwf w) (hx : rng x) : MetI l yX4_isRecord cX4_isRecord 2 (some .boolean) 0 D cy g [.ref a, vI x] (setp V o w) (fun r V' => r = (if (0 ≤ x ∧ x < 3072) ∧ w 1 (6528 + x) ≠ -1 then 1 else 0) ∧ V' = setp V o w) := by
  obtain ⟨hm1, r1, r2, r3, ⟨hr1, ha1⟩, ⟨hr2, ha2⟩, ⟨hr3, ha3⟩⟩ := id hm
  unfold rng at hx
  refine MetI.of (by decide) (Nat.le_of_ble_eq_true rfl) hap ?_
  intro p_ e_ s_ m_ args_ below_ meth_ c_ C
  refine g_iload_n C 1 rfl dX4_isRecord_0 ?_
  refine g_if_lt C (by unfold rng; omega) 29 dX4_isRecord_1 (by decide) (fun c1 => ?_) (fun c1 => ?_)
  · refine g_iconst C 0 rfl dX4_isRecord_29 ?_
    exact g_zret C (by omega) dX4_isRecord_30 ⟨by first | rw [if_pos ⟨⟨by omega, by omega⟩, by omega⟩] | rw [if_neg (by omega)], rfl⟩
  · refine g_iload_n C 1 rfl dX4_isRecord_4 ?_
    refine g_sipush C 3072 rfl dX4_isRecord_5 ?_
    refine g_icmp_ge C (by unfold rng; omega) (by unfold rng; omega) 29 dX4_isRecord_8 (by decide) (fun c8 => ?_) (fun c8 => ?_)
    · refine g_iconst C 0 rfl dX4_isRecord_29 ?_
      exact g_zret C (by omega) dX4_isRecord_30 ⟨by first | rw [if_pos ⟨⟨by omega, by omega⟩, by omega⟩] | rw [if_neg (by omega)], rfl⟩
    · refine g_aload_n C 0 rfl dX4_isRecord_11 ?_
      refine gf_Mod_d C hm1 hr1 lf_X4_7 dX4_isRecord_12 ?_
      refine g_sipush C 6528 rfl dX4_isRecord_15 ?_
      refine g_iload_n C 1 rfl dX4_isRecord_18 ?_
      refine g_iadd C dX4_isRecord_19 ?_
      refine s_iald C (w 1 (6528 + x)) ha1 (by omega) (by decide) rfl dX4_isRecord_20 ?_
      refine g_iconst C (-1) rfl dX4_isRecord_21 ?_
      refine g_icmp_eq C (by have z9 := hw (6528 + x) (by omega) (by omega); unfold sm at z9; unfold rng; omega) (by unfold rng; omega) 29 dX4_isRecord_22 (by decide) (fun c22 => ?_) (fun c22 => ?_)
      · refine g_iconst C 0 rfl dX4_isRecord_29 ?_
        exact g_zret C (by omega) dX4_isRecord_30 ⟨by first | rw [if_pos ⟨⟨by omega, by omega⟩, by omega⟩] | rw [if_neg (by omega)], rfl⟩
      · refine g_iconst C 1 rfl dX4_isRecord_25 ?_
        refine g_goto C 30 dX4_isRecord_26 (by decide) ?_
        exact g_zret C (by omega) dX4_isRecord_30 ⟨by first | rw [if_pos ⟨⟨by omega, by omega⟩, by omega⟩] | rw [if_neg (by omega)], rfl⟩
set_option maxHeartbeats 4000000 in
set_option maxRecDepth 100000 in
theorem c_X4_keep (l : Launch) (D : va_G) (cy : ClassId × ClassId) (g : GT) (V : VT) (w : Int → Int → Int) (a : Nat) (o : Int) (x c n sd f : Int) (hap : Apart g) (hm : isMod g a o) (hx : 0 ≤ x ∧ x < 3072) : MetV l yX4_keep cX4_keep 6 none 0 D cy g [.ref a, vI x, vI c, vI n, vI sd, vI f] (setp V o w) (fun V' => V' = setp V o (mKeep w x c n sd f)) := by
  obtain ⟨hm1, r1, r2, r3, ⟨hr1, ha1⟩, ⟨hr2, ha2⟩, ⟨hr3, ha3⟩⟩ := id hm
  refine MetV.of (by decide) (Nat.le_of_ble_eq_true rfl) hap ?_
  intro p_ e_ s_ m_ args_ below_ meth_ c_ C
  refine g_aload_n C 0 rfl dX4_keep_0 ?_
  refine gf_Mod_d C hm1 hr1 lf_X4_7 dX4_keep_1 ?_
  refine g_sipush C 6528 rfl dX4_keep_4 ?_
  refine g_iload_n C 1 rfl dX4_keep_7 ?_
  refine g_iadd C dX4_keep_8 ?_
  refine g_iload_n C 2 rfl dX4_keep_9 ?_
  refine s_iast C ha1 (by omega) (by decide) dX4_keep_10 ?_
  refine g_aload_n C 0 rfl dX4_keep_11 ?_
  refine gf_Mod_d C hm1 hr1 lf_X4_7 dX4_keep_12 ?_
  refine g_sipush C 9600 rfl dX4_keep_15 ?_
  refine g_iload_n C 1 rfl dX4_keep_18 ?_
  refine g_iadd C dX4_keep_19 ?_
  refine g_iload_n C 3 rfl dX4_keep_20 ?_
  refine s_iast C ha1 (by omega) (by decide) dX4_keep_21 ?_
  refine g_aload_n C 0 rfl dX4_keep_22 ?_
  refine gf_Mod_d C hm1 hr1 lf_X4_7 dX4_keep_23 ?_
  refine g_sipush C 12672 rfl dX4_keep_26 ?_
  refine g_iload_n C 1 rfl dX4_keep_29 ?_
  refine g_iadd C dX4_keep_30 ?_
  refine g_iload C 4 rfl dX4_keep_31 ?_
  refine s_iast C ha1 (by omega) (by decide) dX4_keep_33 ?_
  refine g_aload_n C 0 rfl dX4_keep_34 ?_
  refine gf_Mod_d C hm1 hr1 lf_X4_7 dX4_keep_35 ?_
  refine g_sipush C 15744 rfl dX4_keep_38 ?_
  refine g_iload_n C 1 rfl dX4_keep_41 ?_
  refine g_iadd C dX4_keep_42 ?_
  refine g_iload C 5 rfl dX4_keep_43 ?_
  refine s_iast C ha1 (by omega) (by decide) dX4_keep_45 ?_
  exact g_vret C dX4_keep_46 rfl
set_option maxHeartbeats 4000000 in
set_option maxRecDepth 100000 in
theorem c_X4_note (l : Launch) (D : va_G) (cy : ClassId × ClassId) (g : GT) (V : VT) (w : Int → Int → Int) (a : Nat) (o : Int) (k x n sd : Int) (hap : Apart g) (hm : isMod g a o) (hc : 0 ≤ w 0 3 ∧ w 0 3 < 4000) : MetV l yX4_note cX4_note 6 none 0 D cy g [.ref a, vI k, vI x, vI n, vI sd] (setp V o w) (fun V' => V' = setp V o (mNote w k x n sd)) := by
  obtain ⟨hm1, r1, r2, r3, ⟨hr1, ha1⟩, ⟨hr2, ha2⟩, ⟨hr3, ha3⟩⟩ := id hm
  refine MetV.of (by decide) (Nat.le_of_ble_eq_true rfl) hap ?_
  intro p_ e_ s_ m_ args_ below_ meth_ c_ C
  refine g_iconst C 4 rfl dX4_note_0 ?_
  refine g_aload_n C 0 rfl dX4_note_1 ?_
  refine sf_Mod_changeCount C (w 0 3) hm1 rfl lf_X4_95 dX4_note_2 ?_
  refine g_imul C dX4_note_5 ?_
  refine g_istore C [(5, vI (4 * (w 0 3))), (0, .ref a), (1, vI k), (2, vI x), (3, vI n), (4, vI sd)] dX4_note_6 (by decide) rfl ?_
  refine g_aload_n C 1 rfl dX4_note_8 ?_
  refine gf_Mod_changes C hm1 hr3 lf_X4_16 dX4_note_9 ?_
  refine g_iload C 0 rfl dX4_note_12 ?_
  refine g_iload_n C 2 rfl dX4_note_14 ?_
  refine s_iast C ha3 (by omega) (by decide) dX4_note_15 ?_
  refine g_aload_n C 1 rfl dX4_note_16 ?_
  refine gf_Mod_changes C hm1 hr3 lf_X4_16 dX4_note_17 ?_
  refine g_iload C 0 rfl dX4_note_20 ?_
  refine g_iconst C 1 rfl dX4_note_22 ?_
  refine g_iadd C dX4_note_23 ?_
  refine g_iload_n C 3 rfl dX4_note_24 ?_
  refine s_iast C ha3 (by omega) (by decide) dX4_note_25 ?_
  refine g_aload_n C 1 rfl dX4_note_26 ?_
  refine gf_Mod_changes C hm1 hr3 lf_X4_16 dX4_note_27 ?_
  refine g_iload C 0 rfl dX4_note_30 ?_
  refine g_iconst C 2 rfl dX4_note_32 ?_
  refine g_iadd C dX4_note_33 ?_
  refine g_iload_n C 4 rfl dX4_note_34 ?_
  refine s_iast C ha3 (by omega) (by decide) dX4_note_35 ?_
  refine g_aload_n C 1 rfl dX4_note_36 ?_
  refine gf_Mod_changes C hm1 hr3 lf_X4_16 dX4_note_37 ?_
  refine g_iload C 0 rfl dX4_note_40 ?_
  refine g_iconst C 3 rfl dX4_note_42 ?_
  refine g_iadd C dX4_note_43 ?_
  refine g_iload C 5 rfl dX4_note_44 ?_
  refine s_iast C ha3 (by omega) (by decide) dX4_note_46 ?_
  refine g_aload_n C 1 rfl dX4_note_47 ?_
  refine g_dupR C dX4_note_48 ?_
  refine sf_Mod_changeCount C (w 0 3) hm1 (by simp [upw]) lf_X4_95 dX4_note_49 ?_
  refine g_iconst C 1 rfl dX4_note_52 ?_
  refine g_iadd C dX4_note_53 ?_
  refine sp_Mod_changeCount C hm1 lf_X4_95 dX4_note_54 ?_
  exact g_vret C dX4_note_57 rfl
set_option maxHeartbeats 4000000 in
set_option maxRecDepth 100000 in
theorem c_X4_fails (l : Launch) (D : va_G) (cy : ClassId × ClassId) (g : GT) (V : VT) (w : Int → Int → Int) (a : Nat) (o : Int) (z k : Int) (hap : Apart g) (hm : isMod g a o) (hz : z = 0 ∨ z = 1) : MetI l yX4_fails cX4_fails 3 (some .boolean) 0 D cy g [.ref a, vI z, vI k] (setp V o w) (fun r V' => r = z ∧ V' = setp V o (upw w 0 7 (if z = 1 then k else 0))) := by
  obtain ⟨hm1, r1, r2, r3, ⟨hr1, ha1⟩, ⟨hr2, ha2⟩, ⟨hr3, ha3⟩⟩ := id hm
  refine MetI.of (by decide) (Nat.le_of_ble_eq_true rfl) hap ?_
  intro p_ e_ s_ m_ args_ below_ meth_ c_ C
  refine g_aload_n C 0 rfl dX4_fails_0 ?_
  refine g_iload_n C 1 rfl dX4_fails_1 ?_
  refine g_if_eq C (by unfold rng; omega) 9 dX4_fails_2 (by decide) (fun c2 => ?_) (fun c2 => ?_)
  · refine g_iconst C 0 rfl dX4_fails_9 ?_
    refine sp_Mod_thrown C hm1 lf_X4_23 dX4_fails_10 ?_
    refine g_iload_n C 1 rfl dX4_fails_13 ?_
    refine g_zret C hz dX4_fails_14 ⟨rfl, ?_⟩
    congr 1
    first | rw [if_pos (by omega)] | rw [if_neg (by omega)]
  · refine g_iload_n C 2 rfl dX4_fails_5 ?_
    refine g_goto C 10 dX4_fails_6 (by decide) ?_
    refine sp_Mod_thrown C hm1 lf_X4_23 dX4_fails_10 ?_
    refine g_iload_n C 1 rfl dX4_fails_13 ?_
    refine g_zret C hz dX4_fails_14 ⟨rfl, ?_⟩
    congr 1
    first | rw [if_pos (by omega)] | rw [if_neg (by omega)]
set_option maxHeartbeats 4000000 in
set_option maxRecDepth 100000 in
theorem c_X4_thrown (l : Launch) (D : va_G) (cy : ClassId × ClassId) (g : GT) (V : VT) (w : Int → Int → Int) (a : Nat) (o : Int) (hap : Apart g) (hm : isMod g a o) : MetI l yX4_thrown cX4_thrown 1 (some .int) 0 D cy g [.ref a] (setp V o w) (fun r V' => r = w 0 7 ∧ V' = setp V o w) := by
  obtain ⟨hm1, r1, r2, r3, ⟨hr1, ha1⟩, ⟨hr2, ha2⟩, ⟨hr3, ha3⟩⟩ := id hm
  refine MetI.of (by decide) (Nat.le_of_ble_eq_true rfl) hap ?_
  intro p_ e_ s_ m_ args_ below_ meth_ c_ C
  refine g_aload_n C 0 rfl dX4_thrown_0 ?_
  refine sf_Mod_thrown C (w 0 7) hm1 rfl lf_X4_23 dX4_thrown_1 ?_
  exact g_iret C dX4_thrown_4 ⟨rfl, rfl⟩
