theorem mwf_up {w : Int → Int → Int} {k v : Int} (h : mwf w) (hv : sm v) : mwf (upw w 1 k v) := by
  intro j h1 h2
  unfold upw
  split
  · exact hv
  · exact h j h1 h2
theorem mwf_up0 {w : Int → Int → Int} {t k v : Int} (h : mwf w) (ht : t ≠ 1) : mwf (upw w t k v) := by
  intro j h1 h2
  rw [upw_t (fun q => ht q.symm)]
  exact h j h1 h2
theorem mSz_low {w : Int → Int → Int} {k v p s : Int} (hk : k < 384) (hp : 0 ≤ p) (hs : 0 ≤ s) : mSz (upw w 1 k v) p s = mSz w p s := by unfold mSz; rw [upw_j (by omega)]
theorem mSl_congr {w u : Int → Int → Int} {p : Int} {n : Nat} (h : ∀ s : Int, 0 ≤ s → s < n → mSz u p s = mSz w p s) : mSl u p n = mSl w p n := by
  induction n with
  | zero => rfl
  | succ n ih => unfold mSl; rw [ih (fun s h1 h2 => h s h1 (by omega)), h n (by omega) (by omega)]
theorem mSl_low {w : Int → Int → Int} {k v p : Int} (hk : k < 384) (hp : 0 ≤ p) : mSl (upw w 1 k v) p 32 = mSl w p 32 := mSl_congr (fun s h1 _ => mSz_low hk hp h1)
theorem mTk_low {w : Int → Int → Int} {k v p : Int} (hk : k < 384) (hp : 0 ≤ p) : mTk (upw w 1 k v) p = mTk w p := sumF_congr (fun s h1 _ => mSz_low hk hp h1)
theorem mCe_low {w : Int → Int → Int} {k v p : Int} (hk : k < 384) (hp : 0 ≤ p) : mCe (upw w 1 k v) p = mCe w p := sumF_congr (fun s h1 _ => by unfold mCf; rw [mSz_low hk hp h1])
def mAll (w : Int → Int → Int) (p s : Int) : Int := if s < mSl w p 32 then mSl w p 32 else s + 1
def mE0 (w : Int → Int → Int) (p : Int) : Int := if w 1 p = 1 then w 1 (96 + p) else 0
def mPutE (w : Int → Int → Int) (p s z : Int) : Int := if mSz w p s = 0 ∨ mSz w p s < z then (if 248 - 4 * mAll w p s - mE0 w p < z then mTk w p - mSz w p s + z else mE0 w p + z) else mE0 w p
def mPutC (w : Int → Int → Int) (p s z : Int) : Int := if mSz w p s = 0 ∨ mSz w p s < z then (if 248 - 4 * mAll w p s - mE0 w p < z then (if w 0 6 = 0 then 1 else 0) else 0) else 0
def mPut (w : Int → Int → Int) (p s z ow : Int) : Int → Int → Int := upw (upw (upw (upw (upw w 1 p 1) 0 4 (w 0 4 + mPutC w p s z)) 1 (96 + p) (mPutE w p s z)) 1 (384 + 32 * p + s) z) 1 (3456 + 32 * p + s) ow
def okm (w : Int → Int → Int) (x y i : Int) : Prop := w 1 i = 1 ∧ i ≠ x ∧ i ≠ y ∧ mCe w i ≠ 32
def isLCd (ok : Int → Prop) (cl : Int → Int) (n m r : Int) : Prop := (r = -1 ∧ ∀ i, m ≤ i → i < 96 → ok i → 31 * cl i < n) ∨ (m ≤ r ∧ r < 96 ∧ ok r ∧ n ≤ 31 * cl r ∧ (∀ i, m ≤ i → i < 96 → ok i → n ≤ 31 * cl i → cl r ≤ cl i) ∧ ∀ i, m ≤ i → i < r → ok i → n ≤ 31 * cl i → cl r < cl i)
def isFRd (ok : Int → Prop) (rm : Int → Int) (n m r : Int) : Prop := (r = -1 ∧ ∀ i, m ≤ i → i < 96 → ok i → rm i < n) ∨ (m ≤ r ∧ r < 96 ∧ ok r ∧ n ≤ rm r ∧ ∀ i, m ≤ i → i < r → ok i → rm i < n)
def mCl (w : Int → Int → Int) (i : Int) : Int := mRoom w i / 31
def isPlM (w : Int → Int → Int) (n x y r : Int) : Prop := (r ≠ -1 ∧ isLCd (okm w x y) (mCl w) n 0 r) ∨ (isLCd (okm w x y) (mCl w) n 0 (-1) ∧ ((r ≠ -1 ∧ isFRd (okm w x y) (mRoom w) n 0 r) ∨ (isFRd (okm w x y) (mRoom w) n 0 (-1) ∧ isLF (w 1) 0 r)))
/-- one page more of a chain: w, first, last -/
def mtStep (len : Int) (k : Nat) (S : (Int → Int → Int) × Int × Int) : (Int → Int → Int) × Int × Int :=
  if S.2.2 = -1 then (upw (upw (upw S.1 1 (lfr (S.1 1)) 2) 1 (192 + lfr (S.1 1)) (-1)) 1 (288 + lfr (S.1 1)) (if len - 240 * k < 240 then len - 240 * k else 240), lfr (S.1 1), lfr (S.1 1))
  else (upw (upw (upw (upw S.1 1 (lfr (S.1 1)) 2) 1 (192 + lfr (S.1 1)) (-1)) 1 (288 + lfr (S.1 1)) (if len - 240 * k < 240 then len - 240 * k else 240)) 1 (192 + S.2.2) (lfr (S.1 1)), S.2.1, lfr (S.1 1))
def mtN (w : Int → Int → Int) (len : Int) : Nat → (Int → Int → Int) × Int × Int
  | 0 => (w, -1, -1)
  | k + 1 => mtStep len k (mtN w len k)
theorem mt_inv {w : Int → Int → Int} {len : Int} (hw : mwf w) (hn : 0 ≤ len ∧ len ≤ 1200) (m : Nat) (hm5 : m ≤ 5) (hm : (m : Int) ≤ cntK (w 1) 0 96) : ∀ k : Nat, k ≤ m → mwf (mtN w len k).1 ∧ (-1 ≤ (mtN w len k).2.2 ∧ (mtN w len k).2.2 < 96) ∧ cntK ((mtN w len k).1 1) 0 96 = cntK (w 1) 0 96 - k ∧ (-1 ≤ (mtN w len k).2.1 ∧ (mtN w len k).2.1 < 96) := by
  intro k
  induction k with
  | zero => intro _; exact ⟨hw, ⟨by simp only [mtN]; omega, by simp only [mtN]; omega⟩, by simp [mtN], ⟨by simp only [mtN]; omega, by simp only [mtN]; omega⟩⟩
  | succ k ih =>
    intro hk
    obtain ⟨i1, i2, i4, i5⟩ := ih (by omega)
    have hpos : 0 < cntK ((mtN w len k).1 1) 0 96 := by rw [i4]; omega
    obtain ⟨f, f1, f2, f3⟩ := cntK_pos hpos
    have hl := lfr_LF ((mtN w len k).1 1)
    have hst : mtN w len (k + 1) = mtStep len k (mtN w len k) := rfl
    rw [hst]
    generalize mtN w len k = S at *
    generalize hr : lfr (S.1 1) = r at *
    rcases hl with ⟨-, kk⟩ | ⟨k1, k2, k3, k4⟩
    · exact absurd f3 (kk f f1 (by omega))
    · have hv : sm (if len - 240 * (k : Int) < 240 then len - 240 * k else 240) := by unfold sm; split <;> omega
      have hs2 : sm 2 := ⟨by decide, by decide⟩
      have hs1 : sm (-1) := ⟨by decide, by decide⟩
      have m1 := mwf_up (k := 288 + r) (mwf_up (k := 192 + r) (mwf_up (k := r) i1 hs2) hs1) hv
      have hd : ∀ i : Int, 0 ≤ i → i < (96 : Nat) → upw (upw (upw S.1 1 r 2) 1 (192 + r) (-1)) 1 (288 + r) (if len - 240 * (k : Int) < 240 then len - 240 * k else 240) 1 i = upw S.1 1 r 2 1 i := by
        intro i q1 q2
        rw [upw_j (by omega), upw_j (by omega)]
      have hd2 : ∀ z v i : Int, 0 ≤ z → 0 ≤ i → i < (96 : Nat) → upw (upw (upw (upw S.1 1 r 2) 1 (192 + r) (-1)) 1 (288 + r) (if len - 240 * (k : Int) < 240 then len - 240 * k else 240)) 1 (192 + z) v 1 i = upw S.1 1 r 2 1 i := by
        intro z v i q0 q1 q2
        rw [upw_j (by omega), hd i q1 q2]
      have hct : cntK (upw S.1 1 r 2 1) 0 96 = cntK (S.1 1) 0 96 - 1 := cntK_set ⟨k1, by omega⟩ k3 (by rw [upw_at]; decide) (fun i _ _ hi => upw_j hi)
      unfold mtStep
      rw [hr]
      split
      · exact ⟨m1, ⟨by show -1 ≤ r; omega, by show r < 96; omega⟩, by rw [cntK_congr hd, hct, i4]; omega, ⟨by show -1 ≤ r; omega, by show r < 96; omega⟩⟩
      · exact ⟨mwf_up m1 (by unfold sm; omega), ⟨by show -1 ≤ r; omega, by show r < 96; omega⟩, by rw [cntK_congr (fun i q1 q2 => hd2 S.2.2 r i (by omega) q1 q2), hct, i4]; omega, i5⟩
set_option maxHeartbeats 4000000 in
set_option maxRecDepth 100000 in
theorem c_X4_takeCell (l : Launch) (D : va_G) (cy : ClassId × ClassId) (g : GT) (V : VT) (w : Int → Int → Int) (a : Nat) (o : Int) (p s : Int) (hap : Apart g) (hm : isMod g a o) (hw : mwf w) (hp : 0 ≤ p ∧ p < 96) (hs : 0 ≤ s ∧ s < 32) : MetV l yX4_takeCell cX4_takeCell 3 none 2 D cy g [.ref a, vI p, vI s] (setp V o w) (fun V' => V' = setp V o (mTake w p s)) := by
  obtain ⟨hm1, r1, r2, r3, ⟨hr1, ha1⟩, ⟨hr2, ha2⟩, ⟨hr3, ha3⟩⟩ := id hm
  refine MetV.of (by decide) (Nat.le_of_ble_eq_true rfl) hap ?_
  intro p_ e_ s_ m_ args_ below_ meth_ c_ C
  refine g_aload_n C 0 rfl dX4_takeCell_0 ?_
  refine gf_Mod_d C hm1 hr1 lf_X4_7 dX4_takeCell_1 ?_
  refine g_sipush C 384 rfl dX4_takeCell_4 ?_
  refine g_bipush C 32 rfl dX4_takeCell_7 ?_
  refine g_iload_n C 1 rfl dX4_takeCell_9 ?_
  refine g_imul C dX4_takeCell_10 ?_
  refine g_iadd C dX4_takeCell_11 ?_
  refine g_iload_n C 2 rfl dX4_takeCell_12 ?_
  refine g_iadd C dX4_takeCell_13 ?_
  refine g_iconst C 0 rfl dX4_takeCell_14 ?_
  refine s_iast C ha1 (by omega) (by decide) dX4_takeCell_15 ?_
  refine g_aload_n C 0 rfl dX4_takeCell_16 ?_
  refine g_iload_n C 1 rfl dX4_takeCell_17 ?_
  refine g_callI C [vI p] [] (c_X4_cells l D cy g V (upw w 1 (384 + 32 * p + s) 0) a o p hap hm (mwf_up hw (by unfold sm; omega)) hp) lm_X4_45 (rcv_Mod hm.1) rfl (Nat.le_of_ble_eq_true rfl) ⟨(Nat.le_of_ble_eq_true rfl), (Nat.le_of_ble_eq_true rfl)⟩ ⟨Nat.zero_le _, Nat.zero_le _⟩ dX4_takeCell_18 ?_
  rintro _ _ ⟨rfl, rfl⟩
  have hcb : 0 ≤ mCe (upw w 1 (384 + 32 * p + s) 0) p ∧ mCe (upw w 1 (384 + 32 * p + s) 0) p ≤ 32 := mCf_bd (upw w 1 (384 + 32 * p + s) 0) p 32
  refine g_if_ne C (by unfold rng; omega) 41 dX4_takeCell_21 (by decide) (fun c21 => ?_) (fun c21 => ?_)
  · refine g_vret C dX4_takeCell_41 ?_
    congr 1
    unfold mTake
    first | rw [if_pos (by assumption)] | rw [if_neg (by assumption)]
  · refine g_aload_n C 0 rfl dX4_takeCell_24 ?_
    refine gf_Mod_d C hm1 hr1 lf_X4_7 dX4_takeCell_25 ?_
    refine g_iload_n C 1 rfl dX4_takeCell_28 ?_
    refine g_iconst C 0 rfl dX4_takeCell_29 ?_
    refine s_iast C ha1 (by omega) (by decide) dX4_takeCell_30 ?_
    refine g_aload_n C 0 rfl dX4_takeCell_31 ?_
    refine gf_Mod_d C hm1 hr1 lf_X4_7 dX4_takeCell_32 ?_
    refine g_bipush C 96 rfl dX4_takeCell_35 ?_
    refine g_iload_n C 1 rfl dX4_takeCell_37 ?_
    refine g_iadd C dX4_takeCell_38 ?_
    refine g_iconst C 0 rfl dX4_takeCell_39 ?_
    refine s_iast C ha1 (by omega) (by decide) dX4_takeCell_40 ?_
    refine g_vret C dX4_takeCell_41 ?_
    congr 1
    unfold mTake
    first | rw [if_pos (by assumption)] | rw [if_neg (by assumption)]
set_option maxHeartbeats 4000000 in
set_option maxRecDepth 100000 in
theorem c_X4_putCell (l : Launch) (D : va_G) (cy : ClassId × ClassId) (g : GT) (V : VT) (w : Int → Int → Int) (a : Nat) (o : Int) (p s z ow : Int) (hap : Apart g) (hm : isMod g a o) (hw : mwf w) (hp : 0 ≤ p ∧ p < 96) (hs : 0 ≤ s ∧ s < 32) (hz : sm z) (hag : w 0 6 = 0 ∨ w 0 6 = 1) : MetV l yX4_putCell cX4_putCell 8 none 2 D cy g [.ref a, vI p, vI s, vI z, vI ow] (setp V o w) (fun V' => V' = setp V o (mPut w p s z ow)) := by
  obtain ⟨hm1, r1, r2, r3, ⟨hr1, ha1⟩, ⟨hr2, ha2⟩, ⟨hr3, ha3⟩⟩ := id hm
  simp only [sm] at hz
  have hsz : sm (mSz w p s) := hw _ (by omega) (by omega)
  have hen : sm (w 1 (96 + p)) := hw _ (by omega) (by omega)
  simp only [sm] at hsz hen
  have hsb := mSl_bd w p 32
  refine MetV.of (by decide) (Nat.le_of_ble_eq_true rfl) hap ?_
  intro p_ e_ s_ m_ args_ below_ meth_ c_ C
  have J : ∀ (u : Int → Int → Int) (e2 : Int), u = upw (upw w 1 p 1) 0 4 (w 0 4 + mPutC w p s z) → e2 = mPutE w p s z → G p_ l e_ (rmd 2) s_ m_ args_ below_ meth_ c_ 8 0 0 (MQ below_ (QcV D cy g (fun V' => V' = setp V o (mPut w p s z ow))) args_ s_ 0 0 (fun q => q ∈ gL g)) D cy g (fun q => q ∈ gL g) s_.heap (setp V o u) 124 [(0, .ref a), (1, vI p), (2, vI s), (3, vI z), (4, vI ow), (6, vI e2)] [] := by
    intro u e2 hu he
    refine g_aload_n C 0 rfl dX4_putCell_124 ?_
    refine gf_Mod_d C hm1 hr1 lf_X4_7 dX4_putCell_125 ?_
    refine g_bipush C 96 rfl dX4_putCell_128 ?_
    refine g_iload_n C 1 rfl dX4_putCell_130 ?_
    refine g_iadd C dX4_putCell_131 ?_
    refine g_iload C 5 rfl dX4_putCell_132 ?_
    refine s_iast C ha1 (by omega) (by decide) dX4_putCell_134 ?_
    refine g_aload_n C 0 rfl dX4_putCell_135 ?_
    refine gf_Mod_d C hm1 hr1 lf_X4_7 dX4_putCell_136 ?_
    refine g_sipush C 384 rfl dX4_putCell_139 ?_
    refine g_bipush C 32 rfl dX4_putCell_142 ?_
    refine g_iload_n C 1 rfl dX4_putCell_144 ?_
    refine g_imul C dX4_putCell_145 ?_
    refine g_iadd C dX4_putCell_146 ?_
    refine g_iload_n C 2 rfl dX4_putCell_147 ?_
    refine g_iadd C dX4_putCell_148 ?_
    refine g_iload_n C 3 rfl dX4_putCell_149 ?_
    refine s_iast C ha1 (by omega) (by decide) dX4_putCell_150 ?_
    refine g_aload_n C 0 rfl dX4_putCell_151 ?_
    refine gf_Mod_d C hm1 hr1 lf_X4_7 dX4_putCell_152 ?_
    refine g_sipush C 3456 rfl dX4_putCell_155 ?_
    refine g_bipush C 32 rfl dX4_putCell_158 ?_
    refine g_iload_n C 1 rfl dX4_putCell_160 ?_
    refine g_imul C dX4_putCell_161 ?_
    refine g_iadd C dX4_putCell_162 ?_
    refine g_iload_n C 2 rfl dX4_putCell_163 ?_
    refine g_iadd C dX4_putCell_164 ?_
    refine g_iload C 4 rfl dX4_putCell_165 ?_
    refine s_iast C ha1 (by omega) (by decide) dX4_putCell_167 ?_
    rw [hu, he]
    exact g_vret C dX4_putCell_168 rfl
  refine g_aload_n C 0 rfl dX4_putCell_0 ?_
  refine g_iload_n C 1 rfl dX4_putCell_1 ?_
  refine g_iload_n C 2 rfl dX4_putCell_2 ?_
  refine g_callI C [vI p, vI s] [] (c_X4_sizeOf l D cy g V w a o p s hap hm (by omega) (by omega)) lm_X4_27 (rcv_Mod hm.1) rfl (Nat.le_of_ble_eq_true rfl) ⟨(Nat.le_of_ble_eq_true rfl), (Nat.le_of_ble_eq_true rfl)⟩ ⟨Nat.zero_le _, Nat.zero_le _⟩ dX4_putCell_3 ?_
  rintro _ _ ⟨rfl, rfl⟩
  refine g_istore C [(5, vI (mSz w p s)), (0, .ref a), (1, vI p), (2, vI s), (3, vI z), (4, vI ow)] dX4_putCell_6 (by decide) rfl ?_
  refine g_aload_n C 1 rfl dX4_putCell_8 ?_
  refine gf_Mod_d C hm1 hr1 lf_X4_7 dX4_putCell_9 ?_
  refine g_bipush C 96 rfl dX4_putCell_12 ?_
  refine g_iload_n C 2 rfl dX4_putCell_14 ?_
  refine g_iadd C dX4_putCell_15 ?_
  refine s_iald C (w 1 (96 + p)) ha1 (by omega) (by decide) rfl dX4_putCell_16 ?_
  refine g_istore C [(6, vI (w 1 (96 + p))), (5, vI (mSz w p s)), (0, .ref a), (1, vI p), (2, vI s), (3, vI z), (4, vI ow)] dX4_putCell_17 (by decide) rfl ?_
  refine g_aload_n C 2 rfl dX4_putCell_19 ?_
  refine gf_Mod_d C hm1 hr1 lf_X4_7 dX4_putCell_20 ?_
  refine g_iload_n C 3 rfl dX4_putCell_23 ?_
  refine s_iald C (w 1 p) ha1 (by omega) (by decide) rfl dX4_putCell_24 ?_
  refine g_iconst C 1 rfl dX4_putCell_25 ?_
  refine g_icmp_eq C (by have z9 := hw (p) (by omega) (by omega); unfold sm at z9; unfold rng; omega) (by unfold rng; omega) 39 dX4_putCell_26 (by decide) (fun c26 => ?_) (fun c26 => ?_)
  · refine g_iload C 1 rfl dX4_putCell_39 ?_
    refine g_if_eq C (by unfold rng; omega) 50 dX4_putCell_41 (by decide) (fun c41 => ?_) (fun c41 => ?_)
    · refine g_aload_n C 2 rfl dX4_putCell_50 ?_
      refine g_iload_n C 3 rfl dX4_putCell_51 ?_
      refine g_callI C [vI p] [] (c_X4_slots l D cy g V w a o p hap hm hw hp) lm_X4_31 (rcv_Mod hm.1) rfl (Nat.le_of_ble_eq_true rfl) ⟨(Nat.le_of_ble_eq_true rfl), (Nat.le_of_ble_eq_true rfl)⟩ ⟨Nat.zero_le _, Nat.zero_le _⟩ dX4_putCell_52 ?_
      rintro _ _ ⟨rfl, rfl⟩
      refine g_iload_n C 4 rfl dX4_putCell_55 ?_
      refine g_icmp_le C (by unfold rng; omega) (by unfold rng; omega) 67 dX4_putCell_56 (by decide) (fun c56 => ?_) (fun c56 => ?_)
      · refine g_iload_n C 4 rfl dX4_putCell_67 ?_
        refine g_iconst C 1 rfl dX4_putCell_68 ?_
        refine g_iadd C dX4_putCell_69 ?_
        refine g_istore C [(7, vI (s + 1)), (6, vI (w 1 (96 + p))), (5, vI (mSz w p s)), (0, .ref a), (1, vI p), (2, vI s), (3, vI z), (4, vI ow)] dX4_putCell_70 (by decide) rfl ?_
        refine g_sipush C 248 rfl dX4_putCell_72 ?_
        refine g_iconst C 4 rfl dX4_putCell_75 ?_
        refine g_iload C 0 rfl dX4_putCell_76 ?_
        refine g_imul C dX4_putCell_78 ?_
        refine g_isub C dX4_putCell_79 ?_
        refine g_iload C 1 rfl dX4_putCell_80 ?_
        refine g_isub C dX4_putCell_82 ?_
        refine g_iload_n C 6 rfl dX4_putCell_83 ?_
        refine g_icmp_ge C (by unfold rng; omega) (by unfold rng; omega) 118 dX4_putCell_84 (by decide) (fun c84 => ?_) (fun c84 => ?_)
        · refine g_iload C 1 rfl dX4_putCell_118 ?_
          refine g_iload_n C 6 rfl dX4_putCell_120 ?_
          refine g_iadd C dX4_putCell_121 ?_
          refine g_istore C [(6, vI ((w 1 (96 + p)) + z)), (7, vI (s + 1)), (5, vI (mSz w p s)), (0, .ref a), (1, vI p), (2, vI s), (3, vI z), (4, vI ow)] dX4_putCell_122 (by decide) rfl ?_
          refine g_sub [3, 4, 5, 6, 7, 0] rfl ?_
          refine J _ _ ?_ ?_
          · have hC : mPutC w p s z = 0 := by unfold mPutC mAll mE0; repeat' split; all_goals first | rfl | omega
            rw [hC, Int.add_zero]
            rw [show upw w 1 p 1 = w from (congrArg (upw w 1 p) c26.symm).trans (upw_id w 1 p)]
            exact (upw_id w 0 4).symm
          · unfold mPutE mAll mE0; repeat' split; all_goals omega
        · refine g_aload_n C 3 rfl dX4_putCell_87 ?_
          refine g_iload_n C 4 rfl dX4_putCell_88 ?_
          refine g_callI C [vI p] [] (c_X4_taken l D cy g V w a o p hap hm hw hp) lm_X4_35 (rcv_Mod hm.1) rfl (Nat.le_of_ble_eq_true rfl) ⟨(Nat.le_of_ble_eq_true rfl), (Nat.le_of_ble_eq_true rfl)⟩ ⟨Nat.zero_le _, Nat.zero_le _⟩ dX4_putCell_89 ?_
          rintro _ _ ⟨rfl, rfl⟩
          refine g_iload C 2 rfl dX4_putCell_92 ?_
          refine g_isub C dX4_putCell_94 ?_
          refine g_istore C [(6, vI ((mTk w p) - (mSz w p s))), (7, vI (s + 1)), (5, vI (mSz w p s)), (0, .ref a), (1, vI p), (2, vI s), (3, vI z), (4, vI ow)] dX4_putCell_95 (by decide) rfl ?_
          refine g_aload_n C 3 rfl dX4_putCell_97 ?_
          refine g_dupR C dX4_putCell_98 ?_
          refine sf_Mod_compacted C (w 0 4) hm1 rfl lf_X4_38 dX4_putCell_99 ?_
          refine g_aload_n C 3 rfl dX4_putCell_102 ?_
          refine sf_Mod_again C (w 0 6) hm1 rfl lf_X4_41 dX4_putCell_103 ?_
          refine g_if_eq C (by unfold rng; omega) 113 dX4_putCell_106 (by decide) (fun c106 => ?_) (fun c106 => ?_)
          · refine g_iconst C 1 rfl dX4_putCell_113 ?_
            refine g_iadd C dX4_putCell_114 ?_
            refine sp_Mod_compacted C hm1 lf_X4_38 dX4_putCell_115 ?_
            refine g_iload C 0 rfl dX4_putCell_118 ?_
            refine g_iload_n C 6 rfl dX4_putCell_120 ?_
            refine g_iadd C dX4_putCell_121 ?_
            refine g_istore C [(6, vI (((mTk w p) - (mSz w p s)) + z)), (7, vI (s + 1)), (5, vI (mSz w p s)), (0, .ref a), (1, vI p), (2, vI s), (3, vI z), (4, vI ow)] dX4_putCell_122 (by decide) rfl ?_
            refine g_sub [3, 4, 5, 6, 7, 0] rfl ?_
            refine J _ _ ?_ ?_
            · have hC : mPutC w p s z = 1 := by unfold mPutC mAll mE0; repeat' split; all_goals first | rfl | omega
              rw [hC]
              rw [show upw w 1 p 1 = w from (congrArg (upw w 1 p) c26.symm).trans (upw_id w 1 p)]
            · unfold mPutE mAll mE0; repeat' split; all_goals omega
          · refine g_iconst C 0 rfl dX4_putCell_109 ?_
            refine g_goto C 114 dX4_putCell_110 (by decide) ?_
            refine g_iadd C dX4_putCell_114 ?_
            refine sp_Mod_compacted C hm1 lf_X4_38 dX4_putCell_115 ?_
            refine g_iload C 0 rfl dX4_putCell_118 ?_
            refine g_iload_n C 6 rfl dX4_putCell_120 ?_
            refine g_iadd C dX4_putCell_121 ?_
            refine g_istore C [(6, vI (((mTk w p) - (mSz w p s)) + z)), (7, vI (s + 1)), (5, vI (mSz w p s)), (0, .ref a), (1, vI p), (2, vI s), (3, vI z), (4, vI ow)] dX4_putCell_122 (by decide) rfl ?_
            refine g_sub [3, 4, 5, 6, 7, 0] rfl ?_
            refine J _ _ ?_ ?_
            · have hC : mPutC w p s z = 0 := by unfold mPutC mAll mE0; repeat' split; all_goals first | rfl | omega
              rw [hC]
              rw [show upw w 1 p 1 = w from (congrArg (upw w 1 p) c26.symm).trans (upw_id w 1 p)]
            · unfold mPutE mAll mE0; repeat' split; all_goals omega
      · refine g_aload_n C 2 rfl dX4_putCell_59 ?_
        refine g_iload_n C 3 rfl dX4_putCell_60 ?_
        refine g_callI C [vI p] [] (c_X4_slots l D cy g V w a o p hap hm hw hp) lm_X4_31 (rcv_Mod hm.1) rfl (Nat.le_of_ble_eq_true rfl) ⟨(Nat.le_of_ble_eq_true rfl), (Nat.le_of_ble_eq_true rfl)⟩ ⟨Nat.zero_le _, Nat.zero_le _⟩ dX4_putCell_61 ?_
        rintro _ _ ⟨rfl, rfl⟩
        refine g_goto C 70 dX4_putCell_64 (by decide) ?_
        refine g_istore C [(7, vI (mSl w p 32)), (6, vI (w 1 (96 + p))), (5, vI (mSz w p s)), (0, .ref a), (1, vI p), (2, vI s), (3, vI z), (4, vI ow)] dX4_putCell_70 (by decide) rfl ?_
        refine g_sipush C 248 rfl dX4_putCell_72 ?_
        refine g_iconst C 4 rfl dX4_putCell_75 ?_
        refine g_iload C 0 rfl dX4_putCell_76 ?_
        refine g_imul C dX4_putCell_78 ?_
        refine g_isub C dX4_putCell_79 ?_
        refine g_iload C 1 rfl dX4_putCell_80 ?_
        refine g_isub C dX4_putCell_82 ?_
        refine g_iload_n C 6 rfl dX4_putCell_83 ?_
        refine g_icmp_ge C (by unfold rng; omega) (by unfold rng; omega) 118 dX4_putCell_84 (by decide) (fun c84 => ?_) (fun c84 => ?_)
        · refine g_iload C 1 rfl dX4_putCell_118 ?_
          refine g_iload_n C 6 rfl dX4_putCell_120 ?_
          refine g_iadd C dX4_putCell_121 ?_
          refine g_istore C [(6, vI ((w 1 (96 + p)) + z)), (7, vI (mSl w p 32)), (5, vI (mSz w p s)), (0, .ref a), (1, vI p), (2, vI s), (3, vI z), (4, vI ow)] dX4_putCell_122 (by decide) rfl ?_
          refine g_sub [3, 4, 5, 6, 7, 0] rfl ?_
          refine J _ _ ?_ ?_
          · have hC : mPutC w p s z = 0 := by unfold mPutC mAll mE0; repeat' split; all_goals first | rfl | omega
            rw [hC, Int.add_zero]
            rw [show upw w 1 p 1 = w from (congrArg (upw w 1 p) c26.symm).trans (upw_id w 1 p)]
            exact (upw_id w 0 4).symm
          · unfold mPutE mAll mE0; repeat' split; all_goals omega
        · refine g_aload_n C 3 rfl dX4_putCell_87 ?_
          refine g_iload_n C 4 rfl dX4_putCell_88 ?_
          refine g_callI C [vI p] [] (c_X4_taken l D cy g V w a o p hap hm hw hp) lm_X4_35 (rcv_Mod hm.1) rfl (Nat.le_of_ble_eq_true rfl) ⟨(Nat.le_of_ble_eq_true rfl), (Nat.le_of_ble_eq_true rfl)⟩ ⟨Nat.zero_le _, Nat.zero_le _⟩ dX4_putCell_89 ?_
          rintro _ _ ⟨rfl, rfl⟩
          refine g_iload C 2 rfl dX4_putCell_92 ?_
          refine g_isub C dX4_putCell_94 ?_
          refine g_istore C [(6, vI ((mTk w p) - (mSz w p s))), (7, vI (mSl w p 32)), (5, vI (mSz w p s)), (0, .ref a), (1, vI p), (2, vI s), (3, vI z), (4, vI ow)] dX4_putCell_95 (by decide) rfl ?_
          refine g_aload_n C 3 rfl dX4_putCell_97 ?_
          refine g_dupR C dX4_putCell_98 ?_
          refine sf_Mod_compacted C (w 0 4) hm1 rfl lf_X4_38 dX4_putCell_99 ?_
          refine g_aload_n C 3 rfl dX4_putCell_102 ?_
          refine sf_Mod_again C (w 0 6) hm1 rfl lf_X4_41 dX4_putCell_103 ?_
          refine g_if_eq C (by unfold rng; omega) 113 dX4_putCell_106 (by decide) (fun c106 => ?_) (fun c106 => ?_)
          · refine g_iconst C 1 rfl dX4_putCell_113 ?_
            refine g_iadd C dX4_putCell_114 ?_
            refine sp_Mod_compacted C hm1 lf_X4_38 dX4_putCell_115 ?_
            refine g_iload C 0 rfl dX4_putCell_118 ?_
            refine g_iload_n C 6 rfl dX4_putCell_120 ?_
            refine g_iadd C dX4_putCell_121 ?_
            refine g_istore C [(6, vI (((mTk w p) - (mSz w p s)) + z)), (7, vI (mSl w p 32)), (5, vI (mSz w p s)), (0, .ref a), (1, vI p), (2, vI s), (3, vI z), (4, vI ow)] dX4_putCell_122 (by decide) rfl ?_
            refine g_sub [3, 4, 5, 6, 7, 0] rfl ?_
            refine J _ _ ?_ ?_
            · have hC : mPutC w p s z = 1 := by unfold mPutC mAll mE0; repeat' split; all_goals first | rfl | omega
              rw [hC]
              rw [show upw w 1 p 1 = w from (congrArg (upw w 1 p) c26.symm).trans (upw_id w 1 p)]
            · unfold mPutE mAll mE0; repeat' split; all_goals omega
          · refine g_iconst C 0 rfl dX4_putCell_109 ?_
            refine g_goto C 114 dX4_putCell_110 (by decide) ?_
            refine g_iadd C dX4_putCell_114 ?_
            refine sp_Mod_compacted C hm1 lf_X4_38 dX4_putCell_115 ?_
            refine g_iload C 0 rfl dX4_putCell_118 ?_
            refine g_iload_n C 6 rfl dX4_putCell_120 ?_
            refine g_iadd C dX4_putCell_121 ?_
            refine g_istore C [(6, vI (((mTk w p) - (mSz w p s)) + z)), (7, vI (mSl w p 32)), (5, vI (mSz w p s)), (0, .ref a), (1, vI p), (2, vI s), (3, vI z), (4, vI ow)] dX4_putCell_122 (by decide) rfl ?_
            refine g_sub [3, 4, 5, 6, 7, 0] rfl ?_
            refine J _ _ ?_ ?_
            · have hC : mPutC w p s z = 0 := by unfold mPutC mAll mE0; repeat' split; all_goals first | rfl | omega
              rw [hC]
              rw [show upw w 1 p 1 = w from (congrArg (upw w 1 p) c26.symm).trans (upw_id w 1 p)]
            · unfold mPutE mAll mE0; repeat' split; all_goals omega
    · refine g_iload_n C 5 rfl dX4_putCell_44 ?_
      refine g_iload C 1 rfl dX4_putCell_45 ?_
      refine g_icmp_le C (by unfold rng; omega) (by unfold rng; omega) 124 dX4_putCell_47 (by decide) (fun c47 => ?_) (fun c47 => ?_)
      · refine g_sub [2, 3, 4, 5, 6, 0] rfl ?_
        refine J _ _ ?_ ?_
        · have hC : mPutC w p s z = 0 := by unfold mPutC mAll mE0; repeat' split; all_goals first | rfl | omega
          rw [hC, Int.add_zero]
          rw [show upw w 1 p 1 = w from (congrArg (upw w 1 p) c26.symm).trans (upw_id w 1 p)]
          exact (upw_id w 0 4).symm
        · unfold mPutE mAll mE0; repeat' split; all_goals omega
      · refine g_aload_n C 2 rfl dX4_putCell_50 ?_
        refine g_iload_n C 3 rfl dX4_putCell_51 ?_
        refine g_callI C [vI p] [] (c_X4_slots l D cy g V w a o p hap hm hw hp) lm_X4_31 (rcv_Mod hm.1) rfl (Nat.le_of_ble_eq_true rfl) ⟨(Nat.le_of_ble_eq_true rfl), (Nat.le_of_ble_eq_true rfl)⟩ ⟨Nat.zero_le _, Nat.zero_le _⟩ dX4_putCell_52 ?_
        rintro _ _ ⟨rfl, rfl⟩
        refine g_iload_n C 4 rfl dX4_putCell_55 ?_
        refine g_icmp_le C (by unfold rng; omega) (by unfold rng; omega) 67 dX4_putCell_56 (by decide) (fun c56 => ?_) (fun c56 => ?_)
        · refine g_iload_n C 4 rfl dX4_putCell_67 ?_
          refine g_iconst C 1 rfl dX4_putCell_68 ?_
          refine g_iadd C dX4_putCell_69 ?_
          refine g_istore C [(7, vI (s + 1)), (6, vI (w 1 (96 + p))), (5, vI (mSz w p s)), (0, .ref a), (1, vI p), (2, vI s), (3, vI z), (4, vI ow)] dX4_putCell_70 (by decide) rfl ?_
          refine g_sipush C 248 rfl dX4_putCell_72 ?_
          refine g_iconst C 4 rfl dX4_putCell_75 ?_
          refine g_iload C 0 rfl dX4_putCell_76 ?_
          refine g_imul C dX4_putCell_78 ?_
          refine g_isub C dX4_putCell_79 ?_
          refine g_iload C 1 rfl dX4_putCell_80 ?_
          refine g_isub C dX4_putCell_82 ?_
          refine g_iload_n C 6 rfl dX4_putCell_83 ?_
          refine g_icmp_ge C (by unfold rng; omega) (by unfold rng; omega) 118 dX4_putCell_84 (by decide) (fun c84 => ?_) (fun c84 => ?_)
          · refine g_iload C 1 rfl dX4_putCell_118 ?_
            refine g_iload_n C 6 rfl dX4_putCell_120 ?_
            refine g_iadd C dX4_putCell_121 ?_
            refine g_istore C [(6, vI ((w 1 (96 + p)) + z)), (7, vI (s + 1)), (5, vI (mSz w p s)), (0, .ref a), (1, vI p), (2, vI s), (3, vI z), (4, vI ow)] dX4_putCell_122 (by decide) rfl ?_
            refine g_sub [3, 4, 5, 6, 7, 0] rfl ?_
            refine J _ _ ?_ ?_
            · have hC : mPutC w p s z = 0 := by unfold mPutC mAll mE0; repeat' split; all_goals first | rfl | omega
              rw [hC, Int.add_zero]
              rw [show upw w 1 p 1 = w from (congrArg (upw w 1 p) c26.symm).trans (upw_id w 1 p)]
              exact (upw_id w 0 4).symm
            · unfold mPutE mAll mE0; repeat' split; all_goals omega
          · refine g_aload_n C 3 rfl dX4_putCell_87 ?_
            refine g_iload_n C 4 rfl dX4_putCell_88 ?_
            refine g_callI C [vI p] [] (c_X4_taken l D cy g V w a o p hap hm hw hp) lm_X4_35 (rcv_Mod hm.1) rfl (Nat.le_of_ble_eq_true rfl) ⟨(Nat.le_of_ble_eq_true rfl), (Nat.le_of_ble_eq_true rfl)⟩ ⟨Nat.zero_le _, Nat.zero_le _⟩ dX4_putCell_89 ?_
            rintro _ _ ⟨rfl, rfl⟩
            refine g_iload C 2 rfl dX4_putCell_92 ?_
            refine g_isub C dX4_putCell_94 ?_
            refine g_istore C [(6, vI ((mTk w p) - (mSz w p s))), (7, vI (s + 1)), (5, vI (mSz w p s)), (0, .ref a), (1, vI p), (2, vI s), (3, vI z), (4, vI ow)] dX4_putCell_95 (by decide) rfl ?_
            refine g_aload_n C 3 rfl dX4_putCell_97 ?_
            refine g_dupR C dX4_putCell_98 ?_
            refine sf_Mod_compacted C (w 0 4) hm1 rfl lf_X4_38 dX4_putCell_99 ?_
            refine g_aload_n C 3 rfl dX4_putCell_102 ?_
            refine sf_Mod_again C (w 0 6) hm1 rfl lf_X4_41 dX4_putCell_103 ?_
            refine g_if_eq C (by unfold rng; omega) 113 dX4_putCell_106 (by decide) (fun c106 => ?_) (fun c106 => ?_)
            · refine g_iconst C 1 rfl dX4_putCell_113 ?_
              refine g_iadd C dX4_putCell_114 ?_
              refine sp_Mod_compacted C hm1 lf_X4_38 dX4_putCell_115 ?_
              refine g_iload C 0 rfl dX4_putCell_118 ?_
              refine g_iload_n C 6 rfl dX4_putCell_120 ?_
              refine g_iadd C dX4_putCell_121 ?_
              refine g_istore C [(6, vI (((mTk w p) - (mSz w p s)) + z)), (7, vI (s + 1)), (5, vI (mSz w p s)), (0, .ref a), (1, vI p), (2, vI s), (3, vI z), (4, vI ow)] dX4_putCell_122 (by decide) rfl ?_
              refine g_sub [3, 4, 5, 6, 7, 0] rfl ?_
              refine J _ _ ?_ ?_
              · have hC : mPutC w p s z = 1 := by unfold mPutC mAll mE0; repeat' split; all_goals first | rfl | omega
                rw [hC]
                rw [show upw w 1 p 1 = w from (congrArg (upw w 1 p) c26.symm).trans (upw_id w 1 p)]
              · unfold mPutE mAll mE0; repeat' split; all_goals omega
            · refine g_iconst C 0 rfl dX4_putCell_109 ?_
              refine g_goto C 114 dX4_putCell_110 (by decide) ?_
              refine g_iadd C dX4_putCell_114 ?_
              refine sp_Mod_compacted C hm1 lf_X4_38 dX4_putCell_115 ?_
              refine g_iload C 0 rfl dX4_putCell_118 ?_
              refine g_iload_n C 6 rfl dX4_putCell_120 ?_
              refine g_iadd C dX4_putCell_121 ?_
              refine g_istore C [(6, vI (((mTk w p) - (mSz w p s)) + z)), (7, vI (s + 1)), (5, vI (mSz w p s)), (0, .ref a), (1, vI p), (2, vI s), (3, vI z), (4, vI ow)] dX4_putCell_122 (by decide) rfl ?_
              refine g_sub [3, 4, 5, 6, 7, 0] rfl ?_
              refine J _ _ ?_ ?_
              · have hC : mPutC w p s z = 0 := by unfold mPutC mAll mE0; repeat' split; all_goals first | rfl | omega
                rw [hC]
                rw [show upw w 1 p 1 = w from (congrArg (upw w 1 p) c26.symm).trans (upw_id w 1 p)]
              · unfold mPutE mAll mE0; repeat' split; all_goals omega
        · refine g_aload_n C 2 rfl dX4_putCell_59 ?_
          refine g_iload_n C 3 rfl dX4_putCell_60 ?_
          refine g_callI C [vI p] [] (c_X4_slots l D cy g V w a o p hap hm hw hp) lm_X4_31 (rcv_Mod hm.1) rfl (Nat.le_of_ble_eq_true rfl) ⟨(Nat.le_of_ble_eq_true rfl), (Nat.le_of_ble_eq_true rfl)⟩ ⟨Nat.zero_le _, Nat.zero_le _⟩ dX4_putCell_61 ?_
          rintro _ _ ⟨rfl, rfl⟩
          refine g_goto C 70 dX4_putCell_64 (by decide) ?_
          refine g_istore C [(7, vI (mSl w p 32)), (6, vI (w 1 (96 + p))), (5, vI (mSz w p s)), (0, .ref a), (1, vI p), (2, vI s), (3, vI z), (4, vI ow)] dX4_putCell_70 (by decide) rfl ?_
          refine g_sipush C 248 rfl dX4_putCell_72 ?_
          refine g_iconst C 4 rfl dX4_putCell_75 ?_
          refine g_iload C 0 rfl dX4_putCell_76 ?_
          refine g_imul C dX4_putCell_78 ?_
          refine g_isub C dX4_putCell_79 ?_
          refine g_iload C 1 rfl dX4_putCell_80 ?_
          refine g_isub C dX4_putCell_82 ?_
          refine g_iload_n C 6 rfl dX4_putCell_83 ?_
          refine g_icmp_ge C (by unfold rng; omega) (by unfold rng; omega) 118 dX4_putCell_84 (by decide) (fun c84 => ?_) (fun c84 => ?_)
          · refine g_iload C 1 rfl dX4_putCell_118 ?_
            refine g_iload_n C 6 rfl dX4_putCell_120 ?_
            refine g_iadd C dX4_putCell_121 ?_
            refine g_istore C [(6, vI ((w 1 (96 + p)) + z)), (7, vI (mSl w p 32)), (5, vI (mSz w p s)), (0, .ref a), (1, vI p), (2, vI s), (3, vI z), (4, vI ow)] dX4_putCell_122 (by decide) rfl ?_
            refine g_sub [3, 4, 5, 6, 7, 0] rfl ?_
            refine J _ _ ?_ ?_
            · have hC : mPutC w p s z = 0 := by unfold mPutC mAll mE0; repeat' split; all_goals first | rfl | omega
              rw [hC, Int.add_zero]
              rw [show upw w 1 p 1 = w from (congrArg (upw w 1 p) c26.symm).trans (upw_id w 1 p)]
              exact (upw_id w 0 4).symm
            · unfold mPutE mAll mE0; repeat' split; all_goals omega
          · refine g_aload_n C 3 rfl dX4_putCell_87 ?_
            refine g_iload_n C 4 rfl dX4_putCell_88 ?_
            refine g_callI C [vI p] [] (c_X4_taken l D cy g V w a o p hap hm hw hp) lm_X4_35 (rcv_Mod hm.1) rfl (Nat.le_of_ble_eq_true rfl) ⟨(Nat.le_of_ble_eq_true rfl), (Nat.le_of_ble_eq_true rfl)⟩ ⟨Nat.zero_le _, Nat.zero_le _⟩ dX4_putCell_89 ?_
            rintro _ _ ⟨rfl, rfl⟩
            refine g_iload C 2 rfl dX4_putCell_92 ?_
            refine g_isub C dX4_putCell_94 ?_
            refine g_istore C [(6, vI ((mTk w p) - (mSz w p s))), (7, vI (mSl w p 32)), (5, vI (mSz w p s)), (0, .ref a), (1, vI p), (2, vI s), (3, vI z), (4, vI ow)] dX4_putCell_95 (by decide) rfl ?_
            refine g_aload_n C 3 rfl dX4_putCell_97 ?_
            refine g_dupR C dX4_putCell_98 ?_
            refine sf_Mod_compacted C (w 0 4) hm1 rfl lf_X4_38 dX4_putCell_99 ?_
            refine g_aload_n C 3 rfl dX4_putCell_102 ?_
            refine sf_Mod_again C (w 0 6) hm1 rfl lf_X4_41 dX4_putCell_103 ?_
            refine g_if_eq C (by unfold rng; omega) 113 dX4_putCell_106 (by decide) (fun c106 => ?_) (fun c106 => ?_)
            · refine g_iconst C 1 rfl dX4_putCell_113 ?_
              refine g_iadd C dX4_putCell_114 ?_
              refine sp_Mod_compacted C hm1 lf_X4_38 dX4_putCell_115 ?_
              refine g_iload C 0 rfl dX4_putCell_118 ?_
              refine g_iload_n C 6 rfl dX4_putCell_120 ?_
              refine g_iadd C dX4_putCell_121 ?_
              refine g_istore C [(6, vI (((mTk w p) - (mSz w p s)) + z)), (7, vI (mSl w p 32)), (5, vI (mSz w p s)), (0, .ref a), (1, vI p), (2, vI s), (3, vI z), (4, vI ow)] dX4_putCell_122 (by decide) rfl ?_
              refine g_sub [3, 4, 5, 6, 7, 0] rfl ?_
              refine J _ _ ?_ ?_
              · have hC : mPutC w p s z = 1 := by unfold mPutC mAll mE0; repeat' split; all_goals first | rfl | omega
                rw [hC]
                rw [show upw w 1 p 1 = w from (congrArg (upw w 1 p) c26.symm).trans (upw_id w 1 p)]
              · unfold mPutE mAll mE0; repeat' split; all_goals omega
            · refine g_iconst C 0 rfl dX4_putCell_109 ?_
              refine g_goto C 114 dX4_putCell_110 (by decide) ?_
              refine g_iadd C dX4_putCell_114 ?_
              refine sp_Mod_compacted C hm1 lf_X4_38 dX4_putCell_115 ?_
              refine g_iload C 0 rfl dX4_putCell_118 ?_
              refine g_iload_n C 6 rfl dX4_putCell_120 ?_
              refine g_iadd C dX4_putCell_121 ?_
              refine g_istore C [(6, vI (((mTk w p) - (mSz w p s)) + z)), (7, vI (mSl w p 32)), (5, vI (mSz w p s)), (0, .ref a), (1, vI p), (2, vI s), (3, vI z), (4, vI ow)] dX4_putCell_122 (by decide) rfl ?_
              refine g_sub [3, 4, 5, 6, 7, 0] rfl ?_
              refine J _ _ ?_ ?_
              · have hC : mPutC w p s z = 0 := by unfold mPutC mAll mE0; repeat' split; all_goals first | rfl | omega
                rw [hC]
                rw [show upw w 1 p 1 = w from (congrArg (upw w 1 p) c26.symm).trans (upw_id w 1 p)]
              · unfold mPutE mAll mE0; repeat' split; all_goals omega
  · refine g_aload_n C 2 rfl dX4_putCell_29 ?_
    refine gf_Mod_d C hm1 hr1 lf_X4_7 dX4_putCell_30 ?_
    refine g_iload_n C 3 rfl dX4_putCell_33 ?_
    refine g_iconst C 1 rfl dX4_putCell_34 ?_
    refine s_iast C ha1 (by omega) (by decide) dX4_putCell_35 ?_
    refine g_iconst C 0 rfl dX4_putCell_36 ?_
    refine g_istore C [(6, vI 0), (5, vI (mSz w p s)), (0, .ref a), (1, vI p), (2, vI s), (3, vI z), (4, vI ow)] dX4_putCell_37 (by decide) rfl ?_
    refine g_iload C 1 rfl dX4_putCell_39 ?_
    refine g_if_eq C (by unfold rng; omega) 50 dX4_putCell_41 (by decide) (fun c41 => ?_) (fun c41 => ?_)
    · refine g_aload_n C 2 rfl dX4_putCell_50 ?_
      refine g_iload_n C 3 rfl dX4_putCell_51 ?_
      refine g_callI C [vI p] [] (c_X4_slots l D cy g V (upw w 1 p 1) a o p hap hm (mwf_up hw (by unfold sm; omega)) hp) lm_X4_31 (rcv_Mod hm.1) rfl (Nat.le_of_ble_eq_true rfl) ⟨(Nat.le_of_ble_eq_true rfl), (Nat.le_of_ble_eq_true rfl)⟩ ⟨Nat.zero_le _, Nat.zero_le _⟩ dX4_putCell_52 ?_
      rintro _ _ ⟨rfl, rfl⟩
      rw [mSl_low (by omega) hp.1]
      refine g_iload_n C 4 rfl dX4_putCell_55 ?_
      refine g_icmp_le C (by unfold rng; omega) (by unfold rng; omega) 67 dX4_putCell_56 (by decide) (fun c56 => ?_) (fun c56 => ?_)
      · refine g_iload_n C 4 rfl dX4_putCell_67 ?_
        refine g_iconst C 1 rfl dX4_putCell_68 ?_
        refine g_iadd C dX4_putCell_69 ?_
        refine g_istore C [(7, vI (s + 1)), (6, vI 0), (5, vI (mSz w p s)), (0, .ref a), (1, vI p), (2, vI s), (3, vI z), (4, vI ow)] dX4_putCell_70 (by decide) rfl ?_
        refine g_sipush C 248 rfl dX4_putCell_72 ?_
        refine g_iconst C 4 rfl dX4_putCell_75 ?_
        refine g_iload C 0 rfl dX4_putCell_76 ?_
        refine g_imul C dX4_putCell_78 ?_
        refine g_isub C dX4_putCell_79 ?_
        refine g_iload C 1 rfl dX4_putCell_80 ?_
        refine g_isub C dX4_putCell_82 ?_
        refine g_iload_n C 6 rfl dX4_putCell_83 ?_
        refine g_icmp_ge C (by unfold rng; omega) (by unfold rng; omega) 118 dX4_putCell_84 (by decide) (fun c84 => ?_) (fun c84 => ?_)
        · refine g_iload C 1 rfl dX4_putCell_118 ?_
          refine g_iload_n C 6 rfl dX4_putCell_120 ?_
          refine g_iadd C dX4_putCell_121 ?_
          refine g_istore C [(6, vI (0 + z)), (7, vI (s + 1)), (5, vI (mSz w p s)), (0, .ref a), (1, vI p), (2, vI s), (3, vI z), (4, vI ow)] dX4_putCell_122 (by decide) rfl ?_
          refine g_sub [3, 4, 5, 6, 7, 0] rfl ?_
          refine J _ _ ?_ ?_
          · have hC : mPutC w p s z = 0 := by unfold mPutC mAll mE0; repeat' split; all_goals first | rfl | omega
            rw [hC, Int.add_zero]
            exact (show upw (upw w 1 p 1) 0 4 (w 0 4) = upw w 1 p 1 from upw_id (upw w 1 p 1) 0 4).symm
          · unfold mPutE mAll mE0; repeat' split; all_goals omega
        · refine g_aload_n C 3 rfl dX4_putCell_87 ?_
          refine g_iload_n C 4 rfl dX4_putCell_88 ?_
          refine g_callI C [vI p] [] (c_X4_taken l D cy g V (upw w 1 p 1) a o p hap hm (mwf_up hw (by unfold sm; omega)) hp) lm_X4_35 (rcv_Mod hm.1) rfl (Nat.le_of_ble_eq_true rfl) ⟨(Nat.le_of_ble_eq_true rfl), (Nat.le_of_ble_eq_true rfl)⟩ ⟨Nat.zero_le _, Nat.zero_le _⟩ dX4_putCell_89 ?_
          rintro _ _ ⟨rfl, rfl⟩
          rw [mTk_low (by omega) hp.1]
          refine g_iload C 2 rfl dX4_putCell_92 ?_
          refine g_isub C dX4_putCell_94 ?_
          refine g_istore C [(6, vI ((mTk w p) - (mSz w p s))), (7, vI (s + 1)), (5, vI (mSz w p s)), (0, .ref a), (1, vI p), (2, vI s), (3, vI z), (4, vI ow)] dX4_putCell_95 (by decide) rfl ?_
          refine g_aload_n C 3 rfl dX4_putCell_97 ?_
          refine g_dupR C dX4_putCell_98 ?_
          refine sf_Mod_compacted C (w 0 4) hm1 (by simp [upw]) lf_X4_38 dX4_putCell_99 ?_
          refine g_aload_n C 3 rfl dX4_putCell_102 ?_
          refine sf_Mod_again C (w 0 6) hm1 (by simp [upw]) lf_X4_41 dX4_putCell_103 ?_
          refine g_if_eq C (by unfold rng; omega) 113 dX4_putCell_106 (by decide) (fun c106 => ?_) (fun c106 => ?_)
          · refine g_iconst C 1 rfl dX4_putCell_113 ?_
            refine g_iadd C dX4_putCell_114 ?_
            refine sp_Mod_compacted C hm1 lf_X4_38 dX4_putCell_115 ?_
            refine g_iload C 0 rfl dX4_putCell_118 ?_
            refine g_iload_n C 6 rfl dX4_putCell_120 ?_
            refine g_iadd C dX4_putCell_121 ?_
            refine g_istore C [(6, vI (((mTk w p) - (mSz w p s)) + z)), (7, vI (s + 1)), (5, vI (mSz w p s)), (0, .ref a), (1, vI p), (2, vI s), (3, vI z), (4, vI ow)] dX4_putCell_122 (by decide) rfl ?_
            refine g_sub [3, 4, 5, 6, 7, 0] rfl ?_
            refine J _ _ ?_ ?_
            · have hC : mPutC w p s z = 1 := by unfold mPutC mAll mE0; repeat' split; all_goals first | rfl | omega
              rw [hC]
            · unfold mPutE mAll mE0; repeat' split; all_goals omega
          · refine g_iconst C 0 rfl dX4_putCell_109 ?_
            refine g_goto C 114 dX4_putCell_110 (by decide) ?_
            refine g_iadd C dX4_putCell_114 ?_
            refine sp_Mod_compacted C hm1 lf_X4_38 dX4_putCell_115 ?_
            refine g_iload C 0 rfl dX4_putCell_118 ?_
            refine g_iload_n C 6 rfl dX4_putCell_120 ?_
            refine g_iadd C dX4_putCell_121 ?_
            refine g_istore C [(6, vI (((mTk w p) - (mSz w p s)) + z)), (7, vI (s + 1)), (5, vI (mSz w p s)), (0, .ref a), (1, vI p), (2, vI s), (3, vI z), (4, vI ow)] dX4_putCell_122 (by decide) rfl ?_
            refine g_sub [3, 4, 5, 6, 7, 0] rfl ?_
            refine J _ _ ?_ ?_
            · have hC : mPutC w p s z = 0 := by unfold mPutC mAll mE0; repeat' split; all_goals first | rfl | omega
              rw [hC]
            · unfold mPutE mAll mE0; repeat' split; all_goals omega
      · refine g_aload_n C 2 rfl dX4_putCell_59 ?_
        refine g_iload_n C 3 rfl dX4_putCell_60 ?_
        refine g_callI C [vI p] [] (c_X4_slots l D cy g V (upw w 1 p 1) a o p hap hm (mwf_up hw (by unfold sm; omega)) hp) lm_X4_31 (rcv_Mod hm.1) rfl (Nat.le_of_ble_eq_true rfl) ⟨(Nat.le_of_ble_eq_true rfl), (Nat.le_of_ble_eq_true rfl)⟩ ⟨Nat.zero_le _, Nat.zero_le _⟩ dX4_putCell_61 ?_
        rintro _ _ ⟨rfl, rfl⟩
        rw [mSl_low (by omega) hp.1]
        refine g_goto C 70 dX4_putCell_64 (by decide) ?_
        refine g_istore C [(7, vI (mSl w p 32)), (6, vI 0), (5, vI (mSz w p s)), (0, .ref a), (1, vI p), (2, vI s), (3, vI z), (4, vI ow)] dX4_putCell_70 (by decide) rfl ?_
        refine g_sipush C 248 rfl dX4_putCell_72 ?_
        refine g_iconst C 4 rfl dX4_putCell_75 ?_
        refine g_iload C 0 rfl dX4_putCell_76 ?_
        refine g_imul C dX4_putCell_78 ?_
        refine g_isub C dX4_putCell_79 ?_
        refine g_iload C 1 rfl dX4_putCell_80 ?_
        refine g_isub C dX4_putCell_82 ?_
        refine g_iload_n C 6 rfl dX4_putCell_83 ?_
        refine g_icmp_ge C (by unfold rng; omega) (by unfold rng; omega) 118 dX4_putCell_84 (by decide) (fun c84 => ?_) (fun c84 => ?_)
        · refine g_iload C 1 rfl dX4_putCell_118 ?_
          refine g_iload_n C 6 rfl dX4_putCell_120 ?_
          refine g_iadd C dX4_putCell_121 ?_
          refine g_istore C [(6, vI (0 + z)), (7, vI (mSl w p 32)), (5, vI (mSz w p s)), (0, .ref a), (1, vI p), (2, vI s), (3, vI z), (4, vI ow)] dX4_putCell_122 (by decide) rfl ?_
          refine g_sub [3, 4, 5, 6, 7, 0] rfl ?_
          refine J _ _ ?_ ?_
          · have hC : mPutC w p s z = 0 := by unfold mPutC mAll mE0; repeat' split; all_goals first | rfl | omega
            rw [hC, Int.add_zero]
            exact (show upw (upw w 1 p 1) 0 4 (w 0 4) = upw w 1 p 1 from upw_id (upw w 1 p 1) 0 4).symm
          · unfold mPutE mAll mE0; repeat' split; all_goals omega
        · refine g_aload_n C 3 rfl dX4_putCell_87 ?_
          refine g_iload_n C 4 rfl dX4_putCell_88 ?_
          refine g_callI C [vI p] [] (c_X4_taken l D cy g V (upw w 1 p 1) a o p hap hm (mwf_up hw (by unfold sm; omega)) hp) lm_X4_35 (rcv_Mod hm.1) rfl (Nat.le_of_ble_eq_true rfl) ⟨(Nat.le_of_ble_eq_true rfl), (Nat.le_of_ble_eq_true rfl)⟩ ⟨Nat.zero_le _, Nat.zero_le _⟩ dX4_putCell_89 ?_
          rintro _ _ ⟨rfl, rfl⟩
          rw [mTk_low (by omega) hp.1]
          refine g_iload C 2 rfl dX4_putCell_92 ?_
          refine g_isub C dX4_putCell_94 ?_
          refine g_istore C [(6, vI ((mTk w p) - (mSz w p s))), (7, vI (mSl w p 32)), (5, vI (mSz w p s)), (0, .ref a), (1, vI p), (2, vI s), (3, vI z), (4, vI ow)] dX4_putCell_95 (by decide) rfl ?_
          refine g_aload_n C 3 rfl dX4_putCell_97 ?_
          refine g_dupR C dX4_putCell_98 ?_
          refine sf_Mod_compacted C (w 0 4) hm1 (by simp [upw]) lf_X4_38 dX4_putCell_99 ?_
          refine g_aload_n C 3 rfl dX4_putCell_102 ?_
          refine sf_Mod_again C (w 0 6) hm1 (by simp [upw]) lf_X4_41 dX4_putCell_103 ?_
          refine g_if_eq C (by unfold rng; omega) 113 dX4_putCell_106 (by decide) (fun c106 => ?_) (fun c106 => ?_)
          · refine g_iconst C 1 rfl dX4_putCell_113 ?_
            refine g_iadd C dX4_putCell_114 ?_
            refine sp_Mod_compacted C hm1 lf_X4_38 dX4_putCell_115 ?_
            refine g_iload C 0 rfl dX4_putCell_118 ?_
            refine g_iload_n C 6 rfl dX4_putCell_120 ?_
            refine g_iadd C dX4_putCell_121 ?_
            refine g_istore C [(6, vI (((mTk w p) - (mSz w p s)) + z)), (7, vI (mSl w p 32)), (5, vI (mSz w p s)), (0, .ref a), (1, vI p), (2, vI s), (3, vI z), (4, vI ow)] dX4_putCell_122 (by decide) rfl ?_
            refine g_sub [3, 4, 5, 6, 7, 0] rfl ?_
            refine J _ _ ?_ ?_
            · have hC : mPutC w p s z = 1 := by unfold mPutC mAll mE0; repeat' split; all_goals first | rfl | omega
              rw [hC]
            · unfold mPutE mAll mE0; repeat' split; all_goals omega
          · refine g_iconst C 0 rfl dX4_putCell_109 ?_
            refine g_goto C 114 dX4_putCell_110 (by decide) ?_
            refine g_iadd C dX4_putCell_114 ?_
            refine sp_Mod_compacted C hm1 lf_X4_38 dX4_putCell_115 ?_
            refine g_iload C 0 rfl dX4_putCell_118 ?_
            refine g_iload_n C 6 rfl dX4_putCell_120 ?_
            refine g_iadd C dX4_putCell_121 ?_
            refine g_istore C [(6, vI (((mTk w p) - (mSz w p s)) + z)), (7, vI (mSl w p 32)), (5, vI (mSz w p s)), (0, .ref a), (1, vI p), (2, vI s), (3, vI z), (4, vI ow)] dX4_putCell_122 (by decide) rfl ?_
            refine g_sub [3, 4, 5, 6, 7, 0] rfl ?_
            refine J _ _ ?_ ?_
            · have hC : mPutC w p s z = 0 := by unfold mPutC mAll mE0; repeat' split; all_goals first | rfl | omega
              rw [hC]
            · unfold mPutE mAll mE0; repeat' split; all_goals omega
    · refine g_iload_n C 5 rfl dX4_putCell_44 ?_
      refine g_iload C 1 rfl dX4_putCell_45 ?_
      refine g_icmp_le C (by unfold rng; omega) (by unfold rng; omega) 124 dX4_putCell_47 (by decide) (fun c47 => ?_) (fun c47 => ?_)
      · refine g_sub [2, 3, 4, 5, 6, 0] rfl ?_
        refine J _ _ ?_ ?_
        · have hC : mPutC w p s z = 0 := by unfold mPutC mAll mE0; repeat' split; all_goals first | rfl | omega
          rw [hC, Int.add_zero]
          exact (show upw (upw w 1 p 1) 0 4 (w 0 4) = upw w 1 p 1 from upw_id (upw w 1 p 1) 0 4).symm
        · unfold mPutE mAll mE0; repeat' split; all_goals omega
      · refine g_aload_n C 2 rfl dX4_putCell_50 ?_
        refine g_iload_n C 3 rfl dX4_putCell_51 ?_
        refine g_callI C [vI p] [] (c_X4_slots l D cy g V (upw w 1 p 1) a o p hap hm (mwf_up hw (by unfold sm; omega)) hp) lm_X4_31 (rcv_Mod hm.1) rfl (Nat.le_of_ble_eq_true rfl) ⟨(Nat.le_of_ble_eq_true rfl), (Nat.le_of_ble_eq_true rfl)⟩ ⟨Nat.zero_le _, Nat.zero_le _⟩ dX4_putCell_52 ?_
        rintro _ _ ⟨rfl, rfl⟩
        rw [mSl_low (by omega) hp.1]
        refine g_iload_n C 4 rfl dX4_putCell_55 ?_
        refine g_icmp_le C (by unfold rng; omega) (by unfold rng; omega) 67 dX4_putCell_56 (by decide) (fun c56 => ?_) (fun c56 => ?_)
        · refine g_iload_n C 4 rfl dX4_putCell_67 ?_
          refine g_iconst C 1 rfl dX4_putCell_68 ?_
          refine g_iadd C dX4_putCell_69 ?_
          refine g_istore C [(7, vI (s + 1)), (6, vI 0), (5, vI (mSz w p s)), (0, .ref a), (1, vI p), (2, vI s), (3, vI z), (4, vI ow)] dX4_putCell_70 (by decide) rfl ?_
          refine g_sipush C 248 rfl dX4_putCell_72 ?_
          refine g_iconst C 4 rfl dX4_putCell_75 ?_
          refine g_iload C 0 rfl dX4_putCell_76 ?_
          refine g_imul C dX4_putCell_78 ?_
          refine g_isub C dX4_putCell_79 ?_
          refine g_iload C 1 rfl dX4_putCell_80 ?_
          refine g_isub C dX4_putCell_82 ?_
          refine g_iload_n C 6 rfl dX4_putCell_83 ?_
          refine g_icmp_ge C (by unfold rng; omega) (by unfold rng; omega) 118 dX4_putCell_84 (by decide) (fun c84 => ?_) (fun c84 => ?_)
          · refine g_iload C 1 rfl dX4_putCell_118 ?_
            refine g_iload_n C 6 rfl dX4_putCell_120 ?_
            refine g_iadd C dX4_putCell_121 ?_
            refine g_istore C [(6, vI (0 + z)), (7, vI (s + 1)), (5, vI (mSz w p s)), (0, .ref a), (1, vI p), (2, vI s), (3, vI z), (4, vI ow)] dX4_putCell_122 (by decide) rfl ?_
            refine g_sub [3, 4, 5, 6, 7, 0] rfl ?_
            refine J _ _ ?_ ?_
            · have hC : mPutC w p s z = 0 := by unfold mPutC mAll mE0; repeat' split; all_goals first | rfl | omega
              rw [hC, Int.add_zero]
              exact (show upw (upw w 1 p 1) 0 4 (w 0 4) = upw w 1 p 1 from upw_id (upw w 1 p 1) 0 4).symm
            · unfold mPutE mAll mE0; repeat' split; all_goals omega
          · refine g_aload_n C 3 rfl dX4_putCell_87 ?_
            refine g_iload_n C 4 rfl dX4_putCell_88 ?_
            refine g_callI C [vI p] [] (c_X4_taken l D cy g V (upw w 1 p 1) a o p hap hm (mwf_up hw (by unfold sm; omega)) hp) lm_X4_35 (rcv_Mod hm.1) rfl (Nat.le_of_ble_eq_true rfl) ⟨(Nat.le_of_ble_eq_true rfl), (Nat.le_of_ble_eq_true rfl)⟩ ⟨Nat.zero_le _, Nat.zero_le _⟩ dX4_putCell_89 ?_
            rintro _ _ ⟨rfl, rfl⟩
            rw [mTk_low (by omega) hp.1]
            refine g_iload C 2 rfl dX4_putCell_92 ?_
            refine g_isub C dX4_putCell_94 ?_
            refine g_istore C [(6, vI ((mTk w p) - (mSz w p s))), (7, vI (s + 1)), (5, vI (mSz w p s)), (0, .ref a), (1, vI p), (2, vI s), (3, vI z), (4, vI ow)] dX4_putCell_95 (by decide) rfl ?_
            refine g_aload_n C 3 rfl dX4_putCell_97 ?_
            refine g_dupR C dX4_putCell_98 ?_
            refine sf_Mod_compacted C (w 0 4) hm1 (by simp [upw]) lf_X4_38 dX4_putCell_99 ?_
            refine g_aload_n C 3 rfl dX4_putCell_102 ?_
            refine sf_Mod_again C (w 0 6) hm1 (by simp [upw]) lf_X4_41 dX4_putCell_103 ?_
            refine g_if_eq C (by unfold rng; omega) 113 dX4_putCell_106 (by decide) (fun c106 => ?_) (fun c106 => ?_)
            · refine g_iconst C 1 rfl dX4_putCell_113 ?_
              refine g_iadd C dX4_putCell_114 ?_
              refine sp_Mod_compacted C hm1 lf_X4_38 dX4_putCell_115 ?_
              refine g_iload C 0 rfl dX4_putCell_118 ?_
              refine g_iload_n C 6 rfl dX4_putCell_120 ?_
              refine g_iadd C dX4_putCell_121 ?_
              refine g_istore C [(6, vI (((mTk w p) - (mSz w p s)) + z)), (7, vI (s + 1)), (5, vI (mSz w p s)), (0, .ref a), (1, vI p), (2, vI s), (3, vI z), (4, vI ow)] dX4_putCell_122 (by decide) rfl ?_
              refine g_sub [3, 4, 5, 6, 7, 0] rfl ?_
              refine J _ _ ?_ ?_
              · have hC : mPutC w p s z = 1 := by unfold mPutC mAll mE0; repeat' split; all_goals first | rfl | omega
                rw [hC]
              · unfold mPutE mAll mE0; repeat' split; all_goals omega
            · refine g_iconst C 0 rfl dX4_putCell_109 ?_
              refine g_goto C 114 dX4_putCell_110 (by decide) ?_
              refine g_iadd C dX4_putCell_114 ?_
              refine sp_Mod_compacted C hm1 lf_X4_38 dX4_putCell_115 ?_
              refine g_iload C 0 rfl dX4_putCell_118 ?_
              refine g_iload_n C 6 rfl dX4_putCell_120 ?_
              refine g_iadd C dX4_putCell_121 ?_
              refine g_istore C [(6, vI (((mTk w p) - (mSz w p s)) + z)), (7, vI (s + 1)), (5, vI (mSz w p s)), (0, .ref a), (1, vI p), (2, vI s), (3, vI z), (4, vI ow)] dX4_putCell_122 (by decide) rfl ?_
              refine g_sub [3, 4, 5, 6, 7, 0] rfl ?_
              refine J _ _ ?_ ?_
              · have hC : mPutC w p s z = 0 := by unfold mPutC mAll mE0; repeat' split; all_goals first | rfl | omega
                rw [hC]
              · unfold mPutE mAll mE0; repeat' split; all_goals omega
        · refine g_aload_n C 2 rfl dX4_putCell_59 ?_
          refine g_iload_n C 3 rfl dX4_putCell_60 ?_
          refine g_callI C [vI p] [] (c_X4_slots l D cy g V (upw w 1 p 1) a o p hap hm (mwf_up hw (by unfold sm; omega)) hp) lm_X4_31 (rcv_Mod hm.1) rfl (Nat.le_of_ble_eq_true rfl) ⟨(Nat.le_of_ble_eq_true rfl), (Nat.le_of_ble_eq_true rfl)⟩ ⟨Nat.zero_le _, Nat.zero_le _⟩ dX4_putCell_61 ?_
          rintro _ _ ⟨rfl, rfl⟩
          rw [mSl_low (by omega) hp.1]
          refine g_goto C 70 dX4_putCell_64 (by decide) ?_
          refine g_istore C [(7, vI (mSl w p 32)), (6, vI 0), (5, vI (mSz w p s)), (0, .ref a), (1, vI p), (2, vI s), (3, vI z), (4, vI ow)] dX4_putCell_70 (by decide) rfl ?_
          refine g_sipush C 248 rfl dX4_putCell_72 ?_
          refine g_iconst C 4 rfl dX4_putCell_75 ?_
          refine g_iload C 0 rfl dX4_putCell_76 ?_
          refine g_imul C dX4_putCell_78 ?_
          refine g_isub C dX4_putCell_79 ?_
          refine g_iload C 1 rfl dX4_putCell_80 ?_
          refine g_isub C dX4_putCell_82 ?_
          refine g_iload_n C 6 rfl dX4_putCell_83 ?_
          refine g_icmp_ge C (by unfold rng; omega) (by unfold rng; omega) 118 dX4_putCell_84 (by decide) (fun c84 => ?_) (fun c84 => ?_)
          · refine g_iload C 1 rfl dX4_putCell_118 ?_
            refine g_iload_n C 6 rfl dX4_putCell_120 ?_
            refine g_iadd C dX4_putCell_121 ?_
            refine g_istore C [(6, vI (0 + z)), (7, vI (mSl w p 32)), (5, vI (mSz w p s)), (0, .ref a), (1, vI p), (2, vI s), (3, vI z), (4, vI ow)] dX4_putCell_122 (by decide) rfl ?_
            refine g_sub [3, 4, 5, 6, 7, 0] rfl ?_
            refine J _ _ ?_ ?_
            · have hC : mPutC w p s z = 0 := by unfold mPutC mAll mE0; repeat' split; all_goals first | rfl | omega
              rw [hC, Int.add_zero]
              exact (show upw (upw w 1 p 1) 0 4 (w 0 4) = upw w 1 p 1 from upw_id (upw w 1 p 1) 0 4).symm
            · unfold mPutE mAll mE0; repeat' split; all_goals omega
          · refine g_aload_n C 3 rfl dX4_putCell_87 ?_
            refine g_iload_n C 4 rfl dX4_putCell_88 ?_
            refine g_callI C [vI p] [] (c_X4_taken l D cy g V (upw w 1 p 1) a o p hap hm (mwf_up hw (by unfold sm; omega)) hp) lm_X4_35 (rcv_Mod hm.1) rfl (Nat.le_of_ble_eq_true rfl) ⟨(Nat.le_of_ble_eq_true rfl), (Nat.le_of_ble_eq_true rfl)⟩ ⟨Nat.zero_le _, Nat.zero_le _⟩ dX4_putCell_89 ?_
            rintro _ _ ⟨rfl, rfl⟩
            rw [mTk_low (by omega) hp.1]
            refine g_iload C 2 rfl dX4_putCell_92 ?_
            refine g_isub C dX4_putCell_94 ?_
            refine g_istore C [(6, vI ((mTk w p) - (mSz w p s))), (7, vI (mSl w p 32)), (5, vI (mSz w p s)), (0, .ref a), (1, vI p), (2, vI s), (3, vI z), (4, vI ow)] dX4_putCell_95 (by decide) rfl ?_
            refine g_aload_n C 3 rfl dX4_putCell_97 ?_
            refine g_dupR C dX4_putCell_98 ?_
            refine sf_Mod_compacted C (w 0 4) hm1 (by simp [upw]) lf_X4_38 dX4_putCell_99 ?_
            refine g_aload_n C 3 rfl dX4_putCell_102 ?_
            refine sf_Mod_again C (w 0 6) hm1 (by simp [upw]) lf_X4_41 dX4_putCell_103 ?_
            refine g_if_eq C (by unfold rng; omega) 113 dX4_putCell_106 (by decide) (fun c106 => ?_) (fun c106 => ?_)
            · refine g_iconst C 1 rfl dX4_putCell_113 ?_
              refine g_iadd C dX4_putCell_114 ?_
              refine sp_Mod_compacted C hm1 lf_X4_38 dX4_putCell_115 ?_
              refine g_iload C 0 rfl dX4_putCell_118 ?_
              refine g_iload_n C 6 rfl dX4_putCell_120 ?_
              refine g_iadd C dX4_putCell_121 ?_
              refine g_istore C [(6, vI (((mTk w p) - (mSz w p s)) + z)), (7, vI (mSl w p 32)), (5, vI (mSz w p s)), (0, .ref a), (1, vI p), (2, vI s), (3, vI z), (4, vI ow)] dX4_putCell_122 (by decide) rfl ?_
              refine g_sub [3, 4, 5, 6, 7, 0] rfl ?_
              refine J _ _ ?_ ?_
              · have hC : mPutC w p s z = 1 := by unfold mPutC mAll mE0; repeat' split; all_goals first | rfl | omega
                rw [hC]
              · unfold mPutE mAll mE0; repeat' split; all_goals omega
            · refine g_iconst C 0 rfl dX4_putCell_109 ?_
              refine g_goto C 114 dX4_putCell_110 (by decide) ?_
              refine g_iadd C dX4_putCell_114 ?_
              refine sp_Mod_compacted C hm1 lf_X4_38 dX4_putCell_115 ?_
              refine g_iload C 0 rfl dX4_putCell_118 ?_
              refine g_iload_n C 6 rfl dX4_putCell_120 ?_
              refine g_iadd C dX4_putCell_121 ?_
              refine g_istore C [(6, vI (((mTk w p) - (mSz w p s)) + z)), (7, vI (mSl w p 32)), (5, vI (mSz w p s)), (0, .ref a), (1, vI p), (2, vI s), (3, vI z), (4, vI ow)] dX4_putCell_122 (by decide) rfl ?_
              refine g_sub [3, 4, 5, 6, 7, 0] rfl ?_
              refine J _ _ ?_ ?_
              · have hC : mPutC w p s z = 0 := by unfold mPutC mAll mE0; repeat' split; all_goals first | rfl | omega
                rw [hC]
              · unfold mPutE mAll mE0; repeat' split; all_goals omega
set_option maxHeartbeats 4000000 in
set_option maxRecDepth 100000 in
theorem c_X4_freeChain (l : Launch) (D : va_G) (cy : ClassId × ClassId) (g : GT) (V : VT) (w : Int → Int → Int) (a : Nat) (o : Int) (q : Int) (L0 : List Int) (hap : Apart g) (hm : isMod g a o) (hL : isCh (mNx w) L0 q) : MetV l yX4_freeChain cX4_freeChain 3 none 0 D cy g [.ref a, vI q] (setp V o w) (fun V' => V' = setp V o (mFreeL w L0)) := by
  obtain ⟨hm1, r1, r2, r3, ⟨hr1, ha1⟩, ⟨hr2, ha2⟩, ⟨hr3, ha3⟩⟩ := id hm
  refine MetV.of (by decide) (Nat.le_of_ble_eq_true rfl) hap ?_
  intro p_ e_ s_ m_ args_ below_ meth_ c_ C
  have loop : ∀ (L : List Int) (u : Int → Int → Int) (f : Int), isCh (mNx u) L f → mFreeL u L = mFreeL w L0 → G p_ l e_ (rmd 0) s_ m_ args_ below_ meth_ c_ 3 0 0 (MQ below_ (QcV D cy g (fun V' => V' = setp V o (mFreeL w L0))) args_ s_ 0 0 (fun q => q ∈ gL g)) D cy g (fun q => q ∈ gL g) s_.heap (setp V o u) 2 [(2, vI f), (0, .ref a), (1, vI q)] [] := by
    intro L
    induction L with
    | nil =>
      intro u f h1 h5
      have hf : f = -1 := h1
      refine g_iload_n C 0 rfl dX4_freeChain_2 ?_
      refine g_iconst C (-1) rfl dX4_freeChain_3 ?_
      refine g_icmp_eq C (by unfold rng; omega) (by unfold rng; omega) 28 dX4_freeChain_4 (by decide) (fun c4 => ?_) (fun c4 => absurd c4 (by omega))
      exact g_vret C dX4_freeChain_28 (congrArg (setp V o) h5)
    | cons p L ih =>
      intro u f h1 h5
      obtain ⟨rfl, hp9, h1'⟩ := h1
      refine g_iload_n C 0 rfl dX4_freeChain_2 ?_
      refine g_iconst C (-1) rfl dX4_freeChain_3 ?_
      refine g_icmp_eq C (by unfold rng; omega) (by unfold rng; omega) 28 dX4_freeChain_4 (by decide) (fun c4 => absurd c4 (by omega)) (fun c4 => ?_)
      refine g_aload_n C 1 rfl dX4_freeChain_7 ?_
      refine gf_Mod_d C hm1 hr1 lf_X4_7 dX4_freeChain_8 ?_
      refine g_iload_n C 0 rfl dX4_freeChain_11 ?_
      refine g_iconst C 0 rfl dX4_freeChain_12 ?_
      refine s_iast C ha1 (by omega) (by decide) dX4_freeChain_13 ?_
      refine g_aload_n C 1 rfl dX4_freeChain_14 ?_
      refine gf_Mod_d C hm1 hr1 lf_X4_7 dX4_freeChain_15 ?_
      refine g_sipush C 192 rfl dX4_freeChain_18 ?_
      refine g_iload_n C 0 rfl dX4_freeChain_21 ?_
      refine g_iadd C dX4_freeChain_22 ?_
      refine s_iald C (u 1 (192 + f)) ha1 (by omega) (by decide) (upw_j (by omega)) dX4_freeChain_23 ?_
      refine g_istore_n C [(2, vI (u 1 (192 + f))), (0, .ref a), (1, vI q)] dX4_freeChain_24 rfl (by decide) rfl ?_
      refine g_goto C 2 dX4_freeChain_25 (by decide) ?_
      refine g_sub [0, 1, 2] rfl ?_
      exact ih (upw u 1 f 0) _ (isCh_congr (fun q hq => by have := (isCh_rng h1').1 q hq; exact upw_j (by omega)) h1') h5
  refine g_iload_n C 1 rfl dX4_freeChain_0 ?_
  refine g_istore_n C [(2, vI q), (0, .ref a), (1, vI q)] dX4_freeChain_1 rfl (by decide) rfl ?_
  refine g_sub [0, 1, 2] rfl ?_
  exact loop L0 w q hL rfl
set_option maxHeartbeats 4000000 in
set_option maxRecDepth 100000 in
theorem c_X4_takeChain (l : Launch) (D : va_G) (cy : ClassId × ClassId) (g : GT) (V : VT) (w : Int → Int → Int) (a : Nat) (o : Int) (q : Int) (hap : Apart g) (hm : isMod g a o) (hw : mwf w) (hn : 0 ≤ q ∧ q ≤ 1200) (hfree : chP q ≤ cntK (w 1) 0 96) : MetI l yX4_takeChain cX4_takeChain 7 (some .int) 1 D cy g [.ref a, vI q] (setp V o w) (fun r V' => r = (mtN w q (chP q).toNat).2.1 ∧ V' = setp V o (mtN w q (chP q).toNat).1) := by
  obtain ⟨hm1, r1, r2, r3, ⟨hr1, ha1⟩, ⟨hr2, ha2⟩, ⟨hr3, ha3⟩⟩ := id hm
  have hc := chP_bd hn
  refine MetI.of (by decide) (Nat.le_of_ble_eq_true rfl) hap ?_
  intro p_ e_ s_ m_ args_ below_ meth_ c_ C
  have loop : ∀ (n : Nat) (k : Nat), k + n = (chP q).toNat → G p_ l e_ (rmd 1) s_ m_ args_ below_ meth_ c_ 7 0 0 (MQ below_ (QcI D cy g (fun r V' => r = (mtN w q (chP q).toNat).2.1 ∧ V' = setp V o (mtN w q (chP q).toNat).1)) args_ s_ 0 0 (fun q => q ∈ gL g)) D cy g (fun q => q ∈ gL g) s_.heap (setp V o (mtN w q k).1) 7 [(4, vI ((k : Int))), (3, vI ((mtN w q k).2.2)), (2, vI ((mtN w q k).2.1)), (0, .ref a), (1, vI q)] [] := by
    intro n
    induction n with
    | zero =>
      intro k hkn
      obtain ⟨i1, i2, i4, i5⟩ := mt_inv hw hn (chP q).toNat (by omega) (by omega) k (by omega)
      generalize hSe : mtN w q k = S at *
      refine g_iload C 0 rfl dX4_takeChain_7 ?_
      refine g_iload_n C 4 rfl dX4_takeChain_9 ?_
      refine g_callSI C [vI q] [vI ((k : Int))] (c_X4_chainSize l D cy g _ q hap hn) lm_X4_55 rfl (Nat.le_of_ble_eq_true rfl) ⟨(Nat.le_of_ble_eq_true rfl), (Nat.le_of_ble_eq_true rfl)⟩ ⟨Nat.zero_le _, Nat.zero_le _⟩ dX4_takeChain_10 ?_
      rintro _ _ ⟨rfl, rfl⟩
      refine g_icmp_ge C (by unfold rng; omega) (by unfold rng; omega) 111 dX4_takeChain_13 (by decide) (fun c13 => ?_) (fun c13 => absurd c13 (by omega))
      refine g_iload_n C 2 rfl dX4_takeChain_111 ?_
      have hkk : k = (chP q).toNat := by omega
      subst hkk
      rw [← hSe]
      exact g_iret C dX4_takeChain_112 ⟨rfl, rfl⟩
    | succ n ih =>
      intro k hkn
      obtain ⟨i1, i2, i4, i5⟩ := mt_inv hw hn (chP q).toNat (by omega) (by omega) k (by omega)
      generalize hSe : mtN w q k = S at *
      refine g_iload C 0 rfl dX4_takeChain_7 ?_
      refine g_iload_n C 4 rfl dX4_takeChain_9 ?_
      refine g_callSI C [vI q] [vI ((k : Int))] (c_X4_chainSize l D cy g _ q hap hn) lm_X4_55 rfl (Nat.le_of_ble_eq_true rfl) ⟨(Nat.le_of_ble_eq_true rfl), (Nat.le_of_ble_eq_true rfl)⟩ ⟨Nat.zero_le _, Nat.zero_le _⟩ dX4_takeChain_10 ?_
      rintro _ _ ⟨rfl, rfl⟩
      refine g_icmp_ge C (by unfold rng; omega) (by unfold rng; omega) 111 dX4_takeChain_13 (by decide) (fun c13 => absurd c13 (by omega)) (fun c13 => ?_)
      refine g_aload_n C 3 rfl dX4_takeChain_16 ?_
      refine g_callI C [] [] (c_X4_firstFree l D cy g V S.1 a o hap hm i1) lm_X4_51 (rcv_Mod hm.1) rfl (Nat.le_of_ble_eq_true rfl) ⟨(Nat.le_of_ble_eq_true rfl), (Nat.le_of_ble_eq_true rfl)⟩ ⟨Nat.zero_le _, Nat.zero_le _⟩ dX4_takeChain_17 ?_
      rintro r _ ⟨hr, rfl⟩
      have hrl : r = lfr (S.1 1) := isLF_uniq (by decide) hr (lfr_LF _)
      have hrr : 0 ≤ r ∧ r < 96 := by
        rcases hr with ⟨e1, k2⟩ | ⟨k1, k2, -⟩
        · exfalso
          obtain ⟨f, f1, f2, f3⟩ := cntK_pos (K := S.1 1) (k := 0) (n := 96) (by rw [i4]; omega)
          exact k2 f f1 (by omega) f3
        · exact ⟨k1, k2⟩
      refine g_istore C [(5, vI r), (4, vI ((k : Int))), (3, vI S.2.2), (2, vI S.2.1), (0, .ref a), (1, vI q)] dX4_takeChain_20 (by decide) rfl ?_
      refine g_aload_n C 4 rfl dX4_takeChain_22 ?_
      refine gf_Mod_d C hm1 hr1 lf_X4_7 dX4_takeChain_23 ?_
      refine g_iload C 0 rfl dX4_takeChain_26 ?_
      refine g_iconst C 2 rfl dX4_takeChain_28 ?_
      refine s_iast C ha1 (by omega) (by decide) dX4_takeChain_29 ?_
      refine g_aload_n C 4 rfl dX4_takeChain_30 ?_
      refine gf_Mod_d C hm1 hr1 lf_X4_7 dX4_takeChain_31 ?_
      refine g_sipush C 192 rfl dX4_takeChain_34 ?_
      refine g_iload C 0 rfl dX4_takeChain_37 ?_
      refine g_iadd C dX4_takeChain_39 ?_
      refine g_iconst C (-1) rfl dX4_takeChain_40 ?_
      refine s_iast C ha1 (by omega) (by decide) dX4_takeChain_41 ?_
      refine g_iload_n C 5 rfl dX4_takeChain_42 ?_
      refine g_sipush C 240 rfl dX4_takeChain_43 ?_
      refine g_iload C 1 rfl dX4_takeChain_46 ?_
      refine g_imul C dX4_takeChain_48 ?_
      refine g_isub C dX4_takeChain_49 ?_
      refine g_istore C [(6, vI (q - (240 * ((k : Int))))), (5, vI r), (4, vI ((k : Int))), (3, vI S.2.2), (2, vI S.2.1), (0, .ref a), (1, vI q)] dX4_takeChain_50 (by decide) rfl ?_
      refine g_aload_n C 5 rfl dX4_takeChain_52 ?_
      refine gf_Mod_d C hm1 hr1 lf_X4_7 dX4_takeChain_53 ?_
      refine g_sipush C 288 rfl dX4_takeChain_56 ?_
      refine g_iload C 1 rfl dX4_takeChain_59 ?_
      refine g_iadd C dX4_takeChain_61 ?_
      refine g_iload C 0 rfl dX4_takeChain_62 ?_
      refine g_sipush C 240 rfl dX4_takeChain_64 ?_
      refine g_icmp_ge C (by unfold rng; omega) (by unfold rng; omega) 75 dX4_takeChain_67 (by decide) (fun c67 => ?_) (fun c67 => ?_)
      · refine g_sipush C 240 rfl dX4_takeChain_75 ?_
        refine s_iast C ha1 (by omega) (by decide) dX4_takeChain_78 ?_
        refine g_iload_n C 3 rfl dX4_takeChain_79 ?_
        refine g_iconst C (-1) rfl dX4_takeChain_80 ?_
        refine g_icmp_ne C (by unfold rng; omega) (by unfold rng; omega) 90 dX4_takeChain_81 (by decide) (fun c81 => ?_) (fun c81 => ?_)
        · refine g_aload_n C 5 rfl dX4_takeChain_90 ?_
          refine gf_Mod_d C hm1 hr1 lf_X4_7 dX4_takeChain_91 ?_
          refine g_sipush C 192 rfl dX4_takeChain_94 ?_
          refine g_iload_n C 3 rfl dX4_takeChain_97 ?_
          refine g_iadd C dX4_takeChain_98 ?_
          refine g_iload C 1 rfl dX4_takeChain_99 ?_
          refine s_iast C ha1 (by omega) (by decide) dX4_takeChain_101 ?_
          refine g_iload C 1 rfl dX4_takeChain_102 ?_
          refine g_istore_n C [(3, vI r), (6, vI (q - (240 * ((k : Int))))), (5, vI r), (4, vI ((k : Int))), (2, vI S.2.1), (0, .ref a), (1, vI q)] dX4_takeChain_104 rfl (by decide) rfl ?_
          refine g_iinc C [(4, vI (((k : Int)) + 1)), (3, vI r), (6, vI (q - (240 * ((k : Int))))), (5, vI r), (2, vI S.2.1), (0, .ref a), (1, vI q)] 3 rfl dX4_takeChain_105 (by decide) rfl ?_
          refine g_goto C 7 dX4_takeChain_108 (by decide) ?_
          refine g_sub [0, 1, 4, 5, 6] rfl ?_
          have hst : mtN w q (k + 1) = mtStep q k S := by rw [← hSe]; rfl
          have h9 := ih (k + 1) (by omega)
          rw [hst] at h9
          unfold mtStep at h9
          rw [if_neg c81, ← hrl] at h9
          rw [show (if q - 240 * (k : Int) < 240 then q - 240 * (k : Int) else 240) = 240 by split <;> omega] at h9
          exact h9
        · refine g_iload C 1 rfl dX4_takeChain_84 ?_
          refine g_istore_n C [(2, vI r), (6, vI (q - (240 * ((k : Int))))), (5, vI r), (4, vI ((k : Int))), (3, vI S.2.2), (0, .ref a), (1, vI q)] dX4_takeChain_86 rfl (by decide) rfl ?_
          refine g_goto C 102 dX4_takeChain_87 (by decide) ?_
          refine g_iload C 2 rfl dX4_takeChain_102 ?_
          refine g_istore_n C [(3, vI r), (2, vI r), (6, vI (q - (240 * ((k : Int))))), (5, vI r), (4, vI ((k : Int))), (0, .ref a), (1, vI q)] dX4_takeChain_104 rfl (by decide) rfl ?_
          refine g_iinc C [(4, vI (((k : Int)) + 1)), (3, vI r), (2, vI r), (6, vI (q - (240 * ((k : Int))))), (5, vI r), (0, .ref a), (1, vI q)] 4 rfl dX4_takeChain_105 (by decide) rfl ?_
          refine g_goto C 7 dX4_takeChain_108 (by decide) ?_
          refine g_sub [0, 1, 2, 5, 6] rfl ?_
          have hst : mtN w q (k + 1) = mtStep q k S := by rw [← hSe]; rfl
          have h9 := ih (k + 1) (by omega)
          rw [hst] at h9
          unfold mtStep at h9
          rw [if_pos c81, ← hrl] at h9
          rw [show (if q - 240 * (k : Int) < 240 then q - 240 * (k : Int) else 240) = 240 by split <;> omega] at h9
          exact h9
      · refine g_iload C 0 rfl dX4_takeChain_70 ?_
        refine g_goto C 78 dX4_takeChain_72 (by decide) ?_
        refine s_iast C ha1 (by omega) (by decide) dX4_takeChain_78 ?_
        refine g_iload_n C 3 rfl dX4_takeChain_79 ?_
        refine g_iconst C (-1) rfl dX4_takeChain_80 ?_
        refine g_icmp_ne C (by unfold rng; omega) (by unfold rng; omega) 90 dX4_takeChain_81 (by decide) (fun c81 => ?_) (fun c81 => ?_)
        · refine g_aload_n C 5 rfl dX4_takeChain_90 ?_
          refine gf_Mod_d C hm1 hr1 lf_X4_7 dX4_takeChain_91 ?_
          refine g_sipush C 192 rfl dX4_takeChain_94 ?_
          refine g_iload_n C 3 rfl dX4_takeChain_97 ?_
          refine g_iadd C dX4_takeChain_98 ?_
          refine g_iload C 1 rfl dX4_takeChain_99 ?_
          refine s_iast C ha1 (by omega) (by decide) dX4_takeChain_101 ?_
          refine g_iload C 1 rfl dX4_takeChain_102 ?_
          refine g_istore_n C [(3, vI r), (6, vI (q - (240 * ((k : Int))))), (5, vI r), (4, vI ((k : Int))), (2, vI S.2.1), (0, .ref a), (1, vI q)] dX4_takeChain_104 rfl (by decide) rfl ?_
          refine g_iinc C [(4, vI (((k : Int)) + 1)), (3, vI r), (6, vI (q - (240 * ((k : Int))))), (5, vI r), (2, vI S.2.1), (0, .ref a), (1, vI q)] 3 rfl dX4_takeChain_105 (by decide) rfl ?_
          refine g_goto C 7 dX4_takeChain_108 (by decide) ?_
          refine g_sub [0, 1, 4, 5, 6] rfl ?_
          have hst : mtN w q (k + 1) = mtStep q k S := by rw [← hSe]; rfl
          have h9 := ih (k + 1) (by omega)
          rw [hst] at h9
          unfold mtStep at h9
          rw [if_neg c81, ← hrl] at h9
          rw [show (if q - 240 * (k : Int) < 240 then q - 240 * (k : Int) else 240) = q - (240 * ((k : Int))) by split <;> omega] at h9
          exact h9
        · refine g_iload C 1 rfl dX4_takeChain_84 ?_
          refine g_istore_n C [(2, vI r), (6, vI (q - (240 * ((k : Int))))), (5, vI r), (4, vI ((k : Int))), (3, vI S.2.2), (0, .ref a), (1, vI q)] dX4_takeChain_86 rfl (by decide) rfl ?_
          refine g_goto C 102 dX4_takeChain_87 (by decide) ?_
          refine g_iload C 2 rfl dX4_takeChain_102 ?_
          refine g_istore_n C [(3, vI r), (2, vI r), (6, vI (q - (240 * ((k : Int))))), (5, vI r), (4, vI ((k : Int))), (0, .ref a), (1, vI q)] dX4_takeChain_104 rfl (by decide) rfl ?_
          refine g_iinc C [(4, vI (((k : Int)) + 1)), (3, vI r), (2, vI r), (6, vI (q - (240 * ((k : Int))))), (5, vI r), (0, .ref a), (1, vI q)] 4 rfl dX4_takeChain_105 (by decide) rfl ?_
          refine g_goto C 7 dX4_takeChain_108 (by decide) ?_
          refine g_sub [0, 1, 2, 5, 6] rfl ?_
          have hst : mtN w q (k + 1) = mtStep q k S := by rw [← hSe]; rfl
          have h9 := ih (k + 1) (by omega)
          rw [hst] at h9
          unfold mtStep at h9
          rw [if_pos c81, ← hrl] at h9
          rw [show (if q - 240 * (k : Int) < 240 then q - 240 * (k : Int) else 240) = q - (240 * ((k : Int))) by split <;> omega] at h9
          exact h9
  refine g_iconst C (-1) rfl dX4_takeChain_0 ?_
  refine g_istore_n C [(2, vI ((-1))), (0, .ref a), (1, vI q)] dX4_takeChain_1 rfl (by decide) rfl ?_
  refine g_iconst C (-1) rfl dX4_takeChain_2 ?_
  refine g_istore_n C [(3, vI ((-1))), (2, vI ((-1))), (0, .ref a), (1, vI q)] dX4_takeChain_3 rfl (by decide) rfl ?_
  refine g_iconst C 0 rfl dX4_takeChain_4 ?_
  refine g_istore C [(4, vI 0), (3, vI ((-1))), (2, vI ((-1))), (0, .ref a), (1, vI q)] dX4_takeChain_5 (by decide) rfl ?_
  refine g_sub [0, 1, 2, 3, 4] rfl ?_
  exact loop (chP q).toNat 0 (by omega)
set_option maxHeartbeats 4000000 in
set_option maxRecDepth 100000 in
theorem c_X4_placeFor (l : Launch) (D : va_G) (cy : ClassId × ClassId) (g : GT) (V : VT) (w : Int → Int → Int) (a : Nat) (o : Int) (q x y : Int) (hap : Apart g) (hm : isMod g a o) (hw : mwf w) (hroom : ∀ i, 0 ≤ i → i < 96 → w 1 i = 1 → 0 ≤ mRoom w i ∧ mRoom w i ≤ 248) (hq9 : 0 ≤ q ∧ q ≤ 1000) (hx : -1 ≤ x ∧ x ≤ 96) (hy : -1 ≤ y ∧ y ≤ 96) : MetI l yX4_placeFor cX4_placeFor 9 (some .int) 3 D cy g [.ref a, vI q, vI x, vI y] (setp V o w) (fun r V' => isPlM w (q + 4) x y r ∧ V' = setp V o w) := by
  obtain ⟨hm1, r1, r2, r3, ⟨hr1, ha1⟩, ⟨hr2, ha2⟩, ⟨hr3, ha3⟩⟩ := id hm
  refine MetI.of (by decide) (Nat.le_of_ble_eq_true rfl) hap ?_
  intro p_ e_ s_ m_ args_ below_ meth_ c_ C
  have loop : ∀ (n : Nat) (i be fi : Int), -1 ≤ i ∧ i < 96 → (-1 ≤ be ∧ be < 96) ∧ (-1 ≤ fi ∧ fi < 96) → i + 1 ≤ n → isLCd (okm w x y) (mCl w) (q + 4) (i + 1) be → isFRd (okm w x y) (mRoom w) (q + 4) (i + 1) fi → G p_ l e_ (rmd 3) s_ m_ args_ below_ meth_ c_ 9 0 0 (MQ below_ (QcI D cy g (fun r V' => isPlM w (q + 4) x y r ∧ V' = setp V o w)) args_ s_ 0 0 (fun q => q ∈ gL g)) D cy g (fun q => q ∈ gL g) s_.heap (setp V o w) 15 [(7, vI i), (5, vI be), (6, vI fi), (4, vI (q + 4)), (0, .ref a), (1, vI q), (2, vI x), (3, vI y)] [] := by
    intro n
    induction n with
    | zero =>
      intro i be fi h1 h2 h3 h4 h5
      refine g_iload C 0 rfl dX4_placeFor_15 ?_
      refine g_if_lt C (by unfold rng; omega) 123 dX4_placeFor_17 (by decide) (fun c17 => ?_) (fun c17 => absurd c17 (by omega))
      refine g_iload C 1 rfl dX4_placeFor_123 ?_
      refine g_iconst C (-1) rfl dX4_placeFor_125 ?_
      refine g_icmp_eq C (by unfold rng; omega) (by unfold rng; omega) 134 dX4_placeFor_126 (by decide) (fun c126 => ?_) (fun c126 => ?_)
      · refine g_iload C 2 rfl dX4_placeFor_134 ?_
        refine g_iconst C (-1) rfl dX4_placeFor_136 ?_
        refine g_icmp_eq C (by unfold rng; omega) (by unfold rng; omega) 145 dX4_placeFor_137 (by decide) (fun c137 => ?_) (fun c137 => ?_)
        · refine g_aload_n C 4 rfl dX4_placeFor_145 ?_
          refine g_callI C [] [] (c_X4_firstFree l D cy g V w a o hap hm hw) lm_X4_51 (rcv_Mod hm.1) rfl (Nat.le_of_ble_eq_true rfl) ⟨(Nat.le_of_ble_eq_true rfl), (Nat.le_of_ble_eq_true rfl)⟩ ⟨Nat.zero_le _, Nat.zero_le _⟩ dX4_placeFor_146 ?_
          rintro r3 _ ⟨h3f, rfl⟩
          have hi0 : i + 1 = 0 := by omega
          rw [hi0] at h4 h5
          have e1 : be = -1 := c126
          subst e1
          have e2 : fi = -1 := c137
          subst e2
          exact g_iret C dX4_placeFor_149 ⟨Or.inr ⟨h4, Or.inr ⟨h5, h3f⟩⟩, rfl⟩
        · refine g_iload C 2 rfl dX4_placeFor_140 ?_
          refine g_goto C 149 dX4_placeFor_142 (by decide) ?_
          have hi0 : i + 1 = 0 := by omega
          rw [hi0] at h4 h5
          have e1 : be = -1 := c126
          subst e1
          exact g_iret C dX4_placeFor_149 ⟨Or.inr ⟨h4, Or.inl ⟨c137, h5⟩⟩, rfl⟩
      · refine g_iload C 1 rfl dX4_placeFor_129 ?_
        refine g_goto C 149 dX4_placeFor_131 (by decide) ?_
        have hi0 : i + 1 = 0 := by omega
        rw [hi0] at h4 h5
        exact g_iret C dX4_placeFor_149 ⟨Or.inl ⟨c126, h4⟩, rfl⟩
    | succ n ih =>
      intro i be fi h1 h2 h3 h4 h5
      refine g_iload C 0 rfl dX4_placeFor_15 ?_
      refine g_if_lt C (by unfold rng; omega) 123 dX4_placeFor_17 (by decide) (fun c17 => ?_) (fun c17 => ?_)
      · refine g_iload C 1 rfl dX4_placeFor_123 ?_
        refine g_iconst C (-1) rfl dX4_placeFor_125 ?_
        refine g_icmp_eq C (by unfold rng; omega) (by unfold rng; omega) 134 dX4_placeFor_126 (by decide) (fun c126 => ?_) (fun c126 => ?_)
        · refine g_iload C 2 rfl dX4_placeFor_134 ?_
          refine g_iconst C (-1) rfl dX4_placeFor_136 ?_
          refine g_icmp_eq C (by unfold rng; omega) (by unfold rng; omega) 145 dX4_placeFor_137 (by decide) (fun c137 => ?_) (fun c137 => ?_)
          · refine g_aload_n C 4 rfl dX4_placeFor_145 ?_
            refine g_callI C [] [] (c_X4_firstFree l D cy g V w a o hap hm hw) lm_X4_51 (rcv_Mod hm.1) rfl (Nat.le_of_ble_eq_true rfl) ⟨(Nat.le_of_ble_eq_true rfl), (Nat.le_of_ble_eq_true rfl)⟩ ⟨Nat.zero_le _, Nat.zero_le _⟩ dX4_placeFor_146 ?_
            rintro r3 _ ⟨h3f, rfl⟩
            have hi0 : i + 1 = 0 := by omega
            rw [hi0] at h4 h5
            have e1 : be = -1 := c126
            subst e1
            have e2 : fi = -1 := c137
            subst e2
            exact g_iret C dX4_placeFor_149 ⟨Or.inr ⟨h4, Or.inr ⟨h5, h3f⟩⟩, rfl⟩
          · refine g_iload C 2 rfl dX4_placeFor_140 ?_
            refine g_goto C 149 dX4_placeFor_142 (by decide) ?_
            have hi0 : i + 1 = 0 := by omega
            rw [hi0] at h4 h5
            have e1 : be = -1 := c126
            subst e1
            exact g_iret C dX4_placeFor_149 ⟨Or.inr ⟨h4, Or.inl ⟨c137, h5⟩⟩, rfl⟩
        · refine g_iload C 1 rfl dX4_placeFor_129 ?_
          refine g_goto C 149 dX4_placeFor_131 (by decide) ?_
          have hi0 : i + 1 = 0 := by omega
          rw [hi0] at h4 h5
          exact g_iret C dX4_placeFor_149 ⟨Or.inl ⟨c126, h4⟩, rfl⟩
      · refine g_aload_n C 4 rfl dX4_placeFor_20 ?_
        refine gf_Mod_d C hm1 hr1 lf_X4_7 dX4_placeFor_21 ?_
        refine g_iload C 0 rfl dX4_placeFor_24 ?_
        refine s_iald C (w 1 i) ha1 (by omega) (by decide) rfl dX4_placeFor_26 ?_
        refine g_iconst C 1 rfl dX4_placeFor_27 ?_
        refine g_icmp_ne C (by have z9 := hw (i) (by omega) (by omega); unfold sm at z9; unfold rng; omega) (by unfold rng; omega) 117 dX4_placeFor_28 (by decide) (fun c28 => ?_) (fun c28 => ?_)
        · refine g_iinc C [(7, vI (i + (-1))), (5, vI be), (6, vI fi), (4, vI (q + 4)), (0, .ref a), (1, vI q), (2, vI x), (3, vI y)] 0 rfl dX4_placeFor_117 (by decide) rfl ?_
          refine g_goto C 15 dX4_placeFor_120 (by decide) ?_
          refine g_sub [0, 1, 2, 3, 4, 5, 6, 7] rfl ?_
          refine ih (i + (-1)) be fi (by omega) (by omega) ?_ ?_ ?_
          · omega
          · rw [show i + (-1) + 1 = i by omega]
            have hno : okm w x y i → q + 4 ≤ 31 * mCl w i → (0 ≤ be ∧ mCl w be < mCl w i) := by
              rintro ⟨k1, k2, k3, k4⟩ hq8
              have hrm9 := hroom i (by omega) (by omega) k1
              unfold mCl at *
              first | (exact absurd k1 (by assumption)) | (exact absurd (by assumption) k2) | (exact absurd (by assumption) k3) | (exact absurd (by assumption) k4) | (exfalso; omega) | (exact ⟨hbe.1.1, by omega⟩)
            rcases h4 with ⟨k1, k2⟩ | ⟨k1, k2, k3, k4, k5, k6⟩
            · refine Or.inl ⟨k1, fun j q1 q2 q3 => ?_⟩
              by_cases hj : j = i
              · subst hj; exact Int.not_le.mp (fun q5 => by have := hno q3 q5; omega)
              · exact k2 j (by omega) q2 q3
            · refine Or.inr ⟨by omega, k2, k3, k4, fun j q1 q2 q3 q4 => ?_, fun j q1 q2 q3 q4 => ?_⟩
              · by_cases hj : j = i
                · subst hj; exact Int.le_of_lt (hno q3 q4).2
                · exact k5 j (by omega) q2 q3 q4
              · by_cases hj : j = i
                · subst hj; exact (hno q3 q4).2
                · exact k6 j (by omega) q2 q3 q4
          · rw [show i + (-1) + 1 = i by omega]
            have hno : okm w x y i → mRoom w i < q + 4 := by
              rintro ⟨k1, k2, k3, k4⟩
              first | (exact absurd k1 (by assumption)) | (exact absurd (by assumption) k2) | (exact absurd (by assumption) k3) | (exact absurd (by assumption) k4) | omega
            rcases h5 with ⟨k1, k2⟩ | ⟨k1, k2, k3, k4, k5⟩
            · refine Or.inl ⟨k1, fun j q1 q2 q3 => ?_⟩
              by_cases hj : j = i
              · subst hj; exact hno q3
              · exact k2 j (by omega) q2 q3
            · refine Or.inr ⟨by omega, k2, k3, k4, fun j q1 q2 q3 => ?_⟩
              by_cases hj : j = i
              · subst hj; exact hno q3
              · exact k5 j (by omega) q2 q3
        · refine g_iload C 0 rfl dX4_placeFor_31 ?_
          refine g_iload_n C 6 rfl dX4_placeFor_33 ?_
          refine g_icmp_eq C (by unfold rng; omega) (by unfold rng; omega) 117 dX4_placeFor_34 (by decide) (fun c34 => ?_) (fun c34 => ?_)
          · refine g_iinc C [(7, vI (i + (-1))), (5, vI be), (6, vI fi), (4, vI (q + 4)), (0, .ref a), (1, vI q), (2, vI x), (3, vI y)] 0 rfl dX4_placeFor_117 (by decide) rfl ?_
            refine g_goto C 15 dX4_placeFor_120 (by decide) ?_
            refine g_sub [0, 1, 2, 3, 4, 5, 6, 7] rfl ?_
            refine ih (i + (-1)) be fi (by omega) (by omega) ?_ ?_ ?_
            · omega
            · rw [show i + (-1) + 1 = i by omega]
              have hno : okm w x y i → q + 4 ≤ 31 * mCl w i → (0 ≤ be ∧ mCl w be < mCl w i) := by
                rintro ⟨k1, k2, k3, k4⟩ hq8
                have hrm9 := hroom i (by omega) (by omega) k1
                unfold mCl at *
                first | (exact absurd k1 (by assumption)) | (exact absurd (by assumption) k2) | (exact absurd (by assumption) k3) | (exact absurd (by assumption) k4) | (exfalso; omega) | (exact ⟨hbe.1.1, by omega⟩)
              rcases h4 with ⟨k1, k2⟩ | ⟨k1, k2, k3, k4, k5, k6⟩
              · refine Or.inl ⟨k1, fun j q1 q2 q3 => ?_⟩
                by_cases hj : j = i
                · subst hj; exact Int.not_le.mp (fun q5 => by have := hno q3 q5; omega)
                · exact k2 j (by omega) q2 q3
              · refine Or.inr ⟨by omega, k2, k3, k4, fun j q1 q2 q3 q4 => ?_, fun j q1 q2 q3 q4 => ?_⟩
                · by_cases hj : j = i
                  · subst hj; exact Int.le_of_lt (hno q3 q4).2
                  · exact k5 j (by omega) q2 q3 q4
                · by_cases hj : j = i
                  · subst hj; exact (hno q3 q4).2
                  · exact k6 j (by omega) q2 q3 q4
            · rw [show i + (-1) + 1 = i by omega]
              have hno : okm w x y i → mRoom w i < q + 4 := by
                rintro ⟨k1, k2, k3, k4⟩
                first | (exact absurd k1 (by assumption)) | (exact absurd (by assumption) k2) | (exact absurd (by assumption) k3) | (exact absurd (by assumption) k4) | omega
              rcases h5 with ⟨k1, k2⟩ | ⟨k1, k2, k3, k4, k5⟩
              · refine Or.inl ⟨k1, fun j q1 q2 q3 => ?_⟩
                by_cases hj : j = i
                · subst hj; exact hno q3
                · exact k2 j (by omega) q2 q3
              · refine Or.inr ⟨by omega, k2, k3, k4, fun j q1 q2 q3 => ?_⟩
                by_cases hj : j = i
                · subst hj; exact hno q3
                · exact k5 j (by omega) q2 q3
          · refine g_iload C 0 rfl dX4_placeFor_37 ?_
            refine g_iload_n C 7 rfl dX4_placeFor_39 ?_
            refine g_icmp_eq C (by unfold rng; omega) (by unfold rng; omega) 117 dX4_placeFor_40 (by decide) (fun c40 => ?_) (fun c40 => ?_)
            · refine g_iinc C [(7, vI (i + (-1))), (5, vI be), (6, vI fi), (4, vI (q + 4)), (0, .ref a), (1, vI q), (2, vI x), (3, vI y)] 0 rfl dX4_placeFor_117 (by decide) rfl ?_
              refine g_goto C 15 dX4_placeFor_120 (by decide) ?_
              refine g_sub [0, 1, 2, 3, 4, 5, 6, 7] rfl ?_
              refine ih (i + (-1)) be fi (by omega) (by omega) ?_ ?_ ?_
              · omega
              · rw [show i + (-1) + 1 = i by omega]
                have hno : okm w x y i → q + 4 ≤ 31 * mCl w i → (0 ≤ be ∧ mCl w be < mCl w i) := by
                  rintro ⟨k1, k2, k3, k4⟩ hq8
                  have hrm9 := hroom i (by omega) (by omega) k1
                  unfold mCl at *
                  first | (exact absurd k1 (by assumption)) | (exact absurd (by assumption) k2) | (exact absurd (by assumption) k3) | (exact absurd (by assumption) k4) | (exfalso; omega) | (exact ⟨hbe.1.1, by omega⟩)
                rcases h4 with ⟨k1, k2⟩ | ⟨k1, k2, k3, k4, k5, k6⟩
                · refine Or.inl ⟨k1, fun j q1 q2 q3 => ?_⟩
                  by_cases hj : j = i
                  · subst hj; exact Int.not_le.mp (fun q5 => by have := hno q3 q5; omega)
                  · exact k2 j (by omega) q2 q3
                · refine Or.inr ⟨by omega, k2, k3, k4, fun j q1 q2 q3 q4 => ?_, fun j q1 q2 q3 q4 => ?_⟩
                  · by_cases hj : j = i
                    · subst hj; exact Int.le_of_lt (hno q3 q4).2
                    · exact k5 j (by omega) q2 q3 q4
                  · by_cases hj : j = i
                    · subst hj; exact (hno q3 q4).2
                    · exact k6 j (by omega) q2 q3 q4
              · rw [show i + (-1) + 1 = i by omega]
                have hno : okm w x y i → mRoom w i < q + 4 := by
                  rintro ⟨k1, k2, k3, k4⟩
                  first | (exact absurd k1 (by assumption)) | (exact absurd (by assumption) k2) | (exact absurd (by assumption) k3) | (exact absurd (by assumption) k4) | omega
                rcases h5 with ⟨k1, k2⟩ | ⟨k1, k2, k3, k4, k5⟩
                · refine Or.inl ⟨k1, fun j q1 q2 q3 => ?_⟩
                  by_cases hj : j = i
                  · subst hj; exact hno q3
                  · exact k2 j (by omega) q2 q3
                · refine Or.inr ⟨by omega, k2, k3, k4, fun j q1 q2 q3 => ?_⟩
                  by_cases hj : j = i
                  · subst hj; exact hno q3
                  · exact k5 j (by omega) q2 q3
            · refine g_aload_n C 4 rfl dX4_placeFor_43 ?_
              refine g_iload C 0 rfl dX4_placeFor_44 ?_
              refine g_callI C [vI i] [] (c_X4_cells l D cy g V w a o i hap hm hw (by omega)) lm_X4_45 (rcv_Mod hm.1) rfl (Nat.le_of_ble_eq_true rfl) ⟨(Nat.le_of_ble_eq_true rfl), (Nat.le_of_ble_eq_true rfl)⟩ ⟨Nat.zero_le _, Nat.zero_le _⟩ dX4_placeFor_46 ?_
              rintro _ _ ⟨rfl, rfl⟩
              have hcb : 0 ≤ mCe w i ∧ mCe w i ≤ 32 := mCf_bd w i 32
              refine g_bipush C 32 rfl dX4_placeFor_49 ?_
              refine g_icmp_ne C (by unfold rng; omega) (by unfold rng; omega) 57 dX4_placeFor_51 (by decide) (fun c51 => ?_) (fun c51 => ?_)
              · have hok : okm w x y i := ⟨c28, c34, c40, c51⟩
                have hrm := hroom i (by omega) (by omega) c28
                refine g_aload_n C 4 rfl dX4_placeFor_57 ?_
                refine g_iload C 0 rfl dX4_placeFor_58 ?_
                refine g_callI C [vI i] [] (c_X4_room l D cy g V w a o i hap hm hw (by omega)) lm_X4_48 (rcv_Mod hm.1) rfl (Nat.le_of_ble_eq_true rfl) ⟨(Nat.le_of_ble_eq_true rfl), (Nat.le_of_ble_eq_true rfl)⟩ ⟨Nat.zero_le _, Nat.zero_le _⟩ dX4_placeFor_60 ?_
                rintro _ _ ⟨rfl, rfl⟩
                refine g_bipush C 31 rfl dX4_placeFor_63 ?_
                refine g_idiv C (by omega) (by omega) dX4_placeFor_65 ?_
                refine g_istore C [(8, vI ((mRoom w i) / 31)), (7, vI i), (5, vI be), (6, vI fi), (4, vI (q + 4)), (0, .ref a), (1, vI q), (2, vI x), (3, vI y)] dX4_placeFor_66 (by decide) rfl ?_
                refine g_bipush C 31 rfl dX4_placeFor_68 ?_
                refine g_iload C 0 rfl dX4_placeFor_70 ?_
                refine g_imul C dX4_placeFor_72 ?_
                refine g_iload C 4 rfl dX4_placeFor_73 ?_
                refine g_icmp_lt C (by unfold rng; omega) (by unfold rng; omega) 102 dX4_placeFor_75 (by decide) (fun c75 => ?_) (fun c75 => ?_)
                · refine g_aload_n C 5 rfl dX4_placeFor_102 ?_
                  refine g_iload C 1 rfl dX4_placeFor_103 ?_
                  refine g_callI C [vI i] [] (c_X4_room l D cy g V w a o i hap hm hw (by omega)) lm_X4_48 (rcv_Mod hm.1) rfl (Nat.le_of_ble_eq_true rfl) ⟨(Nat.le_of_ble_eq_true rfl), (Nat.le_of_ble_eq_true rfl)⟩ ⟨Nat.zero_le _, Nat.zero_le _⟩ dX4_placeFor_105 ?_
                  rintro _ _ ⟨rfl, rfl⟩
                  refine g_iload C 4 rfl dX4_placeFor_108 ?_
                  refine g_icmp_lt C (by unfold rng; omega) (by unfold rng; omega) 117 dX4_placeFor_110 (by decide) (fun c110 => ?_) (fun c110 => ?_)
                  · refine g_iinc C [(7, vI (i + (-1))), (8, vI ((mRoom w i) / 31)), (5, vI be), (6, vI fi), (4, vI (q + 4)), (0, .ref a), (1, vI q), (2, vI x), (3, vI y)] 1 rfl dX4_placeFor_117 (by decide) rfl ?_
                    refine g_goto C 15 dX4_placeFor_120 (by decide) ?_
                    refine g_sub [0, 2, 3, 4, 5, 6, 7, 8] rfl ?_
                    refine ih (i + (-1)) be fi (by omega) (by omega) ?_ ?_ ?_
                    · omega
                    · rw [show i + (-1) + 1 = i by omega]
                      have hno : okm w x y i → q + 4 ≤ 31 * mCl w i → (0 ≤ be ∧ mCl w be < mCl w i) := by
                        rintro ⟨k1, k2, k3, k4⟩ hq8
                        have hrm9 := hroom i (by omega) (by omega) k1
                        unfold mCl at *
                        first | (exact absurd k1 (by assumption)) | (exact absurd (by assumption) k2) | (exact absurd (by assumption) k3) | (exact absurd (by assumption) k4) | (exfalso; omega) | (exact ⟨hbe.1.1, by omega⟩)
                      rcases h4 with ⟨k1, k2⟩ | ⟨k1, k2, k3, k4, k5, k6⟩
                      · refine Or.inl ⟨k1, fun j q1 q2 q3 => ?_⟩
                        by_cases hj : j = i
                        · subst hj; exact Int.not_le.mp (fun q5 => by have := hno q3 q5; omega)
                        · exact k2 j (by omega) q2 q3
                      · refine Or.inr ⟨by omega, k2, k3, k4, fun j q1 q2 q3 q4 => ?_, fun j q1 q2 q3 q4 => ?_⟩
                        · by_cases hj : j = i
                          · subst hj; exact Int.le_of_lt (hno q3 q4).2
                          · exact k5 j (by omega) q2 q3 q4
                        · by_cases hj : j = i
                          · subst hj; exact (hno q3 q4).2
                          · exact k6 j (by omega) q2 q3 q4
                    · rw [show i + (-1) + 1 = i by omega]
                      have hno : okm w x y i → mRoom w i < q + 4 := by
                        rintro ⟨k1, k2, k3, k4⟩
                        first | (exact absurd k1 (by assumption)) | (exact absurd (by assumption) k2) | (exact absurd (by assumption) k3) | (exact absurd (by assumption) k4) | omega
                      rcases h5 with ⟨k1, k2⟩ | ⟨k1, k2, k3, k4, k5⟩
                      · refine Or.inl ⟨k1, fun j q1 q2 q3 => ?_⟩
                        by_cases hj : j = i
                        · subst hj; exact hno q3
                        · exact k2 j (by omega) q2 q3
                      · refine Or.inr ⟨by omega, k2, k3, k4, fun j q1 q2 q3 => ?_⟩
                        by_cases hj : j = i
                        · subst hj; exact hno q3
                        · exact k5 j (by omega) q2 q3
                  · refine g_iload C 1 rfl dX4_placeFor_113 ?_
                    refine g_istore C [(6, vI i), (8, vI ((mRoom w i) / 31)), (7, vI i), (5, vI be), (4, vI (q + 4)), (0, .ref a), (1, vI q), (2, vI x), (3, vI y)] dX4_placeFor_115 (by decide) rfl ?_
                    refine g_iinc C [(7, vI (i + (-1))), (6, vI i), (8, vI ((mRoom w i) / 31)), (5, vI be), (4, vI (q + 4)), (0, .ref a), (1, vI q), (2, vI x), (3, vI y)] 2 rfl dX4_placeFor_117 (by decide) rfl ?_
                    refine g_goto C 15 dX4_placeFor_120 (by decide) ?_
                    refine g_sub [0, 3, 1, 4, 5, 6, 7, 8] rfl ?_
                    refine ih (i + (-1)) be i (by omega) (by omega) ?_ ?_ ?_
                    · omega
                    · rw [show i + (-1) + 1 = i by omega]
                      have hno : okm w x y i → q + 4 ≤ 31 * mCl w i → (0 ≤ be ∧ mCl w be < mCl w i) := by
                        rintro ⟨k1, k2, k3, k4⟩ hq8
                        have hrm9 := hroom i (by omega) (by omega) k1
                        unfold mCl at *
                        first | (exact absurd k1 (by assumption)) | (exact absurd (by assumption) k2) | (exact absurd (by assumption) k3) | (exact absurd (by assumption) k4) | (exfalso; omega) | (exact ⟨hbe.1.1, by omega⟩)
                      rcases h4 with ⟨k1, k2⟩ | ⟨k1, k2, k3, k4, k5, k6⟩
                      · refine Or.inl ⟨k1, fun j q1 q2 q3 => ?_⟩
                        by_cases hj : j = i
                        · subst hj; exact Int.not_le.mp (fun q5 => by have := hno q3 q5; omega)
                        · exact k2 j (by omega) q2 q3
                      · refine Or.inr ⟨by omega, k2, k3, k4, fun j q1 q2 q3 q4 => ?_, fun j q1 q2 q3 q4 => ?_⟩
                        · by_cases hj : j = i
                          · subst hj; exact Int.le_of_lt (hno q3 q4).2
                          · exact k5 j (by omega) q2 q3 q4
                        · by_cases hj : j = i
                          · subst hj; exact (hno q3 q4).2
                          · exact k6 j (by omega) q2 q3 q4
                    · rw [show i + (-1) + 1 = i by omega]
                      exact Or.inr ⟨Int.le_refl _, by omega, hok, by omega, fun j q1 q2 => absurd q1 (by omega)⟩
                · refine g_iload C 2 rfl dX4_placeFor_78 ?_
                  refine g_iconst C (-1) rfl dX4_placeFor_80 ?_
                  refine g_icmp_eq C (by unfold rng; omega) (by unfold rng; omega) 98 dX4_placeFor_81 (by decide) (fun c81 => ?_) (fun c81 => ?_)
                  · refine g_iload C 1 rfl dX4_placeFor_98 ?_
                    refine g_istore C [(5, vI i), (8, vI ((mRoom w i) / 31)), (7, vI i), (6, vI fi), (4, vI (q + 4)), (0, .ref a), (1, vI q), (2, vI x), (3, vI y)] dX4_placeFor_100 (by decide) rfl ?_
                    refine g_aload_n C 5 rfl dX4_placeFor_102 ?_
                    refine g_iload C 2 rfl dX4_placeFor_103 ?_
                    refine g_callI C [vI i] [] (c_X4_room l D cy g V w a o i hap hm hw (by omega)) lm_X4_48 (rcv_Mod hm.1) rfl (Nat.le_of_ble_eq_true rfl) ⟨(Nat.le_of_ble_eq_true rfl), (Nat.le_of_ble_eq_true rfl)⟩ ⟨Nat.zero_le _, Nat.zero_le _⟩ dX4_placeFor_105 ?_
                    rintro _ _ ⟨rfl, rfl⟩
                    refine g_iload C 4 rfl dX4_placeFor_108 ?_
                    refine g_icmp_lt C (by unfold rng; omega) (by unfold rng; omega) 117 dX4_placeFor_110 (by decide) (fun c110 => ?_) (fun c110 => ?_)
                    · refine g_iinc C [(7, vI (i + (-1))), (5, vI i), (8, vI ((mRoom w i) / 31)), (6, vI fi), (4, vI (q + 4)), (0, .ref a), (1, vI q), (2, vI x), (3, vI y)] 2 rfl dX4_placeFor_117 (by decide) rfl ?_
                      refine g_goto C 15 dX4_placeFor_120 (by decide) ?_
                      refine g_sub [0, 1, 3, 4, 5, 6, 7, 8] rfl ?_
                      refine ih (i + (-1)) i fi (by omega) (by omega) ?_ ?_ ?_
                      · omega
                      · rw [show i + (-1) + 1 = i by omega]
                        refine Or.inr ⟨Int.le_refl _, by omega, hok, by unfold mCl; omega, fun j q1 q2 q3 q4 => ?_, fun j q1 q2 => absurd q1 (by omega)⟩
                        by_cases hj : j = i
                        · subst hj; exact Int.le_refl _
                        · rcases h4 with ⟨-, k2⟩ | ⟨k1, k2, k3, k4, k5, k6⟩
                          · exact absurd q4 (by have := k2 j (by omega) q2 q3; omega)
                          · have := k5 j (by omega) q2 q3 q4
                            unfold mCl at *
                            first | omega | (exfalso; omega)
                      · rw [show i + (-1) + 1 = i by omega]
                        have hno : okm w x y i → mRoom w i < q + 4 := by
                          rintro ⟨k1, k2, k3, k4⟩
                          first | (exact absurd k1 (by assumption)) | (exact absurd (by assumption) k2) | (exact absurd (by assumption) k3) | (exact absurd (by assumption) k4) | omega
                        rcases h5 with ⟨k1, k2⟩ | ⟨k1, k2, k3, k4, k5⟩
                        · refine Or.inl ⟨k1, fun j q1 q2 q3 => ?_⟩
                          by_cases hj : j = i
                          · subst hj; exact hno q3
                          · exact k2 j (by omega) q2 q3
                        · refine Or.inr ⟨by omega, k2, k3, k4, fun j q1 q2 q3 => ?_⟩
                          by_cases hj : j = i
                          · subst hj; exact hno q3
                          · exact k5 j (by omega) q2 q3
                    · refine g_iload C 2 rfl dX4_placeFor_113 ?_
                      refine g_istore C [(6, vI i), (5, vI i), (8, vI ((mRoom w i) / 31)), (7, vI i), (4, vI (q + 4)), (0, .ref a), (1, vI q), (2, vI x), (3, vI y)] dX4_placeFor_115 (by decide) rfl ?_
                      refine g_iinc C [(7, vI (i + (-1))), (6, vI i), (5, vI i), (8, vI ((mRoom w i) / 31)), (4, vI (q + 4)), (0, .ref a), (1, vI q), (2, vI x), (3, vI y)] 3 rfl dX4_placeFor_117 (by decide) rfl ?_
                      refine g_goto C 15 dX4_placeFor_120 (by decide) ?_
                      refine g_sub [0, 2, 1, 4, 5, 6, 7, 8] rfl ?_
                      refine ih (i + (-1)) i i (by omega) (by omega) ?_ ?_ ?_
                      · omega
                      · rw [show i + (-1) + 1 = i by omega]
                        refine Or.inr ⟨Int.le_refl _, by omega, hok, by unfold mCl; omega, fun j q1 q2 q3 q4 => ?_, fun j q1 q2 => absurd q1 (by omega)⟩
                        by_cases hj : j = i
                        · subst hj; exact Int.le_refl _
                        · rcases h4 with ⟨-, k2⟩ | ⟨k1, k2, k3, k4, k5, k6⟩
                          · exact absurd q4 (by have := k2 j (by omega) q2 q3; omega)
                          · have := k5 j (by omega) q2 q3 q4
                            unfold mCl at *
                            first | omega | (exfalso; omega)
                      · rw [show i + (-1) + 1 = i by omega]
                        exact Or.inr ⟨Int.le_refl _, by omega, hok, by omega, fun j q1 q2 => absurd q1 (by omega)⟩
                  · have hbe : (0 ≤ be ∧ be < 96) ∧ okm w x y be := by
                      rcases h4 with ⟨k, -⟩ | ⟨k1, k2, k3, -⟩
                      · exact absurd k c81
                      · exact ⟨⟨by omega, k2⟩, k3⟩
                    have hrb := hroom be hbe.1.1 hbe.1.2 hbe.2.1
                    refine g_iload C 0 rfl dX4_placeFor_84 ?_
                    refine g_aload_n C 5 rfl dX4_placeFor_86 ?_
                    refine g_iload C 2 rfl dX4_placeFor_87 ?_
                    refine g_callI C [vI be] [vI ((mRoom w i) / 31)] (c_X4_room l D cy g V w a o be hap hm hw (by omega)) lm_X4_48 (rcv_Mod hm.1) rfl (Nat.le_of_ble_eq_true rfl) ⟨(Nat.le_of_ble_eq_true rfl), (Nat.le_of_ble_eq_true rfl)⟩ ⟨Nat.zero_le _, Nat.zero_le _⟩ dX4_placeFor_89 ?_
                    rintro _ _ ⟨rfl, rfl⟩
                    refine g_bipush C 31 rfl dX4_placeFor_92 ?_
                    refine g_idiv C (by omega) (by omega) dX4_placeFor_94 ?_
                    refine g_icmp_gt C (by unfold rng; omega) (by unfold rng; omega) 102 dX4_placeFor_95 (by decide) (fun c95 => ?_) (fun c95 => ?_)
                    · refine g_aload_n C 5 rfl dX4_placeFor_102 ?_
                      refine g_iload C 1 rfl dX4_placeFor_103 ?_
                      refine g_callI C [vI i] [] (c_X4_room l D cy g V w a o i hap hm hw (by omega)) lm_X4_48 (rcv_Mod hm.1) rfl (Nat.le_of_ble_eq_true rfl) ⟨(Nat.le_of_ble_eq_true rfl), (Nat.le_of_ble_eq_true rfl)⟩ ⟨Nat.zero_le _, Nat.zero_le _⟩ dX4_placeFor_105 ?_
                      rintro _ _ ⟨rfl, rfl⟩
                      refine g_iload C 4 rfl dX4_placeFor_108 ?_
                      refine g_icmp_lt C (by unfold rng; omega) (by unfold rng; omega) 117 dX4_placeFor_110 (by decide) (fun c110 => ?_) (fun c110 => ?_)
                      · refine g_iinc C [(7, vI (i + (-1))), (8, vI ((mRoom w i) / 31)), (5, vI be), (6, vI fi), (4, vI (q + 4)), (0, .ref a), (1, vI q), (2, vI x), (3, vI y)] 1 rfl dX4_placeFor_117 (by decide) rfl ?_
                        refine g_goto C 15 dX4_placeFor_120 (by decide) ?_
                        refine g_sub [0, 2, 3, 4, 5, 6, 7, 8] rfl ?_
                        refine ih (i + (-1)) be fi (by omega) (by omega) ?_ ?_ ?_
                        · omega
                        · rw [show i + (-1) + 1 = i by omega]
                          have hno : okm w x y i → q + 4 ≤ 31 * mCl w i → (0 ≤ be ∧ mCl w be < mCl w i) := by
                            rintro ⟨k1, k2, k3, k4⟩ hq8
                            have hrm9 := hroom i (by omega) (by omega) k1
                            unfold mCl at *
                            first | (exact absurd k1 (by assumption)) | (exact absurd (by assumption) k2) | (exact absurd (by assumption) k3) | (exact absurd (by assumption) k4) | (exfalso; omega) | (exact ⟨hbe.1.1, by omega⟩)
                          rcases h4 with ⟨k1, k2⟩ | ⟨k1, k2, k3, k4, k5, k6⟩
                          · refine Or.inl ⟨k1, fun j q1 q2 q3 => ?_⟩
                            by_cases hj : j = i
                            · subst hj; exact Int.not_le.mp (fun q5 => by have := hno q3 q5; omega)
                            · exact k2 j (by omega) q2 q3
                          · refine Or.inr ⟨by omega, k2, k3, k4, fun j q1 q2 q3 q4 => ?_, fun j q1 q2 q3 q4 => ?_⟩
                            · by_cases hj : j = i
                              · subst hj; exact Int.le_of_lt (hno q3 q4).2
                              · exact k5 j (by omega) q2 q3 q4
                            · by_cases hj : j = i
                              · subst hj; exact (hno q3 q4).2
                              · exact k6 j (by omega) q2 q3 q4
                        · rw [show i + (-1) + 1 = i by omega]
                          have hno : okm w x y i → mRoom w i < q + 4 := by
                            rintro ⟨k1, k2, k3, k4⟩
                            first | (exact absurd k1 (by assumption)) | (exact absurd (by assumption) k2) | (exact absurd (by assumption) k3) | (exact absurd (by assumption) k4) | omega
                          rcases h5 with ⟨k1, k2⟩ | ⟨k1, k2, k3, k4, k5⟩
                          · refine Or.inl ⟨k1, fun j q1 q2 q3 => ?_⟩
                            by_cases hj : j = i
                            · subst hj; exact hno q3
                            · exact k2 j (by omega) q2 q3
                          · refine Or.inr ⟨by omega, k2, k3, k4, fun j q1 q2 q3 => ?_⟩
                            by_cases hj : j = i
                            · subst hj; exact hno q3
                            · exact k5 j (by omega) q2 q3
                      · refine g_iload C 1 rfl dX4_placeFor_113 ?_
                        refine g_istore C [(6, vI i), (8, vI ((mRoom w i) / 31)), (7, vI i), (5, vI be), (4, vI (q + 4)), (0, .ref a), (1, vI q), (2, vI x), (3, vI y)] dX4_placeFor_115 (by decide) rfl ?_
                        refine g_iinc C [(7, vI (i + (-1))), (6, vI i), (8, vI ((mRoom w i) / 31)), (5, vI be), (4, vI (q + 4)), (0, .ref a), (1, vI q), (2, vI x), (3, vI y)] 2 rfl dX4_placeFor_117 (by decide) rfl ?_
                        refine g_goto C 15 dX4_placeFor_120 (by decide) ?_
                        refine g_sub [0, 3, 1, 4, 5, 6, 7, 8] rfl ?_
                        refine ih (i + (-1)) be i (by omega) (by omega) ?_ ?_ ?_
                        · omega
                        · rw [show i + (-1) + 1 = i by omega]
                          have hno : okm w x y i → q + 4 ≤ 31 * mCl w i → (0 ≤ be ∧ mCl w be < mCl w i) := by
                            rintro ⟨k1, k2, k3, k4⟩ hq8
                            have hrm9 := hroom i (by omega) (by omega) k1
                            unfold mCl at *
                            first | (exact absurd k1 (by assumption)) | (exact absurd (by assumption) k2) | (exact absurd (by assumption) k3) | (exact absurd (by assumption) k4) | (exfalso; omega) | (exact ⟨hbe.1.1, by omega⟩)
                          rcases h4 with ⟨k1, k2⟩ | ⟨k1, k2, k3, k4, k5, k6⟩
                          · refine Or.inl ⟨k1, fun j q1 q2 q3 => ?_⟩
                            by_cases hj : j = i
                            · subst hj; exact Int.not_le.mp (fun q5 => by have := hno q3 q5; omega)
                            · exact k2 j (by omega) q2 q3
                          · refine Or.inr ⟨by omega, k2, k3, k4, fun j q1 q2 q3 q4 => ?_, fun j q1 q2 q3 q4 => ?_⟩
                            · by_cases hj : j = i
                              · subst hj; exact Int.le_of_lt (hno q3 q4).2
                              · exact k5 j (by omega) q2 q3 q4
                            · by_cases hj : j = i
                              · subst hj; exact (hno q3 q4).2
                              · exact k6 j (by omega) q2 q3 q4
                        · rw [show i + (-1) + 1 = i by omega]
                          exact Or.inr ⟨Int.le_refl _, by omega, hok, by omega, fun j q1 q2 => absurd q1 (by omega)⟩
                    · refine g_iload C 1 rfl dX4_placeFor_98 ?_
                      refine g_istore C [(5, vI i), (8, vI ((mRoom w i) / 31)), (7, vI i), (6, vI fi), (4, vI (q + 4)), (0, .ref a), (1, vI q), (2, vI x), (3, vI y)] dX4_placeFor_100 (by decide) rfl ?_
                      refine g_aload_n C 5 rfl dX4_placeFor_102 ?_
                      refine g_iload C 2 rfl dX4_placeFor_103 ?_
                      refine g_callI C [vI i] [] (c_X4_room l D cy g V w a o i hap hm hw (by omega)) lm_X4_48 (rcv_Mod hm.1) rfl (Nat.le_of_ble_eq_true rfl) ⟨(Nat.le_of_ble_eq_true rfl), (Nat.le_of_ble_eq_true rfl)⟩ ⟨Nat.zero_le _, Nat.zero_le _⟩ dX4_placeFor_105 ?_
                      rintro _ _ ⟨rfl, rfl⟩
                      refine g_iload C 4 rfl dX4_placeFor_108 ?_
                      refine g_icmp_lt C (by unfold rng; omega) (by unfold rng; omega) 117 dX4_placeFor_110 (by decide) (fun c110 => ?_) (fun c110 => ?_)
                      · refine g_iinc C [(7, vI (i + (-1))), (5, vI i), (8, vI ((mRoom w i) / 31)), (6, vI fi), (4, vI (q + 4)), (0, .ref a), (1, vI q), (2, vI x), (3, vI y)] 2 rfl dX4_placeFor_117 (by decide) rfl ?_
                        refine g_goto C 15 dX4_placeFor_120 (by decide) ?_
                        refine g_sub [0, 1, 3, 4, 5, 6, 7, 8] rfl ?_
                        refine ih (i + (-1)) i fi (by omega) (by omega) ?_ ?_ ?_
                        · omega
                        · rw [show i + (-1) + 1 = i by omega]
                          refine Or.inr ⟨Int.le_refl _, by omega, hok, by unfold mCl; omega, fun j q1 q2 q3 q4 => ?_, fun j q1 q2 => absurd q1 (by omega)⟩
                          by_cases hj : j = i
                          · subst hj; exact Int.le_refl _
                          · rcases h4 with ⟨-, k2⟩ | ⟨k1, k2, k3, k4, k5, k6⟩
                            · exact absurd q4 (by have := k2 j (by omega) q2 q3; omega)
                            · have := k5 j (by omega) q2 q3 q4
                              unfold mCl at *
                              first | omega | (exfalso; omega)
                        · rw [show i + (-1) + 1 = i by omega]
                          have hno : okm w x y i → mRoom w i < q + 4 := by
                            rintro ⟨k1, k2, k3, k4⟩
                            first | (exact absurd k1 (by assumption)) | (exact absurd (by assumption) k2) | (exact absurd (by assumption) k3) | (exact absurd (by assumption) k4) | omega
                          rcases h5 with ⟨k1, k2⟩ | ⟨k1, k2, k3, k4, k5⟩
                          · refine Or.inl ⟨k1, fun j q1 q2 q3 => ?_⟩
                            by_cases hj : j = i
                            · subst hj; exact hno q3
                            · exact k2 j (by omega) q2 q3
                          · refine Or.inr ⟨by omega, k2, k3, k4, fun j q1 q2 q3 => ?_⟩
                            by_cases hj : j = i
                            · subst hj; exact hno q3
                            · exact k5 j (by omega) q2 q3
                      · refine g_iload C 2 rfl dX4_placeFor_113 ?_
                        refine g_istore C [(6, vI i), (5, vI i), (8, vI ((mRoom w i) / 31)), (7, vI i), (4, vI (q + 4)), (0, .ref a), (1, vI q), (2, vI x), (3, vI y)] dX4_placeFor_115 (by decide) rfl ?_
                        refine g_iinc C [(7, vI (i + (-1))), (6, vI i), (5, vI i), (8, vI ((mRoom w i) / 31)), (4, vI (q + 4)), (0, .ref a), (1, vI q), (2, vI x), (3, vI y)] 3 rfl dX4_placeFor_117 (by decide) rfl ?_
                        refine g_goto C 15 dX4_placeFor_120 (by decide) ?_
                        refine g_sub [0, 2, 1, 4, 5, 6, 7, 8] rfl ?_
                        refine ih (i + (-1)) i i (by omega) (by omega) ?_ ?_ ?_
                        · omega
                        · rw [show i + (-1) + 1 = i by omega]
                          refine Or.inr ⟨Int.le_refl _, by omega, hok, by unfold mCl; omega, fun j q1 q2 q3 q4 => ?_, fun j q1 q2 => absurd q1 (by omega)⟩
                          by_cases hj : j = i
                          · subst hj; exact Int.le_refl _
                          · rcases h4 with ⟨-, k2⟩ | ⟨k1, k2, k3, k4, k5, k6⟩
                            · exact absurd q4 (by have := k2 j (by omega) q2 q3; omega)
                            · have := k5 j (by omega) q2 q3 q4
                              unfold mCl at *
                              first | omega | (exfalso; omega)
                        · rw [show i + (-1) + 1 = i by omega]
                          exact Or.inr ⟨Int.le_refl _, by omega, hok, by omega, fun j q1 q2 => absurd q1 (by omega)⟩
              · refine g_goto C 117 dX4_placeFor_54 (by decide) ?_
                refine g_iinc C [(7, vI (i + (-1))), (5, vI be), (6, vI fi), (4, vI (q + 4)), (0, .ref a), (1, vI q), (2, vI x), (3, vI y)] 0 rfl dX4_placeFor_117 (by decide) rfl ?_
                refine g_goto C 15 dX4_placeFor_120 (by decide) ?_
                refine g_sub [0, 1, 2, 3, 4, 5, 6, 7] rfl ?_
                refine ih (i + (-1)) be fi (by omega) (by omega) ?_ ?_ ?_
                · omega
                · rw [show i + (-1) + 1 = i by omega]
                  have hno : okm w x y i → q + 4 ≤ 31 * mCl w i → (0 ≤ be ∧ mCl w be < mCl w i) := by
                    rintro ⟨k1, k2, k3, k4⟩ hq8
                    have hrm9 := hroom i (by omega) (by omega) k1
                    unfold mCl at *
                    first | (exact absurd k1 (by assumption)) | (exact absurd (by assumption) k2) | (exact absurd (by assumption) k3) | (exact absurd (by assumption) k4) | (exfalso; omega) | (exact ⟨hbe.1.1, by omega⟩)
                  rcases h4 with ⟨k1, k2⟩ | ⟨k1, k2, k3, k4, k5, k6⟩
                  · refine Or.inl ⟨k1, fun j q1 q2 q3 => ?_⟩
                    by_cases hj : j = i
                    · subst hj; exact Int.not_le.mp (fun q5 => by have := hno q3 q5; omega)
                    · exact k2 j (by omega) q2 q3
                  · refine Or.inr ⟨by omega, k2, k3, k4, fun j q1 q2 q3 q4 => ?_, fun j q1 q2 q3 q4 => ?_⟩
                    · by_cases hj : j = i
                      · subst hj; exact Int.le_of_lt (hno q3 q4).2
                      · exact k5 j (by omega) q2 q3 q4
                    · by_cases hj : j = i
                      · subst hj; exact (hno q3 q4).2
                      · exact k6 j (by omega) q2 q3 q4
                · rw [show i + (-1) + 1 = i by omega]
                  have hno : okm w x y i → mRoom w i < q + 4 := by
                    rintro ⟨k1, k2, k3, k4⟩
                    first | (exact absurd k1 (by assumption)) | (exact absurd (by assumption) k2) | (exact absurd (by assumption) k3) | (exact absurd (by assumption) k4) | omega
                  rcases h5 with ⟨k1, k2⟩ | ⟨k1, k2, k3, k4, k5⟩
                  · refine Or.inl ⟨k1, fun j q1 q2 q3 => ?_⟩
                    by_cases hj : j = i
                    · subst hj; exact hno q3
                    · exact k2 j (by omega) q2 q3
                  · refine Or.inr ⟨by omega, k2, k3, k4, fun j q1 q2 q3 => ?_⟩
                    by_cases hj : j = i
                    · subst hj; exact hno q3
                    · exact k5 j (by omega) q2 q3
  refine g_iload_n C 1 rfl dX4_placeFor_0 ?_
  refine g_iconst C 4 rfl dX4_placeFor_1 ?_
  refine g_iadd C dX4_placeFor_2 ?_
  refine g_istore C [(4, vI (q + 4)), (0, .ref a), (1, vI q), (2, vI x), (3, vI y)] dX4_placeFor_3 (by decide) rfl ?_
  refine g_iconst C (-1) rfl dX4_placeFor_5 ?_
  refine g_istore C [(5, vI ((-1))), (4, vI (q + 4)), (0, .ref a), (1, vI q), (2, vI x), (3, vI y)] dX4_placeFor_6 (by decide) rfl ?_
  refine g_iconst C (-1) rfl dX4_placeFor_8 ?_
  refine g_istore C [(6, vI ((-1))), (5, vI ((-1))), (4, vI (q + 4)), (0, .ref a), (1, vI q), (2, vI x), (3, vI y)] dX4_placeFor_9 (by decide) rfl ?_
  refine g_bipush C 95 rfl dX4_placeFor_11 ?_
  refine g_istore C [(7, vI 95), (6, vI ((-1))), (5, vI ((-1))), (4, vI (q + 4)), (0, .ref a), (1, vI q), (2, vI x), (3, vI y)] dX4_placeFor_13 (by decide) rfl ?_
  refine g_sub [0, 2, 1, 3, 4, 5, 6, 7] rfl ?_
  exact loop 96 95 (-1) (-1) (by omega) (by omega) (by omega) (Or.inl ⟨rfl, fun j q1 q2 => absurd q1 (by omega)⟩) (Or.inl ⟨rfl, fun j q1 q2 => absurd q1 (by omega)⟩)
