section
variable {p : Program} {l : Launch} {e : Env} {R : Room} {s : State} {m : MethodId} {args : Array Value} {below : List Frame} {meth : Method} {c : Code} {cells slots nL : Nat} {Q : State → Prop}
variable {cc : ByteArray} {own : String} {ret : Option FieldType} {D : va_G} {cy : ClassId × ClassId} {g : GT} {A : Nat → Prop} {H0 : Heap} {V : VT} {pc : Nat} {lv : List (Nat × Value)} {st : List Value}
theorem g_tableIn (C : Cx p s m args meth c cc nL own ret D cy g A) {x : Int} (hx : rng x) {dflt lo hi off : Int} {offs : Array Int} {len : Nat} (tgt : Nat) (hd : decode cc pc = .ok (.tableswitch dflt lo hi offs, len)) (h1 : lo ≤ x) (h2 : x ≤ hi) (ho : offs[(x - lo).toNat]? = some off) (ht : (pc : Int) + off = (tgt : Int)) (k : G p l e R s m args below meth c nL cells slots Q D cy g A H0 V tgt lv st) : G p l e R s m args below meth c nL cells slots Q D cy g A H0 V pc lv (vI x :: st) := by
  intro H locs ls hP hS hl
  exact lv_tableIn C.1.1 C.1.2.1 hd (by rw [iI_toInt hx]; omega) (by rw [iI_toInt hx]; omega) (by rw [iI_toInt hx]; exact ho) ht (k H locs ls hP hS hl)
theorem g_tableOut (C : Cx p s m args meth c cc nL own ret D cy g A) {x : Int} (hx : rng x) {dflt lo hi : Int} {offs : Array Int} {len : Nat} (tgt : Nat) (hd : decode cc pc = .ok (.tableswitch dflt lo hi offs, len)) (h : x < lo ∨ hi < x) (ht : (pc : Int) + dflt = (tgt : Int)) (k : G p l e R s m args below meth c nL cells slots Q D cy g A H0 V tgt lv st) : G p l e R s m args below meth c nL cells slots Q D cy g A H0 V pc lv (vI x :: st) := by
  intro H locs ls hP hS hl
  exact lv_tableOut C.1.1 C.1.2.1 hd (by rw [iI_toInt hx]; exact h) ht (k H locs ls hP hS hl)
end
def mKd (w : Int → Int → Int) (p s : Int) : Int := if mSz w p s = 0 then 0 else if w 1 (3456 + 32 * p + s) = 32 * p + s then (if w 1 (6528 + (32 * p + s)) = 32 * p + s then 1 else 2) else 3
def mSt (w : Int → Int → Int) (p s : Int) : Int := if mKd w p s = 2 then 1 else 0
def mRc (w : Int → Int → Int) (z x : Int) : Int := if w 1 (6528 + x) ≠ -1 ∧ (z = 0 ∨ w 1 (6528 + x) ≠ x) then 1 else 0
def updt (w : Int → Int → Int) (t : Int) (f : Int → Int) : Int → Int → Int := fun t' j => if t' = t then f j else w t' j
def cpyk (w : Int → Int → Int) (t1 t2 : Int) (k : Int) : Int → Int → Int := fun t j => if t = t2 ∧ 0 ≤ j ∧ j < k then w t1 j else w t j
theorem cpyk_0 (w : Int → Int → Int) (t1 t2 : Int) : cpyk w t1 t2 0 = w := by funext t j; unfold cpyk; rw [if_neg (by omega)]
theorem cpyk_s (w : Int → Int → Int) (t1 t2 k : Int) (hk : 0 ≤ k) (hne : t1 ≠ t2) : upw (cpyk w t1 t2 k) t2 k (w t1 k) = cpyk w t1 t2 (k + 1) := by
  funext t j
  unfold upw cpyk
  by_cases h1 : t = t2 ∧ j = k
  · rw [if_pos h1, if_pos ⟨h1.1, by omega, by omega⟩, h1.2]
  · rw [if_neg h1]
    by_cases h2 : t = t2 ∧ 0 ≤ j ∧ j < k
    · rw [if_pos h2, if_pos ⟨h2.1, by omega, by omega⟩]
    · rw [if_neg h2, if_neg (fun h3 => by by_cases h4 : j = k
                                          · exact h1 ⟨h3.1, h4⟩
                                          · exact h2 ⟨h3.1, h3.2.1, by omega⟩)]
theorem mDel_0 {w : Int → Int → Int} {x : Int} {L0 : List Int} {t j : Int} (ht : t ≠ 1) : mDel w x L0 t j = w t j := by
  have e1 : ∀ u p s, mTake u p s t j = u t j := by intro u p s; unfold mTake; split <;> simp [upw, ht]
  unfold mDel
  rw [upw_t ht, upw_t ht, mFreeL_out (Or.inl ht)]
  split
  · rw [e1]
  · rw [e1, e1]
theorem mt_0 {w : Int → Int → Int} {len : Int} {k : Nat} {t j : Int} (ht : t ≠ 1) : (mtN w len k).1 t j = w t j := by
  induction k with
  | zero => rfl
  | succ k ih =>
    show (mtStep len k (mtN w len k)).1 t j = _
    unfold mtStep
    split <;> simp [upw, ht, ih]
theorem InsM_0 {w w' : Int → Int → Int} {q sd r t j : Int} (h : InsM w q sd r w') (ht : t ≠ 1) (hj : t ≠ 0 ∨ j ≠ 4) : w' t j = w t j := by
  rcases h with ⟨-, -, rfl⟩ | ⟨-, pl, -, ⟨-, -, L, -, rfl⟩ | ⟨-, t9, -, -, -, rfl⟩⟩
  · rfl
  · rw [mFreeL_out (Or.inl ht), mt_0 ht]
  · unfold mKeep; rw [upw_t ht, upw_t ht, upw_t ht, upw_t ht, mPut_0 ht hj, mt_0 ht]
theorem mTake_0 {w : Int → Int → Int} {p s t j : Int} (ht : t ≠ 1) : mTake w p s t j = w t j := by unfold mTake; split <;> simp [upw, ht]
theorem mKeep_0 {w : Int → Int → Int} {x c n sd f t j : Int} (ht : t ≠ 1) : mKeep w x c n sd f t j = w t j := by unfold mKeep; rw [upw_t ht, upw_t ht, upw_t ht, upw_t ht]
theorem UpdC_0 {S u : Int → Int → Int} {x c q sd f r t j : Int} (h : UpdC S x c q sd f r u) (ht : t ≠ 1) (hj : t ≠ 0 ∨ j ≠ 4) : u t j = S t j := by
  rcases h with ⟨-, -, rfl⟩ | ⟨-, -, -, -, rfl⟩ | ⟨-, -, pl, -, ⟨-, -, rfl⟩ | ⟨-, -, t9, -, -, rfl⟩⟩
  · rw [mKeep_0 ht]; split
    · rw [mPut_0 ht hj]
    · rw [mTake_0 ht, mPut_0 ht hj]
  · rw [mKeep_0 ht, mPut_0 ht hj]
  · rfl
  · rw [mKeep_0 ht]; split
    · rw [mPut_0 ht hj, mPut_0 ht hj]
    · rw [mTake_0 ht, mPut_0 ht hj]
theorem UpdM_0 {w w' : Int → Int → Int} {x q sd r t j : Int} {L0 : List Int} (h : UpdM w x q sd L0 r w') (ht : t ≠ 1) (hj : t ≠ 0 ∨ j ≠ 4) : w' t j = w t j := by
  rcases h with ⟨-, -, rfl⟩ | ⟨-, u, h1, ⟨-, rfl⟩ | ⟨-, L, -, rfl⟩⟩
  · rfl
  · rw [mFreeL_out (Or.inl ht), UpdC_0 h1 ht hj, mt_0 ht]
  · rw [mFreeL_out (Or.inl ht), UpdC_0 h1 ht hj, mt_0 ht]
theorem UpdM_r {w w' : Int → Int → Int} {x q sd r : Int} {L0 : List Int} (h : UpdM w x q sd L0 r w') : r = 0 ∨ r = 1 := by
  rcases h with ⟨-, h, -⟩ | ⟨-, u, h1, ⟨h, -⟩ | ⟨h, -⟩⟩
  · exact Or.inl h
  · exact Or.inr h
  · exact Or.inl h
theorem InsM_r {w w' : Int → Int → Int} {q sd r : Int} (h : InsM w q sd r w') : -1 ≤ r ∧ r < 3072 := by
  rcases h with ⟨-, h, -⟩ | ⟨-, pl, h1, ⟨-, h, -⟩ | ⟨h2, t, -, h3, h4, -⟩⟩
  · omega
  · omega
  · have := (isPlM_ok h1).resolve_left h2; omega
theorem mwf_7 {w : Int → Int → Int} (h : mwf w) (v : Int) : mwf (upw w 0 7 v) := mwf_up0 h (by decide)
set_option maxHeartbeats 4000000 in
set_option maxRecDepth 100000 in
theorem c_X4_deletes (l : Launch) (D : va_G) (cy : ClassId × ClassId) (g : GT) (V : VT) (w : Int → Int → Int) (a : Nat) (o : Int) (x c old : Int) (L0 : List Int) (hap : Apart g) (hm : isMod g a o) (hw : mwf w) (hx : 0 ≤ x ∧ x < 3072) (hcc : w 1 (6528 + x) = c) (hc9 : 0 ≤ c ∧ c < 3072) (hold : w 1 (15744 + x) = old) (hL0 : isCh (mNx w) L0 old) : MetV l yX4_deletes cX4_deletes 3 none 3 D cy g [.ref a, vI x] (setp V o w) (fun V' => V' = setp V o (mDel w x L0)) := by
  obtain ⟨hm1, r1, r2, r3, ⟨hr1, ha1⟩, ⟨hr2, ha2⟩, ⟨hr3, ha3⟩⟩ := id hm
  refine MetV.of (by decide) (Nat.le_of_ble_eq_true rfl) hap ?_
  intro p_ e_ s_ m_ args_ below_ meth_ c_ C
  refine g_aload_n C 0 rfl dX4_deletes_0 ?_
  refine gf_Mod_d C hm1 hr1 lf_X4_7 dX4_deletes_1 ?_
  refine g_sipush C 6528 rfl dX4_deletes_4 ?_
  refine g_iload_n C 1 rfl dX4_deletes_7 ?_
  refine g_iadd C dX4_deletes_8 ?_
  refine s_iald C c ha1 (by omega) (by decide) hcc dX4_deletes_9 ?_
  refine g_istore_n C [(2, vI c), (0, .ref a), (1, vI x)] dX4_deletes_10 rfl (by decide) rfl ?_
  refine g_aload_n C 1 rfl dX4_deletes_11 ?_
  refine g_iload_n C 0 rfl dX4_deletes_12 ?_
  refine g_bipush C 32 rfl dX4_deletes_13 ?_
  refine g_idiv C (by omega) (by omega) dX4_deletes_15 ?_
  refine g_iload_n C 0 rfl dX4_deletes_16 ?_
  refine g_bipush C 32 rfl dX4_deletes_17 ?_
  refine g_irem C (by omega) (by omega) dX4_deletes_19 ?_
  refine g_callV C [vI (c / 32), vI (c % 32)] [] (c_X4_takeCell l D cy g V w a o (c / 32) (c % 32) hap hm hw (by omega) (by omega)) lm_X4_91 (rcv_Mod hm.1) rfl (Nat.le_of_ble_eq_true rfl) ⟨(Nat.le_of_ble_eq_true rfl), (Nat.le_of_ble_eq_true rfl)⟩ ⟨Nat.zero_le _, Nat.zero_le _⟩ dX4_deletes_20 ?_
  rintro _ rfl
  refine g_iload_n C 0 rfl dX4_deletes_23 ?_
  refine g_iload_n C 2 rfl dX4_deletes_24 ?_
  refine g_icmp_eq C (by unfold rng; omega) (by unfold rng; omega) 40 dX4_deletes_25 (by decide) (fun c25 => ?_) (fun c25 => ?_)
  · refine g_aload_n C 1 rfl dX4_deletes_40 ?_
    refine g_aload_n C 1 rfl dX4_deletes_41 ?_
    refine gf_Mod_d C hm1 hr1 lf_X4_7 dX4_deletes_42 ?_
    refine g_sipush C 15744 rfl dX4_deletes_45 ?_
    refine g_iload_n C 2 rfl dX4_deletes_48 ?_
    refine g_iadd C dX4_deletes_49 ?_
    refine s_iald C old ha1 (by omega) (by decide) (show (mTake w (c / 32) (c % 32)) 1 (15744 + x) = old by rw [mTake_far (by omega) (by omega) (by omega)]; exact hold) dX4_deletes_50 ?_
    refine g_callV C [vI old] [] (c_X4_freeChain l D cy g V (mTake w (c / 32) (c % 32)) a o old L0 hap hm (isCh_congr (fun z hz => by have z1 := (isCh_rng hL0).1 z hz; show (mTake w (c / 32) (c % 32)) 1 (192 + z) = w 1 (192 + z); rw [mTake_far (by omega) (by omega) (by omega)]) hL0)) lm_X4_72 (rcv_Mod hm.1) rfl (Nat.le_of_ble_eq_true rfl) ⟨(Nat.le_of_ble_eq_true rfl), (Nat.le_of_ble_eq_true rfl)⟩ ⟨Nat.zero_le _, Nat.zero_le _⟩ dX4_deletes_51 ?_
    rintro _ rfl
    refine g_aload_n C 1 rfl dX4_deletes_54 ?_
    refine gf_Mod_d C hm1 hr1 lf_X4_7 dX4_deletes_55 ?_
    refine g_sipush C 6528 rfl dX4_deletes_58 ?_
    refine g_iload_n C 2 rfl dX4_deletes_61 ?_
    refine g_iadd C dX4_deletes_62 ?_
    refine g_iconst C (-1) rfl dX4_deletes_63 ?_
    refine s_iast C ha1 (by omega) (by decide) dX4_deletes_64 ?_
    refine g_aload_n C 1 rfl dX4_deletes_65 ?_
    refine gf_Mod_d C hm1 hr1 lf_X4_7 dX4_deletes_66 ?_
    refine g_sipush C 15744 rfl dX4_deletes_69 ?_
    refine g_iload_n C 2 rfl dX4_deletes_72 ?_
    refine g_iadd C dX4_deletes_73 ?_
    refine g_iconst C (-1) rfl dX4_deletes_74 ?_
    refine s_iast C ha1 (by omega) (by decide) dX4_deletes_75 ?_
    refine g_vret C dX4_deletes_76 ?_
    congr 1
    unfold mDel
    rw [hcc, if_pos c25, c25]
  · refine g_aload_n C 1 rfl dX4_deletes_28 ?_
    refine g_iload_n C 2 rfl dX4_deletes_29 ?_
    refine g_bipush C 32 rfl dX4_deletes_30 ?_
    refine g_idiv C (by omega) (by omega) dX4_deletes_32 ?_
    refine g_iload_n C 2 rfl dX4_deletes_33 ?_
    refine g_bipush C 32 rfl dX4_deletes_34 ?_
    refine g_irem C (by omega) (by omega) dX4_deletes_36 ?_
    refine g_callV C [vI (x / 32), vI (x % 32)] [] (c_X4_takeCell l D cy g V (mTake w (c / 32) (c % 32)) a o (x / 32) (x % 32) hap hm (mwf_take hw) (by omega) (by omega)) lm_X4_91 (rcv_Mod hm.1) rfl (Nat.le_of_ble_eq_true rfl) ⟨(Nat.le_of_ble_eq_true rfl), (Nat.le_of_ble_eq_true rfl)⟩ ⟨Nat.zero_le _, Nat.zero_le _⟩ dX4_deletes_37 ?_
    rintro _ rfl
    refine g_aload_n C 1 rfl dX4_deletes_40 ?_
    refine g_aload_n C 1 rfl dX4_deletes_41 ?_
    refine gf_Mod_d C hm1 hr1 lf_X4_7 dX4_deletes_42 ?_
    refine g_sipush C 15744 rfl dX4_deletes_45 ?_
    refine g_iload_n C 2 rfl dX4_deletes_48 ?_
    refine g_iadd C dX4_deletes_49 ?_
    refine s_iald C old ha1 (by omega) (by decide) (show (mTake (mTake w (c / 32) (c % 32)) (x / 32) (x % 32)) 1 (15744 + x) = old by rw [mTake_far (by omega) (by omega) (by omega), mTake_far (by omega) (by omega) (by omega)]; exact hold) dX4_deletes_50 ?_
    refine g_callV C [vI old] [] (c_X4_freeChain l D cy g V (mTake (mTake w (c / 32) (c % 32)) (x / 32) (x % 32)) a o old L0 hap hm (isCh_congr (fun z hz => by have z1 := (isCh_rng hL0).1 z hz; show (mTake (mTake w (c / 32) (c % 32)) (x / 32) (x % 32)) 1 (192 + z) = w 1 (192 + z); rw [mTake_far (by omega) (by omega) (by omega), mTake_far (by omega) (by omega) (by omega)]) hL0)) lm_X4_72 (rcv_Mod hm.1) rfl (Nat.le_of_ble_eq_true rfl) ⟨(Nat.le_of_ble_eq_true rfl), (Nat.le_of_ble_eq_true rfl)⟩ ⟨Nat.zero_le _, Nat.zero_le _⟩ dX4_deletes_51 ?_
    rintro _ rfl
    refine g_aload_n C 1 rfl dX4_deletes_54 ?_
    refine gf_Mod_d C hm1 hr1 lf_X4_7 dX4_deletes_55 ?_
    refine g_sipush C 6528 rfl dX4_deletes_58 ?_
    refine g_iload_n C 2 rfl dX4_deletes_61 ?_
    refine g_iadd C dX4_deletes_62 ?_
    refine g_iconst C (-1) rfl dX4_deletes_63 ?_
    refine s_iast C ha1 (by omega) (by decide) dX4_deletes_64 ?_
    refine g_aload_n C 1 rfl dX4_deletes_65 ?_
    refine gf_Mod_d C hm1 hr1 lf_X4_7 dX4_deletes_66 ?_
    refine g_sipush C 15744 rfl dX4_deletes_69 ?_
    refine g_iload_n C 2 rfl dX4_deletes_72 ?_
    refine g_iadd C dX4_deletes_73 ?_
    refine g_iconst C (-1) rfl dX4_deletes_74 ?_
    refine s_iast C ha1 (by omega) (by decide) dX4_deletes_75 ?_
    refine g_vret C dX4_deletes_76 ?_
    congr 1
    unfold mDel
    rw [hcc, if_neg c25]
set_option maxHeartbeats 4000000 in
set_option maxRecDepth 100000 in
theorem c_X4_kindOf (l : Launch) (D : va_G) (cy : ClassId × ClassId) (g : GT) (V : VT) (w : Int → Int → Int) (a : Nat) (o : Int) (p s : Int) (hap : Apart g) (hm : isMod g a o) (hw : mwf w) (hp : 0 ≤ p ∧ p < 96) (hs : 0 ≤ s ∧ s < 32) : MetI l yX4_kindOf cX4_kindOf 5 (some .int) 1 D cy g [.ref a, vI p, vI s] (setp V o w) (fun r V' => r = mKd w p s ∧ V' = setp V o w) := by
  obtain ⟨hm1, r1, r2, r3, ⟨hr1, ha1⟩, ⟨hr2, ha2⟩, ⟨hr3, ha3⟩⟩ := id hm
  refine MetI.of (by decide) (Nat.le_of_ble_eq_true rfl) hap ?_
  intro p_ e_ s_ m_ args_ below_ meth_ c_ C
  refine g_aload_n C 0 rfl dX4_kindOf_0 ?_
  refine g_iload_n C 1 rfl dX4_kindOf_1 ?_
  refine g_iload_n C 2 rfl dX4_kindOf_2 ?_
  refine g_callI C [vI p, vI s] [] (c_X4_sizeOf l D cy g V w a o p s hap hm (by omega) (by omega)) lm_X4_27 (rcv_Mod hm.1) rfl (Nat.le_of_ble_eq_true rfl) ⟨(Nat.le_of_ble_eq_true rfl), (Nat.le_of_ble_eq_true rfl)⟩ ⟨Nat.zero_le _, Nat.zero_le _⟩ dX4_kindOf_3 ?_
  rintro _ _ ⟨rfl, rfl⟩
  refine g_if_ne C (by have z9 : sm (mSz w p s) := hw _ (by omega) (by omega); unfold sm at z9; unfold rng; omega) 11 dX4_kindOf_6 (by decide) (fun c6 => ?_) (fun c6 => ?_)
  · refine g_aload_n C 0 rfl dX4_kindOf_11 ?_
    refine gf_Mod_d C hm1 hr1 lf_X4_7 dX4_kindOf_12 ?_
    refine g_sipush C 3456 rfl dX4_kindOf_15 ?_
    refine g_bipush C 32 rfl dX4_kindOf_18 ?_
    refine g_iload_n C 1 rfl dX4_kindOf_20 ?_
    refine g_imul C dX4_kindOf_21 ?_
    refine g_iadd C dX4_kindOf_22 ?_
    refine g_iload_n C 2 rfl dX4_kindOf_23 ?_
    refine g_iadd C dX4_kindOf_24 ?_
    refine s_iald C (w 1 ((3456 + (32 * p)) + s)) ha1 (by omega) (by decide) rfl dX4_kindOf_25 ?_
    refine g_istore_n C [(3, vI (w 1 ((3456 + (32 * p)) + s))), (0, .ref a), (1, vI p), (2, vI s)] dX4_kindOf_26 rfl (by decide) rfl ?_
    refine g_bipush C 32 rfl dX4_kindOf_27 ?_
    refine g_iload_n C 2 rfl dX4_kindOf_29 ?_
    refine g_imul C dX4_kindOf_30 ?_
    refine g_iload_n C 3 rfl dX4_kindOf_31 ?_
    refine g_iadd C dX4_kindOf_32 ?_
    refine g_istore C [(4, vI ((32 * p) + s)), (3, vI (w 1 ((3456 + (32 * p)) + s))), (0, .ref a), (1, vI p), (2, vI s)] dX4_kindOf_33 (by decide) rfl ?_
    refine g_iload_n C 1 rfl dX4_kindOf_35 ?_
    refine g_iload C 0 rfl dX4_kindOf_36 ?_
    refine g_icmp_eq C (by have z9 := hw (3456 + 32 * p + s) (by omega) (by omega); unfold sm at z9; unfold rng; omega) (by unfold rng; omega) 45 dX4_kindOf_38 (by decide) (fun c38 => ?_) (fun c38 => ?_)
    · refine g_aload_n C 2 rfl dX4_kindOf_45 ?_
      refine gf_Mod_d C hm1 hr1 lf_X4_7 dX4_kindOf_46 ?_
      refine g_sipush C 6528 rfl dX4_kindOf_49 ?_
      refine g_iload_n C 1 rfl dX4_kindOf_52 ?_
      refine g_iadd C dX4_kindOf_53 ?_
      refine s_iald C (w 1 (6528 + (w 1 ((3456 + (32 * p)) + s)))) ha1 (by omega) (by decide) rfl dX4_kindOf_54 ?_
      refine g_iload C 0 rfl dX4_kindOf_55 ?_
      refine g_icmp_ne C (by have z9 := hw (6528 + w 1 (3456 + 32 * p + s)) (by omega) (by omega); unfold sm at z9; unfold rng; omega) (by unfold rng; omega) 64 dX4_kindOf_57 (by decide) (fun c57 => ?_) (fun c57 => ?_)
      · refine g_iconst C 2 rfl dX4_kindOf_64 ?_
        refine g_iret C dX4_kindOf_65 ⟨?_, rfl⟩
        unfold mKd
        rw [if_neg c6]
        rw [if_pos c38, ← c38]
        rw [if_neg (fun h => c57 (h.trans c38))]
      · refine g_iconst C 1 rfl dX4_kindOf_60 ?_
        refine g_goto C 65 dX4_kindOf_61 (by decide) ?_
        refine g_iret C dX4_kindOf_65 ⟨?_, rfl⟩
        unfold mKd
        rw [if_neg c6]
        rw [if_pos c38, ← c38]
        rw [if_pos (c57.trans c38.symm)]
    · refine g_iconst C 3 rfl dX4_kindOf_41 ?_
      refine g_goto C 65 dX4_kindOf_42 (by decide) ?_
      refine g_iret C dX4_kindOf_65 ⟨?_, rfl⟩
      unfold mKd
      rw [if_neg c6]
      rw [if_neg c38]
  · refine g_iconst C 0 rfl dX4_kindOf_9 ?_
    refine g_iret C dX4_kindOf_10 ⟨?_, rfl⟩
    unfold mKd
    rw [if_pos c6]
theorem mKd_bd (w : Int → Int → Int) (p s : Int) : 0 ≤ mKd w p s ∧ mKd w p s ≤ 3 := by unfold mKd; repeat' split; all_goals omega
set_option maxHeartbeats 4000000 in
set_option maxRecDepth 100000 in
theorem c_X4_stubs (l : Launch) (D : va_G) (cy : ClassId × ClassId) (g : GT) (V : VT) (w : Int → Int → Int) (a : Nat) (o : Int) (p : Int) (hap : Apart g) (hm : isMod g a o) (hw : mwf w) (hp : 0 ≤ p ∧ p < 96) : MetI l yX4_stubs cX4_stubs 4 (some .int) 2 D cy g [.ref a, vI p] (setp V o w) (fun r V' => r = sumF (mSt w p) 32 ∧ V' = setp V o w) := by
  obtain ⟨hm1, r1, r2, r3, ⟨hr1, ha1⟩, ⟨hr2, ha2⟩, ⟨hr3, ha3⟩⟩ := id hm
  refine MetI.of (by decide) (Nat.le_of_ble_eq_true rfl) hap ?_
  intro p_ e_ s_ m_ args_ below_ meth_ c_ C
  have loop : ∀ (n : Nat) (k : Nat), k + n = 32 → G p_ l e_ (rmd 2) s_ m_ args_ below_ meth_ c_ 4 0 0 (MQ below_ (QcI D cy g (fun r V' => r = sumF (mSt w p) 32 ∧ V' = setp V o w)) args_ s_ 0 0 (fun q => q ∈ gL g)) D cy g (fun q => q ∈ gL g) s_.heap (setp V o w) 4 [(3, vI ((k : Int))), (2, vI (sumF (mSt w p) k)), (0, .ref a), (1, vI p)] [] := by
    intro n
    induction n with
    | zero =>
      intro k hkn
      have hk : k = 32 := by omega
      subst hk
      refine g_iload_n C 0 rfl dX4_stubs_4 ?_
      refine g_bipush C 32 rfl dX4_stubs_5 ?_
      refine g_icmp_ge C (by unfold rng; omega) (by unfold rng; omega) 34 dX4_stubs_7 (by decide) (fun c7 => ?_) (fun c7 => absurd c7 (by omega))
      refine g_iload_n C 1 rfl dX4_stubs_34 ?_
      exact g_iret C dX4_stubs_35 ⟨rfl, rfl⟩
    | succ n ih =>
      intro k hkn
      refine g_iload_n C 0 rfl dX4_stubs_4 ?_
      refine g_bipush C 32 rfl dX4_stubs_5 ?_
      refine g_icmp_ge C (by unfold rng; omega) (by unfold rng; omega) 34 dX4_stubs_7 (by decide) (fun c7 => absurd c7 (by omega)) (fun c7 => ?_)
      refine g_iload_n C 1 rfl dX4_stubs_10 ?_
      refine g_aload_n C 2 rfl dX4_stubs_11 ?_
      refine g_iload_n C 3 rfl dX4_stubs_12 ?_
      refine g_iload_n C 0 rfl dX4_stubs_13 ?_
      refine g_callI C [vI p, vI ((k : Int))] [vI (sumF (mSt w p) k)] (c_X4_kindOf l D cy g V w a o p ((k : Int)) hap hm hw (by omega) (by omega)) lm_X4_122 (rcv_Mod hm.1) rfl (Nat.le_of_ble_eq_true rfl) ⟨(Nat.le_of_ble_eq_true rfl), (Nat.le_of_ble_eq_true rfl)⟩ ⟨Nat.zero_le _, Nat.zero_le _⟩ dX4_stubs_14 ?_
      rintro _ _ ⟨rfl, rfl⟩
      have hkb := mKd_bd w p k
      refine g_iconst C 2 rfl dX4_stubs_17 ?_
      refine g_icmp_ne C (by unfold rng; omega) (by unfold rng; omega) 25 dX4_stubs_18 (by decide) (fun c18 => ?_) (fun c18 => ?_)
      · refine g_iconst C 0 rfl dX4_stubs_25 ?_
        refine g_iadd C dX4_stubs_26 ?_
        refine g_istore_n C [(2, vI ((sumF (mSt w p) k) + 0)), (3, vI ((k : Int))), (0, .ref a), (1, vI p)] dX4_stubs_27 rfl (by decide) rfl ?_
        refine g_iinc C [(3, vI (((k : Int)) + 1)), (2, vI ((sumF (mSt w p) k) + 0)), (0, .ref a), (1, vI p)] 1 rfl dX4_stubs_28 (by decide) rfl ?_
        refine g_goto C 4 dX4_stubs_31 (by decide) ?_
        refine g_sub [0, 1, 2, 3] rfl ?_
        have e1 : sumF (mSt w p) (k + 1) = sumF (mSt w p) k + 0 := by show sumF (mSt w p) k + mSt w p k = _; unfold mSt; rw [if_neg c18]
        have h9 := ih (k + 1) (by omega)
        rw [e1] at h9
        exact h9
      · refine g_iconst C 1 rfl dX4_stubs_21 ?_
        refine g_goto C 26 dX4_stubs_22 (by decide) ?_
        refine g_iadd C dX4_stubs_26 ?_
        refine g_istore_n C [(2, vI ((sumF (mSt w p) k) + 1)), (3, vI ((k : Int))), (0, .ref a), (1, vI p)] dX4_stubs_27 rfl (by decide) rfl ?_
        refine g_iinc C [(3, vI (((k : Int)) + 1)), (2, vI ((sumF (mSt w p) k) + 1)), (0, .ref a), (1, vI p)] 1 rfl dX4_stubs_28 (by decide) rfl ?_
        refine g_goto C 4 dX4_stubs_31 (by decide) ?_
        refine g_sub [0, 1, 2, 3] rfl ?_
        have e1 : sumF (mSt w p) (k + 1) = sumF (mSt w p) k + 1 := by show sumF (mSt w p) k + mSt w p k = _; unfold mSt; rw [if_pos c18]
        have h9 := ih (k + 1) (by omega)
        rw [e1] at h9
        exact h9
  refine g_iconst C 0 rfl dX4_stubs_0 ?_
  refine g_istore_n C [(2, vI 0), (0, .ref a), (1, vI p)] dX4_stubs_1 rfl (by decide) rfl ?_
  refine g_iconst C 0 rfl dX4_stubs_2 ?_
  refine g_istore_n C [(3, vI 0), (2, vI 0), (0, .ref a), (1, vI p)] dX4_stubs_3 rfl (by decide) rfl ?_
  refine g_sub [0, 1, 2, 3] rfl ?_
  exact loop 32 0 (by omega)
set_option maxHeartbeats 4000000 in
set_option maxRecDepth 100000 in
theorem c_X4_records (l : Launch) (D : va_G) (cy : ClassId × ClassId) (g : GT) (V : VT) (w : Int → Int → Int) (a : Nat) (o : Int) (z : Int) (hap : Apart g) (hm : isMod g a o) (hw : mwf w) (hz : z = 0 ∨ z = 1) : MetI l yX4_records cX4_records 4 (some .int) 1 D cy g [.ref a, vI z] (setp V o w) (fun r V' => r = sumF (mRc w z) 3072 ∧ V' = setp V o w) := by
  obtain ⟨hm1, r1, r2, r3, ⟨hr1, ha1⟩, ⟨hr2, ha2⟩, ⟨hr3, ha3⟩⟩ := id hm
  refine MetI.of (by decide) (Nat.le_of_ble_eq_true rfl) hap ?_
  intro p_ e_ s_ m_ args_ below_ meth_ c_ C
  have loop : ∀ (n : Nat) (k : Nat), k + n = 3072 → G p_ l e_ (rmd 1) s_ m_ args_ below_ meth_ c_ 4 0 0 (MQ below_ (QcI D cy g (fun r V' => r = sumF (mRc w z) 3072 ∧ V' = setp V o w)) args_ s_ 0 0 (fun q => q ∈ gL g)) D cy g (fun q => q ∈ gL g) s_.heap (setp V o w) 4 [(3, vI ((k : Int))), (2, vI (sumF (mRc w z) k)), (0, .ref a), (1, vI z)] [] := by
    intro n
    induction n with
    | zero =>
      intro k hkn
      have hk : k = 3072 := by omega
      subst hk
      refine g_iload_n C 0 rfl dX4_records_4 ?_
      refine g_sipush C 3072 rfl dX4_records_5 ?_
      refine g_icmp_ge C (by unfold rng; omega) (by unfold rng; omega) 51 dX4_records_8 (by decide) (fun c8 => ?_) (fun c8 => absurd c8 (by omega))
      refine g_iload_n C 1 rfl dX4_records_51 ?_
      exact g_iret C dX4_records_52 ⟨rfl, rfl⟩
    | succ n ih =>
      intro k hkn
      refine g_iload_n C 0 rfl dX4_records_4 ?_
      refine g_sipush C 3072 rfl dX4_records_5 ?_
      refine g_icmp_ge C (by unfold rng; omega) (by unfold rng; omega) 51 dX4_records_8 (by decide) (fun c8 => absurd c8 (by omega)) (fun c8 => ?_)
      refine g_iload_n C 1 rfl dX4_records_11 ?_
      refine g_aload_n C 2 rfl dX4_records_12 ?_
      refine g_iload_n C 0 rfl dX4_records_13 ?_
      refine g_callI C [vI ((k : Int))] [vI (sumF (mRc w z) k)] (c_X4_isRecord l D cy g V w a o ((k : Int)) hap hm hw (by unfold rng; omega)) lm_X4_112 (rcv_Mod hm.1) rfl (Nat.le_of_ble_eq_true rfl) ⟨(Nat.le_of_ble_eq_true rfl), (Nat.le_of_ble_eq_true rfl)⟩ ⟨Nat.zero_le _, Nat.zero_le _⟩ dX4_records_14 ?_
      rintro _ _ ⟨rfl, rfl⟩
      refine g_if_eq C (by split <;> exact ⟨by decide, by decide⟩) 42 dX4_records_17 (by decide) (fun c17 => ?_) (fun c17 => ?_)
      · refine g_iconst C 0 rfl dX4_records_42 ?_
        refine g_iadd C dX4_records_43 ?_
        refine g_istore_n C [(2, vI ((sumF (mRc w z) k) + 0)), (3, vI ((k : Int))), (0, .ref a), (1, vI z)] dX4_records_44 rfl (by decide) rfl ?_
        refine g_iinc C [(3, vI (((k : Int)) + 1)), (2, vI ((sumF (mRc w z) k) + 0)), (0, .ref a), (1, vI z)] 1 rfl dX4_records_45 (by decide) rfl ?_
        refine g_goto C 4 dX4_records_48 (by decide) ?_
        refine g_sub [0, 1, 2, 3] rfl ?_
        have e1 : sumF (mRc w z) (k + 1) = sumF (mRc w z) k + 0 := by
          show sumF (mRc w z) k + mRc w z k = _
          have hif : w 1 (6528 + (k : Int)) ≠ -1 ↔ ¬ (if (0 ≤ (k : Int) ∧ (k : Int) < 3072) ∧ w 1 (6528 + (k : Int)) ≠ -1 then (1 : Int) else 0) = 0 := by
            by_cases hh : w 1 (6528 + (k : Int)) = -1
            · rw [if_neg (fun h => h.2 hh)]; exact ⟨fun h => absurd hh h, fun h => absurd rfl h⟩
            · rw [if_pos ⟨⟨by omega, by omega⟩, hh⟩]; exact ⟨fun _ => by decide, fun _ => hh⟩
          congr 1
          unfold mRc
          rw [if_neg]
          rintro ⟨q1, q2⟩
          first | exact absurd c17 (hif.mp q1) | (rcases q2 with q2 | q2; exact c21 q2; exact q2 c35)
        have h9 := ih (k + 1) (by omega)
        rw [e1] at h9
        exact h9
      · refine g_iload_n C 3 rfl dX4_records_20 ?_
        refine g_if_eq C (by unfold rng; omega) 38 dX4_records_21 (by decide) (fun c21 => ?_) (fun c21 => ?_)
        · refine g_iconst C 1 rfl dX4_records_38 ?_
          refine g_goto C 43 dX4_records_39 (by decide) ?_
          refine g_iadd C dX4_records_43 ?_
          refine g_istore_n C [(2, vI ((sumF (mRc w z) k) + 1)), (3, vI ((k : Int))), (0, .ref a), (1, vI z)] dX4_records_44 rfl (by decide) rfl ?_
          refine g_iinc C [(3, vI (((k : Int)) + 1)), (2, vI ((sumF (mRc w z) k) + 1)), (0, .ref a), (1, vI z)] 1 rfl dX4_records_45 (by decide) rfl ?_
          refine g_goto C 4 dX4_records_48 (by decide) ?_
          refine g_sub [0, 1, 2, 3] rfl ?_
          have e1 : sumF (mRc w z) (k + 1) = sumF (mRc w z) k + 1 := by
            show sumF (mRc w z) k + mRc w z k = _
            have hif : w 1 (6528 + (k : Int)) ≠ -1 ↔ ¬ (if (0 ≤ (k : Int) ∧ (k : Int) < 3072) ∧ w 1 (6528 + (k : Int)) ≠ -1 then (1 : Int) else 0) = 0 := by
              by_cases hh : w 1 (6528 + (k : Int)) = -1
              · rw [if_neg (fun h => h.2 hh)]; exact ⟨fun h => absurd hh h, fun h => absurd rfl h⟩
              · rw [if_pos ⟨⟨by omega, by omega⟩, hh⟩]; exact ⟨fun _ => by decide, fun _ => hh⟩
            congr 1
            unfold mRc
            rw [if_pos]
            first | exact ⟨hif.mpr c17, Or.inl c21⟩ | exact ⟨hif.mpr c17, Or.inr c35⟩
          have h9 := ih (k + 1) (by omega)
          rw [e1] at h9
          exact h9
        · refine g_aload_n C 2 rfl dX4_records_24 ?_
          refine gf_Mod_d C hm1 hr1 lf_X4_7 dX4_records_25 ?_
          refine g_sipush C 6528 rfl dX4_records_28 ?_
          refine g_iload_n C 0 rfl dX4_records_31 ?_
          refine g_iadd C dX4_records_32 ?_
          refine s_iald C (w 1 (6528 + ((k : Int)))) ha1 (by omega) (by decide) rfl dX4_records_33 ?_
          refine g_iload_n C 0 rfl dX4_records_34 ?_
          refine g_icmp_eq C (by have z9 := hw (6528 + (k : Int)) (by omega) (by omega); unfold sm at z9; unfold rng; omega) (by unfold rng; omega) 42 dX4_records_35 (by decide) (fun c35 => ?_) (fun c35 => ?_)
          · refine g_iconst C 0 rfl dX4_records_42 ?_
            refine g_iadd C dX4_records_43 ?_
            refine g_istore_n C [(2, vI ((sumF (mRc w z) k) + 0)), (3, vI ((k : Int))), (0, .ref a), (1, vI z)] dX4_records_44 rfl (by decide) rfl ?_
            refine g_iinc C [(3, vI (((k : Int)) + 1)), (2, vI ((sumF (mRc w z) k) + 0)), (0, .ref a), (1, vI z)] 1 rfl dX4_records_45 (by decide) rfl ?_
            refine g_goto C 4 dX4_records_48 (by decide) ?_
            refine g_sub [0, 1, 2, 3] rfl ?_
            have e1 : sumF (mRc w z) (k + 1) = sumF (mRc w z) k + 0 := by
              show sumF (mRc w z) k + mRc w z k = _
              have hif : w 1 (6528 + (k : Int)) ≠ -1 ↔ ¬ (if (0 ≤ (k : Int) ∧ (k : Int) < 3072) ∧ w 1 (6528 + (k : Int)) ≠ -1 then (1 : Int) else 0) = 0 := by
                by_cases hh : w 1 (6528 + (k : Int)) = -1
                · rw [if_neg (fun h => h.2 hh)]; exact ⟨fun h => absurd hh h, fun h => absurd rfl h⟩
                · rw [if_pos ⟨⟨by omega, by omega⟩, hh⟩]; exact ⟨fun _ => by decide, fun _ => hh⟩
              congr 1
              unfold mRc
              rw [if_neg]
              rintro ⟨q1, q2⟩
              first | exact absurd c17 (hif.mp q1) | (rcases q2 with q2 | q2; exact c21 q2; exact q2 c35)
            have h9 := ih (k + 1) (by omega)
            rw [e1] at h9
            exact h9
          · refine g_iconst C 1 rfl dX4_records_38 ?_
            refine g_goto C 43 dX4_records_39 (by decide) ?_
            refine g_iadd C dX4_records_43 ?_
            refine g_istore_n C [(2, vI ((sumF (mRc w z) k) + 1)), (3, vI ((k : Int))), (0, .ref a), (1, vI z)] dX4_records_44 rfl (by decide) rfl ?_
            refine g_iinc C [(3, vI (((k : Int)) + 1)), (2, vI ((sumF (mRc w z) k) + 1)), (0, .ref a), (1, vI z)] 1 rfl dX4_records_45 (by decide) rfl ?_
            refine g_goto C 4 dX4_records_48 (by decide) ?_
            refine g_sub [0, 1, 2, 3] rfl ?_
            have e1 : sumF (mRc w z) (k + 1) = sumF (mRc w z) k + 1 := by
              show sumF (mRc w z) k + mRc w z k = _
              have hif : w 1 (6528 + (k : Int)) ≠ -1 ↔ ¬ (if (0 ≤ (k : Int) ∧ (k : Int) < 3072) ∧ w 1 (6528 + (k : Int)) ≠ -1 then (1 : Int) else 0) = 0 := by
                by_cases hh : w 1 (6528 + (k : Int)) = -1
                · rw [if_neg (fun h => h.2 hh)]; exact ⟨fun h => absurd hh h, fun h => absurd rfl h⟩
                · rw [if_pos ⟨⟨by omega, by omega⟩, hh⟩]; exact ⟨fun _ => by decide, fun _ => hh⟩
              congr 1
              unfold mRc
              rw [if_pos]
              first | exact ⟨hif.mpr c17, Or.inl c21⟩ | exact ⟨hif.mpr c17, Or.inr c35⟩
            have h9 := ih (k + 1) (by omega)
            rw [e1] at h9
            exact h9
  refine g_iconst C 0 rfl dX4_records_0 ?_
  refine g_istore_n C [(2, vI 0), (0, .ref a), (1, vI z)] dX4_records_1 rfl (by decide) rfl ?_
  refine g_iconst C 0 rfl dX4_records_2 ?_
  refine g_istore_n C [(3, vI 0), (2, vI 0), (0, .ref a), (1, vI z)] dX4_records_3 rfl (by decide) rfl ?_
  refine g_sub [0, 1, 2, 3] rfl ?_
  exact loop 3072 0 (by omega)
