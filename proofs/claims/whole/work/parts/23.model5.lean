theorem cpy_agree {g : GT} {V : VT} {w : Int → Int → Int} {o t1 t2 : Int} {rb : Nat} (hap : Apart g) (hb : isA g rb o t2 18816) : agree g (setp V o (cpyk w t1 t2 18816)) (setp V o (updt w t2 (w t1))) := by
  intro a ha
  by_cases hk : gO g a = o ∧ gT g a = t2
  · have e : a = rb := hap.2 a ha rb hb.1 (hk.1.trans hb.2.2.1.symm) (hk.2.trans hb.2.2.2.1.symm)
    subst e
    refine ⟨fun h => absurd hb.2.1 h, fun _ k hk2 => ?_⟩
    rw [hb.2.2.2.2] at hk2
    rw [hk.1, hk.2, setp_at, setp_at]
    unfold cpyk updt
    rw [if_pos ⟨rfl, by omega, by omega⟩, if_pos rfl]
  · have e : ∀ j, setp V o (cpyk w t1 t2 18816) (gO g a) (gT g a) j = setp V o (updt w t2 (w t1)) (gO g a) (gT g a) j := by
      intro j
      by_cases ho : gO g a = o
      · rw [ho, setp_at, setp_at]
        have ht : gT g a ≠ t2 := fun h => hk ⟨ho, h⟩
        unfold cpyk updt
        rw [if_neg (fun h => ht h.1), if_neg ht]
      · rw [setp_ne ho, setp_ne ho]
    exact ⟨fun _ j => e j, fun _ k _ => e k⟩
set_option maxHeartbeats 4000000 in
set_option maxRecDepth 100000 in
theorem c_X4_copy (l : Launch) (D : va_G) (cy : ClassId × ClassId) (g : GT) (V : VT) (w : Int → Int → Int) (ra rb : Nat) (o t1 t2 : Int) (hap : Apart g) (h1 : isA g ra o t1 18816) (h2 : isA g rb o t2 18816) (hne : t1 ≠ t2) : MetV l yX4_copy cX4_copy 3 none 0 D cy g [.ref ra, .ref rb] (setp V o w) (fun V' => V' = setp V o (updt w t2 (w t1))) := by
  refine MetV.of (by decide) (Nat.le_of_ble_eq_true rfl) hap ?_
  intro p_ e_ s_ m_ args_ below_ meth_ c_ C
  have loop : ∀ (n : Nat) (k : Nat), k + n = 18816 → G p_ l e_ (rmd 0) s_ m_ args_ below_ meth_ c_ 3 0 0 (MQ below_ (QcV D cy g (fun V' => V' = setp V o (updt w t2 (w t1)))) args_ s_ 0 0 (fun q => q ∈ gL g)) D cy g (fun q => q ∈ gL g) s_.heap (setp V o (cpyk w t1 t2 k)) 2 [(2, vI ((k : Int))), (0, .ref ra), (1, .ref rb)] [] := by
    intro n
    induction n with
    | zero =>
      intro k hkn
      have hk : k = 18816 := by omega
      subst hk
      refine g_iload_n C 0 rfl dX4_copy_2 ?_
      refine g_sipush C 18816 rfl dX4_copy_3 ?_
      refine g_icmp_ge C (by unfold rng; omega) (by unfold rng; omega) 21 dX4_copy_6 (by decide) (fun c6 => ?_) (fun c6 => absurd c6 (by omega))
      refine g_agree (cpy_agree hap h2) ?_
      exact g_vret C dX4_copy_21 rfl
    | succ n ih =>
      intro k hkn
      refine g_iload_n C 0 rfl dX4_copy_2 ?_
      refine g_sipush C 18816 rfl dX4_copy_3 ?_
      refine g_icmp_ge C (by unfold rng; omega) (by unfold rng; omega) 21 dX4_copy_6 (by decide) (fun c6 => absurd c6 (by omega)) (fun c6 => ?_)
      refine g_aload_n C 2 rfl dX4_copy_9 ?_
      refine g_iload_n C 0 rfl dX4_copy_10 ?_
      refine g_aload_n C 1 rfl dX4_copy_11 ?_
      refine g_iload_n C 0 rfl dX4_copy_12 ?_
      refine s_iald C (w t1 k) h1 (by omega) (by decide) (by unfold cpyk; rw [if_neg (fun h => hne h.1)]) dX4_copy_13 ?_
      refine s_iast C h2 (by omega) (by decide) dX4_copy_14 ?_
      refine g_iinc C [(2, vI (((k : Int)) + 1)), (0, .ref ra), (1, .ref rb)] 0 rfl dX4_copy_15 (by decide) rfl ?_
      refine g_goto C 2 dX4_copy_18 (by decide) ?_
      refine g_sub [0, 1, 2] rfl ?_
      refine g_V (congrArg (setp V o) (cpyk_s w t1 t2 k (by omega) hne)) ?_
      exact ih (k + 1) (by omega)
  refine g_iconst C 0 rfl dX4_copy_0 ?_
  refine g_istore_n C [(2, vI 0), (0, .ref ra), (1, .ref rb)] dX4_copy_1 rfl (by decide) rfl ?_
  refine g_sub [0, 1, 2] rfl ?_
  refine g_V (congrArg (setp V o) (cpyk_0 w t1 t2).symm) ?_
  exact loop 18816 0 (by omega)
def mSync (w : Int → Int → Int) : Int → Int → Int := upw (updt (upw w 0 7 0) 2 (upw w 0 7 0 1)) 0 3 0
set_option maxHeartbeats 4000000 in
set_option maxRecDepth 100000 in
theorem c_X4_sync (l : Launch) (D : va_G) (cy : ClassId × ClassId) (g : GT) (V : VT) (w : Int → Int → Int) (a : Nat) (o : Int) (hap : Apart g) (hm : isMod g a o) : MetI l yX4_sync cX4_sync 2 (some .int) 1 D cy g [.ref a] (setp V o w) (fun r V' => r = w 0 3 ∧ V' = setp V o (mSync w)) := by
  obtain ⟨hm1, r1, r2, r3, ⟨hr1, ha1⟩, ⟨hr2, ha2⟩, ⟨hr3, ha3⟩⟩ := id hm
  refine MetI.of (by decide) (Nat.le_of_ble_eq_true rfl) hap ?_
  intro p_ e_ s_ m_ args_ below_ meth_ c_ C
  refine g_aload_n C 0 rfl dX4_sync_0 ?_
  refine g_iconst C 0 rfl dX4_sync_1 ?_
  refine sp_Mod_thrown C hm1 lf_X4_23 dX4_sync_2 ?_
  refine g_aload_n C 0 rfl dX4_sync_5 ?_
  refine sf_Mod_changeCount C (w 0 3) hm1 (by simp [upw]) lf_X4_95 dX4_sync_6 ?_
  refine g_istore_n C [(1, vI (w 0 3)), (0, .ref a)] dX4_sync_9 rfl (by decide) rfl ?_
  refine g_aload_n C 1 rfl dX4_sync_10 ?_
  refine gf_Mod_d C hm1 hr1 lf_X4_7 dX4_sync_11 ?_
  refine g_aload_n C 1 rfl dX4_sync_14 ?_
  refine gf_Mod_synced C hm1 hr2 lf_X4_13 dX4_sync_15 ?_
  refine g_callSV C [.ref r1, .ref r2] [] (c_X4_copy l D cy g V (upw w 0 7 0) r1 r2 o 1 2 hap ha1 ha2 (by decide)) lm_X4_19 rfl (Nat.le_of_ble_eq_true rfl) ⟨(Nat.le_of_ble_eq_true rfl), (Nat.le_of_ble_eq_true rfl)⟩ ⟨Nat.zero_le _, Nat.zero_le _⟩ dX4_sync_18 ?_
  rintro _ rfl
  refine g_aload_n C 1 rfl dX4_sync_21 ?_
  refine g_iconst C 0 rfl dX4_sync_22 ?_
  refine sp_Mod_changeCount C hm1 lf_X4_95 dX4_sync_23 ?_
  refine g_iload_n C 0 rfl dX4_sync_26 ?_
  refine g_iret C dX4_sync_27 ⟨rfl, ?_⟩
  congr 1
set_option maxHeartbeats 4000000 in
set_option maxRecDepth 100000 in
theorem c_X4_insert (l : Launch) (D : va_G) (cy : ClassId × ClassId) (g : GT) (V : VT) (w : Int → Int → Int) (a : Nat) (o : Int) (q sd : Int) (hap : Apart g) (hm : isMod g a o) (hw : mwf w) (hag : w 0 6 = 0 ∨ w 0 6 = 1) (hcc9 : 0 ≤ w 0 3 ∧ w 0 3 < 4000) (hq9 : rng q) (hs9 : rng sd) (hB : (0 ≤ q ∧ q ≤ 1200) ∧ (0 ≤ sd ∧ sd ≤ 255) → MB (upw w 0 7 0)) (hch : (0 ≤ q ∧ q ≤ 1200) ∧ (0 ≤ sd ∧ sd ≤ 255) → chP q ≤ cntK ((upw w 0 7 0) 1) 0 96 → ∃ L, isCh (mNx (mtN (upw w 0 7 0) q (chP q).toNat).1) L (mtN (upw w 0 7 0) q (chP q).toNat).2.1) : MetI l yX4_insert cX4_insert 4 (some .int) 5 D cy g [.ref a, vI q, vI sd] (setp V o w) (fun r V' => (¬ ((0 ≤ q ∧ q ≤ 1200) ∧ (0 ≤ sd ∧ sd ≤ 255)) ∧ r = 0 ∧ V' = setp V o (upw w 0 7 1)) ∨ (((0 ≤ q ∧ q ≤ 1200) ∧ (0 ≤ sd ∧ sd ≤ 255)) ∧ ∃ u, InsM (upw w 0 7 0) q sd r u ∧ V' = setp V o (if r = -1 then u else mNote u 0 r q sd))) := by
  obtain ⟨hm1, r1, r2, r3, ⟨hr1, ha1⟩, ⟨hr2, ha2⟩, ⟨hr3, ha3⟩⟩ := id hm
  refine MetI.of (by decide) (Nat.le_of_ble_eq_true rfl) hap ?_
  intro p_ e_ s_ m_ args_ below_ meth_ c_ C
  refine g_aload_n C 0 rfl dX4_insert_0 ?_
  refine g_iload_n C 1 rfl dX4_insert_1 ?_
  refine g_iload_n C 2 rfl dX4_insert_2 ?_
  refine g_callSI C [vI q, vI sd] [.ref a] (c_X4_isValue l D cy g _ q sd hap hq9 hs9) lm_X4_98 rfl (Nat.le_of_ble_eq_true rfl) ⟨(Nat.le_of_ble_eq_true rfl), (Nat.le_of_ble_eq_true rfl)⟩ ⟨Nat.zero_le _, Nat.zero_le _⟩ dX4_insert_3 ?_
  rintro _ _ ⟨rfl, rfl⟩
  refine g_if_ne C (by split <;> exact ⟨by decide, by decide⟩) 13 dX4_insert_6 (by decide) (fun c6 => ?_) (fun c6 => ?_)
  · have c6c : (0 ≤ q ∧ q ≤ 1200) ∧ (0 ≤ sd ∧ sd ≤ 255) := by
      by_cases hh : (0 ≤ q ∧ q ≤ 1200) ∧ (0 ≤ sd ∧ sd ≤ 255)
      · exact hh
      · exfalso; rw [if_neg hh] at c6; exact c6 rfl
    refine g_iconst C 0 rfl dX4_insert_13 ?_
    refine g_iconst C 1 rfl dX4_insert_14 ?_
    refine g_callI C [vI 0, vI 1] [] (c_X4_fails l D cy g V w a o 0 1 hap hm (by omega)) lm_X4_102 (rcv_Mod hm.1) rfl (Nat.le_of_ble_eq_true rfl) ⟨(Nat.le_of_ble_eq_true rfl), (Nat.le_of_ble_eq_true rfl)⟩ ⟨Nat.zero_le _, Nat.zero_le _⟩ dX4_insert_15 ?_
    rintro _ _ ⟨rfl, rfl⟩
    rw [show (if (0 : Int) = 1 then (1 : Int) else 0) = 0 from rfl]
    refine g_if_eq C (by unfold rng; omega) 23 dX4_insert_18 (by decide) (fun c18 => ?_) (fun c18 => absurd c18 (by omega))
    refine g_aload_n C 0 rfl dX4_insert_23 ?_
    refine g_iload_n C 1 rfl dX4_insert_24 ?_
    refine g_iload_n C 2 rfl dX4_insert_25 ?_
    refine g_callI C [vI q, vI sd] [] (c_X4_inserts l D cy g V (upw w 0 7 0) a o q sd hap hm (mwf_7 hw 0) (hB c6c) (by rw [upw_j (by decide)]; exact hag) c6c.1 (hch c6c)) lm_X4_106 (rcv_Mod hm.1) rfl (Nat.le_of_ble_eq_true rfl) ⟨(Nat.le_of_ble_eq_true rfl), (Nat.le_of_ble_eq_true rfl)⟩ ⟨Nat.zero_le _, Nat.zero_le _⟩ dX4_insert_26 ?_
    rintro r _ ⟨u, hu, rfl⟩
    have hr9 := InsM_r hu
    refine g_istore_n C [(3, vI r), (0, .ref a), (1, vI q), (2, vI sd)] dX4_insert_29 rfl (by decide) rfl ?_
    refine g_iload_n C 0 rfl dX4_insert_30 ?_
    refine g_iconst C (-1) rfl dX4_insert_31 ?_
    refine g_icmp_eq C (by unfold rng; omega) (by unfold rng; omega) 43 dX4_insert_32 (by decide) (fun c32 => ?_) (fun c32 => ?_)
    · refine g_iload_n C 0 rfl dX4_insert_43 ?_
      exact g_iret C dX4_insert_44 (Or.inr ⟨c6c, u, hu, by rw [if_pos c32]⟩)
    · refine g_aload_n C 1 rfl dX4_insert_35 ?_
      refine g_iconst C 0 rfl dX4_insert_36 ?_
      refine g_iload_n C 0 rfl dX4_insert_37 ?_
      refine g_iload_n C 2 rfl dX4_insert_38 ?_
      refine g_iload_n C 3 rfl dX4_insert_39 ?_
      refine g_callV C [vI 0, vI r, vI q, vI sd] [] (c_X4_note l D cy g V u a o 0 r q sd hap hm (by rw [InsM_0 hu (by decide) (Or.inr (by decide)), upw_j (by decide)]; exact hcc9)) lm_X4_109 (rcv_Mod hm.1) rfl (Nat.le_of_ble_eq_true rfl) ⟨(Nat.le_of_ble_eq_true rfl), (Nat.le_of_ble_eq_true rfl)⟩ ⟨Nat.zero_le _, Nat.zero_le _⟩ dX4_insert_40 ?_
      rintro _ rfl
      refine g_iload_n C 0 rfl dX4_insert_43 ?_
      exact g_iret C dX4_insert_44 (Or.inr ⟨c6c, u, hu, by rw [if_neg c32]⟩)
  · have c6c : ¬ ((0 ≤ q ∧ q ≤ 1200) ∧ (0 ≤ sd ∧ sd ≤ 255)) := by
      intro hh; rw [if_pos hh] at c6; exact absurd c6 (by decide)
    refine g_iconst C 1 rfl dX4_insert_9 ?_
    refine g_goto C 14 dX4_insert_10 (by decide) ?_
    refine g_iconst C 1 rfl dX4_insert_14 ?_
    refine g_callI C [vI 1, vI 1] [] (c_X4_fails l D cy g V w a o 1 1 hap hm (by omega)) lm_X4_102 (rcv_Mod hm.1) rfl (Nat.le_of_ble_eq_true rfl) ⟨(Nat.le_of_ble_eq_true rfl), (Nat.le_of_ble_eq_true rfl)⟩ ⟨Nat.zero_le _, Nat.zero_le _⟩ dX4_insert_15 ?_
    rintro _ _ ⟨rfl, rfl⟩
    rw [show (if (1 : Int) = 1 then (1 : Int) else 0) = 1 from rfl]
    refine g_if_eq C (by unfold rng; omega) 23 dX4_insert_18 (by decide) (fun c18 => absurd c18 (by omega)) (fun c18 => ?_)
    refine g_iconst C 0 rfl dX4_insert_21 ?_
    exact g_iret C dX4_insert_22 (Or.inl ⟨c6c, rfl, rfl⟩)
set_option maxHeartbeats 4000000 in
set_option maxRecDepth 100000 in
theorem c_X4_update (l : Launch) (D : va_G) (cy : ClassId × ClassId) (g : GT) (V : VT) (w : Int → Int → Int) (a : Nat) (o : Int) (x q sd : Int) (L0 : List Int) (hap : Apart g) (hm : isMod g a o) (hw : mwf w) (hag : w 0 6 = 0 ∨ w 0 6 = 1) (hcc9 : 0 ≤ w 0 3 ∧ w 0 3 < 4000) (hx9 : rng x) (hq9 : rng q) (hs9 : rng sd) (hU : (0 ≤ x ∧ x < 3072) ∧ w 1 (6528 + x) ≠ -1 → (0 ≤ q ∧ q ≤ 1200) ∧ (0 ≤ sd ∧ sd ≤ 255) → MB (upw w 0 7 0) ∧ (0 ≤ (upw w 0 7 0) 1 (6528 + x) ∧ (upw w 0 7 0) 1 (6528 + x) < 3072) ∧ (upw w 0 7 0) 1 (x / 32) = 1 ∧ (upw w 0 7 0) 1 ((upw w 0 7 0) 1 (6528 + x) / 32) = 1 ∧ ((upw w 0 7 0) 1 (6528 + x) = x ∨ (upw w 0 7 0) 1 (6528 + x) / 32 ≠ x / 32) ∧ isCh (mNx (upw w 0 7 0)) L0 ((upw w 0 7 0) 1 (15744 + x)) ∧ (∀ p ∈ L0, (upw w 0 7 0) 1 p = 2) ∧ (chP q ≤ cntK ((upw w 0 7 0) 1) 0 96 → ∃ L, isCh (mNx (mtN (upw w 0 7 0) q (chP q).toNat).1) L (mtN (upw w 0 7 0) q (chP q).toNat).2.1)) : MetI l yX4_update cX4_update 5 (some .boolean) 5 D cy g [.ref a, vI x, vI q, vI sd] (setp V o w) (fun r V' => (¬ ((0 ≤ x ∧ x < 3072) ∧ w 1 (6528 + x) ≠ -1) ∧ r = 0 ∧ V' = setp V o (upw w 0 7 1)) ∨ (((0 ≤ x ∧ x < 3072) ∧ w 1 (6528 + x) ≠ -1) ∧ ¬ ((0 ≤ q ∧ q ≤ 1200) ∧ (0 ≤ sd ∧ sd ≤ 255)) ∧ r = 0 ∧ V' = setp V o (upw w 0 7 2)) ∨ (((0 ≤ x ∧ x < 3072) ∧ w 1 (6528 + x) ≠ -1) ∧ ((0 ≤ q ∧ q ≤ 1200) ∧ (0 ≤ sd ∧ sd ≤ 255)) ∧ ∃ u, UpdM (upw w 0 7 0) x q sd L0 r u ∧ V' = setp V o (if r = 0 then u else mNote u 1 x q sd))) := by
  obtain ⟨hm1, r1, r2, r3, ⟨hr1, ha1⟩, ⟨hr2, ha2⟩, ⟨hr3, ha3⟩⟩ := id hm
  refine MetI.of (by decide) (Nat.le_of_ble_eq_true rfl) hap ?_
  intro p_ e_ s_ m_ args_ below_ meth_ c_ C
  refine g_aload_n C 0 rfl dX4_update_0 ?_
  refine g_aload_n C 0 rfl dX4_update_1 ?_
  refine g_iload_n C 1 rfl dX4_update_2 ?_
  refine g_callI C [vI x] [.ref a] (c_X4_isRecord l D cy g V w a o x hap hm hw (by first | exact hx9 | (unfold rng; omega))) lm_X4_112 (rcv_Mod hm.1) rfl (Nat.le_of_ble_eq_true rfl) ⟨(Nat.le_of_ble_eq_true rfl), (Nat.le_of_ble_eq_true rfl)⟩ ⟨Nat.zero_le _, Nat.zero_le _⟩ dX4_update_3 ?_
  rintro _ _ ⟨rfl, rfl⟩
  refine g_if_ne C (by split <;> exact ⟨by decide, by decide⟩) 13 dX4_update_6 (by decide) (fun c6 => ?_) (fun c6 => ?_)
  · have c6c : (0 ≤ x ∧ x < 3072) ∧ w 1 (6528 + x) ≠ -1 := by
      by_cases hh : (0 ≤ x ∧ x < 3072) ∧ w 1 (6528 + x) ≠ -1
      · exact hh
      · exfalso; rw [if_neg hh] at c6; exact c6 rfl
    refine g_iconst C 0 rfl dX4_update_13 ?_
    refine g_iconst C 1 rfl dX4_update_14 ?_
    refine g_callI C [vI 0, vI 1] [] (c_X4_fails l D cy g V w a o 0 1 hap hm (by omega)) lm_X4_102 (rcv_Mod hm.1) rfl (Nat.le_of_ble_eq_true rfl) ⟨(Nat.le_of_ble_eq_true rfl), (Nat.le_of_ble_eq_true rfl)⟩ ⟨Nat.zero_le _, Nat.zero_le _⟩ dX4_update_15 ?_
    rintro _ _ ⟨rfl, rfl⟩
    rw [show (if (0 : Int) = 1 then (1 : Int) else 0) = 0 from rfl]
    refine g_if_ne C (by unfold rng; omega) 42 dX4_update_18 (by decide) (fun c18 => absurd c18 (by omega)) (fun c18 => ?_)
    refine g_aload_n C 0 rfl dX4_update_21 ?_
    refine g_iload_n C 2 rfl dX4_update_22 ?_
    refine g_iload_n C 3 rfl dX4_update_23 ?_
    refine g_callSI C [vI q, vI sd] [.ref a] (c_X4_isValue l D cy g _ q sd hap hq9 hs9) lm_X4_98 rfl (Nat.le_of_ble_eq_true rfl) ⟨(Nat.le_of_ble_eq_true rfl), (Nat.le_of_ble_eq_true rfl)⟩ ⟨Nat.zero_le _, Nat.zero_le _⟩ dX4_update_24 ?_
    rintro _ _ ⟨rfl, rfl⟩
    refine g_if_ne C (by split <;> exact ⟨by decide, by decide⟩) 34 dX4_update_27 (by decide) (fun c27 => ?_) (fun c27 => ?_)
    · have c27c : (0 ≤ q ∧ q ≤ 1200) ∧ (0 ≤ sd ∧ sd ≤ 255) := by
        by_cases hh : (0 ≤ q ∧ q ≤ 1200) ∧ (0 ≤ sd ∧ sd ≤ 255)
        · exact hh
        · exfalso; rw [if_neg hh] at c27; exact c27 rfl
      refine g_iconst C 0 rfl dX4_update_34 ?_
      refine g_iconst C 2 rfl dX4_update_35 ?_
      refine g_callI C [vI 0, vI 2] [] (c_X4_fails l D cy g V (upw w 0 7 0) a o 0 2 hap hm (by omega)) lm_X4_102 (rcv_Mod hm.1) rfl (Nat.le_of_ble_eq_true rfl) ⟨(Nat.le_of_ble_eq_true rfl), (Nat.le_of_ble_eq_true rfl)⟩ ⟨Nat.zero_le _, Nat.zero_le _⟩ dX4_update_36 ?_
      rintro _ _ ⟨rfl, rfl⟩
      rw [show (if (0 : Int) = 1 then (2 : Int) else 0) = 0 from rfl]
      refine g_V (congrArg (setp V o) (upw_upw _ _ _ _ _)) ?_
      refine g_if_eq C (by unfold rng; omega) 44 dX4_update_39 (by decide) (fun c39 => ?_) (fun c39 => absurd c39 (by omega))
      refine g_aload_n C 0 rfl dX4_update_44 ?_
      refine g_iload_n C 1 rfl dX4_update_45 ?_
      refine g_iload_n C 2 rfl dX4_update_46 ?_
      refine g_iload_n C 3 rfl dX4_update_47 ?_
      refine g_callI C [vI x, vI q, vI sd] [] (c_X4_updates l D cy g V (upw w 0 7 0) a o x q sd _ _ L0 hap hm (mwf_7 hw 0) (hU c6c c27c).1 (by rw [upw_j (by decide)]; exact hag) c27c.1 c6c.1 rfl (hU c6c c27c).2.1 (hU c6c c27c).2.2.1 (hU c6c c27c).2.2.2.1 (hU c6c c27c).2.2.2.2.1 rfl (hU c6c c27c).2.2.2.2.2.1 (hU c6c c27c).2.2.2.2.2.2.1 (hU c6c c27c).2.2.2.2.2.2.2) lm_X4_116 (rcv_Mod hm.1) rfl (Nat.le_of_ble_eq_true rfl) ⟨(Nat.le_of_ble_eq_true rfl), (Nat.le_of_ble_eq_true rfl)⟩ ⟨Nat.zero_le _, Nat.zero_le _⟩ dX4_update_48 ?_
      rintro r _ ⟨u, hu, rfl⟩
      have hr9 := UpdM_r hu
      refine g_istore C [(4, vI r), (0, .ref a), (1, vI x), (2, vI q), (3, vI sd)] dX4_update_51 (by decide) rfl ?_
      refine g_iload C 0 rfl dX4_update_53 ?_
      refine g_if_eq C (by unfold rng; omega) 66 dX4_update_55 (by decide) (fun c55 => ?_) (fun c55 => ?_)
      · refine g_iload C 0 rfl dX4_update_66 ?_
        exact g_zret C hr9 dX4_update_68 (Or.inr (Or.inr ⟨c6c, c27c, u, hu, by rw [if_pos c55]⟩))
      · refine g_aload_n C 1 rfl dX4_update_58 ?_
        refine g_iconst C 1 rfl dX4_update_59 ?_
        refine g_iload_n C 2 rfl dX4_update_60 ?_
        refine g_iload_n C 3 rfl dX4_update_61 ?_
        refine g_iload_n C 4 rfl dX4_update_62 ?_
        refine g_callV C [vI 1, vI x, vI q, vI sd] [] (c_X4_note l D cy g V u a o 1 x q sd hap hm (by rw [UpdM_0 hu (by decide) (Or.inr (by decide)), upw_j (by decide)]; exact hcc9)) lm_X4_109 (rcv_Mod hm.1) rfl (Nat.le_of_ble_eq_true rfl) ⟨(Nat.le_of_ble_eq_true rfl), (Nat.le_of_ble_eq_true rfl)⟩ ⟨Nat.zero_le _, Nat.zero_le _⟩ dX4_update_63 ?_
        rintro _ rfl
        refine g_iload C 0 rfl dX4_update_66 ?_
        exact g_zret C hr9 dX4_update_68 (Or.inr (Or.inr ⟨c6c, c27c, u, hu, by rw [if_neg c55]⟩))
    · have c27c : ¬ ((0 ≤ q ∧ q ≤ 1200) ∧ (0 ≤ sd ∧ sd ≤ 255)) := by
        intro hh; rw [if_pos hh] at c27; exact absurd c27 (by decide)
      refine g_iconst C 1 rfl dX4_update_30 ?_
      refine g_goto C 35 dX4_update_31 (by decide) ?_
      refine g_iconst C 2 rfl dX4_update_35 ?_
      refine g_callI C [vI 1, vI 2] [] (c_X4_fails l D cy g V (upw w 0 7 0) a o 1 2 hap hm (by omega)) lm_X4_102 (rcv_Mod hm.1) rfl (Nat.le_of_ble_eq_true rfl) ⟨(Nat.le_of_ble_eq_true rfl), (Nat.le_of_ble_eq_true rfl)⟩ ⟨Nat.zero_le _, Nat.zero_le _⟩ dX4_update_36 ?_
      rintro _ _ ⟨rfl, rfl⟩
      rw [show (if (1 : Int) = 1 then (2 : Int) else 0) = 2 from rfl]
      refine g_V (congrArg (setp V o) (upw_upw _ _ _ _ _)) ?_
      refine g_if_eq C (by unfold rng; omega) 44 dX4_update_39 (by decide) (fun c39 => absurd c39 (by omega)) (fun c39 => ?_)
      refine g_iconst C 0 rfl dX4_update_42 ?_
      exact g_zret C (by omega) dX4_update_43 (Or.inr (Or.inl ⟨c6c, c27c, rfl, rfl⟩))
  · have c6c : ¬ ((0 ≤ x ∧ x < 3072) ∧ w 1 (6528 + x) ≠ -1) := by
      intro hh; rw [if_pos hh] at c6; exact absurd c6 (by decide)
    refine g_iconst C 1 rfl dX4_update_9 ?_
    refine g_goto C 14 dX4_update_10 (by decide) ?_
    refine g_iconst C 1 rfl dX4_update_14 ?_
    refine g_callI C [vI 1, vI 1] [] (c_X4_fails l D cy g V w a o 1 1 hap hm (by omega)) lm_X4_102 (rcv_Mod hm.1) rfl (Nat.le_of_ble_eq_true rfl) ⟨(Nat.le_of_ble_eq_true rfl), (Nat.le_of_ble_eq_true rfl)⟩ ⟨Nat.zero_le _, Nat.zero_le _⟩ dX4_update_15 ?_
    rintro _ _ ⟨rfl, rfl⟩
    rw [show (if (1 : Int) = 1 then (1 : Int) else 0) = 1 from rfl]
    refine g_if_ne C (by unfold rng; omega) 42 dX4_update_18 (by decide) (fun c18 => ?_) (fun c18 => absurd c18 (by omega))
    refine g_iconst C 0 rfl dX4_update_42 ?_
    exact g_zret C (by omega) dX4_update_43 (Or.inl ⟨c6c, rfl, rfl⟩)
set_option maxHeartbeats 4000000 in
set_option maxRecDepth 100000 in
theorem c_X4_delete (l : Launch) (D : va_G) (cy : ClassId × ClassId) (g : GT) (V : VT) (w : Int → Int → Int) (a : Nat) (o : Int) (x : Int) (L0 : List Int) (hap : Apart g) (hm : isMod g a o) (hw : mwf w) (hag : w 0 6 = 0 ∨ w 0 6 = 1) (hcc9 : 0 ≤ w 0 3 ∧ w 0 3 < 4000) (hx9 : rng x) (hU : (0 ≤ x ∧ x < 3072) ∧ w 1 (6528 + x) ≠ -1 → (0 ≤ (upw w 0 7 0) 1 (6528 + x) ∧ (upw w 0 7 0) 1 (6528 + x) < 3072) ∧ isCh (mNx (upw w 0 7 0)) L0 ((upw w 0 7 0) 1 (15744 + x))) : MetI l yX4_delete cX4_delete 3 (some .int) 4 D cy g [.ref a, vI x] (setp V o w) (fun r V' => (¬ ((0 ≤ x ∧ x < 3072) ∧ w 1 (6528 + x) ≠ -1) ∧ r = 0 ∧ V' = setp V o (upw w 0 7 1)) ∨ (((0 ≤ x ∧ x < 3072) ∧ w 1 (6528 + x) ≠ -1) ∧ r = w 1 (9600 + x) ∧ V' = setp V o (mNote (mDel (upw w 0 7 0) x L0) 2 x 0 0))) := by
  obtain ⟨hm1, r1, r2, r3, ⟨hr1, ha1⟩, ⟨hr2, ha2⟩, ⟨hr3, ha3⟩⟩ := id hm
  refine MetI.of (by decide) (Nat.le_of_ble_eq_true rfl) hap ?_
  intro p_ e_ s_ m_ args_ below_ meth_ c_ C
  refine g_aload_n C 0 rfl dX4_delete_0 ?_
  refine g_aload_n C 0 rfl dX4_delete_1 ?_
  refine g_iload_n C 1 rfl dX4_delete_2 ?_
  refine g_callI C [vI x] [.ref a] (c_X4_isRecord l D cy g V w a o x hap hm hw (by first | exact hx9 | (unfold rng; omega))) lm_X4_112 (rcv_Mod hm.1) rfl (Nat.le_of_ble_eq_true rfl) ⟨(Nat.le_of_ble_eq_true rfl), (Nat.le_of_ble_eq_true rfl)⟩ ⟨Nat.zero_le _, Nat.zero_le _⟩ dX4_delete_3 ?_
  rintro _ _ ⟨rfl, rfl⟩
  refine g_if_ne C (by split <;> exact ⟨by decide, by decide⟩) 13 dX4_delete_6 (by decide) (fun c6 => ?_) (fun c6 => ?_)
  · have c6c : (0 ≤ x ∧ x < 3072) ∧ w 1 (6528 + x) ≠ -1 := by
      by_cases hh : (0 ≤ x ∧ x < 3072) ∧ w 1 (6528 + x) ≠ -1
      · exact hh
      · exfalso; rw [if_neg hh] at c6; exact c6 rfl
    refine g_iconst C 0 rfl dX4_delete_13 ?_
    refine g_iconst C 1 rfl dX4_delete_14 ?_
    refine g_callI C [vI 0, vI 1] [] (c_X4_fails l D cy g V w a o 0 1 hap hm (by omega)) lm_X4_102 (rcv_Mod hm.1) rfl (Nat.le_of_ble_eq_true rfl) ⟨(Nat.le_of_ble_eq_true rfl), (Nat.le_of_ble_eq_true rfl)⟩ ⟨Nat.zero_le _, Nat.zero_le _⟩ dX4_delete_15 ?_
    rintro _ _ ⟨rfl, rfl⟩
    rw [show (if (0 : Int) = 1 then (1 : Int) else 0) = 0 from rfl]
    refine g_if_eq C (by unfold rng; omega) 23 dX4_delete_18 (by decide) (fun c18 => ?_) (fun c18 => absurd c18 (by omega))
    refine g_aload_n C 0 rfl dX4_delete_23 ?_
    refine gf_Mod_d C hm1 hr1 lf_X4_7 dX4_delete_24 ?_
    refine g_sipush C 9600 rfl dX4_delete_27 ?_
    refine g_iload_n C 1 rfl dX4_delete_30 ?_
    refine g_iadd C dX4_delete_31 ?_
    refine s_iald C (w 1 (9600 + x)) ha1 (by omega) (by decide) (by simp [upw]) dX4_delete_32 ?_
    refine g_istore_n C [(2, vI (w 1 (9600 + x))), (0, .ref a), (1, vI x)] dX4_delete_33 rfl (by decide) rfl ?_
    refine g_aload_n C 1 rfl dX4_delete_34 ?_
    refine g_iload_n C 2 rfl dX4_delete_35 ?_
    refine g_callV C [vI x] [] (c_X4_deletes l D cy g V (upw w 0 7 0) a o x _ _ L0 hap hm (mwf_7 hw 0) c6c.1 rfl (hU c6c).1 rfl (hU c6c).2) lm_X4_119 (rcv_Mod hm.1) rfl (Nat.le_of_ble_eq_true rfl) ⟨(Nat.le_of_ble_eq_true rfl), (Nat.le_of_ble_eq_true rfl)⟩ ⟨Nat.zero_le _, Nat.zero_le _⟩ dX4_delete_36 ?_
    rintro _ rfl
    refine g_aload_n C 1 rfl dX4_delete_39 ?_
    refine g_iconst C 2 rfl dX4_delete_40 ?_
    refine g_iload_n C 2 rfl dX4_delete_41 ?_
    refine g_iconst C 0 rfl dX4_delete_42 ?_
    refine g_iconst C 0 rfl dX4_delete_43 ?_
    refine g_callV C [vI 2, vI x, vI 0, vI 0] [] (c_X4_note l D cy g V (mDel (upw w 0 7 0) x L0) a o 2 x 0 0 hap hm (by rw [mDel_0 (by decide), upw_j (by decide)]; exact hcc9)) lm_X4_109 (rcv_Mod hm.1) rfl (Nat.le_of_ble_eq_true rfl) ⟨(Nat.le_of_ble_eq_true rfl), (Nat.le_of_ble_eq_true rfl)⟩ ⟨Nat.zero_le _, Nat.zero_le _⟩ dX4_delete_44 ?_
    rintro _ rfl
    refine g_iload_n C 0 rfl dX4_delete_47 ?_
    exact g_iret C dX4_delete_48 (Or.inr ⟨c6c, rfl, rfl⟩)
  · have c6c : ¬ ((0 ≤ x ∧ x < 3072) ∧ w 1 (6528 + x) ≠ -1) := by
      intro hh; rw [if_pos hh] at c6; exact absurd c6 (by decide)
    refine g_iconst C 1 rfl dX4_delete_9 ?_
    refine g_goto C 14 dX4_delete_10 (by decide) ?_
    refine g_iconst C 1 rfl dX4_delete_14 ?_
    refine g_callI C [vI 1, vI 1] [] (c_X4_fails l D cy g V w a o 1 1 hap hm (by omega)) lm_X4_102 (rcv_Mod hm.1) rfl (Nat.le_of_ble_eq_true rfl) ⟨(Nat.le_of_ble_eq_true rfl), (Nat.le_of_ble_eq_true rfl)⟩ ⟨Nat.zero_le _, Nat.zero_le _⟩ dX4_delete_15 ?_
    rintro _ _ ⟨rfl, rfl⟩
    rw [show (if (1 : Int) = 1 then (1 : Int) else 0) = 1 from rfl]
    refine g_if_eq C (by unfold rng; omega) 23 dX4_delete_18 (by decide) (fun c18 => absurd c18 (by omega)) (fun c18 => ?_)
    refine g_iconst C 0 rfl dX4_delete_21 ?_
    exact g_iret C dX4_delete_22 (Or.inl ⟨c6c, rfl, rfl⟩)
set_option maxHeartbeats 4000000 in
set_option maxRecDepth 100000 in
theorem c_X4_length (l : Launch) (D : va_G) (cy : ClassId × ClassId) (g : GT) (V : VT) (w : Int → Int → Int) (a : Nat) (o : Int) (x : Int) (hap : Apart g) (hm : isMod g a o) (hw : mwf w) (hx9 : rng x) : MetI l yX4_length cX4_length 2 (some .int) 1 D cy g [.ref a, vI x] (setp V o w) (fun r V' => r = (if (0 ≤ x ∧ x < 3072) ∧ w 1 (6528 + x) ≠ -1 then w 1 (9600 + x) else -1) ∧ V' = setp V o (upw w 0 7 0)) := by
  obtain ⟨hm1, r1, r2, r3, ⟨hr1, ha1⟩, ⟨hr2, ha2⟩, ⟨hr3, ha3⟩⟩ := id hm
  refine MetI.of (by decide) (Nat.le_of_ble_eq_true rfl) hap ?_
  intro p_ e_ s_ m_ args_ below_ meth_ c_ C
  refine g_aload_n C 0 rfl dX4_length_0 ?_
  refine g_iconst C 0 rfl dX4_length_1 ?_
  refine sp_Mod_thrown C hm1 lf_X4_23 dX4_length_2 ?_
  refine g_aload_n C 0 rfl dX4_length_5 ?_
  refine g_iload_n C 1 rfl dX4_length_6 ?_
  refine g_callI C [vI x] [] (c_X4_isRecord l D cy g V (upw w 0 7 0) a o x hap hm (mwf_7 hw _) (by first | exact hx9 | (unfold rng; omega))) lm_X4_112 (rcv_Mod hm.1) rfl (Nat.le_of_ble_eq_true rfl) ⟨(Nat.le_of_ble_eq_true rfl), (Nat.le_of_ble_eq_true rfl)⟩ ⟨Nat.zero_le _, Nat.zero_le _⟩ dX4_length_7 ?_
  rintro _ _ ⟨rfl, rfl⟩
  rw [upw_t (by decide)]
  refine g_if_eq C (by split <;> exact ⟨by decide, by decide⟩) 26 dX4_length_10 (by decide) (fun c10 => ?_) (fun c10 => ?_)
  · have c10c : ¬ ((0 ≤ x ∧ x < 3072) ∧ w 1 (6528 + x) ≠ -1) := by
      intro hh; rw [if_pos hh] at c10; exact absurd c10 (by decide)
    refine g_iconst C (-1) rfl dX4_length_26 ?_
    refine g_iret C dX4_length_27 ⟨?_, rfl⟩
    first | rw [if_pos c10c] | rw [if_neg c10c]
  · have c10c : (0 ≤ x ∧ x < 3072) ∧ w 1 (6528 + x) ≠ -1 := by
      by_cases hh : (0 ≤ x ∧ x < 3072) ∧ w 1 (6528 + x) ≠ -1
      · exact hh
      · exfalso; rw [if_neg hh] at c10; exact c10 rfl
    refine g_aload_n C 0 rfl dX4_length_13 ?_
    refine gf_Mod_d C hm1 hr1 lf_X4_7 dX4_length_14 ?_
    refine g_sipush C 9600 rfl dX4_length_17 ?_
    refine g_iload_n C 1 rfl dX4_length_20 ?_
    refine g_iadd C dX4_length_21 ?_
    refine s_iald C (w 1 (9600 + x)) ha1 (by omega) (by decide) (by simp [upw]) dX4_length_22 ?_
    refine g_goto C 27 dX4_length_23 (by decide) ?_
    refine g_iret C dX4_length_27 ⟨?_, rfl⟩
    first | rw [if_pos c10c] | rw [if_neg c10c]
set_option maxHeartbeats 4000000 in
set_option maxRecDepth 100000 in
theorem c_X4_byteAt (l : Launch) (D : va_G) (cy : ClassId × ClassId) (g : GT) (V : VT) (w : Int → Int → Int) (a : Nat) (o : Int) (x i : Int) (hap : Apart g) (hm : isMod g a o) (hw : mwf w) (hx9 : rng x) (hi9 : rng i) (hU : (0 ≤ x ∧ x < 3072) ∧ w 1 (6528 + x) ≠ -1 → (0 ≤ w 1 (9600 + x) ∧ w 1 (9600 + x) ≤ 1200) ∧ (0 ≤ w 1 (12672 + x) ∧ w 1 (12672 + x) ≤ 255)) : MetI l yX4_byteAt cX4_byteAt 3 (some .int) 1 D cy g [.ref a, vI x, vI i] (setp V o w) (fun r V' => (¬ ((0 ≤ x ∧ x < 3072) ∧ w 1 (6528 + x) ≠ -1) ∧ r = 0 ∧ V' = setp V o (upw w 0 7 1)) ∨ (((0 ≤ x ∧ x < 3072) ∧ w 1 (6528 + x) ≠ -1) ∧ r = (if 0 ≤ i ∧ i < w 1 (9600 + x) then (w 1 (12672 + x) + 7 * i + i / 16) % 256 else -1) ∧ V' = setp V o (upw w 0 7 0))) := by
  obtain ⟨hm1, r1, r2, r3, ⟨hr1, ha1⟩, ⟨hr2, ha2⟩, ⟨hr3, ha3⟩⟩ := id hm
  unfold rng at hi9
  refine MetI.of (by decide) (Nat.le_of_ble_eq_true rfl) hap ?_
  intro p_ e_ s_ m_ args_ below_ meth_ c_ C
  refine g_aload_n C 0 rfl dX4_byteAt_0 ?_
  refine g_aload_n C 0 rfl dX4_byteAt_1 ?_
  refine g_iload_n C 1 rfl dX4_byteAt_2 ?_
  refine g_callI C [vI x] [.ref a] (c_X4_isRecord l D cy g V w a o x hap hm hw (by first | exact hx9 | (unfold rng; omega))) lm_X4_112 (rcv_Mod hm.1) rfl (Nat.le_of_ble_eq_true rfl) ⟨(Nat.le_of_ble_eq_true rfl), (Nat.le_of_ble_eq_true rfl)⟩ ⟨Nat.zero_le _, Nat.zero_le _⟩ dX4_byteAt_3 ?_
  rintro _ _ ⟨rfl, rfl⟩
  refine g_if_ne C (by split <;> exact ⟨by decide, by decide⟩) 13 dX4_byteAt_6 (by decide) (fun c6 => ?_) (fun c6 => ?_)
  · have c6c : (0 ≤ x ∧ x < 3072) ∧ w 1 (6528 + x) ≠ -1 := by
      by_cases hh : (0 ≤ x ∧ x < 3072) ∧ w 1 (6528 + x) ≠ -1
      · exact hh
      · exfalso; rw [if_neg hh] at c6; exact c6 rfl
    obtain ⟨hl9, hd9⟩ := hU c6c
    refine g_iconst C 0 rfl dX4_byteAt_13 ?_
    refine g_iconst C 1 rfl dX4_byteAt_14 ?_
    refine g_callI C [vI 0, vI 1] [] (c_X4_fails l D cy g V w a o 0 1 hap hm (by omega)) lm_X4_102 (rcv_Mod hm.1) rfl (Nat.le_of_ble_eq_true rfl) ⟨(Nat.le_of_ble_eq_true rfl), (Nat.le_of_ble_eq_true rfl)⟩ ⟨Nat.zero_le _, Nat.zero_le _⟩ dX4_byteAt_15 ?_
    rintro _ _ ⟨rfl, rfl⟩
    rw [show (if (0 : Int) = 1 then (1 : Int) else 0) = 0 from rfl]
    refine g_if_eq C (by unfold rng; omega) 23 dX4_byteAt_18 (by decide) (fun c18 => ?_) (fun c18 => absurd c18 (by omega))
    refine g_iload_n C 2 rfl dX4_byteAt_23 ?_
    refine g_if_lt C (by unfold rng; omega) 68 dX4_byteAt_24 (by decide) (fun c24 => ?_) (fun c24 => ?_)
    · refine g_iconst C (-1) rfl dX4_byteAt_68 ?_
      refine g_iret C dX4_byteAt_69 (Or.inr ⟨c6c, ?_, rfl⟩)
      first | rw [if_pos ⟨by omega, by omega⟩] | rw [if_neg (by omega)]
    · refine g_iload_n C 2 rfl dX4_byteAt_27 ?_
      refine g_aload_n C 0 rfl dX4_byteAt_28 ?_
      refine gf_Mod_d C hm1 hr1 lf_X4_7 dX4_byteAt_29 ?_
      refine g_sipush C 9600 rfl dX4_byteAt_32 ?_
      refine g_iload_n C 1 rfl dX4_byteAt_35 ?_
      refine g_iadd C dX4_byteAt_36 ?_
      refine s_iald C (w 1 (9600 + x)) ha1 (by omega) (by decide) (by simp [upw]) dX4_byteAt_37 ?_
      refine g_icmp_ge C (by unfold rng; omega) (by unfold rng; omega) 68 dX4_byteAt_38 (by decide) (fun c38 => ?_) (fun c38 => ?_)
      · refine g_iconst C (-1) rfl dX4_byteAt_68 ?_
        refine g_iret C dX4_byteAt_69 (Or.inr ⟨c6c, ?_, rfl⟩)
        first | rw [if_pos ⟨by omega, by omega⟩] | rw [if_neg (by omega)]
      · refine g_aload_n C 0 rfl dX4_byteAt_41 ?_
        refine gf_Mod_d C hm1 hr1 lf_X4_7 dX4_byteAt_42 ?_
        refine g_sipush C 12672 rfl dX4_byteAt_45 ?_
        refine g_iload_n C 1 rfl dX4_byteAt_48 ?_
        refine g_iadd C dX4_byteAt_49 ?_
        refine s_iald C (w 1 (12672 + x)) ha1 (by omega) (by decide) (by simp [upw]) dX4_byteAt_50 ?_
        refine g_bipush C 7 rfl dX4_byteAt_51 ?_
        refine g_iload_n C 2 rfl dX4_byteAt_53 ?_
        refine g_imul C dX4_byteAt_54 ?_
        refine g_iadd C dX4_byteAt_55 ?_
        refine g_iload_n C 2 rfl dX4_byteAt_56 ?_
        refine g_bipush C 16 rfl dX4_byteAt_57 ?_
        refine g_idiv C (by omega) (by omega) dX4_byteAt_59 ?_
        refine g_iadd C dX4_byteAt_60 ?_
        refine g_sipush C 256 rfl dX4_byteAt_61 ?_
        refine g_irem C (by omega) (by omega) dX4_byteAt_64 ?_
        refine g_goto C 69 dX4_byteAt_65 (by decide) ?_
        refine g_iret C dX4_byteAt_69 (Or.inr ⟨c6c, ?_, rfl⟩)
        first | rw [if_pos ⟨by omega, by omega⟩] | rw [if_neg (by omega)]
  · have c6c : ¬ ((0 ≤ x ∧ x < 3072) ∧ w 1 (6528 + x) ≠ -1) := by
      intro hh; rw [if_pos hh] at c6; exact absurd c6 (by decide)
    refine g_iconst C 1 rfl dX4_byteAt_9 ?_
    refine g_goto C 14 dX4_byteAt_10 (by decide) ?_
    refine g_iconst C 1 rfl dX4_byteAt_14 ?_
    refine g_callI C [vI 1, vI 1] [] (c_X4_fails l D cy g V w a o 1 1 hap hm (by omega)) lm_X4_102 (rcv_Mod hm.1) rfl (Nat.le_of_ble_eq_true rfl) ⟨(Nat.le_of_ble_eq_true rfl), (Nat.le_of_ble_eq_true rfl)⟩ ⟨Nat.zero_le _, Nat.zero_le _⟩ dX4_byteAt_15 ?_
    rintro _ _ ⟨rfl, rfl⟩
    rw [show (if (1 : Int) = 1 then (1 : Int) else 0) = 1 from rfl]
    refine g_if_eq C (by unfold rng; omega) 23 dX4_byteAt_18 (by decide) (fun c18 => absurd c18 (by omega)) (fun c18 => ?_)
    refine g_iconst C 0 rfl dX4_byteAt_21 ?_
    exact g_iret C dX4_byteAt_22 (Or.inl ⟨c6c, rfl, rfl⟩)
def mWhere (w : Int → Int → Int) (x k : Int) : Int := if k = 0 then w 1 (6528 + x) / 32 else if k = 1 then w 1 (6528 + x) % 32 else if k = 2 then chP (w 1 (9600 + x)) else w 1 (15744 + x)
set_option maxHeartbeats 4000000 in
set_option maxRecDepth 100000 in
theorem c_X4_where (l : Launch) (D : va_G) (cy : ClassId × ClassId) (g : GT) (V : VT) (w : Int → Int → Int) (a : Nat) (o : Int) (x i : Int) (hap : Apart g) (hm : isMod g a o) (hw : mwf w) (hx9 : rng x) (hi9 : rng i) (hU : (0 ≤ x ∧ x < 3072) ∧ w 1 (6528 + x) ≠ -1 → (0 ≤ w 1 (6528 + x) ∧ w 1 (6528 + x) < 3072) ∧ (0 ≤ w 1 (9600 + x) ∧ w 1 (9600 + x) ≤ 1200)) : MetI l yX4_where cX4_where 4 (some .int) 1 D cy g [.ref a, vI x, vI i] (setp V o w) (fun r V' => (¬ ((0 ≤ x ∧ x < 3072) ∧ w 1 (6528 + x) ≠ -1) ∧ r = 0 ∧ V' = setp V o (upw w 0 7 1)) ∨ (((0 ≤ x ∧ x < 3072) ∧ w 1 (6528 + x) ≠ -1) ∧ (i < 0 ∨ 3 < i) ∧ r = 0 ∧ V' = setp V o (upw w 0 7 2)) ∨ (((0 ≤ x ∧ x < 3072) ∧ w 1 (6528 + x) ≠ -1) ∧ (0 ≤ i ∧ i ≤ 3) ∧ r = mWhere w x i ∧ V' = setp V o (upw w 0 7 0))) := by
  obtain ⟨hm1, r1, r2, r3, ⟨hr1, ha1⟩, ⟨hr2, ha2⟩, ⟨hr3, ha3⟩⟩ := id hm
  unfold rng at hi9
  refine MetI.of (by decide) (Nat.le_of_ble_eq_true rfl) hap ?_
  intro p_ e_ s_ m_ args_ below_ meth_ c_ C
  refine g_aload_n C 0 rfl dX4_where_0 ?_
  refine g_aload_n C 0 rfl dX4_where_1 ?_
  refine g_iload_n C 1 rfl dX4_where_2 ?_
  refine g_callI C [vI x] [.ref a] (c_X4_isRecord l D cy g V w a o x hap hm hw (by first | exact hx9 | (unfold rng; omega))) lm_X4_112 (rcv_Mod hm.1) rfl (Nat.le_of_ble_eq_true rfl) ⟨(Nat.le_of_ble_eq_true rfl), (Nat.le_of_ble_eq_true rfl)⟩ ⟨Nat.zero_le _, Nat.zero_le _⟩ dX4_where_3 ?_
  rintro _ _ ⟨rfl, rfl⟩
  refine g_if_ne C (by split <;> exact ⟨by decide, by decide⟩) 13 dX4_where_6 (by decide) (fun c6 => ?_) (fun c6 => ?_)
  · have c6c : (0 ≤ x ∧ x < 3072) ∧ w 1 (6528 + x) ≠ -1 := by
      by_cases hh : (0 ≤ x ∧ x < 3072) ∧ w 1 (6528 + x) ≠ -1
      · exact hh
      · exfalso; rw [if_neg hh] at c6; exact c6 rfl
    obtain ⟨hc9, hl9⟩ := hU c6c
    refine g_iconst C 0 rfl dX4_where_13 ?_
    refine g_iconst C 1 rfl dX4_where_14 ?_
    refine g_callI C [vI 0, vI 1] [] (c_X4_fails l D cy g V w a o 0 1 hap hm (by omega)) lm_X4_102 (rcv_Mod hm.1) rfl (Nat.le_of_ble_eq_true rfl) ⟨(Nat.le_of_ble_eq_true rfl), (Nat.le_of_ble_eq_true rfl)⟩ ⟨Nat.zero_le _, Nat.zero_le _⟩ dX4_where_15 ?_
    rintro _ _ ⟨rfl, rfl⟩
    rw [show (if (0 : Int) = 1 then (1 : Int) else 0) = 0 from rfl]
    refine g_if_ne C (by unfold rng; omega) 43 dX4_where_18 (by decide) (fun c18 => absurd c18 (by omega)) (fun c18 => ?_)
    refine g_aload_n C 0 rfl dX4_where_21 ?_
    refine g_iload_n C 2 rfl dX4_where_22 ?_
    refine g_if_lt C (by unfold rng; omega) 31 dX4_where_23 (by decide) (fun c23 => ?_) (fun c23 => ?_)
    · refine g_iconst C 1 rfl dX4_where_31 ?_
      refine g_goto C 36 dX4_where_32 (by decide) ?_
      refine g_iconst C 2 rfl dX4_where_36 ?_
      refine g_callI C [vI 1, vI 2] [] (c_X4_fails l D cy g V (upw w 0 7 0) a o 1 2 hap hm (by omega)) lm_X4_102 (rcv_Mod hm.1) rfl (Nat.le_of_ble_eq_true rfl) ⟨(Nat.le_of_ble_eq_true rfl), (Nat.le_of_ble_eq_true rfl)⟩ ⟨Nat.zero_le _, Nat.zero_le _⟩ dX4_where_37 ?_
      rintro _ _ ⟨rfl, rfl⟩
      rw [show (if (1 : Int) = 1 then (2 : Int) else 0) = 2 from rfl]
      refine g_V (congrArg (setp V o) (upw_upw _ _ _ _ _)) ?_
      refine g_if_eq C (by unfold rng; omega) 45 dX4_where_40 (by decide) (fun c40 => absurd c40 (by omega)) (fun c40 => ?_)
      refine g_iconst C 0 rfl dX4_where_43 ?_
      exact g_iret C dX4_where_44 (Or.inr (Or.inl ⟨c6c, by omega, rfl, rfl⟩))
    · refine g_iload_n C 2 rfl dX4_where_26 ?_
      refine g_iconst C 3 rfl dX4_where_27 ?_
      refine g_icmp_le C (by unfold rng; omega) (by unfold rng; omega) 35 dX4_where_28 (by decide) (fun c28 => ?_) (fun c28 => ?_)
      · refine g_iconst C 0 rfl dX4_where_35 ?_
        refine g_iconst C 2 rfl dX4_where_36 ?_
        refine g_callI C [vI 0, vI 2] [] (c_X4_fails l D cy g V (upw w 0 7 0) a o 0 2 hap hm (by omega)) lm_X4_102 (rcv_Mod hm.1) rfl (Nat.le_of_ble_eq_true rfl) ⟨(Nat.le_of_ble_eq_true rfl), (Nat.le_of_ble_eq_true rfl)⟩ ⟨Nat.zero_le _, Nat.zero_le _⟩ dX4_where_37 ?_
        rintro _ _ ⟨rfl, rfl⟩
        rw [show (if (0 : Int) = 1 then (2 : Int) else 0) = 0 from rfl]
        refine g_V (congrArg (setp V o) (upw_upw _ _ _ _ _)) ?_
        refine g_if_eq C (by unfold rng; omega) 45 dX4_where_40 (by decide) (fun c40 => ?_) (fun c40 => absurd c40 (by omega))
        refine g_aload_n C 0 rfl dX4_where_45 ?_
        refine gf_Mod_d C hm1 hr1 lf_X4_7 dX4_where_46 ?_
        refine g_sipush C 6528 rfl dX4_where_49 ?_
        refine g_iload_n C 1 rfl dX4_where_52 ?_
        refine g_iadd C dX4_where_53 ?_
        refine s_iald C (w 1 (6528 + x)) ha1 (by omega) (by decide) (by simp [upw]) dX4_where_54 ?_
        refine g_istore_n C [(3, vI (w 1 (6528 + x))), (0, .ref a), (1, vI x), (2, vI i)] dX4_where_55 rfl (by decide) rfl ?_
        refine g_iload_n C 3 rfl dX4_where_56 ?_
        refine g_if_ne C (by unfold rng; omega) 67 dX4_where_57 (by decide) (fun c57 => ?_) (fun c57 => ?_)
        · refine g_iload_n C 3 rfl dX4_where_67 ?_
          refine g_iconst C 1 rfl dX4_where_68 ?_
          refine g_icmp_ne C (by unfold rng; omega) (by unfold rng; omega) 79 dX4_where_69 (by decide) (fun c69 => ?_) (fun c69 => ?_)
          · refine g_iload_n C 3 rfl dX4_where_79 ?_
            refine g_iconst C 2 rfl dX4_where_80 ?_
            refine g_icmp_ne C (by unfold rng; omega) (by unfold rng; omega) 100 dX4_where_81 (by decide) (fun c81 => ?_) (fun c81 => ?_)
            · refine g_aload_n C 1 rfl dX4_where_100 ?_
              refine gf_Mod_d C hm1 hr1 lf_X4_7 dX4_where_101 ?_
              refine g_sipush C 15744 rfl dX4_where_104 ?_
              refine g_iload_n C 2 rfl dX4_where_107 ?_
              refine g_iadd C dX4_where_108 ?_
              refine s_iald C (w 1 (15744 + x)) ha1 (by omega) (by decide) (by simp [upw]) dX4_where_109 ?_
              refine g_iret C dX4_where_110 (Or.inr (Or.inr ⟨c6c, by omega, ?_, rfl⟩))
              unfold mWhere
              repeat' split
              all_goals first | rfl | (exfalso; omega)
            · refine g_aload_n C 1 rfl dX4_where_84 ?_
              refine gf_Mod_d C hm1 hr1 lf_X4_7 dX4_where_85 ?_
              refine g_sipush C 9600 rfl dX4_where_88 ?_
              refine g_iload_n C 2 rfl dX4_where_91 ?_
              refine g_iadd C dX4_where_92 ?_
              refine s_iald C (w 1 (9600 + x)) ha1 (by omega) (by decide) (by simp [upw]) dX4_where_93 ?_
              refine g_callSI C [vI (w 1 (9600 + x))] [] (c_X4_chainSize l D cy g _ (w 1 (9600 + x)) hap (by omega)) lm_X4_55 rfl (Nat.le_of_ble_eq_true rfl) ⟨(Nat.le_of_ble_eq_true rfl), (Nat.le_of_ble_eq_true rfl)⟩ ⟨Nat.zero_le _, Nat.zero_le _⟩ dX4_where_94 ?_
              rintro _ _ ⟨rfl, rfl⟩
              refine g_goto C 110 dX4_where_97 (by decide) ?_
              refine g_iret C dX4_where_110 (Or.inr (Or.inr ⟨c6c, by omega, ?_, rfl⟩))
              unfold mWhere
              repeat' split
              all_goals first | rfl | (exfalso; omega)
          · refine g_iload_n C 0 rfl dX4_where_72 ?_
            refine g_bipush C 32 rfl dX4_where_73 ?_
            refine g_irem C (by omega) (by omega) dX4_where_75 ?_
            refine g_goto C 110 dX4_where_76 (by decide) ?_
            refine g_iret C dX4_where_110 (Or.inr (Or.inr ⟨c6c, by omega, ?_, rfl⟩))
            unfold mWhere
            repeat' split
            all_goals first | rfl | (exfalso; omega)
        · refine g_iload_n C 0 rfl dX4_where_60 ?_
          refine g_bipush C 32 rfl dX4_where_61 ?_
          refine g_idiv C (by omega) (by omega) dX4_where_63 ?_
          refine g_goto C 110 dX4_where_64 (by decide) ?_
          refine g_iret C dX4_where_110 (Or.inr (Or.inr ⟨c6c, by omega, ?_, rfl⟩))
          unfold mWhere
          repeat' split
          all_goals first | rfl | (exfalso; omega)
      · refine g_iconst C 1 rfl dX4_where_31 ?_
        refine g_goto C 36 dX4_where_32 (by decide) ?_
        refine g_iconst C 2 rfl dX4_where_36 ?_
        refine g_callI C [vI 1, vI 2] [] (c_X4_fails l D cy g V (upw w 0 7 0) a o 1 2 hap hm (by omega)) lm_X4_102 (rcv_Mod hm.1) rfl (Nat.le_of_ble_eq_true rfl) ⟨(Nat.le_of_ble_eq_true rfl), (Nat.le_of_ble_eq_true rfl)⟩ ⟨Nat.zero_le _, Nat.zero_le _⟩ dX4_where_37 ?_
        rintro _ _ ⟨rfl, rfl⟩
        rw [show (if (1 : Int) = 1 then (2 : Int) else 0) = 2 from rfl]
        refine g_V (congrArg (setp V o) (upw_upw _ _ _ _ _)) ?_
        refine g_if_eq C (by unfold rng; omega) 45 dX4_where_40 (by decide) (fun c40 => absurd c40 (by omega)) (fun c40 => ?_)
        refine g_iconst C 0 rfl dX4_where_43 ?_
        exact g_iret C dX4_where_44 (Or.inr (Or.inl ⟨c6c, by omega, rfl, rfl⟩))
  · have c6c : ¬ ((0 ≤ x ∧ x < 3072) ∧ w 1 (6528 + x) ≠ -1) := by
      intro hh; rw [if_pos hh] at c6; exact absurd c6 (by decide)
    refine g_iconst C 1 rfl dX4_where_9 ?_
    refine g_goto C 14 dX4_where_10 (by decide) ?_
    refine g_iconst C 1 rfl dX4_where_14 ?_
    refine g_callI C [vI 1, vI 1] [] (c_X4_fails l D cy g V w a o 1 1 hap hm (by omega)) lm_X4_102 (rcv_Mod hm.1) rfl (Nat.le_of_ble_eq_true rfl) ⟨(Nat.le_of_ble_eq_true rfl), (Nat.le_of_ble_eq_true rfl)⟩ ⟨Nat.zero_le _, Nat.zero_le _⟩ dX4_where_15 ?_
    rintro _ _ ⟨rfl, rfl⟩
    rw [show (if (1 : Int) = 1 then (1 : Int) else 0) = 1 from rfl]
    refine g_if_ne C (by unfold rng; omega) 43 dX4_where_18 (by decide) (fun c18 => ?_) (fun c18 => absurd c18 (by omega))
    refine g_iconst C 0 rfl dX4_where_43 ?_
    exact g_iret C dX4_where_44 (Or.inl ⟨c6c, rfl, rfl⟩)
set_option maxHeartbeats 4000000 in
set_option maxRecDepth 100000 in
theorem c_X4_next (l : Launch) (D : va_G) (cy : ClassId × ClassId) (g : GT) (V : VT) (w : Int → Int → Int) (a : Nat) (o : Int) (x : Int) (hap : Apart g) (hm : isMod g a o) (hw : mwf w) (hx9 : rng x) : MetI l yX4_next cX4_next 3 (some .int) 1 D cy g [.ref a, vI x] (setp V o w) (fun r V' => ((r = -1 ∧ ∀ j, 0 ≤ j → j < 3072 → x < j → ¬ w 1 (6528 + j) ≠ -1) ∨ ((0 ≤ r ∧ r < 3072) ∧ x < r ∧ w 1 (6528 + r) ≠ -1 ∧ ∀ j, 0 ≤ j → j < r → x < j → ¬ w 1 (6528 + j) ≠ -1)) ∧ V' = setp V o (upw w 0 7 0)) := by
  obtain ⟨hm1, r1, r2, r3, ⟨hr1, ha1⟩, ⟨hr2, ha2⟩, ⟨hr3, ha3⟩⟩ := id hm
  unfold rng at hx9
  refine MetI.of (by decide) (Nat.le_of_ble_eq_true rfl) hap ?_
  intro p_ e_ s_ m_ args_ below_ meth_ c_ C
  have loop : ∀ (n : Nat) (i : Int), 0 ≤ i ∧ i ≤ 3072 → 3072 - i ≤ n → (∀ j, 0 ≤ j → j < i → x < j → ¬ w 1 (6528 + j) ≠ -1) → G p_ l e_ (rmd 1) s_ m_ args_ below_ meth_ c_ 3 0 0 (MQ below_ (QcI D cy g (fun r V' => ((r = -1 ∧ ∀ j, 0 ≤ j → j < 3072 → x < j → ¬ w 1 (6528 + j) ≠ -1) ∨ ((0 ≤ r ∧ r < 3072) ∧ x < r ∧ w 1 (6528 + r) ≠ -1 ∧ ∀ j, 0 ≤ j → j < r → x < j → ¬ w 1 (6528 + j) ≠ -1)) ∧ V' = setp V o (upw w 0 7 0))) args_ s_ 0 0 (fun q => q ∈ gL g)) D cy g (fun q => q ∈ gL g) s_.heap (setp V o (upw w 0 7 0)) 7 [(2, vI i), (0, .ref a), (1, vI x)] [] := by
    intro n
    induction n with
    | zero =>
      intro i h1 h3 h4
      refine g_iload_n C 0 rfl dX4_next_7 ?_
      refine g_sipush C 3072 rfl dX4_next_8 ?_
      refine g_icmp_ge C (by unfold rng; omega) (by unfold rng; omega) 35 dX4_next_11 (by decide) (fun c11 => ?_) (fun c11 => absurd c11 (by omega))
      refine g_iconst C (-1) rfl dX4_next_35 ?_
      exact g_iret C dX4_next_36 ⟨Or.inl ⟨rfl, fun j q1 q2 => h4 j q1 (by omega)⟩, rfl⟩
    | succ n ih =>
      intro i h1 h3 h4
      refine g_iload_n C 0 rfl dX4_next_7 ?_
      refine g_sipush C 3072 rfl dX4_next_8 ?_
      refine g_icmp_ge C (by unfold rng; omega) (by unfold rng; omega) 35 dX4_next_11 (by decide) (fun c11 => ?_) (fun c11 => ?_)
      · refine g_iconst C (-1) rfl dX4_next_35 ?_
        exact g_iret C dX4_next_36 ⟨Or.inl ⟨rfl, fun j q1 q2 => h4 j q1 (by omega)⟩, rfl⟩
      · refine g_iload_n C 0 rfl dX4_next_14 ?_
        refine g_iload_n C 2 rfl dX4_next_15 ?_
        refine g_icmp_le C (by unfold rng; omega) (by unfold rng; omega) 29 dX4_next_16 (by decide) (fun c16 => ?_) (fun c16 => ?_)
        · refine g_iinc C [(2, vI (i + 1)), (0, .ref a), (1, vI x)] 0 rfl dX4_next_29 (by decide) rfl ?_
          refine g_goto C 7 dX4_next_32 (by decide) ?_
          refine g_sub [0, 1, 2] rfl ?_
          refine ih (i + 1) (by omega) (by omega) (fun j q1 q2 q3 => ?_)
          by_cases hj : j = i
          · subst hj
            first | (exfalso; omega) | (intro hh; rw [if_pos ⟨⟨by omega, by omega⟩, hh⟩] at c24; exact absurd c24 (by decide)) | (by_cases hh : w 1 (6528 + j) = -1; exact fun z => z hh; exfalso; rw [if_pos ⟨⟨by omega, by omega⟩, hh⟩] at c24; exact absurd c24 (by decide))
          · exact h4 j q1 (by omega) q3
        · refine g_aload_n C 1 rfl dX4_next_19 ?_
          refine g_iload_n C 0 rfl dX4_next_20 ?_
          refine g_callI C [vI i] [] (c_X4_isRecord l D cy g V (upw w 0 7 0) a o i hap hm (mwf_7 hw _) (by first | exact (by unfold rng; omega) | (unfold rng; omega))) lm_X4_112 (rcv_Mod hm.1) rfl (Nat.le_of_ble_eq_true rfl) ⟨(Nat.le_of_ble_eq_true rfl), (Nat.le_of_ble_eq_true rfl)⟩ ⟨Nat.zero_le _, Nat.zero_le _⟩ dX4_next_21 ?_
          rintro _ _ ⟨rfl, rfl⟩
          rw [upw_t (by decide)]
          refine g_if_eq C (by split <;> exact ⟨by decide, by decide⟩) 29 dX4_next_24 (by decide) (fun c24 => ?_) (fun c24 => ?_)
          · refine g_iinc C [(2, vI (i + 1)), (0, .ref a), (1, vI x)] 0 rfl dX4_next_29 (by decide) rfl ?_
            refine g_goto C 7 dX4_next_32 (by decide) ?_
            refine g_sub [0, 1, 2] rfl ?_
            refine ih (i + 1) (by omega) (by omega) (fun j q1 q2 q3 => ?_)
            by_cases hj : j = i
            · subst hj
              first | (exfalso; omega) | (intro hh; rw [if_pos ⟨⟨by omega, by omega⟩, hh⟩] at c24; exact absurd c24 (by decide)) | (by_cases hh : w 1 (6528 + j) = -1; exact fun z => z hh; exfalso; rw [if_pos ⟨⟨by omega, by omega⟩, hh⟩] at c24; exact absurd c24 (by decide))
            · exact h4 j q1 (by omega) q3
          · have c24c : (0 ≤ i ∧ i < 3072) ∧ w 1 (6528 + i) ≠ -1 := by
              by_cases hh : (0 ≤ i ∧ i < 3072) ∧ w 1 (6528 + i) ≠ -1
              · exact hh
              · exfalso; rw [if_neg hh] at c24; exact c24 rfl
            refine g_iload_n C 0 rfl dX4_next_27 ?_
            exact g_iret C dX4_next_28 ⟨Or.inr ⟨by omega, by omega, c24c.2, h4⟩, rfl⟩
  refine g_aload_n C 0 rfl dX4_next_0 ?_
  refine g_iconst C 0 rfl dX4_next_1 ?_
  refine sp_Mod_thrown C hm1 lf_X4_23 dX4_next_2 ?_
  refine g_iconst C 0 rfl dX4_next_5 ?_
  refine g_istore_n C [(2, vI 0), (0, .ref a), (1, vI x)] dX4_next_6 rfl (by decide) rfl ?_
  refine g_sub [0, 1, 2] rfl ?_
  exact loop 3072 0 (by omega) (by omega) (fun j q1 q2 => absurd q1 (by omega))
