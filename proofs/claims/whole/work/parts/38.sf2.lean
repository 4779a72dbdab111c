set_option maxHeartbeats 4000000 in
set_option maxRecDepth 100000 in
theorem c_X3_settle (l : Launch) (D : va_G) (cy : ClassId × ClassId) (g : GT) (V : VT) (a : Nat) (hap : Apart g) (hsf : isSf g a) : MetV l yX3_settle cX3_settle 1 none 3 D cy g [.ref a] V (fun V' => V' = sett' V) := by
  obtain ⟨hsf1, s1, s2, lg, ⟨hs1, hS1⟩, ⟨hs2, hS2⟩, ⟨hlg, hlg9⟩⟩ := id hsf
  obtain ⟨⟨ob, hob⟩, ps, hps, hq, hpgs⟩ := id hS1
  obtain ⟨⟨ob2, hob2⟩, -⟩ := id hS2
  have hlg1 := hlg9.1
  refine MetV.of (by decide) (Nat.le_of_ble_eq_true rfl) hap ?_
  intro p_ e_ s_ m_ args_ below_ meth_ c_ C
  refine g_aload_n C 0 rfl dX3_settle_0 ?_
  refine gf_Sf_synced C hsf1 hs2 lf_X3_16 dX3_settle_1 ?_
  refine g_aload_n C 0 rfl dX3_settle_4 ?_
  refine gf_Sf_live C hsf1 hs1 lf_X3_12 dX3_settle_5 ?_
  refine g_callV C [.ref s1] [] (c_X2_copyFrom l D cy g V s2 96 s1 0 hap hS2 hS1 (by decide)) lm_X3_142 (rcv_Store hob2) rfl (Nat.le_of_ble_eq_true rfl) ⟨(Nat.le_of_ble_eq_true rfl), (Nat.le_of_ble_eq_true rfl)⟩ ⟨(Nat.le_of_ble_eq_true rfl), (Nat.le_of_ble_eq_true rfl)⟩ dX3_settle_8 ?_
  rintro _ rfl
  refine g_aload_n C 0 rfl dX3_settle_11 ?_
  refine gf_Sf_log C hsf1 hlg lf_X3_22 dX3_settle_12 ?_
  refine g_iconst C 0 rfl dX3_settle_15 ?_
  refine gpN_Log_size C hlg1 lf_X3_130 dX3_settle_16 ?_
  exact g_vret C dX3_settle_19 rfl
theorem cv_X0_add (l : Launch) (D : va_G) (cy : ClassId × ClassId) (g : GT) (V : VT) (a : Nat) (o : Int) (x n sd : Int) (hap : Apart g) (hg : isLg g a o) (hz : 0 ≤ V o 0 3 ∧ V o 0 3 < 512) : MetV l yX0_add cX0_add 4 none 0 D cy g [.ref a, vI x, vI n, vI sd] V (fun V' => V' = setp V o (lAdd (V o) x n sd)) := by
  have h := c_X0_add l D cy g V (V o) a o x n sd hap hg hz
  rw [setp_self] at h
  exact h
set_option maxHeartbeats 4000000 in
set_option maxRecDepth 100000 in
theorem c_X3_noteChange (l : Launch) (D : va_G) (cy : ClassId × ClassId) (g : GT) (V : VT) (a : Nat) (x n sd : Int) (hap : Apart g) (hsf : isSf g a) (hz : 0 ≤ V 192 0 3 ∧ V 192 0 3 < 512) : MetV l yX3_noteChange cX3_noteChange 4 none 4 D cy g [.ref a, vI x, vI n, vI sd] V (fun V' => V' = setp V 192 (lAdd (V 192) x n sd)) := by
  obtain ⟨hsf1, s1, s2, lg, ⟨hs1, hS1⟩, ⟨hs2, hS2⟩, ⟨hlg, hlg9⟩⟩ := id hsf
  obtain ⟨⟨ob, hob⟩, ps, hps, hq, hpgs⟩ := id hS1
  obtain ⟨⟨ob2, hob2⟩, -⟩ := id hS2
  have hlg1 := hlg9.1
  refine MetV.of (by decide) (Nat.le_of_ble_eq_true rfl) hap ?_
  intro p_ e_ s_ m_ args_ below_ meth_ c_ C
  refine g_aload_n C 0 rfl dX3_noteChange_0 ?_
  refine gf_Sf_log C hsf1 hlg lf_X3_22 dX3_noteChange_1 ?_
  refine gfN_Log_size C hlg1 lf_X3_130 dX3_noteChange_4 ?_
  refine g_sipush C 512 rfl dX3_noteChange_7 ?_
  refine g_icmp_ge C (by unfold rng; omega) (by unfold rng; omega) 26 dX3_noteChange_10 (by decide) (fun c10 => absurd c10 (by omega)) (fun c10 => ?_)
  refine g_aload_n C 0 rfl dX3_noteChange_13 ?_
  refine gf_Sf_log C hsf1 hlg lf_X3_22 dX3_noteChange_14 ?_
  refine g_iload_n C 1 rfl dX3_noteChange_17 ?_
  refine g_iload_n C 2 rfl dX3_noteChange_18 ?_
  refine g_iload_n C 3 rfl dX3_noteChange_19 ?_
  refine g_callV C [vI x, vI n, vI sd] [] (cv_X0_add l D cy g V lg 192 x n sd hap hlg9 hz) lm_X3_160 (rcv_Log hlg1) rfl (Nat.le_of_ble_eq_true rfl) ⟨(Nat.le_of_ble_eq_true rfl), (Nat.le_of_ble_eq_true rfl)⟩ ⟨(Nat.le_of_ble_eq_true rfl), (Nat.le_of_ble_eq_true rfl)⟩ dX3_noteChange_20 ?_
  rintro _ rfl
  refine g_goto C 30 dX3_noteChange_23 (by decide) ?_
  exact g_vret C dX3_noteChange_30 rfl
set_option maxHeartbeats 4000000 in
set_option maxRecDepth 100000 in
theorem c_X3_sync (l : Launch) (D : va_G) (cy : ClassId × ClassId) (g : GT) (V : VT) (a : Nat) (hap : Apart g) (hsf : isSf g a) : MetI l yX3_sync cX3_sync 2 (some .int) 4 D cy g [.ref a] V (fun r V' => r = V 192 0 3 ∧ V' = sett' V) := by
  obtain ⟨hsf1, s1, s2, lg, ⟨hs1, hS1⟩, ⟨hs2, hS2⟩, ⟨hlg, hlg9⟩⟩ := id hsf
  obtain ⟨⟨ob, hob⟩, ps, hps, hq, hpgs⟩ := id hS1
  obtain ⟨⟨ob2, hob2⟩, -⟩ := id hS2
  have hlg1 := hlg9.1
  refine MetI.of (by decide) (Nat.le_of_ble_eq_true rfl) hap ?_
  intro p_ e_ s_ m_ args_ below_ meth_ c_ C
  refine g_aload_n C 0 rfl dX3_sync_0 ?_
  refine gf_Sf_log C hsf1 hlg lf_X3_22 dX3_sync_1 ?_
  refine gfN_Log_size C hlg1 lf_X3_130 dX3_sync_4 ?_
  refine g_istore_n C [(1, vI (V 192 0 3)), (0, .ref a)] dX3_sync_7 rfl (by decide) rfl ?_
  refine g_aload_n C 1 rfl dX3_sync_8 ?_
  refine g_callV C [] [] (c_X3_settle l D cy g V a hap hsf) lm_X3_133 (rcv_Sf hsf1) rfl (Nat.le_of_ble_eq_true rfl) ⟨(Nat.le_of_ble_eq_true rfl), (Nat.le_of_ble_eq_true rfl)⟩ ⟨(Nat.le_of_ble_eq_true rfl), (Nat.le_of_ble_eq_true rfl)⟩ dX3_sync_9 ?_
  rintro _ rfl
  refine g_iload_n C 0 rfl dX3_sync_12 ?_
  exact g_iret C dX3_sync_13 ⟨rfl, rfl⟩
set_option maxHeartbeats 4000000 in
set_option maxRecDepth 100000 in
theorem c_X3_length (l : Launch) (D : va_G) (cy : ClassId × ClassId) (g : GT) (V : VT) (a : Nat) (x : Int) (hap : Apart g) (hsf : isSf g a) (hI : SI V 0) (hx9 : rng x) (hB : isRc V x → (0 ≤ vcel V 0 x ∧ vcel V 0 x < 3072) ∧ (0 ≤ cLen V x ∧ cLen V x ≤ 1200) ∧ (0 ≤ cSd V x ∧ cSd V x ≤ 255)) : MetI l yX3_length cX3_length 2 (some .int) 2 D cy g [.ref a, vI x] V (fun r V' => ((isRc V x ∧ r = cLen V x) ∨ (¬ isRc V x ∧ r = -1)) ∧ V' = V) := by
  obtain ⟨hsf1, s1, s2, lg, ⟨hs1, hS1⟩, ⟨hs2, hS2⟩, ⟨hlg, hlg9⟩⟩ := id hsf
  obtain ⟨⟨ob, hob⟩, ps, hps, hq, hpgs⟩ := id hS1
  obtain ⟨⟨ob2, hob2⟩, -⟩ := id hS2
  have hlg1 := hlg9.1
  unfold rng at hx9
  refine MetI.of (by decide) (Nat.le_of_ble_eq_true rfl) hap ?_
  intro p_ e_ s_ m_ args_ below_ meth_ c_ C
  refine g_aload_n C 0 rfl dX3_length_0 ?_
  refine gf_Sf_live C hsf1 hs1 lf_X3_12 dX3_length_1 ?_
  refine g_iload_n C 1 rfl dX3_length_4 ?_
  refine g_callI C [vI x] [] (c_X2_hasRecord l D cy g V s1 0 x hap hS1 (SI_swf hI) hx9) lm_X3_57 (rcv_Store hob) rfl (Nat.le_of_ble_eq_true rfl) ⟨(Nat.le_of_ble_eq_true rfl), (Nat.le_of_ble_eq_true rfl)⟩ ⟨(Nat.le_of_ble_eq_true rfl), (Nat.le_of_ble_eq_true rfl)⟩ dX3_length_5 ?_
  rintro r9 V1 ⟨hr9, hV1⟩
  refine g_V hV1 ?_
  clear hV1 V1
  have e9 : r9 = (if 0 ≤ x ∧ x < 3072 ∧ (V (0 + x / 32) 1 (x % 32) = 1 ∨ V (0 + x / 32) 1 (x % 32) = 2) then 1 else 0) := hr9
  clear hr9
  subst e9
  refine g_if_eq C (by split <;> exact ⟨by decide, by decide⟩) 22 dX3_length_8 (by decide) (fun c8 => ?_) (fun c8 => ?_)
  · have hr : ¬ isRc V x := ite_eq (P := 0 ≤ x ∧ x < 3072 ∧ (V (0 + x / 32) 1 (x % 32) = 1 ∨ V (0 + x / 32) 1 (x % 32) = 2)) c8
    refine g_iconst C (-1) rfl dX3_length_22 ?_
    exact g_iret C dX3_length_23 ⟨Or.inr ⟨hr, rfl⟩, rfl⟩
  · have hr : isRc V x := ite_ne (P := 0 ≤ x ∧ x < 3072 ∧ (V (0 + x / 32) 1 (x % 32) = 1 ∨ V (0 + x / 32) 1 (x % 32) = 2)) c8
    refine g_aload_n C 0 rfl dX3_length_11 ?_
    refine gf_Sf_live C hsf1 hs1 lf_X3_12 dX3_length_12 ?_
    refine g_iload_n C 1 rfl dX3_length_15 ?_
    refine g_callI C [vI x] [] (c_X2_lengthOf l D cy g V s1 0 x hap hS1 (SI_swf hI) ⟨hr.1, hr.2.1⟩ (hB hr).1) lm_X3_50 (rcv_Store hob) rfl (Nat.le_of_ble_eq_true rfl) ⟨(Nat.le_of_ble_eq_true rfl), (Nat.le_of_ble_eq_true rfl)⟩ ⟨(Nat.le_of_ble_eq_true rfl), (Nat.le_of_ble_eq_true rfl)⟩ dX3_length_16 ?_
    rintro r9 V1 ⟨hr9, hV1⟩
    refine g_V hV1 ?_
    clear hV1 V1
    have e9 : r9 = (cLen V x) := hr9
    clear hr9
    subst e9
    refine g_goto C 23 dX3_length_19 (by decide) ?_
    exact g_iret C dX3_length_23 ⟨Or.inl ⟨hr, rfl⟩, rfl⟩
set_option maxHeartbeats 4000000 in
set_option maxRecDepth 100000 in
theorem c_X3_next (l : Launch) (D : va_G) (cy : ClassId × ClassId) (g : GT) (V : VT) (a : Nat) (x : Int) (hap : Apart g) (hsf : isSf g a) (hI : SI V 0) (hx9 : rng x) : MetI l yX3_next cX3_next 2 (some .int) 3 D cy g [.ref a, vI x] V (fun r V' => ((¬ x < 3072 ∧ r = -1) ∨ (x < 3072 ∧ ((r = -1 ∧ ∀ j, (if x < -1 then -1 else x) + 1 ≤ j → j < 3072 → ¬ isRec V 0 j) ∨ ((if x < -1 then -1 else x) + 1 ≤ r ∧ r < 3072 ∧ isRec V 0 r ∧ ∀ j, (if x < -1 then -1 else x) + 1 ≤ j → j < r → ¬ isRec V 0 j)))) ∧ V' = V) := by
  obtain ⟨hsf1, s1, s2, lg, ⟨hs1, hS1⟩, ⟨hs2, hS2⟩, ⟨hlg, hlg9⟩⟩ := id hsf
  obtain ⟨⟨ob, hob⟩, ps, hps, hq, hpgs⟩ := id hS1
  obtain ⟨⟨ob2, hob2⟩, -⟩ := id hS2
  have hlg1 := hlg9.1
  unfold rng at hx9
  refine MetI.of (by decide) (Nat.le_of_ble_eq_true rfl) hap ?_
  intro p_ e_ s_ m_ args_ below_ meth_ c_ C
  refine g_iload_n C 1 rfl dX3_next_0 ?_
  refine g_sipush C 3072 rfl dX3_next_1 ?_
  refine g_icmp_lt C (by unfold rng; omega) (by unfold rng; omega) 11 dX3_next_4 (by decide) (fun c4 => ?_) (fun c4 => ?_)
  · refine g_aload_n C 0 rfl dX3_next_11 ?_
    refine gf_Sf_live C hsf1 hs1 lf_X3_12 dX3_next_12 ?_
    refine g_iload_n C 1 rfl dX3_next_15 ?_
    refine g_iconst C (-1) rfl dX3_next_16 ?_
    refine g_mmax C (by unfold rng; omega) (by unfold rng; omega) lmax1 lmax2 lmth lmax4 (Nat.le_of_ble_eq_true rfl) (Nat.le_of_ble_eq_true rfl) ⟨(Nat.le_of_ble_eq_true rfl), (Nat.le_of_ble_eq_true rfl)⟩ dX3_next_17 ?_
    refine g_iconst C 1 rfl dX3_next_20 ?_
    refine g_iadd C dX3_next_21 ?_
    refine g_callI C [vI ((if x < ((-1)) then ((-1)) else x) + 1)] [] (c_X2_firstRecordFrom l D cy g V s1 0 ((if x < ((-1)) then ((-1)) else x) + 1) hap hS1 (SI_swf hI) (fun i s h1 h2 h3 h4 => (hI i h1 h2).2.1.2.1 s h3 h4) (by split <;> omega)) lm_X3_85 (rcv_Store hob) rfl (Nat.le_of_ble_eq_true rfl) ⟨(Nat.le_of_ble_eq_true rfl), (Nat.le_of_ble_eq_true rfl)⟩ ⟨(Nat.le_of_ble_eq_true rfl), (Nat.le_of_ble_eq_true rfl)⟩ dX3_next_22 ?_
    rintro r V1 ⟨hr, hV1⟩
    refine g_V hV1 ?_
    clear hV1 V1
    refine g_iret C dX3_next_25 ⟨?_, rfl⟩
    exact Or.inr ⟨by omega, hr⟩
  · refine g_iconst C (-1) rfl dX3_next_7 ?_
    refine g_goto C 25 dX3_next_8 (by decide) ?_
    refine g_iret C dX3_next_25 ⟨?_, rfl⟩
    exact Or.inl ⟨by omega, rfl⟩
set_option maxHeartbeats 4000000 in
set_option maxRecDepth 100000 in
theorem c_X3_checkRecord (l : Launch) (D : va_G) (cy : ClassId × ClassId) (g : GT) (V : VT) (hl : l.stackTraces = false) (a : Nat) (x : Int) (hap : Apart g) (hsf : isSf g a) (hI : SI V 0) (hx9 : rng x) : MetXV l yX3_checkRecord cX3_checkRecord 2 none 7 1 D cy g [.ref a, vI x] V (fun V' => V' = V ∧ isRc V x) (fun E V' => E = xNSE ∧ V' = V ∧ ¬ isRc V x) := by
  obtain ⟨hsf1, s1, s2, lg, ⟨hs1, hS1⟩, ⟨hs2, hS2⟩, ⟨hlg, hlg9⟩⟩ := id hsf
  obtain ⟨⟨ob, hob⟩, ps, hps, hq, hpgs⟩ := id hS1
  obtain ⟨⟨ob2, hob2⟩, -⟩ := id hS2
  have hlg1 := hlg9.1
  refine MetXV.of (by decide) (Nat.le_of_ble_eq_true rfl) hap ?_
  intro p_ e_ s_ m_ args_ below_ meth_ c_ C hT hno
  refine g_aload_n C 0 rfl dX3_checkRecord_0 ?_
  refine gf_Sf_live C hsf1 hs1 lf_X3_12 dX3_checkRecord_1 ?_
  refine g_iload_n C 1 rfl dX3_checkRecord_4 ?_
  refine g_callI C [vI x] [] (c_X2_hasRecord l D cy g V s1 0 x hap hS1 (SI_swf hI) hx9) lm_X3_57 (rcv_Store hob) rfl (Nat.le_of_ble_eq_true rfl) ⟨(Nat.le_of_ble_eq_true rfl), (Nat.le_of_ble_eq_true rfl)⟩ ⟨(Nat.le_of_ble_eq_true rfl), (Nat.le_of_ble_eq_true rfl)⟩ dX3_checkRecord_5 ?_
  rintro r9 V1 ⟨hr9, hV1⟩
  refine g_V hV1 ?_
  clear hV1 V1
  have e9 : r9 = (if 0 ≤ x ∧ x < 3072 ∧ (V (0 + x / 32) 1 (x % 32) = 1 ∨ V (0 + x / 32) 1 (x % 32) = 2) then 1 else 0) := hr9
  clear hr9
  subst e9
  refine g_if_ne C (by split <;> exact ⟨by decide, by decide⟩) 21 dX3_checkRecord_8 (by decide) (fun c8 => ?_) (fun c8 => ?_)
  · exact gx_vret C (Nat.le_of_ble_eq_true rfl) (Nat.le_of_ble_eq_true rfl) dX3_checkRecord_21 ⟨rfl, ite_ne (P := 0 ≤ x ∧ x < 3072 ∧ (V (0 + x / 32) 1 (x % 32) = 1 ∨ V (0 + x / 32) 1 (x % 32) = 2)) c8⟩
  · exact gx_throw C hT hno hl xok_N (List.mem_of_getElem? (i := 1) rfl) dX3_checkRecord_11 dX3_checkRecord_14 dX3_checkRecord_15 dX3_checkRecord_17 dX3_checkRecord_20 (Nat.le_of_ble_eq_true rfl) (Nat.le_of_ble_eq_true rfl) (Nat.le_of_ble_eq_true rfl) (Nat.le_of_ble_eq_true rfl) (Nat.le_of_ble_eq_true rfl) (Nat.le_of_ble_eq_true rfl) ⟨rfl, rfl, ite_eq (P := 0 ≤ x ∧ x < 3072 ∧ (V (0 + x / 32) 1 (x % 32) = 1 ∨ V (0 + x / 32) 1 (x % 32) = 2)) c8⟩
set_option maxHeartbeats 4000000 in
set_option maxRecDepth 100000 in
theorem c_X3_checkValue (l : Launch) (D : va_G) (cy : ClassId × ClassId) (g : GT) (V : VT) (hl : l.stackTraces = false) (q sd : Int) (hap : Apart g) (hq9 : rng q) (hs9 : rng sd) : MetXV l yX3_checkValue cX3_checkValue 2 none 7 1 D cy g [vI q, vI sd] V (fun V' => V' = V ∧ vOK q sd) (fun E V' => E = xIAE ∧ V' = V ∧ ¬ vOK q sd) := by
  unfold rng at hq9 hs9
  refine MetXV.of (by decide) (Nat.le_of_ble_eq_true rfl) hap ?_
  intro p_ e_ s_ m_ args_ below_ meth_ c_ C hT hno
  refine g_iload_n C 0 rfl dX3_checkValue_0 ?_
  refine g_if_lt C (by unfold rng; omega) 22 dX3_checkValue_1 (by decide) (fun c1 => ?_) (fun c1 => ?_)
  · exact gx_throw C hT hno hl xok_I (List.mem_of_getElem? (i := 0) rfl) dX3_checkValue_22 dX3_checkValue_25 dX3_checkValue_26 dX3_checkValue_28 dX3_checkValue_31 (Nat.le_of_ble_eq_true rfl) (Nat.le_of_ble_eq_true rfl) (Nat.le_of_ble_eq_true rfl) (Nat.le_of_ble_eq_true rfl) (Nat.le_of_ble_eq_true rfl) (Nat.le_of_ble_eq_true rfl) ⟨rfl, rfl, fun hv => by unfold vOK at hv; omega⟩
  · refine g_iload_n C 0 rfl dX3_checkValue_4 ?_
    refine g_sipush C 1200 rfl dX3_checkValue_5 ?_
    refine g_icmp_gt C (by unfold rng; omega) (by unfold rng; omega) 22 dX3_checkValue_8 (by decide) (fun c8 => ?_) (fun c8 => ?_)
    · exact gx_throw C hT hno hl xok_I (List.mem_of_getElem? (i := 0) rfl) dX3_checkValue_22 dX3_checkValue_25 dX3_checkValue_26 dX3_checkValue_28 dX3_checkValue_31 (Nat.le_of_ble_eq_true rfl) (Nat.le_of_ble_eq_true rfl) (Nat.le_of_ble_eq_true rfl) (Nat.le_of_ble_eq_true rfl) (Nat.le_of_ble_eq_true rfl) (Nat.le_of_ble_eq_true rfl) ⟨rfl, rfl, fun hv => by unfold vOK at hv; omega⟩
    · refine g_iload_n C 1 rfl dX3_checkValue_11 ?_
      refine g_if_lt C (by unfold rng; omega) 22 dX3_checkValue_12 (by decide) (fun c12 => ?_) (fun c12 => ?_)
      · exact gx_throw C hT hno hl xok_I (List.mem_of_getElem? (i := 0) rfl) dX3_checkValue_22 dX3_checkValue_25 dX3_checkValue_26 dX3_checkValue_28 dX3_checkValue_31 (Nat.le_of_ble_eq_true rfl) (Nat.le_of_ble_eq_true rfl) (Nat.le_of_ble_eq_true rfl) (Nat.le_of_ble_eq_true rfl) (Nat.le_of_ble_eq_true rfl) (Nat.le_of_ble_eq_true rfl) ⟨rfl, rfl, fun hv => by unfold vOK at hv; omega⟩
      · refine g_iload_n C 1 rfl dX3_checkValue_15 ?_
        refine g_sipush C 255 rfl dX3_checkValue_16 ?_
        refine g_icmp_le C (by unfold rng; omega) (by unfold rng; omega) 32 dX3_checkValue_19 (by decide) (fun c19 => ?_) (fun c19 => ?_)
        · exact gx_vret C (Nat.le_of_ble_eq_true rfl) (Nat.le_of_ble_eq_true rfl) dX3_checkValue_32 ⟨rfl, by unfold vOK; omega⟩
        · exact gx_throw C hT hno hl xok_I (List.mem_of_getElem? (i := 0) rfl) dX3_checkValue_22 dX3_checkValue_25 dX3_checkValue_26 dX3_checkValue_28 dX3_checkValue_31 (Nat.le_of_ble_eq_true rfl) (Nat.le_of_ble_eq_true rfl) (Nat.le_of_ble_eq_true rfl) (Nat.le_of_ble_eq_true rfl) (Nat.le_of_ble_eq_true rfl) (Nat.le_of_ble_eq_true rfl) ⟨rfl, rfl, fun hv => by unfold vOK at hv; omega⟩
set_option maxHeartbeats 4000000 in
set_option maxRecDepth 100000 in
theorem c_X3_checkPage (l : Launch) (D : va_G) (cy : ClassId × ClassId) (g : GT) (V : VT) (hl : l.stackTraces = false) (p : Int) (hap : Apart g) (hp9 : rng p) : MetXV l yX3_checkPage cX3_checkPage 1 none 7 1 D cy g [vI p] V (fun V' => V' = V ∧ (0 ≤ p ∧ p < 96)) (fun E V' => E = xIAE ∧ V' = V ∧ ¬ (0 ≤ p ∧ p < 96)) := by
  unfold rng at hp9
  refine MetXV.of (by decide) (Nat.le_of_ble_eq_true rfl) hap ?_
  intro p_ e_ s_ m_ args_ below_ meth_ c_ C hT hno
  refine g_iload_n C 0 rfl dX3_checkPage_0 ?_
  refine g_if_lt C (by unfold rng; omega) 10 dX3_checkPage_1 (by decide) (fun c1 => ?_) (fun c1 => ?_)
  · exact gx_throw C hT hno hl xok_I (List.mem_of_getElem? (i := 3) rfl) dX3_checkPage_10 dX3_checkPage_13 dX3_checkPage_14 dX3_checkPage_16 dX3_checkPage_19 (Nat.le_of_ble_eq_true rfl) (Nat.le_of_ble_eq_true rfl) (Nat.le_of_ble_eq_true rfl) (Nat.le_of_ble_eq_true rfl) (Nat.le_of_ble_eq_true rfl) (Nat.le_of_ble_eq_true rfl) ⟨rfl, rfl, fun hv => by omega⟩
  · refine g_iload_n C 0 rfl dX3_checkPage_4 ?_
    refine g_bipush C 96 rfl dX3_checkPage_5 ?_
    refine g_icmp_lt C (by unfold rng; omega) (by unfold rng; omega) 20 dX3_checkPage_7 (by decide) (fun c7 => ?_) (fun c7 => ?_)
    · exact gx_vret C (Nat.le_of_ble_eq_true rfl) (Nat.le_of_ble_eq_true rfl) dX3_checkPage_20 ⟨rfl, by omega⟩
    · exact gx_throw C hT hno hl xok_I (List.mem_of_getElem? (i := 3) rfl) dX3_checkPage_10 dX3_checkPage_13 dX3_checkPage_14 dX3_checkPage_16 dX3_checkPage_19 (Nat.le_of_ble_eq_true rfl) (Nat.le_of_ble_eq_true rfl) (Nat.le_of_ble_eq_true rfl) (Nat.le_of_ble_eq_true rfl) (Nat.le_of_ble_eq_true rfl) (Nat.le_of_ble_eq_true rfl) ⟨rfl, rfl, fun hv => by omega⟩
set_option maxHeartbeats 4000000 in
set_option maxRecDepth 100000 in
theorem c_X3_insert (l : Launch) (D : va_G) (cy : ClassId × ClassId) (g : GT) (V : VT) (hl : l.stackTraces = false) (a : Nat) (q sd : Int) (hap : Apart g) (hsf : isSf g a) (hI : SI V 0) (hq9 : rng q) (hs9 : rng sd) (hz : 0 ≤ V 192 0 3 ∧ V 192 0 3 < 512) : MetXI l yX3_insert cX3_insert 4 (some .int) 8 2 D cy g [.ref a, vI q, vI sd] V (fun r V' => vOK q sd ∧ ∃ V2, AddP V 0 q sd r V2 ∧ V' = if r = -1 then V2 else setp V2 192 (lAdd (V2 192) (-1) q sd)) (fun E V' => E = xIAE ∧ V' = V ∧ ¬ vOK q sd) := by
  obtain ⟨hsf1, s1, s2, lg, ⟨hs1, hS1⟩, ⟨hs2, hS2⟩, ⟨hlg, hlg9⟩⟩ := id hsf
  obtain ⟨⟨ob, hob⟩, ps, hps, hq, hpgs⟩ := id hS1
  obtain ⟨⟨ob2, hob2⟩, -⟩ := id hS2
  have hlg1 := hlg9.1
  refine MetXI.of (by decide) (Nat.le_of_ble_eq_true rfl) hap ?_
  intro p_ e_ s_ m_ args_ below_ meth_ c_ C hT hno
  refine g_iload_n C 1 rfl dX3_insert_0 ?_
  refine g_iload_n C 2 rfl dX3_insert_1 ?_
  refine gx_callSV C hT hno [vI q, vI sd] [] (c_X3_checkValue l D cy g V hl q sd hap hq9 hs9) lm_X3_30 rfl (Nat.le_of_ble_eq_true rfl) ⟨(Nat.le_of_ble_eq_true rfl), (Nat.le_of_ble_eq_true rfl)⟩ ⟨(Nat.le_of_ble_eq_true rfl), (Nat.le_of_ble_eq_true rfl)⟩ ⟨(Nat.le_of_ble_eq_true rfl), (Nat.le_of_ble_eq_true rfl)⟩ dX3_insert_2 (fun E u h => h) ?_
  rintro V1 ⟨hV1, hv⟩
  refine g_V hV1 ?_
  clear hV1 V1
  refine g_aload_n C 0 rfl dX3_insert_5 ?_
  refine gf_Sf_live C hsf1 hs1 lf_X3_12 dX3_insert_6 ?_
  refine g_iload_n C 1 rfl dX3_insert_9 ?_
  refine g_iload_n C 2 rfl dX3_insert_10 ?_
  refine g_callI C [vI q, vI sd] [] (c_X2_addRecord l D cy g V s1 0 q sd hap hS1 hI hv.1) lm_X3_34 (rcv_Store hob) rfl (Nat.le_of_ble_eq_true rfl) ⟨(Nat.le_of_ble_eq_true rfl), (Nat.le_of_ble_eq_true rfl)⟩ ⟨(Nat.le_of_ble_eq_true rfl), (Nat.le_of_ble_eq_true rfl)⟩ dX3_insert_11 ?_
  rintro r V2 hA
  have h192 : V2 192 = V 192 := AddP_out hI hv.1 hA 192 (by decide)
  have hrr := AddP_r hI hv.1 hA
  refine g_istore_n C [(3, vI r), (0, .ref a), (1, vI q), (2, vI sd)] dX3_insert_14 rfl (by decide) rfl ?_
  refine g_iload_n C 0 rfl dX3_insert_15 ?_
  refine g_iconst C (-1) rfl dX3_insert_16 ?_
  refine g_icmp_eq C (by unfold rng; omega) (by unfold rng; omega) 27 dX3_insert_17 (by decide) (fun c17 => ?_) (fun c17 => ?_)
  · refine g_iload_n C 0 rfl dX3_insert_27 ?_
    exact gx_iret C (Nat.le_of_ble_eq_true rfl) (Nat.le_of_ble_eq_true rfl) dX3_insert_28 ⟨hv, V2, hA, by first | (rw [if_neg (by omega)]; done) | (rw [if_pos (by omega)]; done)⟩
  · refine g_aload_n C 1 rfl dX3_insert_20 ?_
    refine g_iconst C (-1) rfl dX3_insert_21 ?_
    refine g_iload_n C 2 rfl dX3_insert_22 ?_
    refine g_iload_n C 3 rfl dX3_insert_23 ?_
    refine g_callV C [vI ((-1)), vI q, vI sd] [] (c_X3_noteChange l D cy g V2 a (-1) q sd hap hsf (by rw [h192]; exact hz)) lm_X3_38 (rcv_Sf hsf1) rfl (Nat.le_of_ble_eq_true rfl) ⟨(Nat.le_of_ble_eq_true rfl), (Nat.le_of_ble_eq_true rfl)⟩ ⟨(Nat.le_of_ble_eq_true rfl), (Nat.le_of_ble_eq_true rfl)⟩ dX3_insert_24 ?_
    rintro _ rfl
    refine g_iload_n C 0 rfl dX3_insert_27 ?_
    exact gx_iret C (Nat.le_of_ble_eq_true rfl) (Nat.le_of_ble_eq_true rfl) dX3_insert_28 ⟨hv, V2, hA, by first | (rw [if_neg (by omega)]; done) | (rw [if_pos (by omega)]; done)⟩
set_option maxHeartbeats 4000000 in
set_option maxRecDepth 100000 in
theorem c_X3_update (l : Launch) (D : va_G) (cy : ClassId × ClassId) (g : GT) (V : VT) (hl : l.stackTraces = false) (a : Nat) (x q sd : Int) (L0 : List Int) (hap : Apart g) (hsf : isSf g a) (hI : SI V 0) (hx9 : rng x) (hq9 : rng q) (hs9 : rng sd) (hz : 0 ≤ V 192 0 3 ∧ V 192 0 3 < 512) (hR : isRc V x → recOK V 0 x L0) : MetXI l yX3_update cX3_update 5 (some .boolean) 8 2 D cy g [.ref a, vI x, vI q, vI sd] V (fun r V' => isRc V x ∧ vOK q sd ∧ ∃ V2, ChgP V 0 x q sd L0 r V2 ∧ V' = if r = 0 then V2 else setp V2 192 (lAdd (V2 192) x q sd)) (fun E V' => V' = V ∧ ((E = xNSE ∧ ¬ isRc V x) ∨ (E = xIAE ∧ isRc V x ∧ ¬ vOK q sd))) := by
  obtain ⟨hsf1, s1, s2, lg, ⟨hs1, hS1⟩, ⟨hs2, hS2⟩, ⟨hlg, hlg9⟩⟩ := id hsf
  obtain ⟨⟨ob, hob⟩, ps, hps, hq, hpgs⟩ := id hS1
  obtain ⟨⟨ob2, hob2⟩, -⟩ := id hS2
  have hlg1 := hlg9.1
  refine MetXI.of (by decide) (Nat.le_of_ble_eq_true rfl) hap ?_
  intro p_ e_ s_ m_ args_ below_ meth_ c_ C hT hno
  refine g_aload_n C 0 rfl dX3_update_0 ?_
  refine g_iload_n C 1 rfl dX3_update_1 ?_
  refine gx_callVV C hT hno [vI x] [] (c_X3_checkRecord l D cy g V hl a x hap hsf hI hx9) lm_X3_42 (rcv_Sf hsf1) rfl (Nat.le_of_ble_eq_true rfl) ⟨(Nat.le_of_ble_eq_true rfl), (Nat.le_of_ble_eq_true rfl)⟩ ⟨(Nat.le_of_ble_eq_true rfl), (Nat.le_of_ble_eq_true rfl)⟩ ⟨(Nat.le_of_ble_eq_true rfl), (Nat.le_of_ble_eq_true rfl)⟩ dX3_update_2 (fun E u h => ⟨h.2.1, Or.inl ⟨h.1, h.2.2⟩⟩) ?_
  rintro V1 ⟨hV1, hr⟩
  refine g_V hV1 ?_
  clear hV1 V1
  refine g_iload_n C 2 rfl dX3_update_5 ?_
  refine g_iload_n C 3 rfl dX3_update_6 ?_
  refine gx_callSV C hT hno [vI q, vI sd] [] (c_X3_checkValue l D cy g V hl q sd hap hq9 hs9) lm_X3_30 rfl (Nat.le_of_ble_eq_true rfl) ⟨(Nat.le_of_ble_eq_true rfl), (Nat.le_of_ble_eq_true rfl)⟩ ⟨(Nat.le_of_ble_eq_true rfl), (Nat.le_of_ble_eq_true rfl)⟩ ⟨(Nat.le_of_ble_eq_true rfl), (Nat.le_of_ble_eq_true rfl)⟩ dX3_update_7 (fun E u h => ⟨h.2.1, Or.inr ⟨h.1, hr, h.2.2⟩⟩) ?_
  rintro V1 ⟨hV1, hv⟩
  refine g_V hV1 ?_
  clear hV1 V1
  refine g_aload_n C 0 rfl dX3_update_10 ?_
  refine gf_Sf_live C hsf1 hs1 lf_X3_12 dX3_update_11 ?_
  refine g_iload_n C 1 rfl dX3_update_14 ?_
  refine g_iload_n C 2 rfl dX3_update_15 ?_
  refine g_iload_n C 3 rfl dX3_update_16 ?_
  refine g_callI C [vI x, vI q, vI sd] [] (c_X2_changeRecord l D cy g V s1 0 x q sd L0 hap hS1 hI hv.1 (hR hr)) lm_X3_46 (rcv_Store hob) rfl (Nat.le_of_ble_eq_true rfl) ⟨(Nat.le_of_ble_eq_true rfl), (Nat.le_of_ble_eq_true rfl)⟩ ⟨(Nat.le_of_ble_eq_true rfl), (Nat.le_of_ble_eq_true rfl)⟩ dX3_update_17 ?_
  rintro r V2 hA
  have h192 : V2 192 = V 192 := ChgP_out hI hv.1 (hR hr) hA 192 (by decide)
  have hrr := ChgP_r hA
  refine g_istore C [(4, vI r), (0, .ref a), (1, vI x), (2, vI q), (3, vI sd)] dX3_update_20 (by decide) rfl ?_
  refine g_iload C 0 rfl dX3_update_22 ?_
  refine g_if_eq C (by unfold rng; omega) 34 dX3_update_24 (by decide) (fun c24 => ?_) (fun c24 => ?_)
  · refine g_iload C 0 rfl dX3_update_34 ?_
    exact gx_zret C hrr (Nat.le_of_ble_eq_true rfl) (Nat.le_of_ble_eq_true rfl) dX3_update_36 ⟨hr, hv, V2, hA, by first | (rw [if_neg (by omega)]; done) | (rw [if_pos (by omega)]; done)⟩
  · refine g_aload_n C 1 rfl dX3_update_27 ?_
    refine g_iload_n C 2 rfl dX3_update_28 ?_
    refine g_iload_n C 3 rfl dX3_update_29 ?_
    refine g_iload_n C 4 rfl dX3_update_30 ?_
    refine g_callV C [vI x, vI q, vI sd] [] (c_X3_noteChange l D cy g V2 a x q sd hap hsf (by rw [h192]; exact hz)) lm_X3_38 (rcv_Sf hsf1) rfl (Nat.le_of_ble_eq_true rfl) ⟨(Nat.le_of_ble_eq_true rfl), (Nat.le_of_ble_eq_true rfl)⟩ ⟨(Nat.le_of_ble_eq_true rfl), (Nat.le_of_ble_eq_true rfl)⟩ dX3_update_31 ?_
    rintro _ rfl
    refine g_iload C 0 rfl dX3_update_34 ?_
    exact gx_zret C hrr (Nat.le_of_ble_eq_true rfl) (Nat.le_of_ble_eq_true rfl) dX3_update_36 ⟨hr, hv, V2, hA, by first | (rw [if_neg (by omega)]; done) | (rw [if_pos (by omega)]; done)⟩
set_option maxHeartbeats 4000000 in
set_option maxRecDepth 100000 in
theorem c_X3_delete (l : Launch) (D : va_G) (cy : ClassId × ClassId) (g : GT) (V : VT) (hl : l.stackTraces = false) (a : Nat) (x : Int) (L0 : List Int) (hap : Apart g) (hsf : isSf g a) (hI : SI V 0) (hx9 : rng x) (hz : 0 ≤ V 192 0 3 ∧ V 192 0 3 < 512) (hR : isRc V x → recOK V 0 x L0) (hB : isRc V x → (0 ≤ vcel V 0 x ∧ vcel V 0 x < 3072) ∧ (0 ≤ cLen V x ∧ cLen V x ≤ 1200) ∧ (0 ≤ cSd V x ∧ cSd V x ≤ 255)) : MetXI l yX3_delete cX3_delete 3 (some .int) 8 2 D cy g [.ref a, vI x] V (fun r V' => isRc V x ∧ r = cLen V x ∧ ∃ V2, RemP V 0 x L0 V2 ∧ V' = setp V2 192 (lAdd (V2 192) x (-1) (-1))) (fun E V' => E = xNSE ∧ V' = V ∧ ¬ isRc V x) := by
  obtain ⟨hsf1, s1, s2, lg, ⟨hs1, hS1⟩, ⟨hs2, hS2⟩, ⟨hlg, hlg9⟩⟩ := id hsf
  obtain ⟨⟨ob, hob⟩, ps, hps, hq, hpgs⟩ := id hS1
  obtain ⟨⟨ob2, hob2⟩, -⟩ := id hS2
  have hlg1 := hlg9.1
  refine MetXI.of (by decide) (Nat.le_of_ble_eq_true rfl) hap ?_
  intro p_ e_ s_ m_ args_ below_ meth_ c_ C hT hno
  refine g_aload_n C 0 rfl dX3_delete_0 ?_
  refine g_iload_n C 1 rfl dX3_delete_1 ?_
  refine gx_callVV C hT hno [vI x] [] (c_X3_checkRecord l D cy g V hl a x hap hsf hI hx9) lm_X3_42 (rcv_Sf hsf1) rfl (Nat.le_of_ble_eq_true rfl) ⟨(Nat.le_of_ble_eq_true rfl), (Nat.le_of_ble_eq_true rfl)⟩ ⟨(Nat.le_of_ble_eq_true rfl), (Nat.le_of_ble_eq_true rfl)⟩ ⟨(Nat.le_of_ble_eq_true rfl), (Nat.le_of_ble_eq_true rfl)⟩ dX3_delete_2 (fun E u h => h) ?_
  rintro V1 ⟨hV1, hr⟩
  refine g_V hV1 ?_
  clear hV1 V1
  refine g_aload_n C 0 rfl dX3_delete_5 ?_
  refine gf_Sf_live C hsf1 hs1 lf_X3_12 dX3_delete_6 ?_
  refine g_iload_n C 1 rfl dX3_delete_9 ?_
  refine g_callI C [vI x] [] (c_X2_lengthOf l D cy g V s1 0 x hap hS1 (SI_swf hI) ⟨hr.1, hr.2.1⟩ (hB hr).1) lm_X3_50 (rcv_Store hob) rfl (Nat.le_of_ble_eq_true rfl) ⟨(Nat.le_of_ble_eq_true rfl), (Nat.le_of_ble_eq_true rfl)⟩ ⟨(Nat.le_of_ble_eq_true rfl), (Nat.le_of_ble_eq_true rfl)⟩ dX3_delete_10 ?_
  rintro r9 V1 ⟨hr9, hV1⟩
  refine g_V hV1 ?_
  clear hV1 V1
  have e9 : r9 = (cLen V x) := hr9
  clear hr9
  subst e9
  refine g_istore_n C [(2, vI (cLen V x)), (0, .ref a), (1, vI x)] dX3_delete_13 rfl (by decide) rfl ?_
  refine g_aload_n C 1 rfl dX3_delete_14 ?_
  refine gf_Sf_live C hsf1 hs1 lf_X3_12 dX3_delete_15 ?_
  refine g_iload_n C 2 rfl dX3_delete_18 ?_
  refine g_callV C [vI x] [] (c_X2_removeRecord l D cy g V s1 0 x L0 hap hS1 hI (hR hr)) lm_X3_54 (rcv_Store hob) rfl (Nat.le_of_ble_eq_true rfl) ⟨(Nat.le_of_ble_eq_true rfl), (Nat.le_of_ble_eq_true rfl)⟩ ⟨(Nat.le_of_ble_eq_true rfl), (Nat.le_of_ble_eq_true rfl)⟩ dX3_delete_19 ?_
  rintro V2 hA
  have h192 : V2 192 = V 192 := RemP_out (hR hr) hA 192 (by decide)
  refine g_aload_n C 1 rfl dX3_delete_22 ?_
  refine g_iload_n C 2 rfl dX3_delete_23 ?_
  refine g_iconst C (-1) rfl dX3_delete_24 ?_
  refine g_iconst C (-1) rfl dX3_delete_25 ?_
  refine g_callV C [vI x, vI ((-1)), vI ((-1))] [] (c_X3_noteChange l D cy g V2 a x (-1) (-1) hap hsf (by rw [h192]; exact hz)) lm_X3_38 (rcv_Sf hsf1) rfl (Nat.le_of_ble_eq_true rfl) ⟨(Nat.le_of_ble_eq_true rfl), (Nat.le_of_ble_eq_true rfl)⟩ ⟨(Nat.le_of_ble_eq_true rfl), (Nat.le_of_ble_eq_true rfl)⟩ dX3_delete_26 ?_
  rintro _ rfl
  refine g_iload_n C 0 rfl dX3_delete_29 ?_
  exact gx_iret C (Nat.le_of_ble_eq_true rfl) (Nat.le_of_ble_eq_true rfl) dX3_delete_30 ⟨hr, rfl, V2, hA, rfl⟩
set_option maxHeartbeats 4000000 in
set_option maxRecDepth 100000 in
theorem c_X3_byteAt (l : Launch) (D : va_G) (cy : ClassId × ClassId) (g : GT) (V : VT) (hl : l.stackTraces = false) (a : Nat) (x i : Int) (hap : Apart g) (hsf : isSf g a) (hI : SI V 0) (hx9 : rng x) (hi9 : rng i) (hB : isRc V x → (0 ≤ vcel V 0 x ∧ vcel V 0 x < 3072) ∧ (0 ≤ cLen V x ∧ cLen V x ≤ 1200) ∧ (0 ≤ cSd V x ∧ cSd V x ≤ 255)) : MetXI l yX3_byteAt cX3_byteAt 3 (some .int) 8 2 D cy g [.ref a, vI x, vI i] V (fun r V' => isRc V x ∧ r = (if 0 ≤ i ∧ i < cLen V x then (cSd V x + 7 * i + i / 16) % 256 else -1) ∧ V' = V) (fun E V' => E = xNSE ∧ V' = V ∧ ¬ isRc V x) := by
  obtain ⟨hsf1, s1, s2, lg, ⟨hs1, hS1⟩, ⟨hs2, hS2⟩, ⟨hlg, hlg9⟩⟩ := id hsf
  obtain ⟨⟨ob, hob⟩, ps, hps, hq, hpgs⟩ := id hS1
  obtain ⟨⟨ob2, hob2⟩, -⟩ := id hS2
  have hlg1 := hlg9.1
  unfold rng at hi9
  refine MetXI.of (by decide) (Nat.le_of_ble_eq_true rfl) hap ?_
  intro p_ e_ s_ m_ args_ below_ meth_ c_ C hT hno
  refine g_aload_n C 0 rfl dX3_byteAt_0 ?_
  refine g_iload_n C 1 rfl dX3_byteAt_1 ?_
  refine gx_callVV C hT hno [vI x] [] (c_X3_checkRecord l D cy g V hl a x hap hsf hI hx9) lm_X3_42 (rcv_Sf hsf1) rfl (Nat.le_of_ble_eq_true rfl) ⟨(Nat.le_of_ble_eq_true rfl), (Nat.le_of_ble_eq_true rfl)⟩ ⟨(Nat.le_of_ble_eq_true rfl), (Nat.le_of_ble_eq_true rfl)⟩ ⟨(Nat.le_of_ble_eq_true rfl), (Nat.le_of_ble_eq_true rfl)⟩ dX3_byteAt_2 (fun E u h => h) ?_
  rintro V1 ⟨hV1, hr⟩
  refine g_V hV1 ?_
  clear hV1 V1
  have hb9 := hB hr
  refine g_iload_n C 2 rfl dX3_byteAt_5 ?_
  refine g_if_lt C (by unfold rng; omega) 21 dX3_byteAt_6 (by decide) (fun c6 => ?_) (fun c6 => ?_)
  · refine g_iconst C (-1) rfl dX3_byteAt_21 ?_
    exact gx_iret C (Nat.le_of_ble_eq_true rfl) (Nat.le_of_ble_eq_true rfl) dX3_byteAt_22 ⟨hr, by first | (rw [if_pos (by omega)]; done) | (rw [if_neg (by omega)]; done), rfl⟩
  · refine g_iload_n C 2 rfl dX3_byteAt_9 ?_
    refine g_aload_n C 0 rfl dX3_byteAt_10 ?_
    refine gf_Sf_live C hsf1 hs1 lf_X3_12 dX3_byteAt_11 ?_
    refine g_iload_n C 1 rfl dX3_byteAt_14 ?_
    refine g_callI C [vI x] [vI i] (c_X2_lengthOf l D cy g V s1 0 x hap hS1 (SI_swf hI) ⟨hr.1, hr.2.1⟩ (hB hr).1) lm_X3_50 (rcv_Store hob) rfl (Nat.le_of_ble_eq_true rfl) ⟨(Nat.le_of_ble_eq_true rfl), (Nat.le_of_ble_eq_true rfl)⟩ ⟨(Nat.le_of_ble_eq_true rfl), (Nat.le_of_ble_eq_true rfl)⟩ dX3_byteAt_15 ?_
    rintro r9 V1 ⟨hr9, hV1⟩
    refine g_V hV1 ?_
    clear hV1 V1
    have e9 : r9 = (cLen V x) := hr9
    clear hr9
    subst e9
    refine g_icmp_lt C (by unfold rng; omega) (by unfold rng; omega) 23 dX3_byteAt_18 (by decide) (fun c18 => ?_) (fun c18 => ?_)
    · refine g_aload_n C 0 rfl dX3_byteAt_23 ?_
      refine gf_Sf_live C hsf1 hs1 lf_X3_12 dX3_byteAt_24 ?_
      refine g_iload_n C 1 rfl dX3_byteAt_27 ?_
      refine g_callI C [vI x] [] (c_X2_seedOf l D cy g V s1 0 x hap hS1 (SI_swf hI) ⟨hr.1, hr.2.1⟩ (hB hr).1) lm_X3_61 (rcv_Store hob) rfl (Nat.le_of_ble_eq_true rfl) ⟨(Nat.le_of_ble_eq_true rfl), (Nat.le_of_ble_eq_true rfl)⟩ ⟨(Nat.le_of_ble_eq_true rfl), (Nat.le_of_ble_eq_true rfl)⟩ dX3_byteAt_28 ?_
      rintro r9 V1 ⟨hr9, hV1⟩
      refine g_V hV1 ?_
      clear hV1 V1
      have e9 : r9 = (cSd V x) := hr9
      clear hr9
      subst e9
      refine g_bipush C 7 rfl dX3_byteAt_31 ?_
      refine g_iload_n C 2 rfl dX3_byteAt_33 ?_
      refine g_imul C dX3_byteAt_34 ?_
      refine g_iadd C dX3_byteAt_35 ?_
      refine g_iload_n C 2 rfl dX3_byteAt_36 ?_
      refine g_bipush C 16 rfl dX3_byteAt_37 ?_
      refine g_idiv C (by omega) (by omega) dX3_byteAt_39 ?_
      refine g_iadd C dX3_byteAt_40 ?_
      refine g_sipush C 256 rfl dX3_byteAt_41 ?_
      refine g_irem C (by omega) (by omega) dX3_byteAt_44 ?_
      exact gx_iret C (Nat.le_of_ble_eq_true rfl) (Nat.le_of_ble_eq_true rfl) dX3_byteAt_45 ⟨hr, by first | (rw [if_pos (by omega)]; done) | (rw [if_neg (by omega)]; done), rfl⟩
    · refine g_iconst C (-1) rfl dX3_byteAt_21 ?_
      exact gx_iret C (Nat.le_of_ble_eq_true rfl) (Nat.le_of_ble_eq_true rfl) dX3_byteAt_22 ⟨hr, by first | (rw [if_pos (by omega)]; done) | (rw [if_neg (by omega)]; done), rfl⟩
set_option maxHeartbeats 4000000 in
set_option maxRecDepth 100000 in
theorem c_X3_where (l : Launch) (D : va_G) (cy : ClassId × ClassId) (g : GT) (V : VT) (hl : l.stackTraces = false) (a : Nat) (x k : Int) (hap : Apart g) (hsf : isSf g a) (hI : SI V 0) (hx9 : rng x) (hk9 : rng k) (hB : isRc V x → (0 ≤ vcel V 0 x ∧ vcel V 0 x < 3072) ∧ (0 ≤ cLen V x ∧ cLen V x ≤ 1200) ∧ (0 ≤ cSd V x ∧ cSd V x ≤ 255)) : MetXI l yX3_where cX3_where 3 (some .int) 8 2 D cy g [.ref a, vI x, vI k] V (fun r V' => isRc V x ∧ (0 ≤ k ∧ k ≤ 3) ∧ r = cWhere V x k ∧ V' = V) (fun E V' => V' = V ∧ ((E = xNSE ∧ ¬ isRc V x) ∨ (E = xIAE ∧ isRc V x ∧ ¬ (0 ≤ k ∧ k ≤ 3)))) := by
  obtain ⟨hsf1, s1, s2, lg, ⟨hs1, hS1⟩, ⟨hs2, hS2⟩, ⟨hlg, hlg9⟩⟩ := id hsf
  obtain ⟨⟨ob, hob⟩, ps, hps, hq, hpgs⟩ := id hS1
  obtain ⟨⟨ob2, hob2⟩, -⟩ := id hS2
  have hlg1 := hlg9.1
  unfold rng at hk9
  refine MetXI.of (by decide) (Nat.le_of_ble_eq_true rfl) hap ?_
  intro p_ e_ s_ m_ args_ below_ meth_ c_ C hT hno
  refine g_aload_n C 0 rfl dX3_where_0 ?_
  refine g_iload_n C 1 rfl dX3_where_1 ?_
  refine gx_callVV C hT hno [vI x] [] (c_X3_checkRecord l D cy g V hl a x hap hsf hI hx9) lm_X3_42 (rcv_Sf hsf1) rfl (Nat.le_of_ble_eq_true rfl) ⟨(Nat.le_of_ble_eq_true rfl), (Nat.le_of_ble_eq_true rfl)⟩ ⟨(Nat.le_of_ble_eq_true rfl), (Nat.le_of_ble_eq_true rfl)⟩ ⟨(Nat.le_of_ble_eq_true rfl), (Nat.le_of_ble_eq_true rfl)⟩ dX3_where_2 (fun E u h => ⟨h.2.1, Or.inl ⟨h.1, h.2.2⟩⟩) ?_
  rintro V1 ⟨hV1, hr⟩
  refine g_V hV1 ?_
  clear hV1 V1
  have hb9 := hB hr
  refine g_iload_n C 2 rfl dX3_where_5 ?_
  have hsw : (k < 0 ∨ 3 < k) ∨ k = 0 ∨ k = 1 ∨ k = 2 ∨ k = 3 := by omega
  rcases hsw with hv | hv | hv | hv | hv
  · refine g_tableOut C (by unfold rng; omega) 81 dX3_where_6 hv (by decide) ?_
    exact gx_throw C hT hno hl xok_I (List.mem_of_getElem? (i := 2) rfl) dX3_where_81 dX3_where_84 dX3_where_85 dX3_where_87 dX3_where_90 (Nat.le_of_ble_eq_true rfl) (Nat.le_of_ble_eq_true rfl) (Nat.le_of_ble_eq_true rfl) (Nat.le_of_ble_eq_true rfl) (Nat.le_of_ble_eq_true rfl) (Nat.le_of_ble_eq_true rfl) ⟨rfl, Or.inr ⟨rfl, hr, by omega⟩⟩
  · refine g_tableIn C (by unfold rng; omega) 36 dX3_where_6 (by omega) (by omega) (by rw [hv]; rfl) (by decide) ?_
    refine g_aload_n C 0 rfl dX3_where_36 ?_
    refine gf_Sf_live C hsf1 hs1 lf_X3_12 dX3_where_37 ?_
    refine g_iload_n C 1 rfl dX3_where_40 ?_
    refine g_callI C [vI x] [] (c_X2_valueCell l D cy g V s1 0 x hap hS1 (SI_swf hI) ⟨hr.1, hr.2.1⟩) lm_X3_64 (rcv_Store hob) rfl (Nat.le_of_ble_eq_true rfl) ⟨(Nat.le_of_ble_eq_true rfl), (Nat.le_of_ble_eq_true rfl)⟩ ⟨(Nat.le_of_ble_eq_true rfl), (Nat.le_of_ble_eq_true rfl)⟩ dX3_where_41 ?_
    rintro r9 V1 ⟨hr9, hV1⟩
    refine g_V hV1 ?_
    clear hV1 V1
    have e9 : r9 = (vcel V 0 x) := hr9
    clear hr9
    subst e9
    refine g_bipush C 32 rfl dX3_where_44 ?_
    refine g_idiv C (by omega) (by omega) dX3_where_46 ?_
    exact gx_iret C (Nat.le_of_ble_eq_true rfl) (Nat.le_of_ble_eq_true rfl) dX3_where_47 ⟨hr, by omega, by rw [hv]; rfl, rfl⟩
  · refine g_tableIn C (by unfold rng; omega) 48 dX3_where_6 (by omega) (by omega) (by rw [hv]; rfl) (by decide) ?_
    refine g_aload_n C 0 rfl dX3_where_48 ?_
    refine gf_Sf_live C hsf1 hs1 lf_X3_12 dX3_where_49 ?_
    refine g_iload_n C 1 rfl dX3_where_52 ?_
    refine g_callI C [vI x] [] (c_X2_valueCell l D cy g V s1 0 x hap hS1 (SI_swf hI) ⟨hr.1, hr.2.1⟩) lm_X3_64 (rcv_Store hob) rfl (Nat.le_of_ble_eq_true rfl) ⟨(Nat.le_of_ble_eq_true rfl), (Nat.le_of_ble_eq_true rfl)⟩ ⟨(Nat.le_of_ble_eq_true rfl), (Nat.le_of_ble_eq_true rfl)⟩ dX3_where_53 ?_
    rintro r9 V1 ⟨hr9, hV1⟩
    refine g_V hV1 ?_
    clear hV1 V1
    have e9 : r9 = (vcel V 0 x) := hr9
    clear hr9
    subst e9
    refine g_bipush C 32 rfl dX3_where_56 ?_
    refine g_irem C (by omega) (by omega) dX3_where_58 ?_
    exact gx_iret C (Nat.le_of_ble_eq_true rfl) (Nat.le_of_ble_eq_true rfl) dX3_where_59 ⟨hr, by omega, by rw [hv]; rfl, rfl⟩
  · refine g_tableIn C (by unfold rng; omega) 60 dX3_where_6 (by omega) (by omega) (by rw [hv]; rfl) (by decide) ?_
    refine g_aload_n C 0 rfl dX3_where_60 ?_
    refine gf_Sf_live C hsf1 hs1 lf_X3_12 dX3_where_61 ?_
    refine g_iload_n C 1 rfl dX3_where_64 ?_
    refine g_callI C [vI x] [] (c_X2_lengthOf l D cy g V s1 0 x hap hS1 (SI_swf hI) ⟨hr.1, hr.2.1⟩ (hB hr).1) lm_X3_50 (rcv_Store hob) rfl (Nat.le_of_ble_eq_true rfl) ⟨(Nat.le_of_ble_eq_true rfl), (Nat.le_of_ble_eq_true rfl)⟩ ⟨(Nat.le_of_ble_eq_true rfl), (Nat.le_of_ble_eq_true rfl)⟩ dX3_where_65 ?_
    rintro r9 V1 ⟨hr9, hV1⟩
    refine g_V hV1 ?_
    clear hV1 V1
    have e9 : r9 = (cLen V x) := hr9
    clear hr9
    subst e9
    refine g_callSI C [vI (cLen V x)] [] (c_X3_chainPages l D cy g V (cLen V x) hap (hB hr).2.1) lm_X3_67 rfl (Nat.le_of_ble_eq_true rfl) ⟨(Nat.le_of_ble_eq_true rfl), (Nat.le_of_ble_eq_true rfl)⟩ ⟨(Nat.le_of_ble_eq_true rfl), (Nat.le_of_ble_eq_true rfl)⟩ dX3_where_68 ?_
    rintro r9 V1 ⟨hr9, hV1⟩
    refine g_V hV1 ?_
    clear hV1 V1
    have e9 : r9 = (chP (cLen V x)) := hr9
    clear hr9
    subst e9
    exact gx_iret C (Nat.le_of_ble_eq_true rfl) (Nat.le_of_ble_eq_true rfl) dX3_where_71 ⟨hr, by omega, by rw [hv]; rfl, rfl⟩
  · refine g_tableIn C (by unfold rng; omega) 72 dX3_where_6 (by omega) (by omega) (by rw [hv]; rfl) (by decide) ?_
    refine g_aload_n C 0 rfl dX3_where_72 ?_
    refine gf_Sf_live C hsf1 hs1 lf_X3_12 dX3_where_73 ?_
    refine g_iload_n C 1 rfl dX3_where_76 ?_
    refine g_callI C [vI x] [] (c_X2_chainOf l D cy g V s1 0 x hap hS1 (SI_swf hI) ⟨hr.1, hr.2.1⟩ (hB hr).1) lm_X3_70 (rcv_Store hob) rfl (Nat.le_of_ble_eq_true rfl) ⟨(Nat.le_of_ble_eq_true rfl), (Nat.le_of_ble_eq_true rfl)⟩ ⟨(Nat.le_of_ble_eq_true rfl), (Nat.le_of_ble_eq_true rfl)⟩ dX3_where_77 ?_
    rintro r9 V1 ⟨hr9, hV1⟩
    refine g_V hV1 ?_
    clear hV1 V1
    have e9 : r9 = (cChn V x) := hr9
    clear hr9
    subst e9
    exact gx_iret C (Nat.le_of_ble_eq_true rfl) (Nat.le_of_ble_eq_true rfl) dX3_where_80 ⟨hr, by omega, by rw [hv]; rfl, rfl⟩
set_option maxHeartbeats 4000000 in
set_option maxRecDepth 100000 in
theorem c_X3_page (l : Launch) (D : va_G) (cy : ClassId × ClassId) (g : GT) (V : VT) (hl : l.stackTraces = false) (a : Nat) (p k : Int) (hap : Apart g) (hsf : isSf g a) (hI : SI V 0) (hp9 : rng p) (hk9 : rng k) : MetXI l yX3_page cX3_page 4 (some .int) 8 2 D cy g [.ref a, vI p, vI k] V (fun r V' => ((0 ≤ p ∧ p < 96) ∧ (0 ≤ k ∧ k ≤ 8)) ∧ r = cPage V p k ∧ V' = V) (fun E V' => E = xIAE ∧ V' = V ∧ ¬ ((0 ≤ p ∧ p < 96) ∧ (0 ≤ k ∧ k ≤ 8))) := by
  obtain ⟨hsf1, s1, s2, lg, ⟨hs1, hS1⟩, ⟨hs2, hS2⟩, ⟨hlg, hlg9⟩⟩ := id hsf
  obtain ⟨⟨ob, hob⟩, ps, hps, hq, hpgs⟩ := id hS1
  obtain ⟨⟨ob2, hob2⟩, -⟩ := id hS2
  have hlg1 := hlg9.1
  unfold rng at hk9
  refine MetXI.of (by decide) (Nat.le_of_ble_eq_true rfl) hap ?_
  intro p_ e_ s_ m_ args_ below_ meth_ c_ C hT hno
  refine g_iload_n C 1 rfl dX3_page_0 ?_
  refine gx_callSV C hT hno [vI p] [] (c_X3_checkPage l D cy g V hl p hap hp9) lm_X3_88 rfl (Nat.le_of_ble_eq_true rfl) ⟨(Nat.le_of_ble_eq_true rfl), (Nat.le_of_ble_eq_true rfl)⟩ ⟨(Nat.le_of_ble_eq_true rfl), (Nat.le_of_ble_eq_true rfl)⟩ ⟨(Nat.le_of_ble_eq_true rfl), (Nat.le_of_ble_eq_true rfl)⟩ dX3_page_1 (fun E u h => ⟨h.1, h.2.1, fun z => h.2.2 z.1⟩) ?_
  rintro V1 ⟨hV1, hp⟩
  refine g_V hV1 ?_
  clear hV1 V1
  have hPI := hI p hp.1 hp.2
  rw [Int.zero_add] at hPI
  have hk8 := hPI.2.2.2.2.2.1.1
  have hrm := PI_room hPI
  have hsl := hPI.2.1.1
  refine g_aload_n C 0 rfl dX3_page_4 ?_
  refine gf_Sf_live C hsf1 hs1 lf_X3_12 dX3_page_5 ?_
  refine gfN_Store_pages C hob hps lf_X3_91 dX3_page_8 ?_
  refine g_iload_n C 1 rfl dX3_page_11 ?_
  obtain ⟨pg1, pg1e, pg1h⟩ := hpgs p (by omega) (by omega)
  rw [Int.zero_add] at pg1h
  obtain ⟨-, pg1r1, pg1r2, pg1r3, pg1r4, ⟨pg1hr1, pg1ha1⟩, ⟨pg1hr2, pg1ha2⟩, ⟨pg1hr3, pg1ha3⟩, ⟨pg1hr4, pg1ha4⟩⟩ := id pg1h
  refine g_aald C hq ⟨by omega, by omega⟩ (by decide) pg1e dX3_page_12 ?_
  refine g_astore_n C [(3, .ref pg1), (0, .ref a), (1, vI p), (2, vI k)] dX3_page_13 rfl (by decide) rfl ?_
  refine g_iload_n C 3 rfl dX3_page_14 ?_
  have hsw : (k < 0 ∨ 8 < k) ∨ k = 0 ∨ k = 1 ∨ k = 2 ∨ k = 3 ∨ k = 4 ∨ k = 5 ∨ k = 6 ∨ k = 7 ∨ k = 8 := by omega
  rcases hsw with hv | hv | hv | hv | hv | hv | hv | hv | hv | hv
  · refine g_tableOut C (by unfold rng; omega) 208 dX3_page_15 hv (by decide) ?_
    exact gx_throw C hT hno hl xok_I (List.mem_of_getElem? (i := 4) rfl) dX3_page_208 dX3_page_211 dX3_page_212 dX3_page_214 dX3_page_217 (Nat.le_of_ble_eq_true rfl) (Nat.le_of_ble_eq_true rfl) (Nat.le_of_ble_eq_true rfl) (Nat.le_of_ble_eq_true rfl) (Nat.le_of_ble_eq_true rfl) (Nat.le_of_ble_eq_true rfl) ⟨rfl, rfl, by omega⟩
  · refine g_tableIn C (by unfold rng; omega) 64 dX3_page_15 (by omega) (by omega) (by rw [hv]; rfl) (by decide) ?_
    refine g_aload_n C 0 rfl dX3_page_64 ?_
    refine gfN_Page_kind C pg1h.1 lf_X3_95 dX3_page_65 ?_
    exact gx_iret C (Nat.le_of_ble_eq_true rfl) (Nat.le_of_ble_eq_true rfl) dX3_page_68 ⟨⟨hp, by omega⟩, by rw [hv]; rfl, rfl⟩
  · refine g_tableIn C (by unfold rng; omega) 69 dX3_page_15 (by omega) (by omega) (by rw [hv]; rfl) (by decide) ?_
    refine g_aload_n C 0 rfl dX3_page_69 ?_
    refine gfN_Page_kind C pg1h.1 lf_X3_95 dX3_page_70 ?_
    refine g_iconst C 1 rfl dX3_page_73 ?_
    refine g_icmp_ne C (by unfold rng; omega) (by unfold rng; omega) 84 dX3_page_74 (by decide) (fun c74 => ?_) (fun c74 => ?_)
    · refine g_iconst C (-1) rfl dX3_page_84 ?_
      exact gx_iret C (Nat.le_of_ble_eq_true rfl) (Nat.le_of_ble_eq_true rfl) dX3_page_85 ⟨⟨hp, by omega⟩, by rw [hv]; exact (if_pos (show ¬ V p 0 0 = 1 from c74)).symm, rfl⟩
    · refine g_aload_n C 0 rfl dX3_page_77 ?_
      refine gfN_Page_slots C pg1h.1 lf_X3_100 dX3_page_78 ?_
      refine g_goto C 85 dX3_page_81 (by decide) ?_
      exact gx_iret C (Nat.le_of_ble_eq_true rfl) (Nat.le_of_ble_eq_true rfl) dX3_page_85 ⟨⟨hp, by omega⟩, by rw [hv]; exact (if_neg (show ¬ ¬ V p 0 0 = 1 from fun z => z c74)).symm, rfl⟩
  · refine g_tableIn C (by unfold rng; omega) 86 dX3_page_15 (by omega) (by omega) (by rw [hv]; rfl) (by decide) ?_
    refine g_aload_n C 0 rfl dX3_page_86 ?_
    refine gfN_Page_kind C pg1h.1 lf_X3_95 dX3_page_87 ?_
    refine g_iconst C 1 rfl dX3_page_90 ?_
    refine g_icmp_ne C (by unfold rng; omega) (by unfold rng; omega) 101 dX3_page_91 (by decide) (fun c91 => ?_) (fun c91 => ?_)
    · refine g_iconst C (-1) rfl dX3_page_101 ?_
      exact gx_iret C (Nat.le_of_ble_eq_true rfl) (Nat.le_of_ble_eq_true rfl) dX3_page_102 ⟨⟨hp, by omega⟩, by rw [hv]; exact (if_pos (show ¬ V p 0 0 = 1 from c91)).symm, rfl⟩
    · refine g_aload_n C 0 rfl dX3_page_94 ?_
      refine gfN_Page_cells C pg1h.1 lf_X3_103 dX3_page_95 ?_
      refine g_goto C 102 dX3_page_98 (by decide) ?_
      exact gx_iret C (Nat.le_of_ble_eq_true rfl) (Nat.le_of_ble_eq_true rfl) dX3_page_102 ⟨⟨hp, by omega⟩, by rw [hv]; exact (if_neg (show ¬ ¬ V p 0 0 = 1 from fun z => z c91)).symm, rfl⟩
  · refine g_tableIn C (by unfold rng; omega) 103 dX3_page_15 (by omega) (by omega) (by rw [hv]; rfl) (by decide) ?_
    refine g_aload_n C 0 rfl dX3_page_103 ?_
    refine gfN_Page_kind C pg1h.1 lf_X3_95 dX3_page_104 ?_
    refine g_iconst C 1 rfl dX3_page_107 ?_
    refine g_icmp_ne C (by unfold rng; omega) (by unfold rng; omega) 118 dX3_page_108 (by decide) (fun c108 => ?_) (fun c108 => ?_)
    · refine g_iconst C (-1) rfl dX3_page_118 ?_
      exact gx_iret C (Nat.le_of_ble_eq_true rfl) (Nat.le_of_ble_eq_true rfl) dX3_page_119 ⟨⟨hp, by omega⟩, by rw [hv]; exact (if_pos (show ¬ V p 0 0 = 1 from c108)).symm, rfl⟩
    · refine g_aload_n C 0 rfl dX3_page_111 ?_
      refine g_callI C [] [] (cv_X1_room l D cy g V pg1 p hap pg1h) lm_X3_106 (rcv_Page pg1h.1) rfl (Nat.le_of_ble_eq_true rfl) ⟨(Nat.le_of_ble_eq_true rfl), (Nat.le_of_ble_eq_true rfl)⟩ ⟨(Nat.le_of_ble_eq_true rfl), (Nat.le_of_ble_eq_true rfl)⟩ dX3_page_112 ?_
      rintro r9 V1 ⟨hr9, hV1⟩
      refine g_V hV1 ?_
      clear hV1 V1
      have e9 : r9 = (pRoom (V p)) := hr9
      clear hr9
      subst e9
      refine g_goto C 119 dX3_page_115 (by decide) ?_
      exact gx_iret C (Nat.le_of_ble_eq_true rfl) (Nat.le_of_ble_eq_true rfl) dX3_page_119 ⟨⟨hp, by omega⟩, by rw [hv]; exact (if_neg (show ¬ ¬ V p 0 0 = 1 from fun z => z c108)).symm, rfl⟩
  · refine g_tableIn C (by unfold rng; omega) 120 dX3_page_15 (by omega) (by omega) (by rw [hv]; rfl) (by decide) ?_
    refine g_aload_n C 0 rfl dX3_page_120 ?_
    refine gfN_Page_kind C pg1h.1 lf_X3_95 dX3_page_121 ?_
    refine g_iconst C 1 rfl dX3_page_124 ?_
    refine g_icmp_ne C (by unfold rng; omega) (by unfold rng; omega) 135 dX3_page_125 (by decide) (fun c125 => ?_) (fun c125 => ?_)
    · refine g_iconst C (-1) rfl dX3_page_135 ?_
      exact gx_iret C (Nat.le_of_ble_eq_true rfl) (Nat.le_of_ble_eq_true rfl) dX3_page_136 ⟨⟨hp, by omega⟩, by rw [hv]; exact (if_pos (show ¬ V p 0 0 = 1 from c125)).symm, rfl⟩
    · refine g_aload_n C 0 rfl dX3_page_128 ?_
      refine gfN_Page_end C pg1h.1 lf_X3_110 dX3_page_129 ?_
      refine g_goto C 136 dX3_page_132 (by decide) ?_
      exact gx_iret C (Nat.le_of_ble_eq_true rfl) (Nat.le_of_ble_eq_true rfl) dX3_page_136 ⟨⟨hp, by omega⟩, by rw [hv]; exact (if_neg (show ¬ ¬ V p 0 0 = 1 from fun z => z c125)).symm, rfl⟩
  · refine g_tableIn C (by unfold rng; omega) 137 dX3_page_15 (by omega) (by omega) (by rw [hv]; rfl) (by decide) ?_
    refine g_aload_n C 0 rfl dX3_page_137 ?_
    refine gfN_Page_kind C pg1h.1 lf_X3_95 dX3_page_138 ?_
    refine g_iconst C 1 rfl dX3_page_141 ?_
    refine g_icmp_ne C (by unfold rng; omega) (by unfold rng; omega) 155 dX3_page_142 (by decide) (fun c142 => ?_) (fun c142 => ?_)
    · refine g_iconst C (-1) rfl dX3_page_155 ?_
      exact gx_iret C (Nat.le_of_ble_eq_true rfl) (Nat.le_of_ble_eq_true rfl) dX3_page_156 ⟨⟨hp, by omega⟩, by rw [hv]; exact (if_pos (show ¬ V p 0 0 = 1 from c142)).symm, rfl⟩
    · refine g_aload_n C 0 rfl dX3_page_145 ?_
      refine g_callI C [] [] (cv_X1_room l D cy g V pg1 p hap pg1h) lm_X3_106 (rcv_Page pg1h.1) rfl (Nat.le_of_ble_eq_true rfl) ⟨(Nat.le_of_ble_eq_true rfl), (Nat.le_of_ble_eq_true rfl)⟩ ⟨(Nat.le_of_ble_eq_true rfl), (Nat.le_of_ble_eq_true rfl)⟩ dX3_page_146 ?_
      rintro r9 V1 ⟨hr9, hV1⟩
      refine g_V hV1 ?_
      clear hV1 V1
      have e9 : r9 = (pRoom (V p)) := hr9
      clear hr9
      subst e9
      refine g_bipush C 31 rfl dX3_page_149 ?_
      refine g_idiv C (by omega) (by omega) dX3_page_151 ?_
      refine g_goto C 156 dX3_page_152 (by decide) ?_
      exact gx_iret C (Nat.le_of_ble_eq_true rfl) (Nat.le_of_ble_eq_true rfl) dX3_page_156 ⟨⟨hp, by omega⟩, by rw [hv]; exact (if_neg (show ¬ ¬ V p 0 0 = 1 from fun z => z c142)).symm, rfl⟩
  · refine g_tableIn C (by unfold rng; omega) 157 dX3_page_15 (by omega) (by omega) (by rw [hv]; rfl) (by decide) ?_
    refine g_aload_n C 0 rfl dX3_page_157 ?_
    refine gfN_Page_kind C pg1h.1 lf_X3_95 dX3_page_158 ?_
    refine g_iconst C 1 rfl dX3_page_161 ?_
    refine g_icmp_ne C (by unfold rng; omega) (by unfold rng; omega) 172 dX3_page_162 (by decide) (fun c162 => ?_) (fun c162 => ?_)
    · refine g_iconst C (-1) rfl dX3_page_172 ?_
      exact gx_iret C (Nat.le_of_ble_eq_true rfl) (Nat.le_of_ble_eq_true rfl) dX3_page_173 ⟨⟨hp, by omega⟩, by rw [hv]; exact (if_pos (show ¬ V p 0 0 = 1 from c162)).symm, rfl⟩
    · refine g_aload_n C 0 rfl dX3_page_165 ?_
      refine gfN_Page_stubs C pg1h.1 lf_X3_113 dX3_page_166 ?_
      refine g_goto C 173 dX3_page_169 (by decide) ?_
      exact gx_iret C (Nat.le_of_ble_eq_true rfl) (Nat.le_of_ble_eq_true rfl) dX3_page_173 ⟨⟨hp, by omega⟩, by rw [hv]; exact (if_neg (show ¬ ¬ V p 0 0 = 1 from fun z => z c162)).symm, rfl⟩
  · refine g_tableIn C (by unfold rng; omega) 174 dX3_page_15 (by omega) (by omega) (by rw [hv]; rfl) (by decide) ?_
    refine g_aload_n C 0 rfl dX3_page_174 ?_
    refine gfN_Page_kind C pg1h.1 lf_X3_95 dX3_page_175 ?_
    refine g_iconst C 2 rfl dX3_page_178 ?_
    refine g_icmp_ne C (by unfold rng; omega) (by unfold rng; omega) 189 dX3_page_179 (by decide) (fun c179 => ?_) (fun c179 => ?_)
    · refine g_iconst C (-1) rfl dX3_page_189 ?_
      exact gx_iret C (Nat.le_of_ble_eq_true rfl) (Nat.le_of_ble_eq_true rfl) dX3_page_190 ⟨⟨hp, by omega⟩, by rw [hv]; exact (if_pos (show ¬ V p 0 0 = 2 from c179)).symm, rfl⟩
    · refine g_aload_n C 0 rfl dX3_page_182 ?_
      refine gfN_Page_chainNext C pg1h.1 lf_X3_116 dX3_page_183 ?_
      refine g_goto C 190 dX3_page_186 (by decide) ?_
      exact gx_iret C (Nat.le_of_ble_eq_true rfl) (Nat.le_of_ble_eq_true rfl) dX3_page_190 ⟨⟨hp, by omega⟩, by rw [hv]; exact (if_neg (show ¬ ¬ V p 0 0 = 2 from fun z => z c179)).symm, rfl⟩
  · refine g_tableIn C (by unfold rng; omega) 191 dX3_page_15 (by omega) (by omega) (by rw [hv]; rfl) (by decide) ?_
    refine g_aload_n C 0 rfl dX3_page_191 ?_
    refine gfN_Page_kind C pg1h.1 lf_X3_95 dX3_page_192 ?_
    refine g_iconst C 2 rfl dX3_page_195 ?_
    refine g_icmp_ne C (by unfold rng; omega) (by unfold rng; omega) 206 dX3_page_196 (by decide) (fun c196 => ?_) (fun c196 => ?_)
    · refine g_iconst C (-1) rfl dX3_page_206 ?_
      exact gx_iret C (Nat.le_of_ble_eq_true rfl) (Nat.le_of_ble_eq_true rfl) dX3_page_207 ⟨⟨hp, by omega⟩, by rw [hv]; exact (if_pos (show ¬ V p 0 0 = 2 from c196)).symm, rfl⟩
    · refine g_aload_n C 0 rfl dX3_page_199 ?_
      refine gfN_Page_chainBytes C pg1h.1 lf_X3_119 dX3_page_200 ?_
      refine g_goto C 207 dX3_page_203 (by decide) ?_
      exact gx_iret C (Nat.le_of_ble_eq_true rfl) (Nat.le_of_ble_eq_true rfl) dX3_page_207 ⟨⟨hp, by omega⟩, by rw [hv]; exact (if_neg (show ¬ ¬ V p 0 0 = 2 from fun z => z c196)).symm, rfl⟩
set_option maxHeartbeats 4000000 in
set_option maxRecDepth 100000 in
theorem c_X3_slot (l : Launch) (D : va_G) (cy : ClassId × ClassId) (g : GT) (V : VT) (hl : l.stackTraces = false) (a : Nat) (p s : Int) (hap : Apart g) (hsf : isSf g a) (hI : SI V 0) (hp9 : rng p) (hk9 : rng s) : MetXI l yX3_slot cX3_slot 4 (some .int) 8 2 D cy g [.ref a, vI p, vI s] V (fun r V' => ((0 ≤ p ∧ p < 96) ∧ 0 ≤ s) ∧ r = cSlotA V p s ∧ V' = V) (fun E V' => E = xIAE ∧ V' = V ∧ ¬ ((0 ≤ p ∧ p < 96) ∧ 0 ≤ s)) := by
  obtain ⟨hsf1, s1, s2, lg, ⟨hs1, hS1⟩, ⟨hs2, hS2⟩, ⟨hlg, hlg9⟩⟩ := id hsf
  obtain ⟨⟨ob, hob⟩, ps, hps, hq, hpgs⟩ := id hS1
  obtain ⟨⟨ob2, hob2⟩, -⟩ := id hS2
  have hlg1 := hlg9.1
  unfold rng at hk9
  refine MetXI.of (by decide) (Nat.le_of_ble_eq_true rfl) hap ?_
  intro p_ e_ s_ m_ args_ below_ meth_ c_ C hT hno
  refine g_iload_n C 1 rfl dX3_slot_0 ?_
  refine gx_callSV C hT hno [vI p] [] (c_X3_checkPage l D cy g V hl p hap hp9) lm_X3_88 rfl (Nat.le_of_ble_eq_true rfl) ⟨(Nat.le_of_ble_eq_true rfl), (Nat.le_of_ble_eq_true rfl)⟩ ⟨(Nat.le_of_ble_eq_true rfl), (Nat.le_of_ble_eq_true rfl)⟩ ⟨(Nat.le_of_ble_eq_true rfl), (Nat.le_of_ble_eq_true rfl)⟩ dX3_slot_1 (fun E u h => ⟨h.1, h.2.1, fun z => h.2.2 z.1⟩) ?_
  rintro V1 ⟨hV1, hp⟩
  refine g_V hV1 ?_
  clear hV1 V1
  have hPI := hI p hp.1 hp.2
  rw [Int.zero_add] at hPI
  have hk8 := hPI.2.2.2.2.2.1.1
  have hrm := PI_room hPI
  have hsl := hPI.2.1.1
  refine g_iload_n C 2 rfl dX3_slot_4 ?_
  refine g_if_ge C (by unfold rng; omega) 18 dX3_slot_5 (by decide) (fun c5 => ?_) (fun c5 => ?_)
  · refine g_aload_n C 0 rfl dX3_slot_18 ?_
    refine gf_Sf_live C hsf1 hs1 lf_X3_12 dX3_slot_19 ?_
    refine gfN_Store_pages C hob hps lf_X3_91 dX3_slot_22 ?_
    refine g_iload_n C 1 rfl dX3_slot_25 ?_
    obtain ⟨pg1, pg1e, pg1h⟩ := hpgs p (by omega) (by omega)
    rw [Int.zero_add] at pg1h
    obtain ⟨-, pg1r1, pg1r2, pg1r3, pg1r4, ⟨pg1hr1, pg1ha1⟩, ⟨pg1hr2, pg1ha2⟩, ⟨pg1hr3, pg1ha3⟩, ⟨pg1hr4, pg1ha4⟩⟩ := id pg1h
    refine g_aald C hq ⟨by omega, by omega⟩ (by decide) pg1e dX3_slot_26 ?_
    refine g_astore_n C [(3, .ref pg1), (0, .ref a), (1, vI p), (2, vI s)] dX3_slot_27 rfl (by decide) rfl ?_
    refine g_iload_n C 3 rfl dX3_slot_28 ?_
    refine g_aload_n C 0 rfl dX3_slot_29 ?_
    refine gfN_Page_slots C pg1h.1 lf_X3_100 dX3_slot_30 ?_
    refine g_icmp_ge C (by unfold rng; omega) (by unfold rng; omega) 45 dX3_slot_33 (by decide) (fun c33 => ?_) (fun c33 => ?_)
    · refine g_iconst C (-1) rfl dX3_slot_45 ?_
      exact gx_iret C (Nat.le_of_ble_eq_true rfl) (Nat.le_of_ble_eq_true rfl) dX3_slot_46 ⟨⟨hp, by omega⟩, by first | exact (if_pos (by omega)).symm | exact (if_neg (by omega)).symm, rfl⟩
    · refine g_aload_n C 0 rfl dX3_slot_36 ?_
      refine gfN_Page_kinds C pg1h.1 pg1hr1 lf_X3_126 dX3_slot_37 ?_
      refine g_iload_n C 3 rfl dX3_slot_40 ?_
      refine g_iald C pg1ha1 (by omega) (by decide) dX3_slot_41 ?_
      refine g_goto C 46 dX3_slot_42 (by decide) ?_
      exact gx_iret C (Nat.le_of_ble_eq_true rfl) (Nat.le_of_ble_eq_true rfl) dX3_slot_46 ⟨⟨hp, by omega⟩, by first | exact (if_pos (by omega)).symm | exact (if_neg (by omega)).symm, rfl⟩
  · exact gx_throw C hT hno hl xok_I (List.mem_of_getElem? (i := 5) rfl) dX3_slot_8 dX3_slot_11 dX3_slot_12 dX3_slot_14 dX3_slot_17 (Nat.le_of_ble_eq_true rfl) (Nat.le_of_ble_eq_true rfl) (Nat.le_of_ble_eq_true rfl) (Nat.le_of_ble_eq_true rfl) (Nat.le_of_ble_eq_true rfl) (Nat.le_of_ble_eq_true rfl) ⟨rfl, rfl, by omega⟩
set_option maxHeartbeats 4000000 in
set_option maxRecDepth 100000 in
theorem c_X3_total (l : Launch) (D : va_G) (cy : ClassId × ClassId) (g : GT) (V : VT) (hl : l.stackTraces = false) (a : Nat) (k : Int) (hap : Apart g) (hsf : isSf g a) (hI : SI V 0) (hk9 : rng k) : MetXI l yX3_total cX3_total 2 (some .int) 8 2 D cy g [.ref a, vI k] V (fun r V' => (0 ≤ k ∧ k ≤ 7) ∧ r = cTotal V k ∧ V' = V) (fun E V' => E = xIAE ∧ V' = V ∧ ¬ (0 ≤ k ∧ k ≤ 7)) := by
  obtain ⟨hsf1, s1, s2, lg, ⟨hs1, hS1⟩, ⟨hs2, hS2⟩, ⟨hlg, hlg9⟩⟩ := id hsf
  obtain ⟨⟨ob, hob⟩, ps, hps, hq, hpgs⟩ := id hS1
  obtain ⟨⟨ob2, hob2⟩, -⟩ := id hS2
  have hlg1 := hlg9.1
  unfold rng at hk9
  refine MetXI.of (by decide) (Nat.le_of_ble_eq_true rfl) hap ?_
  intro p_ e_ s_ m_ args_ below_ meth_ c_ C hT hno
  refine g_iload_n C 1 rfl dX3_total_0 ?_
  have hsw : (k < 0 ∨ 7 < k) ∨ k = 0 ∨ k = 1 ∨ k = 2 ∨ k = 3 ∨ k = 4 ∨ k = 5 ∨ k = 6 ∨ k = 7 := by omega
  rcases hsw with hv | hv | hv | hv | hv | hv | hv | hv | hv
  · refine g_tableOut C (by unfold rng; omega) 120 dX3_total_1 hv (by decide) ?_
    exact gx_throw C hT hno hl xok_I (List.mem_of_getElem? (i := 7) rfl) dX3_total_120 dX3_total_123 dX3_total_124 dX3_total_126 dX3_total_129 (Nat.le_of_ble_eq_true rfl) (Nat.le_of_ble_eq_true rfl) (Nat.le_of_ble_eq_true rfl) (Nat.le_of_ble_eq_true rfl) (Nat.le_of_ble_eq_true rfl) (Nat.le_of_ble_eq_true rfl) ⟨rfl, rfl, by omega⟩
  · refine g_tableIn C (by unfold rng; omega) 48 dX3_total_1 (by omega) (by omega) (by rw [hv]; rfl) (by decide) ?_
    refine g_aload_n C 0 rfl dX3_total_48 ?_
    refine gf_Sf_live C hsf1 hs1 lf_X3_12 dX3_total_49 ?_
    refine g_callI C [] [] (c_X2_cellCount l D cy g V s1 0 hap hS1) lm_X3_146 (rcv_Store hob) rfl (Nat.le_of_ble_eq_true rfl) ⟨(Nat.le_of_ble_eq_true rfl), (Nat.le_of_ble_eq_true rfl)⟩ ⟨(Nat.le_of_ble_eq_true rfl), (Nat.le_of_ble_eq_true rfl)⟩ dX3_total_52 ?_
    rintro r9 V1 ⟨hr9, hV1⟩
    refine g_V hV1 ?_
    clear hV1 V1
    have e9 : r9 = (sumF (fun i => V (0 + i) 0 2) 96) := hr9
    clear hr9
    subst e9
    refine g_aload_n C 0 rfl dX3_total_55 ?_
    refine gf_Sf_live C hsf1 hs1 lf_X3_12 dX3_total_56 ?_
    refine g_callI C [] [vI (sumF (fun i => V (0 + i) 0 2) 96)] (c_X2_stubCount l D cy g V s1 0 hap hS1) lm_X3_149 (rcv_Store hob) rfl (Nat.le_of_ble_eq_true rfl) ⟨(Nat.le_of_ble_eq_true rfl), (Nat.le_of_ble_eq_true rfl)⟩ ⟨(Nat.le_of_ble_eq_true rfl), (Nat.le_of_ble_eq_true rfl)⟩ dX3_total_59 ?_
    rintro r9 V1 ⟨hr9, hV1⟩
    refine g_V hV1 ?_
    clear hV1 V1
    have e9 : r9 = (sumF (fun i => V (0 + i) 0 3) 96) := hr9
    clear hr9
    subst e9
    refine g_isub C dX3_total_62 ?_
    exact gx_iret C (Nat.le_of_ble_eq_true rfl) (Nat.le_of_ble_eq_true rfl) dX3_total_63 ⟨by omega, by rw [hv]; rfl, rfl⟩
  · refine g_tableIn C (by unfold rng; omega) 64 dX3_total_1 (by omega) (by omega) (by rw [hv]; rfl) (by decide) ?_
    refine g_aload_n C 0 rfl dX3_total_64 ?_
    refine gf_Sf_live C hsf1 hs1 lf_X3_12 dX3_total_65 ?_
    refine g_iconst C 0 rfl dX3_total_68 ?_
    refine g_callI C [vI 0] [] (c_X2_pagesThatAre l D cy g V s1 0 0 hap hS1 (SI_swf hI) ⟨by decide, by decide⟩) lm_X3_152 (rcv_Store hob) rfl (Nat.le_of_ble_eq_true rfl) ⟨(Nat.le_of_ble_eq_true rfl), (Nat.le_of_ble_eq_true rfl)⟩ ⟨(Nat.le_of_ble_eq_true rfl), (Nat.le_of_ble_eq_true rfl)⟩ dX3_total_69 ?_
    rintro r9 V1 ⟨hr9, hV1⟩
    refine g_V hV1 ?_
    clear hV1 V1
    have e9 : r9 = (cntK (kd V 0) 0 96) := hr9
    clear hr9
    subst e9
    exact gx_iret C (Nat.le_of_ble_eq_true rfl) (Nat.le_of_ble_eq_true rfl) dX3_total_72 ⟨by omega, by rw [hv]; rfl, rfl⟩
  · refine g_tableIn C (by unfold rng; omega) 73 dX3_total_1 (by omega) (by omega) (by rw [hv]; rfl) (by decide) ?_
    refine g_aload_n C 0 rfl dX3_total_73 ?_
    refine gf_Sf_live C hsf1 hs1 lf_X3_12 dX3_total_74 ?_
    refine g_iconst C 1 rfl dX3_total_77 ?_
    refine g_callI C [vI 1] [] (c_X2_pagesThatAre l D cy g V s1 0 1 hap hS1 (SI_swf hI) ⟨by decide, by decide⟩) lm_X3_152 (rcv_Store hob) rfl (Nat.le_of_ble_eq_true rfl) ⟨(Nat.le_of_ble_eq_true rfl), (Nat.le_of_ble_eq_true rfl)⟩ ⟨(Nat.le_of_ble_eq_true rfl), (Nat.le_of_ble_eq_true rfl)⟩ dX3_total_78 ?_
    rintro r9 V1 ⟨hr9, hV1⟩
    refine g_V hV1 ?_
    clear hV1 V1
    have e9 : r9 = (cntK (kd V 0) 1 96) := hr9
    clear hr9
    subst e9
    exact gx_iret C (Nat.le_of_ble_eq_true rfl) (Nat.le_of_ble_eq_true rfl) dX3_total_81 ⟨by omega, by rw [hv]; rfl, rfl⟩
  · refine g_tableIn C (by unfold rng; omega) 82 dX3_total_1 (by omega) (by omega) (by rw [hv]; rfl) (by decide) ?_
    refine g_aload_n C 0 rfl dX3_total_82 ?_
    refine gf_Sf_live C hsf1 hs1 lf_X3_12 dX3_total_83 ?_
    refine g_iconst C 2 rfl dX3_total_86 ?_
    refine g_callI C [vI 2] [] (c_X2_pagesThatAre l D cy g V s1 0 2 hap hS1 (SI_swf hI) ⟨by decide, by decide⟩) lm_X3_152 (rcv_Store hob) rfl (Nat.le_of_ble_eq_true rfl) ⟨(Nat.le_of_ble_eq_true rfl), (Nat.le_of_ble_eq_true rfl)⟩ ⟨(Nat.le_of_ble_eq_true rfl), (Nat.le_of_ble_eq_true rfl)⟩ dX3_total_87 ?_
    rintro r9 V1 ⟨hr9, hV1⟩
    refine g_V hV1 ?_
    clear hV1 V1
    have e9 : r9 = (cntK (kd V 0) 2 96) := hr9
    clear hr9
    subst e9
    exact gx_iret C (Nat.le_of_ble_eq_true rfl) (Nat.le_of_ble_eq_true rfl) dX3_total_90 ⟨by omega, by rw [hv]; rfl, rfl⟩
  · refine g_tableIn C (by unfold rng; omega) 91 dX3_total_1 (by omega) (by omega) (by rw [hv]; rfl) (by decide) ?_
    refine g_aload_n C 0 rfl dX3_total_91 ?_
    refine gf_Sf_live C hsf1 hs1 lf_X3_12 dX3_total_92 ?_
    refine g_callI C [] [] (c_X2_stubCount l D cy g V s1 0 hap hS1) lm_X3_149 (rcv_Store hob) rfl (Nat.le_of_ble_eq_true rfl) ⟨(Nat.le_of_ble_eq_true rfl), (Nat.le_of_ble_eq_true rfl)⟩ ⟨(Nat.le_of_ble_eq_true rfl), (Nat.le_of_ble_eq_true rfl)⟩ dX3_total_95 ?_
    rintro r9 V1 ⟨hr9, hV1⟩
    refine g_V hV1 ?_
    clear hV1 V1
    have e9 : r9 = (sumF (fun i => V (0 + i) 0 3) 96) := hr9
    clear hr9
    subst e9
    exact gx_iret C (Nat.le_of_ble_eq_true rfl) (Nat.le_of_ble_eq_true rfl) dX3_total_98 ⟨by omega, by rw [hv]; rfl, rfl⟩
  · refine g_tableIn C (by unfold rng; omega) 99 dX3_total_1 (by omega) (by omega) (by rw [hv]; rfl) (by decide) ?_
    refine g_aload_n C 0 rfl dX3_total_99 ?_
    refine gf_Sf_log C hsf1 hlg lf_X3_22 dX3_total_100 ?_
    refine gfN_Log_size C hlg1 lf_X3_130 dX3_total_103 ?_
    exact gx_iret C (Nat.le_of_ble_eq_true rfl) (Nat.le_of_ble_eq_true rfl) dX3_total_106 ⟨by omega, by rw [hv]; rfl, rfl⟩
  · refine g_tableIn C (by unfold rng; omega) 107 dX3_total_1 (by omega) (by omega) (by rw [hv]; rfl) (by decide) ?_
    refine g_aload_n C 0 rfl dX3_total_107 ?_
    refine gf_Sf_live C hsf1 hs1 lf_X3_12 dX3_total_108 ?_
    refine g_callI C [] [] (c_X2_compactingCount l D cy g V s1 0 hap hS1) lm_X3_155 (rcv_Store hob) rfl (Nat.le_of_ble_eq_true rfl) ⟨(Nat.le_of_ble_eq_true rfl), (Nat.le_of_ble_eq_true rfl)⟩ ⟨(Nat.le_of_ble_eq_true rfl), (Nat.le_of_ble_eq_true rfl)⟩ dX3_total_111 ?_
    rintro r9 V1 ⟨hr9, hV1⟩
    refine g_V hV1 ?_
    clear hV1 V1
    have e9 : r9 = (sumF (fun i => V (0 + i) 0 8) 96) := hr9
    clear hr9
    subst e9
    exact gx_iret C (Nat.le_of_ble_eq_true rfl) (Nat.le_of_ble_eq_true rfl) dX3_total_114 ⟨by omega, by rw [hv]; rfl, rfl⟩
  · refine g_tableIn C (by unfold rng; omega) 115 dX3_total_1 (by omega) (by omega) (by rw [hv]; rfl) (by decide) ?_
    refine g_aload_n C 0 rfl dX3_total_115 ?_
    refine gf_Sf_crashes C hsf1 lf_X3_26 dX3_total_116 ?_
    exact gx_iret C (Nat.le_of_ble_eq_true rfl) (Nat.le_of_ble_eq_true rfl) dX3_total_119 ⟨by omega, by rw [hv]; rfl, rfl⟩
/-- what a crash leaves of the redone U -/
def crsh (U : VT) : VT := up (up (cpS U 0 96 96) 192 0 3 0) 193 0 3 (up (cpS U 0 96 96) 192 0 3 0 193 0 3 + 1)
set_option maxHeartbeats 4000000 in
set_option maxRecDepth 100000 in
theorem c_X3_crash (l : Launch) (D : va_G) (cy : ClassId × ClassId) (g : GT) (V : VT) (hl : l.stackTraces = false) (a : Nat) (k : Int) (J : Nat → VT → Prop) (hap : Apart g) (hsf : isSf g a) (hk9 : rng k) (hz : 0 ≤ V 192 0 3 ∧ V 192 0 3 ≤ 512) (hwl : ∀ j, 0 ≤ j → j < 512 → sm (V 192 1 j) ∧ sm (V 192 2 j)) (hJ0 : 0 ≤ k ∧ k ≤ V 192 0 3 → J 0 V) (hJf : ∀ i U, J i U → U 192 = V 192 ∧ SI U 96) (hstep : ∀ (i : Nat) (U : VT), (i : Int) < k → J i U → cStep J 96 (V 192) i U) : MetXI l yX3_crash cX3_crash 3 (some .int) 8 2 D cy g [.ref a, vI k] V (fun r V' => (0 ≤ k ∧ k ≤ V 192 0 3) ∧ r = V 192 0 3 - k ∧ ∃ U, J k.toNat U ∧ V' = crsh U) (fun E V' => E = xIAE ∧ V' = V ∧ ¬ (0 ≤ k ∧ k ≤ V 192 0 3)) := by
  obtain ⟨hsf1, s1, s2, lg, ⟨hs1, hS1⟩, ⟨hs2, hS2⟩, ⟨hlg, hlg9⟩⟩ := id hsf
  obtain ⟨⟨ob, hob⟩, ps, hps, hq, hpgs⟩ := id hS1
  obtain ⟨⟨ob2, hob2⟩, -⟩ := id hS2
  have hlg1 := hlg9.1
  unfold rng at hk9
  refine MetXI.of (by decide) (Nat.le_of_ble_eq_true rfl) hap ?_
  intro p_ e_ s_ m_ args_ below_ meth_ c_ C hT hno
  refine g_iload_n C 1 rfl dX3_crash_0 ?_
  refine g_if_lt C (by unfold rng; omega) 15 dX3_crash_1 (by decide) (fun c1 => ?_) (fun c1 => ?_)
  · exact gx_throw C hT hno hl xok_I (List.mem_of_getElem? (i := 6) rfl) dX3_crash_15 dX3_crash_18 dX3_crash_19 dX3_crash_21 dX3_crash_24 (Nat.le_of_ble_eq_true rfl) (Nat.le_of_ble_eq_true rfl) (Nat.le_of_ble_eq_true rfl) (Nat.le_of_ble_eq_true rfl) (Nat.le_of_ble_eq_true rfl) (Nat.le_of_ble_eq_true rfl) ⟨rfl, rfl, by omega⟩
  · refine g_iload_n C 1 rfl dX3_crash_4 ?_
    refine g_aload_n C 0 rfl dX3_crash_5 ?_
    refine gf_Sf_log C hsf1 hlg lf_X3_22 dX3_crash_6 ?_
    refine gfN_Log_size C hlg1 lf_X3_130 dX3_crash_9 ?_
    refine g_icmp_le C (by unfold rng; omega) (by unfold rng; omega) 25 dX3_crash_12 (by decide) (fun c12 => ?_) (fun c12 => ?_)
    · refine g_aload_n C 0 rfl dX3_crash_25 ?_
      refine gf_Sf_log C hsf1 hlg lf_X3_22 dX3_crash_26 ?_
      refine gfN_Log_size C hlg1 lf_X3_130 dX3_crash_29 ?_
      refine g_iload_n C 1 rfl dX3_crash_32 ?_
      refine g_isub C dX3_crash_33 ?_
      refine g_istore_n C [(2, vI ((V 192 0 3) - k)), (0, .ref a), (1, vI k)] dX3_crash_34 rfl (by decide) rfl ?_
      refine g_aload_n C 1 rfl dX3_crash_35 ?_
      refine gf_Sf_log C hsf1 hlg lf_X3_22 dX3_crash_36 ?_
      refine g_aload_n C 1 rfl dX3_crash_39 ?_
      refine gf_Sf_synced C hsf1 hs2 lf_X3_16 dX3_crash_40 ?_
      refine g_iload_n C 2 rfl dX3_crash_43 ?_
      refine g_callV C [.ref s2, vI k] [] (c_X0_redo l D cy g V (V 192) lg s2 192 96 k J hap hlg9 hS2 (by omega) hwl (hJ0 ⟨by omega, by omega⟩) hJf hstep) lm_X3_138 (rcv_Log hlg1) rfl (Nat.le_of_ble_eq_true rfl) ⟨(Nat.le_of_ble_eq_true rfl), (Nat.le_of_ble_eq_true rfl)⟩ ⟨(Nat.le_of_ble_eq_true rfl), (Nat.le_of_ble_eq_true rfl)⟩ dX3_crash_44 ?_
      rintro U hU
      refine g_aload_n C 1 rfl dX3_crash_47 ?_
      refine gf_Sf_live C hsf1 hs1 lf_X3_12 dX3_crash_48 ?_
      refine g_aload_n C 1 rfl dX3_crash_51 ?_
      refine gf_Sf_synced C hsf1 hs2 lf_X3_16 dX3_crash_52 ?_
      refine g_callV C [.ref s2] [] (c_X2_copyFrom l D cy g U s1 0 s2 96 hap hS1 hS2 (by decide)) lm_X3_142 (rcv_Store hob) rfl (Nat.le_of_ble_eq_true rfl) ⟨(Nat.le_of_ble_eq_true rfl), (Nat.le_of_ble_eq_true rfl)⟩ ⟨(Nat.le_of_ble_eq_true rfl), (Nat.le_of_ble_eq_true rfl)⟩ dX3_crash_55 ?_
      rintro _ rfl
      refine g_aload_n C 1 rfl dX3_crash_58 ?_
      refine gf_Sf_log C hsf1 hlg lf_X3_22 dX3_crash_59 ?_
      refine g_iconst C 0 rfl dX3_crash_62 ?_
      refine gpN_Log_size C hlg1 lf_X3_130 dX3_crash_63 ?_
      refine g_aload_n C 1 rfl dX3_crash_66 ?_
      refine g_dupR C dX3_crash_67 ?_
      refine gf_Sf_crashes C hsf1 lf_X3_26 dX3_crash_68 ?_
      refine g_iconst C 1 rfl dX3_crash_71 ?_
      refine g_iadd C dX3_crash_72 ?_
      refine gp_Sf_crashes C hsf1 lf_X3_26 dX3_crash_73 ?_
      refine g_iload_n C 0 rfl dX3_crash_76 ?_
      exact gx_iret C (Nat.le_of_ble_eq_true rfl) (Nat.le_of_ble_eq_true rfl) dX3_crash_77 ⟨by omega, rfl, U, hU, rfl⟩
    · exact gx_throw C hT hno hl xok_I (List.mem_of_getElem? (i := 6) rfl) dX3_crash_15 dX3_crash_18 dX3_crash_19 dX3_crash_21 dX3_crash_24 (Nat.le_of_ble_eq_true rfl) (Nat.le_of_ble_eq_true rfl) (Nat.le_of_ble_eq_true rfl) (Nat.le_of_ble_eq_true rfl) (Nat.le_of_ble_eq_true rfl) (Nat.le_of_ble_eq_true rfl) ⟨rfl, rfl, by omega⟩
