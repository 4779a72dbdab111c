theorem upw_upw (w : Int → Int → Int) (t j v v' : Int) : upw (upw w t j v) t j v' = upw w t j v' := by
  funext a b
  by_cases h : a = t ∧ b = j <;> simp [upw, h]
theorem upw_id (w : Int → Int → Int) (t j : Int) : upw w t j (w t j) = w := by
  funext a b
  by_cases h : a = t ∧ b = j
  · obtain ⟨rfl, rfl⟩ := h; simp [upw]
  · simp [upw, h]
theorem pwf_kind {w : Int → Int → Int} (h : pwf w) (v : Int) (hv : sm v) : pwf (upw w 0 0 v) := by
  obtain ⟨z0, z1, z2, z3, z4, z5, z6⟩ := h
  refine ⟨by simpa [upw] using hv, by simpa [upw] using z1, by simpa [upw] using z2, by simpa [upw] using z3, by simpa [upw] using z4, by simpa [upw] using z5, fun s h1 h2 => by simpa [upw] using z6 s h1 h2⟩
set_option maxHeartbeats 4000000 in
set_option maxRecDepth 100000 in
theorem c_X1_put (l : Launch) (D : va_G) (cy : ClassId × ClassId) (g : GT) (V : VT) (w : Int → Int → Int) (a : Nat) (o : Int) (k n sd lk : Int) (hap : Apart g) (hp : isPg g a o) (hw : pwf w) (hk : 0 ≤ k ∧ k ≤ 3) (hn : -1 ≤ n ∧ n ≤ 1200) (hf : ∀ r, pEmpty w r → r < 32) : MetI l yX1_put cX1_put 7 (some .int) 2 D cy g [.ref a, vI k, vI n, vI sd, vI lk] (setp V o w) (fun r V' => pEmpty w r ∧ V' = setp V o (pPut w r k n sd lk)) := by
  obtain ⟨hp1, r1, r2, r3, r4, ⟨hr1, ha1⟩, ⟨hr2, ha2⟩, ⟨hr3, ha3⟩, ⟨hr4, ha4⟩⟩ := id hp
  obtain ⟨z0, z1, z2, z3, z4, z5, z6⟩ := id hw
  simp only [sm] at z0 z2 z3 z4 z5
  have hcb := cellB_bd (k := k) hn
  refine MetI.of (by decide) (Nat.le_of_ble_eq_true rfl) hap ?_
  intro p_ e_ s_ m_ args_ below_ meth_ c_ C
  refine g_aload_n C 0 rfl dX1_put_0 ?_
  refine g_iconst C 1 rfl dX1_put_1 ?_
  refine sp_Page_kind C hp1 lf_X1_9 dX1_put_2 ?_
  refine g_aload_n C 0 rfl dX1_put_5 ?_
  refine g_callI C [] [] (c_X1_leastEmptySlot l D cy g V (upw w 0 0 1) a o hap hp (pwf_kind hw 1 (by unfold sm; omega))) lm_X1_70 (rcv_Page hp.1) rfl (Nat.le_of_ble_eq_true rfl) ⟨(Nat.le_of_ble_eq_true rfl), (Nat.le_of_ble_eq_true rfl)⟩ ⟨Nat.zero_le _, Nat.zero_le _⟩ dX1_put_6 ?_
  rintro r _ ⟨rfl, hr⟩
  have hr0 : pEmpty w r := by simpa [pEmpty, upw] using hr
  have hr9 := hf r hr0
  have hr8 := hr0.1.1
  refine g_istore C [(5, vI r), (0, .ref a), (1, vI k), (2, vI n), (3, vI sd), (4, vI lk)] dX1_put_9 (by decide) rfl ?_
  refine g_iload_n C 2 rfl dX1_put_11 ?_
  refine g_iload_n C 3 rfl dX1_put_12 ?_
  refine g_callNI C [vI k, vI n] [] (c_X3_cellBytes l D cy g _ k n hap (by omega) (by omega)) lm_X1_73 rfl (Nat.le_of_ble_eq_true rfl) ⟨(Nat.le_of_ble_eq_true rfl), (Nat.le_of_ble_eq_true rfl)⟩ ⟨Nat.zero_le _, Nat.zero_le _⟩ dX1_put_13 ?_
  rintro _ _ ⟨rfl, rfl⟩
  refine g_istore C [(6, vI (cellB k n)), (5, vI r), (0, .ref a), (1, vI k), (2, vI n), (3, vI sd), (4, vI lk)] dX1_put_16 (by decide) rfl ?_
  refine g_iload C 1 rfl dX1_put_18 ?_
  refine g_aload_n C 2 rfl dX1_put_20 ?_
  refine sf_Page_slots C (w 0 1) hp1 (by simp [upw]) lf_X1_15 dX1_put_21 ?_
  refine g_icmp_ge C (by unfold rng; omega) (by unfold rng; omega) 37 dX1_put_24 (by decide) (fun c24 => ?_) (fun c24 => ?_)
  · refine g_aload_n C 2 rfl dX1_put_37 ?_
    refine g_iload C 0 rfl dX1_put_38 ?_
    refine g_iconst C 4 rfl dX1_put_40 ?_
    refine g_callV C [vI (cellB k n), vI 4] [] (c_X1_claimEnd l D cy g V (upw w 0 0 1) a o (cellB k n) 4 hap hp (pwf_kind hw 1 (by unfold sm; omega)) (by unfold sm; omega) (by unfold sm; omega)) lm_X1_77 (rcv_Page hp.1) rfl (Nat.le_of_ble_eq_true rfl) ⟨(Nat.le_of_ble_eq_true rfl), (Nat.le_of_ble_eq_true rfl)⟩ ⟨Nat.zero_le _, Nat.zero_le _⟩ dX1_put_41 ?_
    rintro _ rfl
    refine g_aload_n C 2 rfl dX1_put_44 ?_
    refine g_iload C 1 rfl dX1_put_45 ?_
    refine g_iconst C 1 rfl dX1_put_47 ?_
    refine g_iadd C dX1_put_48 ?_
    refine sp_Page_slots C hp1 lf_X1_15 dX1_put_49 ?_
    refine g_aload_n C 2 rfl dX1_put_52 ?_
    refine g_dupR C dX1_put_53 ?_
    refine sf_Page_cells C (pClaim (upw w 0 0 1) (cellB k n) 4 0 2) hp1 (by simp [upw]) lf_X1_18 dX1_put_54 ?_
    refine g_iconst C 1 rfl dX1_put_57 ?_
    refine g_iadd C dX1_put_58 ?_
    refine sp_Page_cells C hp1 lf_X1_18 dX1_put_59 ?_
    refine g_aload_n C 2 rfl dX1_put_62 ?_
    refine g_iload C 1 rfl dX1_put_63 ?_
    refine g_iload_n C 3 rfl dX1_put_65 ?_
    refine g_iload_n C 4 rfl dX1_put_66 ?_
    refine g_iload_n C 5 rfl dX1_put_67 ?_
    refine g_iload C 6 rfl dX1_put_68 ?_
    refine g_callV C [vI r, vI k, vI n, vI sd, vI lk] [] (c_X1_write l D cy g V (upw (upw (pClaim (upw w 0 0 1) (cellB k n) 4) 0 1 (r + 1)) 0 2 ((pClaim (upw w 0 0 1) (cellB k n) 4 0 2) + 1)) a o r k n sd lk hap hp ⟨by omega, by omega⟩ hk hn) lm_X1_81 (rcv_Page hp.1) rfl (Nat.le_of_ble_eq_true rfl) ⟨(Nat.le_of_ble_eq_true rfl), (Nat.le_of_ble_eq_true rfl)⟩ ⟨Nat.zero_le _, Nat.zero_le _⟩ dX1_put_70 ?_
    rintro _ rfl
    refine g_iload C 1 rfl dX1_put_73 ?_
    refine g_iret C dX1_put_75 ⟨hr0, ?_⟩
    congr 1
    unfold pPut
    first | rw [if_pos (by omega)] | rw [if_neg (by omega)]
  · refine g_aload_n C 2 rfl dX1_put_27 ?_
    refine g_iload C 0 rfl dX1_put_28 ?_
    refine g_iconst C 0 rfl dX1_put_30 ?_
    refine g_callV C [vI (cellB k n), vI 0] [] (c_X1_claimEnd l D cy g V (upw w 0 0 1) a o (cellB k n) 0 hap hp (pwf_kind hw 1 (by unfold sm; omega)) (by unfold sm; omega) (by unfold sm; omega)) lm_X1_77 (rcv_Page hp.1) rfl (Nat.le_of_ble_eq_true rfl) ⟨(Nat.le_of_ble_eq_true rfl), (Nat.le_of_ble_eq_true rfl)⟩ ⟨Nat.zero_le _, Nat.zero_le _⟩ dX1_put_31 ?_
    rintro _ rfl
    refine g_goto C 52 dX1_put_34 (by decide) ?_
    refine g_aload_n C 2 rfl dX1_put_52 ?_
    refine g_dupR C dX1_put_53 ?_
    refine sf_Page_cells C (pClaim (upw w 0 0 1) (cellB k n) 0 0 2) hp1 rfl lf_X1_18 dX1_put_54 ?_
    refine g_iconst C 1 rfl dX1_put_57 ?_
    refine g_iadd C dX1_put_58 ?_
    refine sp_Page_cells C hp1 lf_X1_18 dX1_put_59 ?_
    refine g_aload_n C 2 rfl dX1_put_62 ?_
    refine g_iload C 1 rfl dX1_put_63 ?_
    refine g_iload_n C 3 rfl dX1_put_65 ?_
    refine g_iload_n C 4 rfl dX1_put_66 ?_
    refine g_iload_n C 5 rfl dX1_put_67 ?_
    refine g_iload C 6 rfl dX1_put_68 ?_
    refine g_callV C [vI r, vI k, vI n, vI sd, vI lk] [] (c_X1_write l D cy g V (upw (pClaim (upw w 0 0 1) (cellB k n) 0) 0 2 ((pClaim (upw w 0 0 1) (cellB k n) 0 0 2) + 1)) a o r k n sd lk hap hp ⟨by omega, by omega⟩ hk hn) lm_X1_81 (rcv_Page hp.1) rfl (Nat.le_of_ble_eq_true rfl) ⟨(Nat.le_of_ble_eq_true rfl), (Nat.le_of_ble_eq_true rfl)⟩ ⟨Nat.zero_le _, Nat.zero_le _⟩ dX1_put_70 ?_
    rintro _ rfl
    refine g_iload C 1 rfl dX1_put_73 ?_
    refine g_iret C dX1_put_75 ⟨hr0, ?_⟩
    congr 1
    unfold pPut
    first | rw [if_pos (by omega)] | rw [if_neg (by omega)]
set_option maxHeartbeats 4000000 in
set_option maxRecDepth 100000 in
theorem c_X1_change (l : Launch) (D : va_G) (cy : ClassId × ClassId) (g : GT) (V : VT) (w : Int → Int → Int) (a : Nat) (o : Int) (s k n sd lk : Int) (hap : Apart g) (hp : isPg g a o) (hw : pwf w) (hwe : pwf (pErase w s)) (hs : 0 ≤ s ∧ s < 32) (hk : 0 ≤ k ∧ k ≤ 3) (hn : -1 ≤ n ∧ n ≤ 1200) : MetV l yX1_change cX1_change 8 none 2 D cy g [.ref a, vI s, vI k, vI n, vI sd, vI lk] (setp V o w) (fun V' => V' = setp V o (pChange w s k n sd lk)) := by
  obtain ⟨hp1, r1, r2, r3, r4, ⟨hr1, ha1⟩, ⟨hr2, ha2⟩, ⟨hr3, ha3⟩, ⟨hr4, ha4⟩⟩ := id hp
  obtain ⟨z0, z1, z2, z3, z4, z5, z6⟩ := id hw
  simp only [sm] at z0 z2 z3 z4 z5
  have hcb := cellB_bd (k := k) hn
  have z7 := z6 s hs.1 hs.2
  have hcb2 := cellB_bd (k := w 1 s) z7.2
  refine MetV.of (by decide) (Nat.le_of_ble_eq_true rfl) hap ?_
  intro p_ e_ s_ m_ args_ below_ meth_ c_ C
  refine g_aload_n C 0 rfl dX1_change_0 ?_
  refine g_iload_n C 1 rfl dX1_change_1 ?_
  refine g_callI C [vI s] [] (c_X1_bytesAt l D cy g V w a o s hap hp hs hw) lm_X1_62 (rcv_Page hp.1) rfl (Nat.le_of_ble_eq_true rfl) ⟨(Nat.le_of_ble_eq_true rfl), (Nat.le_of_ble_eq_true rfl)⟩ ⟨Nat.zero_le _, Nat.zero_le _⟩ dX1_change_2 ?_
  rintro _ _ ⟨rfl, rfl⟩
  refine g_istore C [(6, vI (pBytes w s)), (0, .ref a), (1, vI s), (2, vI k), (3, vI n), (4, vI sd), (5, vI lk)] dX1_change_5 (by decide) rfl ?_
  refine g_iload_n C 3 rfl dX1_change_7 ?_
  refine g_iload_n C 4 rfl dX1_change_8 ?_
  refine g_callNI C [vI k, vI n] [] (c_X3_cellBytes l D cy g _ k n hap (by omega) (by omega)) lm_X1_73 rfl (Nat.le_of_ble_eq_true rfl) ⟨(Nat.le_of_ble_eq_true rfl), (Nat.le_of_ble_eq_true rfl)⟩ ⟨Nat.zero_le _, Nat.zero_le _⟩ dX1_change_9 ?_
  rintro _ _ ⟨rfl, rfl⟩
  refine g_istore C [(7, vI (cellB k n)), (6, vI (pBytes w s)), (0, .ref a), (1, vI s), (2, vI k), (3, vI n), (4, vI sd), (5, vI lk)] dX1_change_12 (by decide) rfl ?_
  refine g_aload_n C 2 rfl dX1_change_14 ?_
  refine g_iload_n C 3 rfl dX1_change_15 ?_
  refine g_callV C [vI s] [] (c_X1_erase l D cy g V w a o s hap hp hs hw) lm_X1_85 (rcv_Page hp.1) rfl (Nat.le_of_ble_eq_true rfl) ⟨(Nat.le_of_ble_eq_true rfl), (Nat.le_of_ble_eq_true rfl)⟩ ⟨Nat.zero_le _, Nat.zero_le _⟩ dX1_change_16 ?_
  rintro _ rfl
  refine g_iload C 0 rfl dX1_change_19 ?_
  refine g_iload C 1 rfl dX1_change_21 ?_
  refine g_icmp_le C (by unfold rng; omega) (by unfold rng; unfold pBytes; omega) 33 dX1_change_23 (by decide) (fun c23 => ?_) (fun c23 => ?_)
  · refine g_aload_n C 2 rfl dX1_change_33 ?_
    refine g_iload_n C 3 rfl dX1_change_34 ?_
    refine g_iload_n C 4 rfl dX1_change_35 ?_
    refine g_iload_n C 5 rfl dX1_change_36 ?_
    refine g_iload C 6 rfl dX1_change_37 ?_
    refine g_iload C 7 rfl dX1_change_39 ?_
    refine g_callV C [vI s, vI k, vI n, vI sd, vI lk] [] (c_X1_write l D cy g V (pErase w s) a o s k n sd lk hap hp hs hk hn) lm_X1_81 (rcv_Page hp.1) rfl (Nat.le_of_ble_eq_true rfl) ⟨(Nat.le_of_ble_eq_true rfl), (Nat.le_of_ble_eq_true rfl)⟩ ⟨Nat.zero_le _, Nat.zero_le _⟩ dX1_change_41 ?_
    rintro _ rfl
    refine g_vret C dX1_change_44 ?_
    congr 1
    unfold pChange
    first | rw [if_pos (by omega)] | rw [if_neg (by omega)]
  · refine g_aload_n C 2 rfl dX1_change_26 ?_
    refine g_iload C 0 rfl dX1_change_27 ?_
    refine g_iconst C 0 rfl dX1_change_29 ?_
    refine g_callV C [vI (cellB k n), vI 0] [] (c_X1_claimEnd l D cy g V (pErase w s) a o (cellB k n) 0 hap hp hwe (by unfold sm; omega) (by unfold sm; omega)) lm_X1_77 (rcv_Page hp.1) rfl (Nat.le_of_ble_eq_true rfl) ⟨(Nat.le_of_ble_eq_true rfl), (Nat.le_of_ble_eq_true rfl)⟩ ⟨Nat.zero_le _, Nat.zero_le _⟩ dX1_change_30 ?_
    rintro _ rfl
    refine g_aload_n C 2 rfl dX1_change_33 ?_
    refine g_iload_n C 3 rfl dX1_change_34 ?_
    refine g_iload_n C 4 rfl dX1_change_35 ?_
    refine g_iload_n C 5 rfl dX1_change_36 ?_
    refine g_iload C 6 rfl dX1_change_37 ?_
    refine g_iload C 7 rfl dX1_change_39 ?_
    refine g_callV C [vI s, vI k, vI n, vI sd, vI lk] [] (c_X1_write l D cy g V (pClaim (pErase w s) (cellB k n) 0) a o s k n sd lk hap hp hs hk hn) lm_X1_81 (rcv_Page hp.1) rfl (Nat.le_of_ble_eq_true rfl) ⟨(Nat.le_of_ble_eq_true rfl), (Nat.le_of_ble_eq_true rfl)⟩ ⟨Nat.zero_le _, Nat.zero_le _⟩ dX1_change_41 ?_
    rintro _ rfl
    refine g_vret C dX1_change_44 ?_
    congr 1
    unfold pChange
    first | rw [if_pos (by omega)] | rw [if_neg (by omega)]
set_option maxHeartbeats 4000000 in
set_option maxRecDepth 100000 in
theorem c_X1_remove (l : Launch) (D : va_G) (cy : ClassId × ClassId) (g : GT) (V : VT) (w : Int → Int → Int) (a : Nat) (o : Int) (s : Int) (hap : Apart g) (hp : isPg g a o) (hw : pwf w) (hs : 0 ≤ s ∧ s < 32) : MetV l yX1_remove cX1_remove 2 none 2 D cy g [.ref a, vI s] (setp V o w) (fun V' => ∃ n9, ((0 ≤ n9 ∧ n9 ≤ w 0 1) ∧ (∀ i, n9 ≤ i → i < w 0 1 → pErase w s 1 i = 0) ∧ (0 < n9 → pErase w s 1 (n9 - 1) ≠ 0)) ∧ V' = setp V o (pRem w s n9)) := by
  obtain ⟨hp1, r1, r2, r3, r4, ⟨hr1, ha1⟩, ⟨hr2, ha2⟩, ⟨hr3, ha3⟩, ⟨hr4, ha4⟩⟩ := id hp
  obtain ⟨z0, z1, z2, z3, z4, z5, z6⟩ := id hw
  simp only [sm] at z0 z2 z3 z4 z5
  have he2 : pErase w s 0 2 = w 0 2 := pErase_0 w s 2 (by decide) (by decide)
  have he1 : upw (pErase w s) 0 2 (pErase w s 0 2 - 1) 0 1 = w 0 1 := by rw [upw_j (by decide)]; exact pErase_0 w s 1 (by decide) (by decide)
  have hk9 : ∀ i, 0 ≤ i → i < 32 → 0 ≤ pErase w s 1 i ∧ pErase w s 1 i ≤ 3 := by
    intro i q1 q2
    rw [pErase_1]
    have := z6 i q1 q2
    split <;> omega
  refine MetV.of (by decide) (Nat.le_of_ble_eq_true rfl) hap ?_
  intro p_ e_ s_ m_ args_ below_ meth_ c_ C
  have loop : ∀ (n : Nat) (n9 : Int), 0 ≤ n9 ∧ n9 ≤ w 0 1 → n9 ≤ n → (∀ i, n9 ≤ i → i < w 0 1 → pErase w s 1 i = 0) → G p_ l e_ (rmd 2) s_ m_ args_ below_ meth_ c_ 2 0 0 (MQ below_ (QcV D cy g (fun V' => ∃ n9, ((0 ≤ n9 ∧ n9 ≤ w 0 1) ∧ (∀ i, n9 ≤ i → i < w 0 1 → pErase w s 1 i = 0) ∧ (0 < n9 → pErase w s 1 (n9 - 1) ≠ 0)) ∧ V' = setp V o (pRem w s n9))) args_ s_ 0 0 (fun q => q ∈ gL g)) D cy g (fun q => q ∈ gL g) s_.heap (setp V o (upw (upw (pErase w s) 0 2 (pErase w s 0 2 - 1)) 0 1 n9)) 15 [(0, .ref a), (1, vI s)] [] := by
    intro n
    induction n with
    | zero =>
      intro n9 h1 h3 h4
      refine g_aload_n C 0 rfl dX1_remove_15 ?_
      refine sf_Page_slots C n9 hp1 (by simp [upw]) lf_X1_15 dX1_remove_16 ?_
      refine g_if_le C (by unfold rng; omega) 49 dX1_remove_19 (by decide) (fun c19 => ?_) (fun c19 => absurd c19 (by omega))
      refine g_aload_n C 0 rfl dX1_remove_49 ?_
      refine sf_Page_cells C (pErase w s 0 2 - 1) hp1 (by simp [upw]) lf_X1_18 dX1_remove_50 ?_
      refine g_if_ne C (by unfold rng; omega) 60 dX1_remove_53 (by decide) (fun c53 => ?_) (fun c53 => ?_)
      · refine g_vret C dX1_remove_60 ⟨n9, ⟨⟨by omega, by omega⟩, ?_, ?_⟩, ?_⟩
        · intro i q1 q2; exact h4 i q1 (by omega)
        · intro q; first | exact c33 | (exfalso; omega)
        · congr 1; unfold pRem; first | rw [if_pos (by omega)] | rw [if_neg (by omega)]
      · refine g_aload_n C 0 rfl dX1_remove_56 ?_
        refine g_callV C [] [] (c_X1_becomeFree l D cy g V (upw ((upw (pErase w s) 0 2 (pErase w s 0 2 - 1))) 0 1 n9) a o hap hp) lm_X1_89 (rcv_Page hp.1) rfl (Nat.le_of_ble_eq_true rfl) ⟨(Nat.le_of_ble_eq_true rfl), (Nat.le_of_ble_eq_true rfl)⟩ ⟨Nat.zero_le _, Nat.zero_le _⟩ dX1_remove_57 ?_
        rintro _ rfl
        refine g_vret C dX1_remove_60 ⟨n9, ⟨⟨by omega, by omega⟩, ?_, ?_⟩, ?_⟩
        · intro i q1 q2; exact h4 i q1 (by omega)
        · intro q; first | exact c33 | (exfalso; omega)
        · congr 1; unfold pRem; first | rw [if_pos (by omega)] | rw [if_neg (by omega)]
    | succ n ih =>
      intro n9 h1 h3 h4
      refine g_aload_n C 0 rfl dX1_remove_15 ?_
      refine sf_Page_slots C n9 hp1 (by simp [upw]) lf_X1_15 dX1_remove_16 ?_
      refine g_if_le C (by unfold rng; omega) 49 dX1_remove_19 (by decide) (fun c19 => ?_) (fun c19 => ?_)
      · refine g_aload_n C 0 rfl dX1_remove_49 ?_
        refine sf_Page_cells C (pErase w s 0 2 - 1) hp1 (by simp [upw]) lf_X1_18 dX1_remove_50 ?_
        refine g_if_ne C (by unfold rng; omega) 60 dX1_remove_53 (by decide) (fun c53 => ?_) (fun c53 => ?_)
        · refine g_vret C dX1_remove_60 ⟨n9, ⟨⟨by omega, by omega⟩, ?_, ?_⟩, ?_⟩
          · intro i q1 q2; exact h4 i q1 (by omega)
          · intro q; first | exact c33 | (exfalso; omega)
          · congr 1; unfold pRem; first | rw [if_pos (by omega)] | rw [if_neg (by omega)]
        · refine g_aload_n C 0 rfl dX1_remove_56 ?_
          refine g_callV C [] [] (c_X1_becomeFree l D cy g V (upw ((upw (pErase w s) 0 2 (pErase w s 0 2 - 1))) 0 1 n9) a o hap hp) lm_X1_89 (rcv_Page hp.1) rfl (Nat.le_of_ble_eq_true rfl) ⟨(Nat.le_of_ble_eq_true rfl), (Nat.le_of_ble_eq_true rfl)⟩ ⟨Nat.zero_le _, Nat.zero_le _⟩ dX1_remove_57 ?_
          rintro _ rfl
          refine g_vret C dX1_remove_60 ⟨n9, ⟨⟨by omega, by omega⟩, ?_, ?_⟩, ?_⟩
          · intro i q1 q2; exact h4 i q1 (by omega)
          · intro q; first | exact c33 | (exfalso; omega)
          · congr 1; unfold pRem; first | rw [if_pos (by omega)] | rw [if_neg (by omega)]
      · refine g_aload_n C 0 rfl dX1_remove_22 ?_
        refine gf_Page_kinds C hp1 hr1 lf_X1_39 dX1_remove_23 ?_
        refine g_aload_n C 0 rfl dX1_remove_26 ?_
        refine sf_Page_slots C n9 hp1 (by simp [upw]) lf_X1_15 dX1_remove_27 ?_
        refine g_iconst C 1 rfl dX1_remove_30 ?_
        refine g_isub C dX1_remove_31 ?_
        refine s_iald C (pErase w s 1 (n9 - 1)) ha1 (by omega) (by decide) (by simp [upw]) dX1_remove_32 ?_
        refine g_if_ne C (by have z7 := hk9 (n9 - 1) (by omega) (by omega); unfold rng; omega) 49 dX1_remove_33 (by decide) (fun c33 => ?_) (fun c33 => ?_)
        · refine g_aload_n C 0 rfl dX1_remove_49 ?_
          refine sf_Page_cells C (pErase w s 0 2 - 1) hp1 (by simp [upw]) lf_X1_18 dX1_remove_50 ?_
          refine g_if_ne C (by unfold rng; omega) 60 dX1_remove_53 (by decide) (fun c53 => ?_) (fun c53 => ?_)
          · refine g_vret C dX1_remove_60 ⟨n9, ⟨⟨by omega, by omega⟩, ?_, ?_⟩, ?_⟩
            · intro i q1 q2; exact h4 i q1 (by omega)
            · intro q; first | exact c33 | (exfalso; omega)
            · congr 1; unfold pRem; first | rw [if_pos (by omega)] | rw [if_neg (by omega)]
          · refine g_aload_n C 0 rfl dX1_remove_56 ?_
            refine g_callV C [] [] (c_X1_becomeFree l D cy g V (upw ((upw (pErase w s) 0 2 (pErase w s 0 2 - 1))) 0 1 n9) a o hap hp) lm_X1_89 (rcv_Page hp.1) rfl (Nat.le_of_ble_eq_true rfl) ⟨(Nat.le_of_ble_eq_true rfl), (Nat.le_of_ble_eq_true rfl)⟩ ⟨Nat.zero_le _, Nat.zero_le _⟩ dX1_remove_57 ?_
            rintro _ rfl
            refine g_vret C dX1_remove_60 ⟨n9, ⟨⟨by omega, by omega⟩, ?_, ?_⟩, ?_⟩
            · intro i q1 q2; exact h4 i q1 (by omega)
            · intro q; first | exact c33 | (exfalso; omega)
            · congr 1; unfold pRem; first | rw [if_pos (by omega)] | rw [if_neg (by omega)]
        · refine g_aload_n C 0 rfl dX1_remove_36 ?_
          refine g_dupR C dX1_remove_37 ?_
          refine sf_Page_slots C n9 hp1 (by simp [upw]) lf_X1_15 dX1_remove_38 ?_
          refine g_iconst C 1 rfl dX1_remove_41 ?_
          refine g_isub C dX1_remove_42 ?_
          refine sp_Page_slots C hp1 lf_X1_15 dX1_remove_43 ?_
          refine g_goto C 15 dX1_remove_46 (by decide) ?_
          refine g_V (congrArg (setp V o) (upw_upw _ _ _ _ _)) ?_
          refine ih (n9 - 1) (by omega) (by omega) (fun i q1 q2 => ?_)
          by_cases hi : i = n9 - 1
          · subst hi; exact c33
          · exact h4 i (by omega) q2
  refine g_aload_n C 0 rfl dX1_remove_0 ?_
  refine g_iload_n C 1 rfl dX1_remove_1 ?_
  refine g_callV C [vI s] [] (c_X1_erase l D cy g V w a o s hap hp hs hw) lm_X1_85 (rcv_Page hp.1) rfl (Nat.le_of_ble_eq_true rfl) ⟨(Nat.le_of_ble_eq_true rfl), (Nat.le_of_ble_eq_true rfl)⟩ ⟨Nat.zero_le _, Nat.zero_le _⟩ dX1_remove_2 ?_
  rintro _ rfl
  refine g_aload_n C 0 rfl dX1_remove_5 ?_
  refine g_dupR C dX1_remove_6 ?_
  refine sf_Page_cells C (pErase w s 0 2) hp1 rfl lf_X1_18 dX1_remove_7 ?_
  refine g_iconst C 1 rfl dX1_remove_10 ?_
  refine g_isub C dX1_remove_11 ?_
  refine sp_Page_cells C hp1 lf_X1_18 dX1_remove_12 ?_
  refine g_V (congrArg (setp V o) (upw_id (upw (pErase w s) 0 2 (pErase w s 0 2 - 1)) 0 1).symm) ?_
  refine loop (w 0 1).toNat ((upw (pErase w s) 0 2 (pErase w s 0 2 - 1)) 0 1) ?_ ?_ ?_
  · rw [he1]; omega
  · rw [he1]; omega
  · rw [he1]; intro i q1 q2; exact absurd q1 (by omega)
