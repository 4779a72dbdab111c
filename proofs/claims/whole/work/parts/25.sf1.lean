def pCp (w u : Int → Int → Int) : Int → Int → Int := fun t j => if (t = 0 ∧ 0 ≤ j ∧ j ≤ 7) ∨ (1 ≤ t ∧ t ≤ 4) then u t j else w t j
theorem sett_setp (V : VT) (o t : Int) (w : Int → Int → Int) (f : Int → Int) : sett (setp V o w) o t f = setp V o (updt w t f) := by
  funext a b d
  unfold sett setp updt
  by_cases h : a = o
  · by_cases h2 : b = t <;> simp [h, h2]
  · simp [h]
def isLg (g : GT) (a : Nat) (o : Int) : Prop := isO g 0 a o ∧ ∃ r1 r2 r3, (gR g a 0 = some r1 ∧ isA g r1 o 1 512) ∧ (gR g a 1 = some r2 ∧ isA g r2 o 2 512) ∧ (gR g a 2 = some r3 ∧ isA g r3 o 3 512)
def lAdd (w : Int → Int → Int) (x n sd : Int) : Int → Int → Int := upw (upw (upw (upw w 1 (w 0 3) x) 2 (w 0 3) n) 3 (w 0 3) sd) 0 3 (w 0 3 + 1)
def cpS (V : VT) (b b2 k : Int) : VT := fun o => if b ≤ o ∧ o < b + k then pCp (V o) (V (o - b + b2)) else V o
theorem cpS_0 (V : VT) (b b2 : Int) : cpS V b b2 0 = V := by funext o; unfold cpS; rw [if_neg (by omega)]
theorem cpS_s (V : VT) (b b2 k : Int) (hk : 0 ≤ k ∧ k < 96) (hb : b + 96 ≤ b2 ∨ b2 + 96 ≤ b) : setp (cpS V b b2 k) (b + k) (pCp (cpS V b b2 k (b + k)) (cpS V b b2 k (b2 + k))) = cpS V b b2 (k + 1) := by
  have e1 : cpS V b b2 k (b + k) = V (b + k) := by unfold cpS; rw [if_neg (by omega)]
  have e2 : cpS V b b2 k (b2 + k) = V (b2 + k) := by unfold cpS; rw [if_neg (by omega)]
  rw [e1, e2]
  funext o
  by_cases ho : o = b + k
  · subst ho
    rw [setp_at]
    unfold cpS
    rw [if_pos (by omega), show b + k - b + b2 = b2 + k by omega]
  · rw [setp_ne ho]
    unfold cpS
    by_cases h : b ≤ o ∧ o < b + k
    · rw [if_pos h, if_pos (by omega)]
    · rw [if_neg h, if_neg (by omega)]
def isSf (g : GT) (a : Nat) : Prop := isO g 3 a 193 ∧ ∃ s1 s2 lg, (gR g a 0 = some s1 ∧ isSt g s1 0) ∧ (gR g a 1 = some s2 ∧ isSt g s2 96) ∧ (gR g a 2 = some lg ∧ isLg g lg 192)
set_option maxHeartbeats 4000000 in
set_option maxRecDepth 100000 in
theorem c_X1_copyFrom (l : Launch) (D : va_G) (cy : ClassId × ClassId) (g : GT) (V : VT) (w : Int → Int → Int) (a : Nat) (o : Int) (b : Nat) (o2 : Int) (hap : Apart g) (hp : isPg g a o) (hq : isPg g b o2) (ho : o2 ≠ o) : MetV l yX1_copyFrom cX1_copyFrom 2 none 1 D cy g [.ref a, .ref b] (setp V o w) (fun V' => V' = setp V o (pCp w (V o2))) := by
  obtain ⟨hp1, r1, r2, r3, r4, ⟨hr1, ha1⟩, ⟨hr2, ha2⟩, ⟨hr3, ha3⟩, ⟨hr4, ha4⟩⟩ := id hp
  obtain ⟨hq1, s1, s2, s3, s4, ⟨hs1, hb1⟩, ⟨hs2, hb2⟩, ⟨hs3, hb3⟩, ⟨hs4, hb4⟩⟩ := id hq
  refine MetV.of (by decide) (Nat.le_of_ble_eq_true rfl) hap ?_
  intro p_ e_ s_ m_ args_ below_ meth_ c_ C
  refine g_aload_n C 0 rfl dX1_copyFrom_0 ?_
  refine g_aload_n C 1 rfl dX1_copyFrom_1 ?_
  refine gf_Page_kind C hq1 lf_X1_9 dX1_copyFrom_2 ?_
  rw [setp_ne ho]
  refine sp_Page_kind C hp1 lf_X1_9 dX1_copyFrom_5 ?_
  refine g_aload_n C 0 rfl dX1_copyFrom_8 ?_
  refine g_aload_n C 1 rfl dX1_copyFrom_9 ?_
  refine gf_Page_slots C hq1 lf_X1_15 dX1_copyFrom_10 ?_
  rw [setp_ne ho]
  refine sp_Page_slots C hp1 lf_X1_15 dX1_copyFrom_13 ?_
  refine g_aload_n C 0 rfl dX1_copyFrom_16 ?_
  refine g_aload_n C 1 rfl dX1_copyFrom_17 ?_
  refine gf_Page_cells C hq1 lf_X1_18 dX1_copyFrom_18 ?_
  rw [setp_ne ho]
  refine sp_Page_cells C hp1 lf_X1_18 dX1_copyFrom_21 ?_
  refine g_aload_n C 0 rfl dX1_copyFrom_24 ?_
  refine g_aload_n C 1 rfl dX1_copyFrom_25 ?_
  refine gf_Page_stubs C hq1 lf_X1_21 dX1_copyFrom_26 ?_
  rw [setp_ne ho]
  refine sp_Page_stubs C hp1 lf_X1_21 dX1_copyFrom_29 ?_
  refine g_aload_n C 0 rfl dX1_copyFrom_32 ?_
  refine g_aload_n C 1 rfl dX1_copyFrom_33 ?_
  refine gf_Page_used C hq1 lf_X1_24 dX1_copyFrom_34 ?_
  rw [setp_ne ho]
  refine sp_Page_used C hp1 lf_X1_24 dX1_copyFrom_37 ?_
  refine g_aload_n C 0 rfl dX1_copyFrom_40 ?_
  refine g_aload_n C 1 rfl dX1_copyFrom_41 ?_
  refine gf_Page_end C hq1 lf_X1_27 dX1_copyFrom_42 ?_
  rw [setp_ne ho]
  refine sp_Page_end C hp1 lf_X1_27 dX1_copyFrom_45 ?_
  refine g_aload_n C 0 rfl dX1_copyFrom_48 ?_
  refine g_aload_n C 1 rfl dX1_copyFrom_49 ?_
  refine gf_Page_chainNext C hq1 lf_X1_30 dX1_copyFrom_50 ?_
  rw [setp_ne ho]
  refine sp_Page_chainNext C hp1 lf_X1_30 dX1_copyFrom_53 ?_
  refine g_aload_n C 0 rfl dX1_copyFrom_56 ?_
  refine g_aload_n C 1 rfl dX1_copyFrom_57 ?_
  refine gf_Page_chainBytes C hq1 lf_X1_33 dX1_copyFrom_58 ?_
  rw [setp_ne ho]
  refine sp_Page_chainBytes C hp1 lf_X1_33 dX1_copyFrom_61 ?_
  refine g_aload_n C 1 rfl dX1_copyFrom_64 ?_
  refine gf_Page_kinds C hq1 hs1 lf_X1_39 dX1_copyFrom_65 ?_
  refine g_iconst C 0 rfl dX1_copyFrom_68 ?_
  refine g_aload_n C 0 rfl dX1_copyFrom_69 ?_
  refine gf_Page_kinds C hp1 hr1 lf_X1_39 dX1_copyFrom_70 ?_
  refine g_iconst C 0 rfl dX1_copyFrom_73 ?_
  refine g_bipush C 32 rfl dX1_copyFrom_74 ?_
  refine g_copyi C hb1 ha1 (by decide) lsys1 lsys3 lsys2 lsys4 (Nat.le_of_ble_eq_true rfl) (Nat.le_of_ble_eq_true rfl) dX1_copyFrom_76 ?_
  refine g_V (sett_setp _ _ _ _ _) ?_
  rw [setp_ne ho]
  refine g_aload_n C 1 rfl dX1_copyFrom_79 ?_
  refine gf_Page_lengths C hq1 hs2 lf_X1_43 dX1_copyFrom_80 ?_
  refine g_iconst C 0 rfl dX1_copyFrom_83 ?_
  refine g_aload_n C 0 rfl dX1_copyFrom_84 ?_
  refine gf_Page_lengths C hp1 hr2 lf_X1_43 dX1_copyFrom_85 ?_
  refine g_iconst C 0 rfl dX1_copyFrom_88 ?_
  refine g_bipush C 32 rfl dX1_copyFrom_89 ?_
  refine g_copyi C hb2 ha2 (by decide) lsys1 lsys3 lsys2 lsys4 (Nat.le_of_ble_eq_true rfl) (Nat.le_of_ble_eq_true rfl) dX1_copyFrom_91 ?_
  refine g_V (sett_setp _ _ _ _ _) ?_
  rw [setp_ne ho]
  refine g_aload_n C 1 rfl dX1_copyFrom_94 ?_
  refine gf_Page_seeds C hq1 hs3 lf_X1_46 dX1_copyFrom_95 ?_
  refine g_iconst C 0 rfl dX1_copyFrom_98 ?_
  refine g_aload_n C 0 rfl dX1_copyFrom_99 ?_
  refine gf_Page_seeds C hp1 hr3 lf_X1_46 dX1_copyFrom_100 ?_
  refine g_iconst C 0 rfl dX1_copyFrom_103 ?_
  refine g_bipush C 32 rfl dX1_copyFrom_104 ?_
  refine g_copyi C hb3 ha3 (by decide) lsys1 lsys3 lsys2 lsys4 (Nat.le_of_ble_eq_true rfl) (Nat.le_of_ble_eq_true rfl) dX1_copyFrom_106 ?_
  refine g_V (sett_setp _ _ _ _ _) ?_
  rw [setp_ne ho]
  refine g_aload_n C 1 rfl dX1_copyFrom_109 ?_
  refine gf_Page_links C hq1 hs4 lf_X1_49 dX1_copyFrom_110 ?_
  refine g_iconst C 0 rfl dX1_copyFrom_113 ?_
  refine g_aload_n C 0 rfl dX1_copyFrom_114 ?_
  refine gf_Page_links C hp1 hr4 lf_X1_49 dX1_copyFrom_115 ?_
  refine g_iconst C 0 rfl dX1_copyFrom_118 ?_
  refine g_bipush C 32 rfl dX1_copyFrom_119 ?_
  refine g_copyi C hb4 ha4 (by decide) lsys1 lsys3 lsys2 lsys4 (Nat.le_of_ble_eq_true rfl) (Nat.le_of_ble_eq_true rfl) dX1_copyFrom_121 ?_
  refine g_V (sett_setp _ _ _ _ _) ?_
  rw [setp_ne ho]
  refine g_vret C dX1_copyFrom_124 ?_
  congr 1
  funext t j
  unfold pCp
  by_cases h0 : t = 0
  · subst h0; by_cases hj : 0 ≤ j ∧ j ≤ 7
    · rw [if_pos (Or.inl ⟨rfl, hj.1, hj.2⟩)]
      rcases (by omega : j = 0 ∨ j = 1 ∨ j = 2 ∨ j = 3 ∨ j = 4 ∨ j = 5 ∨ j = 6 ∨ j = 7) with rfl | rfl | rfl | rfl | rfl | rfl | rfl | rfl <;> simp [updt, upw]
    · rw [if_neg (by omega)]; unfold updt upw; simp only [if_neg (show ¬ (0 : Int) = 4 by decide), if_neg (show ¬ (0 : Int) = 3 by decide), if_neg (show ¬ (0 : Int) = 2 by decide), if_neg (show ¬ (0 : Int) = 1 by decide)]; rw [if_neg (by omega), if_neg (by omega), if_neg (by omega), if_neg (by omega), if_neg (by omega), if_neg (by omega), if_neg (by omega), if_neg (by omega)]
  · by_cases h1 : 1 ≤ t ∧ t ≤ 4
    · rw [if_pos (Or.inr h1)]
      rcases (by omega : t = 1 ∨ t = 2 ∨ t = 3 ∨ t = 4) with rfl | rfl | rfl | rfl <;> simp [updt]
    · rw [if_neg (by omega)]
      unfold updt
      rw [if_neg (by omega), if_neg (by omega), if_neg (by omega), if_neg (by omega)]
      simp [upw, h0]
theorem cv_X1_copyFrom (l : Launch) (D : va_G) (cy : ClassId × ClassId) (g : GT) (V : VT) (a b : Nat) (o o2 : Int) (hap : Apart g) (hp : isPg g a o) (hq : isPg g b o2) (ho : o2 ≠ o) : MetV l yX1_copyFrom cX1_copyFrom 2 none 1 D cy g [.ref a, .ref b] V (fun V' => V' = setp V o (pCp (V o) (V o2))) := by
  have h := c_X1_copyFrom l D cy g V (V o) a o b o2 hap hp hq ho
  rw [setp_self] at h
  exact h
set_option maxHeartbeats 4000000 in
set_option maxRecDepth 100000 in
theorem c_X2_copyFrom (l : Launch) (D : va_G) (cy : ClassId × ClassId) (g : GT) (V : VT) (a : Nat) (b : Int) (a2 : Nat) (b2 : Int) (hap : Apart g) (hS : isSt g a b) (hS2 : isSt g a2 b2) (hb : b + 96 ≤ b2 ∨ b2 + 96 ≤ b) : MetV l yX2_copyFrom cX2_copyFrom 3 none 2 D cy g [.ref a, .ref a2] V (fun V' => V' = cpS V b b2 96) := by
  obtain ⟨⟨ob, hob⟩, ps, hps, hq, hpgs⟩ := id hS
  obtain ⟨⟨ob2, hob2⟩, ps2, hps2, hq2, hpgs2⟩ := id hS2
  refine MetV.of (by decide) (Nat.le_of_ble_eq_true rfl) hap ?_
  intro p_ e_ s_ m_ args_ below_ meth_ c_ C
  have loop : ∀ (n : Nat) (k : Nat), k + n = 96 → G p_ l e_ (rmd 2) s_ m_ args_ below_ meth_ c_ 3 0 0 (MQ below_ (QcV D cy g (fun V' => V' = cpS V b b2 96)) args_ s_ 0 0 (fun q => q ∈ gL g)) D cy g (fun q => q ∈ gL g) s_.heap (cpS V b b2 k) 2 [(2, vI ((k : Int))), (0, .ref a), (1, .ref a2)] [] := by
    intro n
    induction n with
    | zero =>
      intro k hkn
      have hk : k = 96 := by omega
      subst hk
      refine g_iload_n C 0 rfl dX2_copyFrom_2 ?_
      refine g_bipush C 96 rfl dX2_copyFrom_3 ?_
      refine g_icmp_ge C (by unfold rng; omega) (by unfold rng; omega) 29 dX2_copyFrom_5 (by decide) (fun c5 => ?_) (fun c5 => absurd c5 (by omega))
      exact g_vret C dX2_copyFrom_29 rfl
    | succ n ih =>
      intro k hkn
      refine g_iload_n C 0 rfl dX2_copyFrom_2 ?_
      refine g_bipush C 96 rfl dX2_copyFrom_3 ?_
      refine g_icmp_ge C (by unfold rng; omega) (by unfold rng; omega) 29 dX2_copyFrom_5 (by decide) (fun c5 => absurd c5 (by omega)) (fun c5 => ?_)
      refine g_aload_n C 1 rfl dX2_copyFrom_8 ?_
      refine gf_Store_pages C hob hps lf_X2_11 dX2_copyFrom_9 ?_
      refine g_iload_n C 0 rfl dX2_copyFrom_12 ?_
      obtain ⟨pg1, pg1e, pg1h⟩ := hpgs ((k : Int)) (by omega) (by omega)
      obtain ⟨-, pg1r1, pg1r2, pg1r3, pg1r4, ⟨pg1hr1, pg1ha1⟩, ⟨pg1hr2, pg1ha2⟩, ⟨pg1hr3, pg1ha3⟩, ⟨pg1hr4, pg1ha4⟩⟩ := id pg1h
      refine g_aald C hq ⟨by omega, by omega⟩ (by decide) pg1e dX2_copyFrom_13 ?_
      refine g_aload_n C 2 rfl dX2_copyFrom_14 ?_
      refine gf_Store_pages C hob2 hps2 lf_X2_11 dX2_copyFrom_15 ?_
      refine g_iload_n C 0 rfl dX2_copyFrom_18 ?_
      obtain ⟨pg2, pg2e, pg2h⟩ := hpgs2 ((k : Int)) (by omega) (by omega)
      refine g_aald C hq2 ⟨by omega, by omega⟩ (by decide) pg2e dX2_copyFrom_19 ?_
      refine g_callV C [.ref pg2] [] (cv_X1_copyFrom l D cy g (cpS V b b2 k) pg1 pg2 _ _ hap pg1h pg2h (by omega)) lm_X2_18 (rcv_Page pg1h.1) rfl (Nat.le_of_ble_eq_true rfl) ⟨(Nat.le_of_ble_eq_true rfl), (Nat.le_of_ble_eq_true rfl)⟩ ⟨Nat.zero_le _, Nat.zero_le _⟩ dX2_copyFrom_20 ?_
      rintro V2 hV2
      refine g_iinc C [(2, vI (((k : Int)) + 1)), (0, .ref a), (1, .ref a2)] 0 rfl dX2_copyFrom_23 (by decide) rfl ?_
      refine g_goto C 2 dX2_copyFrom_26 (by decide) ?_
      refine g_sub [0, 1, 2] rfl ?_
      refine g_V (hV2.trans (cpS_s V b b2 k (by omega) hb)) ?_
      exact ih (k + 1) (by omega)
  refine g_iconst C 0 rfl dX2_copyFrom_0 ?_
  refine g_istore_n C [(2, vI 0), (0, .ref a), (1, .ref a2)] dX2_copyFrom_1 rfl (by decide) rfl ?_
  refine g_sub [0, 1, 2] rfl ?_
  refine g_V (cpS_0 V b b2).symm ?_
  exact loop 96 0 (by omega)
set_option maxHeartbeats 4000000 in
set_option maxRecDepth 100000 in
theorem c_X0_add (l : Launch) (D : va_G) (cy : ClassId × ClassId) (g : GT) (V : VT) (w : Int → Int → Int) (a : Nat) (o : Int) (x n sd : Int) (hap : Apart g) (hg : isLg g a o) (hz : 0 ≤ w 0 3 ∧ w 0 3 < 512) : MetV l yX0_add cX0_add 4 none 0 D cy g [.ref a, vI x, vI n, vI sd] (setp V o w) (fun V' => V' = setp V o (lAdd w x n sd)) := by
  obtain ⟨hm1, r1, r2, r3, ⟨hr1, ha1⟩, ⟨hr2, ha2⟩, ⟨hr3, ha3⟩⟩ := id hg
  refine MetV.of (by decide) (Nat.le_of_ble_eq_true rfl) hap ?_
  intro p_ e_ s_ m_ args_ below_ meth_ c_ C
  refine g_aload_n C 0 rfl dX0_add_0 ?_
  refine gf_Log_records C hm1 hr1 lf_X0_9 dX0_add_1 ?_
  refine g_aload_n C 0 rfl dX0_add_4 ?_
  refine sf_Log_size C (w 0 3) hm1 rfl lf_X0_21 dX0_add_5 ?_
  refine g_iload_n C 1 rfl dX0_add_8 ?_
  refine s_iast C ha1 (by omega) (by decide) dX0_add_9 ?_
  refine g_aload_n C 0 rfl dX0_add_10 ?_
  refine gf_Log_lengths C hm1 hr2 lf_X0_15 dX0_add_11 ?_
  refine g_aload_n C 0 rfl dX0_add_14 ?_
  refine sf_Log_size C (w 0 3) hm1 (by simp [upw]) lf_X0_21 dX0_add_15 ?_
  refine g_iload_n C 2 rfl dX0_add_18 ?_
  refine s_iast C ha2 (by omega) (by decide) dX0_add_19 ?_
  refine g_aload_n C 0 rfl dX0_add_20 ?_
  refine gf_Log_seeds C hm1 hr3 lf_X0_18 dX0_add_21 ?_
  refine g_aload_n C 0 rfl dX0_add_24 ?_
  refine sf_Log_size C (w 0 3) hm1 (by simp [upw]) lf_X0_21 dX0_add_25 ?_
  refine g_iload_n C 3 rfl dX0_add_28 ?_
  refine s_iast C ha3 (by omega) (by decide) dX0_add_29 ?_
  refine g_aload_n C 0 rfl dX0_add_30 ?_
  refine g_dupR C dX0_add_31 ?_
  refine sf_Log_size C (w 0 3) hm1 (by simp [upw]) lf_X0_21 dX0_add_32 ?_
  refine g_iconst C 1 rfl dX0_add_35 ?_
  refine g_iadd C dX0_add_36 ?_
  refine sp_Log_size C hm1 lf_X0_21 dX0_add_37 ?_
  exact g_vret C dX0_add_40 rfl
/-- the step of a redo: change i of the log w, at U -/
def cStep (J : Nat → VT → Prop) (b : Int) (w : Int → Int → Int) (i : Nat) (U : VT) : Prop :=
  (w 1 i = -1 → (0 ≤ w 2 i ∧ w 2 i ≤ 1200) ∧ ∀ r U', AddP U b (w 2 i) (w 3 i) r U' → J (i + 1) U') ∧
  (w 1 i ≠ -1 → w 2 i = -1 → ∃ L0, recOK U b (w 1 i) L0 ∧ ∀ U', RemP U b (w 1 i) L0 U' → J (i + 1) U') ∧
  (w 1 i ≠ -1 → w 2 i ≠ -1 → (0 ≤ w 2 i ∧ w 2 i ≤ 1200) ∧ ∃ L0, recOK U b (w 1 i) L0 ∧ ∀ r U', ChgP U b (w 1 i) (w 2 i) (w 3 i) L0 r U' → J (i + 1) U')
set_option maxHeartbeats 4000000 in
set_option maxRecDepth 100000 in
theorem c_X0_redo (l : Launch) (D : va_G) (cy : ClassId × ClassId) (g : GT) (V : VT) (w : Int → Int → Int) (a st : Nat) (o b : Int) (k : Int) (J : Nat → VT → Prop) (hap : Apart g) (hg : isLg g a o) (hS : isSt g st b) (hk : 0 ≤ k ∧ k ≤ 512) (hwl : ∀ j, 0 ≤ j → j < 512 → sm (w 1 j) ∧ sm (w 2 j)) (hJ0 : J 0 V) (hJf : ∀ i U, J i U → U o = w ∧ SI U b) (hstep : ∀ (i : Nat) (U : VT), (i : Int) < k → J i U → cStep J b w i U) : MetV l yX0_redo cX0_redo 4 none 5 D cy g [.ref a, .ref st, vI k] V (fun V' => J k.toNat V') := by
  obtain ⟨hm1, r1, r2, r3, ⟨hr1, ha1⟩, ⟨hr2, ha2⟩, ⟨hr3, ha3⟩⟩ := id hg
  obtain ⟨⟨ob, hob⟩, -⟩ := id hS
  refine MetV.of (by decide) (Nat.le_of_ble_eq_true rfl) hap ?_
  intro p_ e_ s_ m_ args_ below_ meth_ c_ C
  have loop : ∀ (n : Nat) (i : Nat) (U : VT), i + n = k.toNat → J i U → G p_ l e_ (rmd 5) s_ m_ args_ below_ meth_ c_ 4 0 0 (MQ below_ (QcV D cy g (fun V' => J k.toNat V')) args_ s_ 0 0 (fun q => q ∈ gL g)) D cy g (fun q => q ∈ gL g) s_.heap U 2 [(3, vI ((i : Int))), (0, .ref a), (1, .ref st), (2, vI k)] [] := by
    intro n
    induction n with
    | zero =>
      intro i U hin hJ
      obtain ⟨hUo, hI⟩ := hJf i U hJ
      refine g_iload_n C 0 rfl dX0_redo_2 ?_
      refine g_iload_n C 3 rfl dX0_redo_3 ?_
      refine g_icmp_ge C (by unfold rng; omega) (by unfold rng; omega) 89 dX0_redo_4 (by decide) (fun c4 => ?_) (fun c4 => absurd c4 (by omega))
      have hi9 : i = k.toNat := by omega
      subst hi9
      exact g_vret C dX0_redo_89 hJ
    | succ n ih =>
      intro i U hin hJ
      obtain ⟨hUo, hI⟩ := hJf i U hJ
      have hst := hstep i U (by omega) hJ
      refine g_iload_n C 0 rfl dX0_redo_2 ?_
      refine g_iload_n C 3 rfl dX0_redo_3 ?_
      refine g_icmp_ge C (by unfold rng; omega) (by unfold rng; omega) 89 dX0_redo_4 (by decide) (fun c4 => absurd c4 (by omega)) (fun c4 => ?_)
      refine g_aload_n C 1 rfl dX0_redo_7 ?_
      refine gf_Log_records C hm1 hr1 lf_X0_9 dX0_redo_8 ?_
      refine g_iload_n C 0 rfl dX0_redo_11 ?_
      refine g_iald C ha1 (by omega) (by decide) dX0_redo_12 ?_
      rw [hUo]
      refine g_iconst C (-1) rfl dX0_redo_13 ?_
      refine g_icmp_ne C (by have z9 := hwl i (by omega) (by omega); unfold sm at z9; unfold rng; omega) (by unfold rng; omega) 37 dX0_redo_14 (by decide) (fun c14 => ?_) (fun c14 => ?_)
      · refine g_aload_n C 1 rfl dX0_redo_37 ?_
        refine gf_Log_lengths C hm1 hr2 lf_X0_15 dX0_redo_38 ?_
        refine g_iload_n C 0 rfl dX0_redo_41 ?_
        refine g_iald C ha2 (by omega) (by decide) dX0_redo_42 ?_
        rw [hUo]
        refine g_iconst C (-1) rfl dX0_redo_43 ?_
        refine g_icmp_ne C (by have z9 := hwl i (by omega) (by omega); unfold sm at z9; unfold rng; omega) (by unfold rng; omega) 60 dX0_redo_44 (by decide) (fun c44 => ?_) (fun c44 => ?_)
        · obtain ⟨b0, L0, b1, b2⟩ := hst.2.2 c14 c44
          refine g_aload_n C 2 rfl dX0_redo_60 ?_
          refine g_aload_n C 1 rfl dX0_redo_61 ?_
          refine gf_Log_records C hm1 hr1 lf_X0_9 dX0_redo_62 ?_
          refine g_iload_n C 0 rfl dX0_redo_65 ?_
          refine g_iald C ha1 (by omega) (by decide) dX0_redo_66 ?_
          rw [hUo]
          refine g_aload_n C 1 rfl dX0_redo_67 ?_
          refine gf_Log_lengths C hm1 hr2 lf_X0_15 dX0_redo_68 ?_
          refine g_iload_n C 0 rfl dX0_redo_71 ?_
          refine g_iald C ha2 (by omega) (by decide) dX0_redo_72 ?_
          rw [hUo]
          refine g_aload_n C 1 rfl dX0_redo_73 ?_
          refine gf_Log_seeds C hm1 hr3 lf_X0_18 dX0_redo_74 ?_
          refine g_iload_n C 0 rfl dX0_redo_77 ?_
          refine g_iald C ha3 (by omega) (by decide) dX0_redo_78 ?_
          rw [hUo]
          refine g_callI C [vI (w 1 ((i : Int))), vI (w 2 ((i : Int))), vI (w 3 ((i : Int)))] [] (c_X2_changeRecord l D cy g U st b (w 1 ((i : Int))) (w 2 ((i : Int))) (w 3 ((i : Int))) L0 hap hS hI b0 b1) lm_X0_35 (rcv_Store hob) rfl (Nat.le_of_ble_eq_true rfl) ⟨(Nat.le_of_ble_eq_true rfl), (Nat.le_of_ble_eq_true rfl)⟩ ⟨Nat.zero_le _, Nat.zero_le _⟩ dX0_redo_79 ?_
          rintro r U1 hU1
          have hJ1 := b2 r U1 hU1
          refine g_popI C dX0_redo_82 ?_
          refine g_iinc C [(3, vI (((i : Int)) + 1)), (0, .ref a), (1, .ref st), (2, vI k)] 0 rfl dX0_redo_83 (by decide) rfl ?_
          refine g_goto C 2 dX0_redo_86 (by decide) ?_
          refine g_sub [0, 1, 2, 3] rfl ?_
          exact ih (i + 1) _ (by omega) hJ1
        · obtain ⟨L0, b1, b2⟩ := hst.2.1 c14 c44
          refine g_aload_n C 2 rfl dX0_redo_47 ?_
          refine g_aload_n C 1 rfl dX0_redo_48 ?_
          refine gf_Log_records C hm1 hr1 lf_X0_9 dX0_redo_49 ?_
          refine g_iload_n C 0 rfl dX0_redo_52 ?_
          refine g_iald C ha1 (by omega) (by decide) dX0_redo_53 ?_
          rw [hUo]
          refine g_callV C [vI (w 1 ((i : Int)))] [] (c_X2_removeRecord l D cy g U st b (w 1 ((i : Int))) L0 hap hS hI b1) lm_X0_31 (rcv_Store hob) rfl (Nat.le_of_ble_eq_true rfl) ⟨(Nat.le_of_ble_eq_true rfl), (Nat.le_of_ble_eq_true rfl)⟩ ⟨Nat.zero_le _, Nat.zero_le _⟩ dX0_redo_54 ?_
          rintro U1 hU1
          have hJ1 := b2 U1 hU1
          refine g_goto C 83 dX0_redo_57 (by decide) ?_
          refine g_iinc C [(3, vI (((i : Int)) + 1)), (0, .ref a), (1, .ref st), (2, vI k)] 0 rfl dX0_redo_83 (by decide) rfl ?_
          refine g_goto C 2 dX0_redo_86 (by decide) ?_
          refine g_sub [0, 1, 2, 3] rfl ?_
          exact ih (i + 1) _ (by omega) hJ1
      · refine g_aload_n C 2 rfl dX0_redo_17 ?_
        refine g_aload_n C 1 rfl dX0_redo_18 ?_
        refine gf_Log_lengths C hm1 hr2 lf_X0_15 dX0_redo_19 ?_
        refine g_iload_n C 0 rfl dX0_redo_22 ?_
        refine g_iald C ha2 (by omega) (by decide) dX0_redo_23 ?_
        rw [hUo]
        refine g_aload_n C 1 rfl dX0_redo_24 ?_
        refine gf_Log_seeds C hm1 hr3 lf_X0_18 dX0_redo_25 ?_
        refine g_iload_n C 0 rfl dX0_redo_28 ?_
        refine g_iald C ha3 (by omega) (by decide) dX0_redo_29 ?_
        rw [hUo]
        refine g_callI C [vI (w 2 ((i : Int))), vI (w 3 ((i : Int)))] [] (c_X2_addRecord l D cy g U st b (w 2 ((i : Int))) (w 3 ((i : Int))) hap hS hI (hst.1 c14).1) lm_X0_25 (rcv_Store hob) rfl (Nat.le_of_ble_eq_true rfl) ⟨(Nat.le_of_ble_eq_true rfl), (Nat.le_of_ble_eq_true rfl)⟩ ⟨Nat.zero_le _, Nat.zero_le _⟩ dX0_redo_30 ?_
        rintro r U1 hU1
        have hJ1 := (hst.1 c14).2 r U1 hU1
        refine g_popI C dX0_redo_33 ?_
        refine g_goto C 83 dX0_redo_34 (by decide) ?_
        refine g_iinc C [(3, vI (((i : Int)) + 1)), (0, .ref a), (1, .ref st), (2, vI k)] 0 rfl dX0_redo_83 (by decide) rfl ?_
        refine g_goto C 2 dX0_redo_86 (by decide) ?_
        refine g_sub [0, 1, 2, 3] rfl ?_
        exact ih (i + 1) _ (by omega) hJ1
  refine g_iconst C 0 rfl dX0_redo_0 ?_
  refine g_istore_n C [(3, vI 0), (0, .ref a), (1, .ref st), (2, vI k)] dX0_redo_1 rfl (by decide) rfl ?_
  refine g_sub [0, 1, 2, 3] rfl ?_
  exact loop k.toNat 0 V (by omega) hJ0
