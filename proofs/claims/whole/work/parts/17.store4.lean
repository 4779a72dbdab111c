/-! the changes of a record, as they leave V -/
def rm9 (w : Int → Int → Int) (s n : Int) : Prop := (0 ≤ n ∧ n ≤ w 0 1) ∧ (∀ i, n ≤ i → i < w 0 1 → pErase w s 1 i = 0) ∧ (0 < n → pErase w s 1 (n - 1) ≠ 0)
def AddP (V : VT) (b q sd r : Int) (V' : VT) : Prop :=
  (¬ chP q ≤ cntK (kd V b) 0 96 ∧ r = -1 ∧ V' = V) ∨
  (chP q ≤ cntK (kd V b) 0 96 ∧ ∃ pl, isPl (tcN b V q (chP q).toNat).1 b (cellB 1 q + 4) (-1) (-1) pl ∧
    ((pl = -1 ∧ r = -1 ∧ ∃ L, isCh (nx (tcN b V q (chP q).toNat).1 b) L (tcN b V q (chP q).toNat).2.1 ∧ V' = freeL (tcN b V q (chP q).toNat).1 b L) ∨
     (pl ≠ -1 ∧ ∃ t, pEmpty ((tcN b V q (chP q).toNat).1 (b + pl)) t ∧ r = pl * 32 + t ∧ V' = setp (tcN b V q (chP q).toNat).1 (b + pl) (pPut ((tcN b V q (chP q).toNat).1 (b + pl)) t 1 q sd (tcN b V q (chP q).toNat).2.1))))
def HomeP (V : VT) (b x q sd ch r : Int) (V' : VT) : Prop :=
  (cellB 1 q ≤ pRoom (V (b + x / 32)) + pBytes (V (b + x / 32)) (x % 32) ∧ r = 1 ∧ V' = setp V (b + x / 32) (pChange (V (b + x / 32)) (x % 32) 1 q sd ch)) ∨
  (¬ cellB 1 q ≤ pRoom (V (b + x / 32)) + pBytes (V (b + x / 32)) (x % 32) ∧ ∃ pl, isPl V b (cellB 3 q + 4) (x / 32) (-1) pl ∧
    ((pl = -1 ∧ r = 0 ∧ V' = V) ∨
     (pl ≠ -1 ∧ r = 1 ∧ ∃ t, pEmpty (V (b + pl)) t ∧ V' = setp (setp V (b + pl) (pPut (V (b + pl)) t 3 q sd ch)) (b + x / 32) (pChange (V (b + x / 32)) (x % 32) 2 (-1) (-1) (pl * 32 + t)))))
def AwayP (V : VT) (b x c q sd ch r : Int) (V' : VT) : Prop :=
  (cellB 1 q ≤ pRoom (V (b + x / 32)) + pBytes (V (b + x / 32)) (x % 32) ∧ r = 1 ∧ ∃ n, rm9 (V (b + c / 32)) (c % 32) n ∧ V' = setp (setp V (b + x / 32) (pChange (V (b + x / 32)) (x % 32) 1 q sd ch)) (b + c / 32) (pRem (V (b + c / 32)) (c % 32) n)) ∨
  (¬ cellB 1 q ≤ pRoom (V (b + x / 32)) + pBytes (V (b + x / 32)) (x % 32) ∧ cellB 3 q ≤ pRoom (V (b + c / 32)) + pBytes (V (b + c / 32)) (c % 32) ∧ r = 1 ∧ V' = setp V (b + c / 32) (pChange (V (b + c / 32)) (c % 32) 3 q sd ch)) ∨
  (¬ cellB 1 q ≤ pRoom (V (b + x / 32)) + pBytes (V (b + x / 32)) (x % 32) ∧ ¬ cellB 3 q ≤ pRoom (V (b + c / 32)) + pBytes (V (b + c / 32)) (c % 32) ∧ ∃ pl, isPl V b (cellB 3 q + 4) (x / 32) (c / 32) pl ∧
    ((pl = -1 ∧ r = 0 ∧ V' = V) ∨
     (pl ≠ -1 ∧ r = 1 ∧ ∃ t n, pEmpty (V (b + pl)) t ∧ rm9 (V (b + c / 32)) (c % 32) n ∧ V' = setp (setp (setp V (b + pl) (pPut (V (b + pl)) t 3 q sd ch)) (b + c / 32) (pRem (V (b + c / 32)) (c % 32) n)) (b + x / 32) (pChange (V (b + x / 32)) (x % 32) 2 (-1) (-1) (pl * 32 + t)))))
def ChgP (V : VT) (b x q sd : Int) (L0 : List Int) (r : Int) (V' : VT) : Prop :=
  (¬ chP q ≤ cntK (kd V b) 0 96 ∧ r = 0 ∧ V' = V) ∨
  (chP q ≤ cntK (kd V b) 0 96 ∧ ∃ V1, ((vcel V b x = x ∧ HomeP (tcN b V q (chP q).toNat).1 b x q sd (tcN b V q (chP q).toNat).2.1 r V1) ∨ (vcel V b x ≠ x ∧ AwayP (tcN b V q (chP q).toNat).1 b x (vcel V b x) q sd (tcN b V q (chP q).toNat).2.1 r V1)) ∧
    ((r = 1 ∧ V' = freeL V1 b L0) ∨ (r = 0 ∧ ∃ L, isCh (nx V1 b) L (tcN b V q (chP q).toNat).2.1 ∧ V' = freeL V1 b L)))
def RemP (V : VT) (b x : Int) (L0 : List Int) (V' : VT) : Prop :=
  (vcel V b x = x ∧ ∃ n, rm9 (V (b + x / 32)) (x % 32) n ∧ V' = setp (freeL V b L0) (b + x / 32) (pRem (V (b + x / 32)) (x % 32) n)) ∨
  (vcel V b x ≠ x ∧ ∃ n n', rm9 (V (b + vcel V b x / 32)) (vcel V b x % 32) n ∧ rm9 (V (b + x / 32)) (x % 32) n' ∧ V' = setp (setp (freeL V b L0) (b + vcel V b x / 32) (pRem (V (b + vcel V b x / 32)) (vcel V b x % 32) n)) (b + x / 32) (pRem (V (b + x / 32)) (x % 32) n'))
set_option maxHeartbeats 4000000 in
set_option maxRecDepth 100000 in
theorem c_X2_addRecord (l : Launch) (D : va_G) (cy : ClassId × ClassId) (g : GT) (V : VT) (a : Nat) (b : Int) (q sd : Int) (hap : Apart g) (hS : isSt g a b) (hI : SI V b) (hn : 0 ≤ q ∧ q ≤ 1200) : MetI l yX2_addRecord cX2_addRecord 5 (some .int) 3 D cy g [.ref a, vI q, vI sd] V (fun r V' => AddP V b q sd r V') := by
  obtain ⟨⟨ob, hob⟩, ps, hps, hq, hpgs⟩ := id hS
  have hc := chP_bd hn
  have hcb := cellB_bd (k := 1) (len := q) ⟨by omega, hn.2⟩
  refine MetI.of (by decide) (Nat.le_of_ble_eq_true rfl) hap ?_
  intro p_ e_ s_ m_ args_ below_ meth_ c_ C
  refine g_aload_n C 0 rfl dX2_addRecord_0 ?_
  refine g_iload_n C 1 rfl dX2_addRecord_1 ?_
  refine g_callI C [vI q] [] (c_X2_hasPagesForChain l D cy g V a b q hap hS (SI_swf hI) hn) lm_X2_46 (rcv_Store hob) rfl (Nat.le_of_ble_eq_true rfl) ⟨(Nat.le_of_ble_eq_true rfl), (Nat.le_of_ble_eq_true rfl)⟩ ⟨Nat.zero_le _, Nat.zero_le _⟩ dX2_addRecord_2 ?_
  rintro _ V1 ⟨rfl, hV1⟩
  refine g_V hV1 ?_
  clear hV1 V1
  refine g_if_ne C (by split <;> exact ⟨by decide, by decide⟩) 10 dX2_addRecord_5 (by decide) (fun c5 => ?_) (fun c5 => ?_)
  · have hen : chP q ≤ cntK (kd V b) 0 96 := by
      by_cases hh : chP q ≤ cntK (kd V b) 0 96
      · exact hh
      · exfalso; rw [if_neg hh] at c5; exact c5 rfl
    have hSI := tc_SI (len := q) hI (chP q).toNat (by omega) (chP q).toNat (Nat.le_refl _)
    obtain ⟨L, l1, l2, l3, l4, l5, l6, -⟩ := tc_chain (len := q) (SI_swf hI) (chP q).toNat (by omega) (chP q).toNat (Nat.le_refl _)
    have hfr := isCh_rng l2
    refine g_aload_n C 0 rfl dX2_addRecord_10 ?_
    refine g_iload_n C 1 rfl dX2_addRecord_11 ?_
    refine g_callI C [vI q] [] (c_X2_takeChain l D cy g V a b q hap hS (SI_swf hI) hn hen) lm_X2_49 (rcv_Store hob) rfl (Nat.le_of_ble_eq_true rfl) ⟨(Nat.le_of_ble_eq_true rfl), (Nat.le_of_ble_eq_true rfl)⟩ ⟨Nat.zero_le _, Nat.zero_le _⟩ dX2_addRecord_12 ?_
    rintro _ V1 ⟨rfl, hV1⟩
    refine g_V hV1 ?_
    clear hV1 V1
    generalize hTe : tcN b V q (chP q).toNat = T at *
    refine g_istore_n C [(3, vI T.2.1), (0, .ref a), (1, vI q), (2, vI sd)] dX2_addRecord_15 rfl (by decide) rfl ?_
    refine g_aload_n C 1 rfl dX2_addRecord_16 ?_
    refine g_iconst C 1 rfl dX2_addRecord_17 ?_
    refine g_iload_n C 2 rfl dX2_addRecord_18 ?_
    refine g_callNI C [vI 1, vI q] [.ref a] (c_X3_cellBytes l D cy g _ 1 q hap (by omega) (by omega)) lm_X2_52 rfl (Nat.le_of_ble_eq_true rfl) ⟨(Nat.le_of_ble_eq_true rfl), (Nat.le_of_ble_eq_true rfl)⟩ ⟨Nat.zero_le _, Nat.zero_le _⟩ dX2_addRecord_19 ?_
    rintro _ V1 ⟨rfl, hV1⟩
    refine g_V hV1 ?_
    clear hV1 V1
    refine g_iconst C (-1) rfl dX2_addRecord_22 ?_
    refine g_iconst C (-1) rfl dX2_addRecord_23 ?_
    refine g_callI C [vI (cellB 1 q), vI ((-1)), vI ((-1))] [] (c_X2_placeFor l D cy g T.1 a b (cellB 1 q) (-1) (-1) hap hS (SI_swf hSI) (SI_room hSI) (by omega) (by omega) (by omega)) lm_X2_56 (rcv_Store hob) rfl (Nat.le_of_ble_eq_true rfl) ⟨(Nat.le_of_ble_eq_true rfl), (Nat.le_of_ble_eq_true rfl)⟩ ⟨Nat.zero_le _, Nat.zero_le _⟩ dX2_addRecord_24 ?_
    rintro pl V1 ⟨hpl, hV1⟩
    refine g_V hV1 ?_
    clear hV1 V1
    have hok := isPl_ok hSI (by omega) hpl
    have hpl9 : -1 ≤ pl ∧ pl < 96 := by rcases hok with k | ⟨k, -⟩ <;> omega
    refine g_istore C [(4, vI pl), (3, vI T.2.1), (0, .ref a), (1, vI q), (2, vI sd)] dX2_addRecord_27 (by decide) rfl ?_
    refine g_iload C 0 rfl dX2_addRecord_29 ?_
    refine g_iconst C (-1) rfl dX2_addRecord_31 ?_
    refine g_icmp_ne C (by unfold rng; omega) (by unfold rng; omega) 42 dX2_addRecord_32 (by decide) (fun c32 => ?_) (fun c32 => ?_)
    · have hok2 : (0 ≤ pl ∧ pl < 96) ∧ cellB 1 q + 4 ≤ pRoom (T.1 (b + pl)) ∧ (T.1 (b + pl) 0 0 = 0 ∨ (T.1 (b + pl) 0 0 = 1 ∧ pl ≠ -1 ∧ pl ≠ -1)) := hok.resolve_left c32
      have hPI := hSI pl hok2.1.1 hok2.1.2
      refine g_iload C 0 rfl dX2_addRecord_42 ?_
      refine g_bipush C 32 rfl dX2_addRecord_44 ?_
      refine g_imul C dX2_addRecord_46 ?_
      refine g_aload_n C 2 rfl dX2_addRecord_47 ?_
      refine gf_Store_pages C hob hps lf_X2_11 dX2_addRecord_48 ?_
      refine g_iload C 0 rfl dX2_addRecord_51 ?_
      obtain ⟨pg1, pg1e, pg1h⟩ := hpgs pl (by omega) (by omega)
      obtain ⟨-, pg1r1, pg1r2, pg1r3, pg1r4, ⟨pg1hr1, pg1ha1⟩, ⟨pg1hr2, pg1ha2⟩, ⟨pg1hr3, pg1ha3⟩, ⟨pg1hr4, pg1ha4⟩⟩ := id pg1h
      refine g_aald C hq ⟨by omega, by omega⟩ (by decide) pg1e dX2_addRecord_53 ?_
      refine g_iconst C 1 rfl dX2_addRecord_54 ?_
      refine g_iload_n C 3 rfl dX2_addRecord_55 ?_
      refine g_iload_n C 4 rfl dX2_addRecord_56 ?_
      refine g_iload_n C 1 rfl dX2_addRecord_57 ?_
      refine g_callI C [vI 1, vI q, vI sd, vI T.2.1] [vI (pl * 32)] (cv_X1_put l D cy g T.1 pg1 _ 1 q sd T.2.1 hap pg1h (PI_pwf hPI) (by omega) (by omega) (fun r hr => PI_slot hPI hr)) lm_X2_64 (rcv_Page pg1h.1) rfl (Nat.le_of_ble_eq_true rfl) ⟨(Nat.le_of_ble_eq_true rfl), (Nat.le_of_ble_eq_true rfl)⟩ ⟨Nat.zero_le _, Nat.zero_le _⟩ dX2_addRecord_58 ?_
      rintro t V2 ⟨ht, hV2⟩
      refine g_iadd C dX2_addRecord_61 ?_
      exact g_iret C dX2_addRecord_62 (Or.inr ⟨hen, pl, by rw [hTe]; exact hpl, Or.inr ⟨c32, t, by rw [hTe]; exact ht, rfl, by rw [hTe]; exact hV2⟩⟩)
    · refine g_aload_n C 2 rfl dX2_addRecord_35 ?_
      refine g_iload_n C 1 rfl dX2_addRecord_36 ?_
      refine g_callV C [vI T.2.1] [] (c_X2_freeChain l D cy g T.1 a b T.2.1 L hap hS (SI_swf hSI) (by omega) l2 (by omega)) lm_X2_60 (rcv_Store hob) rfl (Nat.le_of_ble_eq_true rfl) ⟨(Nat.le_of_ble_eq_true rfl), (Nat.le_of_ble_eq_true rfl)⟩ ⟨Nat.zero_le _, Nat.zero_le _⟩ dX2_addRecord_37 ?_
      rintro V2 hV2
      refine g_iconst C (-1) rfl dX2_addRecord_40 ?_
      exact g_iret C dX2_addRecord_41 (Or.inr ⟨hen, pl, by rw [hTe]; exact hpl, Or.inl ⟨c32, rfl, L, by rw [hTe]; exact l2, by rw [hTe]; exact hV2⟩⟩)
  · refine g_iconst C (-1) rfl dX2_addRecord_8 ?_
    refine g_iret C dX2_addRecord_9 (Or.inl ⟨?_, rfl, rfl⟩)
    intro hh; rw [if_pos hh] at c5; exact absurd c5 (by decide)
set_option maxHeartbeats 4000000 in
set_option maxRecDepth 100000 in
theorem c_X2_changeAtHome (l : Launch) (D : va_G) (cy : ClassId × ClassId) (g : GT) (V : VT) (a : Nat) (b : Int) (x q sd ch : Int) (hap : Apart g) (hS : isSt g a b) (hI : SI V b) (hx : 0 ≤ x ∧ x < 3072) (hn : 0 ≤ q ∧ q ≤ 1200) (hk1 : V (b + x / 32) 0 0 = 1) : MetI l yX2_changeAtHome cX2_changeAtHome 9 (some .boolean) 3 D cy g [.ref a, vI x, vI q, vI sd, vI ch] V (fun r V' => HomeP V b x q sd ch r V') := by
  obtain ⟨⟨ob, hob⟩, ps, hps, hq, hpgs⟩ := id hS
  have hcb := cellB_bd (k := 1) (len := q) ⟨by omega, hn.2⟩
  have hcb3 := cellB_bd (k := 3) (len := q) ⟨by omega, hn.2⟩
  have hH := hI (x / 32) (by omega) (by omega)
  refine MetI.of (by decide) (Nat.le_of_ble_eq_true rfl) hap ?_
  intro p_ e_ s_ m_ args_ below_ meth_ c_ C
  refine g_aload_n C 0 rfl dX2_changeAtHome_0 ?_
  refine gf_Store_pages C hob hps lf_X2_11 dX2_changeAtHome_1 ?_
  refine g_iload_n C 1 rfl dX2_changeAtHome_4 ?_
  refine g_bipush C 32 rfl dX2_changeAtHome_5 ?_
  refine g_idiv C (by omega) (by omega) dX2_changeAtHome_7 ?_
  obtain ⟨pg1, pg1e, pg1h⟩ := hpgs (x / 32) (by omega) (by omega)
  obtain ⟨-, pg1r1, pg1r2, pg1r3, pg1r4, ⟨pg1hr1, pg1ha1⟩, ⟨pg1hr2, pg1ha2⟩, ⟨pg1hr3, pg1ha3⟩, ⟨pg1hr4, pg1ha4⟩⟩ := id pg1h
  refine g_aald C hq ⟨by omega, by omega⟩ (by decide) pg1e dX2_changeAtHome_8 ?_
  refine g_astore C [(5, .ref pg1), (0, .ref a), (1, vI x), (2, vI q), (3, vI sd), (4, vI ch)] dX2_changeAtHome_9 (by decide) rfl ?_
  refine g_iload_n C 2 rfl dX2_changeAtHome_11 ?_
  refine g_bipush C 32 rfl dX2_changeAtHome_12 ?_
  refine g_irem C (by omega) (by omega) dX2_changeAtHome_14 ?_
  refine g_istore C [(6, vI (x % 32)), (5, .ref pg1), (0, .ref a), (1, vI x), (2, vI q), (3, vI sd), (4, vI ch)] dX2_changeAtHome_15 (by decide) rfl ?_
  refine g_aload C 1 rfl dX2_changeAtHome_17 ?_
  refine g_iload C 0 rfl dX2_changeAtHome_19 ?_
  refine g_iconst C 1 rfl dX2_changeAtHome_21 ?_
  refine g_iload_n C 4 rfl dX2_changeAtHome_22 ?_
  refine g_callNI C [vI 1, vI q] [vI (x % 32), .ref pg1] (c_X3_cellBytes l D cy g _ 1 q hap (by omega) (by omega)) lm_X2_52 rfl (Nat.le_of_ble_eq_true rfl) ⟨(Nat.le_of_ble_eq_true rfl), (Nat.le_of_ble_eq_true rfl)⟩ ⟨Nat.zero_le _, Nat.zero_le _⟩ dX2_changeAtHome_23 ?_
  rintro _ V1 ⟨rfl, hV1⟩
  refine g_V hV1 ?_
  clear hV1 V1
  refine g_callI C [vI (x % 32), vI (cellB 1 q)] [] (cv_X1_hasRoomInstead l D cy g V pg1 _ (x % 32) (cellB 1 q) hap pg1h (by omega) (PI_pwf hH) (by unfold sm; omega)) lm_X2_81 (rcv_Page pg1h.1) rfl (Nat.le_of_ble_eq_true rfl) ⟨(Nat.le_of_ble_eq_true rfl), (Nat.le_of_ble_eq_true rfl)⟩ ⟨Nat.zero_le _, Nat.zero_le _⟩ dX2_changeAtHome_26 ?_
  rintro _ V1 ⟨rfl, hV1⟩
  refine g_V hV1 ?_
  clear hV1 V1
  refine g_if_eq C (by split <;> exact ⟨by decide, by decide⟩) 46 dX2_changeAtHome_29 (by decide) (fun c29 => ?_) (fun c29 => ?_)
  · have hA : ¬ cellB 1 q ≤ pRoom (V (b + x / 32)) + pBytes (V (b + x / 32)) (x % 32) := by
      intro hh; rw [if_pos hh] at c29; exact absurd c29 (by decide)
    refine g_aload_n C 2 rfl dX2_changeAtHome_46 ?_
    refine g_iconst C 3 rfl dX2_changeAtHome_47 ?_
    refine g_iload_n C 4 rfl dX2_changeAtHome_48 ?_
    refine g_callNI C [vI 3, vI q] [.ref a] (c_X3_cellBytes l D cy g _ 3 q hap (by omega) (by omega)) lm_X2_52 rfl (Nat.le_of_ble_eq_true rfl) ⟨(Nat.le_of_ble_eq_true rfl), (Nat.le_of_ble_eq_true rfl)⟩ ⟨Nat.zero_le _, Nat.zero_le _⟩ dX2_changeAtHome_49 ?_
    rintro _ V1 ⟨rfl, hV1⟩
    refine g_V hV1 ?_
    clear hV1 V1
    refine g_iload_n C 3 rfl dX2_changeAtHome_52 ?_
    refine g_bipush C 32 rfl dX2_changeAtHome_53 ?_
    refine g_idiv C (by omega) (by omega) dX2_changeAtHome_55 ?_
    refine g_iconst C (-1) rfl dX2_changeAtHome_56 ?_
    refine g_callI C [vI (cellB 3 q), vI (x / 32), vI ((-1))] [] (c_X2_placeFor l D cy g V a b (cellB 3 q) (x / 32) (-1) hap hS (SI_swf hI) (SI_room hI) (by omega) (by omega) (by omega)) lm_X2_56 (rcv_Store hob) rfl (Nat.le_of_ble_eq_true rfl) ⟨(Nat.le_of_ble_eq_true rfl), (Nat.le_of_ble_eq_true rfl)⟩ ⟨Nat.zero_le _, Nat.zero_le _⟩ dX2_changeAtHome_57 ?_
    rintro pl V1 ⟨hpl, hV1⟩
    refine g_V hV1 ?_
    clear hV1 V1
    have hok := isPl_ok hI (by omega) hpl
    have hpl9 : -1 ≤ pl ∧ pl < 96 := by rcases hok with k | ⟨k, -⟩ <;> omega
    refine g_istore C [(7, vI pl), (6, vI (x % 32)), (5, .ref pg1), (0, .ref a), (1, vI x), (2, vI q), (3, vI sd), (4, vI ch)] dX2_changeAtHome_60 (by decide) rfl ?_
    refine g_iload C 0 rfl dX2_changeAtHome_62 ?_
    refine g_iconst C (-1) rfl dX2_changeAtHome_64 ?_
    refine g_icmp_ne C (by unfold rng; omega) (by unfold rng; omega) 70 dX2_changeAtHome_65 (by decide) (fun c65 => ?_) (fun c65 => ?_)
    · have hok2 := hok.resolve_left c65
      have hPI := hI pl hok2.1.1 hok2.1.2
      have hne : pl ≠ x / 32 := by
        rcases hok2.2.2 with k | k
        · intro e; rw [e] at k; omega
        · exact k.2.1
      refine g_iload C 0 rfl dX2_changeAtHome_70 ?_
      refine g_bipush C 32 rfl dX2_changeAtHome_72 ?_
      refine g_imul C dX2_changeAtHome_74 ?_
      refine g_aload_n C 3 rfl dX2_changeAtHome_75 ?_
      refine gf_Store_pages C hob hps lf_X2_11 dX2_changeAtHome_76 ?_
      refine g_iload C 0 rfl dX2_changeAtHome_79 ?_
      obtain ⟨pg2, pg2e, pg2h⟩ := hpgs pl (by omega) (by omega)
      obtain ⟨-, pg2r1, pg2r2, pg2r3, pg2r4, ⟨pg2hr1, pg2ha1⟩, ⟨pg2hr2, pg2ha2⟩, ⟨pg2hr3, pg2ha3⟩, ⟨pg2hr4, pg2ha4⟩⟩ := id pg2h
      refine g_aald C hq ⟨by omega, by omega⟩ (by decide) pg2e dX2_changeAtHome_81 ?_
      refine g_iconst C 3 rfl dX2_changeAtHome_82 ?_
      refine g_iload_n C 5 rfl dX2_changeAtHome_83 ?_
      refine g_iload_n C 6 rfl dX2_changeAtHome_84 ?_
      refine g_iload C 7 rfl dX2_changeAtHome_85 ?_
      refine g_callI C [vI 3, vI q, vI sd, vI ch] [vI (pl * 32)] (cv_X1_put l D cy g V pg2 _ 3 q sd ch hap pg2h (PI_pwf hPI) (by omega) (by omega) (fun r hr => PI_slot hPI hr)) lm_X2_64 (rcv_Page pg2h.1) rfl (Nat.le_of_ble_eq_true rfl) ⟨(Nat.le_of_ble_eq_true rfl), (Nat.le_of_ble_eq_true rfl)⟩ ⟨Nat.zero_le _, Nat.zero_le _⟩ dX2_changeAtHome_87 ?_
      rintro t V2 ⟨ht, hV2⟩
      have ht9 := PI_slot hPI ht
      have ht8 := ht.1.1
      have he2 : V2 (b + x / 32) = V (b + x / 32) := by rw [hV2, setp_ne (by omega)]
      refine g_iadd C dX2_changeAtHome_90 ?_
      refine g_istore C [(8, vI ((pl * 32) + t)), (7, vI pl), (6, vI (x % 32)), (5, .ref pg1), (0, .ref a), (1, vI x), (2, vI q), (3, vI sd), (4, vI ch)] dX2_changeAtHome_91 (by decide) rfl ?_
      refine g_aload C 3 rfl dX2_changeAtHome_93 ?_
      refine g_iload C 2 rfl dX2_changeAtHome_95 ?_
      refine g_iconst C 2 rfl dX2_changeAtHome_97 ?_
      refine g_iconst C (-1) rfl dX2_changeAtHome_98 ?_
      refine g_iconst C (-1) rfl dX2_changeAtHome_99 ?_
      refine g_iload C 0 rfl dX2_changeAtHome_100 ?_
      refine g_callV C [vI (x % 32), vI 2, vI ((-1)), vI ((-1)), vI ((pl * 32) + t)] [] (cv_X1_change l D cy g V2 pg1 _ (x % 32) 2 ((-1)) ((-1)) ((pl * 32) + t) hap pg1h (by rw [he2]; exact PI_pwf hH) (by rw [he2]; exact PI_erase hH (by omega)) (by omega) (by omega) (by omega)) lm_X2_85 (rcv_Page pg1h.1) rfl (Nat.le_of_ble_eq_true rfl) ⟨(Nat.le_of_ble_eq_true rfl), (Nat.le_of_ble_eq_true rfl)⟩ ⟨Nat.zero_le _, Nat.zero_le _⟩ dX2_changeAtHome_102 ?_
      rintro V3 hV3
      refine g_iconst C 1 rfl dX2_changeAtHome_105 ?_
      refine g_zret C (by omega) dX2_changeAtHome_106 (Or.inr ⟨hA, pl, hpl, Or.inr ⟨c65, rfl, t, ht, ?_⟩⟩)
      rw [hV3, he2, hV2]
    · refine g_iconst C 0 rfl dX2_changeAtHome_68 ?_
      exact g_zret C (by omega) dX2_changeAtHome_69 (Or.inr ⟨hA, pl, hpl, Or.inl ⟨c65, rfl, rfl⟩⟩)
  · have hA : cellB 1 q ≤ pRoom (V (b + x / 32)) + pBytes (V (b + x / 32)) (x % 32) := by
      by_cases hh : cellB 1 q ≤ pRoom (V (b + x / 32)) + pBytes (V (b + x / 32)) (x % 32)
      · exact hh
      · exfalso; rw [if_neg hh] at c29; exact c29 rfl
    refine g_aload C 1 rfl dX2_changeAtHome_32 ?_
    refine g_iload C 0 rfl dX2_changeAtHome_34 ?_
    refine g_iconst C 1 rfl dX2_changeAtHome_36 ?_
    refine g_iload_n C 4 rfl dX2_changeAtHome_37 ?_
    refine g_iload_n C 5 rfl dX2_changeAtHome_38 ?_
    refine g_iload C 6 rfl dX2_changeAtHome_39 ?_
    refine g_callV C [vI (x % 32), vI 1, vI q, vI sd, vI ch] [] (cv_X1_change l D cy g V pg1 _ (x % 32) 1 q sd ch hap pg1h (PI_pwf hH) (PI_erase hH (by omega)) (by omega) (by omega) (by omega)) lm_X2_85 (rcv_Page pg1h.1) rfl (Nat.le_of_ble_eq_true rfl) ⟨(Nat.le_of_ble_eq_true rfl), (Nat.le_of_ble_eq_true rfl)⟩ ⟨Nat.zero_le _, Nat.zero_le _⟩ dX2_changeAtHome_41 ?_
    rintro V3 hV3
    refine g_iconst C 1 rfl dX2_changeAtHome_44 ?_
    exact g_zret C (by omega) dX2_changeAtHome_45 (Or.inl ⟨hA, rfl, hV3⟩)
set_option maxHeartbeats 4000000 in
set_option maxRecDepth 100000 in
theorem c_X2_changeAway (l : Launch) (D : va_G) (cy : ClassId × ClassId) (g : GT) (V : VT) (a : Nat) (b : Int) (x q sd ch c : Int) (hap : Apart g) (hS : isSt g a b) (hI : SI V b) (hx : 0 ≤ x ∧ x < 3072) (hn : 0 ≤ q ∧ q ≤ 1200) (hk1 : V (b + x / 32) 0 0 = 1) (hc : V (b + x / 32) 4 (x % 32) = c) (hc9 : 0 ≤ c ∧ c < 3072) (hcx : c / 32 ≠ x / 32) (hk2 : V (b + c / 32) 0 0 = 1) : MetI l yX2_changeAway cX2_changeAway 12 (some .boolean) 3 D cy g [.ref a, vI x, vI q, vI sd, vI ch] V (fun r V' => AwayP V b x c q sd ch r V') := by
  obtain ⟨⟨ob, hob⟩, ps, hps, hq, hpgs⟩ := id hS
  have hcb := cellB_bd (k := 1) (len := q) ⟨by omega, hn.2⟩
  have hcb3 := cellB_bd (k := 3) (len := q) ⟨by omega, hn.2⟩
  have hH := hI (x / 32) (by omega) (by omega)
  have hA9 := hI (c / 32) (by omega) (by omega)
  refine MetI.of (by decide) (Nat.le_of_ble_eq_true rfl) hap ?_
  intro p_ e_ s_ m_ args_ below_ meth_ c_ C
  refine g_aload_n C 0 rfl dX2_changeAway_0 ?_
  refine gf_Store_pages C hob hps lf_X2_11 dX2_changeAway_1 ?_
  refine g_iload_n C 1 rfl dX2_changeAway_4 ?_
  refine g_bipush C 32 rfl dX2_changeAway_5 ?_
  refine g_idiv C (by omega) (by omega) dX2_changeAway_7 ?_
  obtain ⟨pg1, pg1e, pg1h⟩ := hpgs (x / 32) (by omega) (by omega)
  obtain ⟨-, pg1r1, pg1r2, pg1r3, pg1r4, ⟨pg1hr1, pg1ha1⟩, ⟨pg1hr2, pg1ha2⟩, ⟨pg1hr3, pg1ha3⟩, ⟨pg1hr4, pg1ha4⟩⟩ := id pg1h
  refine g_aald C hq ⟨by omega, by omega⟩ (by decide) pg1e dX2_changeAway_8 ?_
  refine g_astore C [(5, .ref pg1), (0, .ref a), (1, vI x), (2, vI q), (3, vI sd), (4, vI ch)] dX2_changeAway_9 (by decide) rfl ?_
  refine g_iload_n C 2 rfl dX2_changeAway_11 ?_
  refine g_bipush C 32 rfl dX2_changeAway_12 ?_
  refine g_irem C (by omega) (by omega) dX2_changeAway_14 ?_
  refine g_istore C [(6, vI (x % 32)), (5, .ref pg1), (0, .ref a), (1, vI x), (2, vI q), (3, vI sd), (4, vI ch)] dX2_changeAway_15 (by decide) rfl ?_
  refine g_aload C 1 rfl dX2_changeAway_17 ?_
  refine gfN_Page_links C pg1h.1 pg1hr4 lf_X2_34 dX2_changeAway_19 ?_
  refine g_iload C 0 rfl dX2_changeAway_22 ?_
  refine g_iald C pg1ha4 (by omega) (by decide) dX2_changeAway_24 ?_
  refine g_istore C [(7, vI (V (b + (x / 32)) 4 (x % 32))), (6, vI (x % 32)), (5, .ref pg1), (0, .ref a), (1, vI x), (2, vI q), (3, vI sd), (4, vI ch)] dX2_changeAway_25 (by decide) rfl ?_
  rw [hc]
  refine g_aload_n C 3 rfl dX2_changeAway_27 ?_
  refine gf_Store_pages C hob hps lf_X2_11 dX2_changeAway_28 ?_
  refine g_iload C 0 rfl dX2_changeAway_31 ?_
  refine g_bipush C 32 rfl dX2_changeAway_33 ?_
  refine g_idiv C (by omega) (by omega) dX2_changeAway_35 ?_
  obtain ⟨pg2, pg2e, pg2h⟩ := hpgs (c / 32) (by omega) (by omega)
  obtain ⟨-, pg2r1, pg2r2, pg2r3, pg2r4, ⟨pg2hr1, pg2ha1⟩, ⟨pg2hr2, pg2ha2⟩, ⟨pg2hr3, pg2ha3⟩, ⟨pg2hr4, pg2ha4⟩⟩ := id pg2h
  refine g_aald C hq ⟨by omega, by omega⟩ (by decide) pg2e dX2_changeAway_36 ?_
  refine g_astore C [(8, .ref pg2), (7, vI c), (6, vI (x % 32)), (5, .ref pg1), (0, .ref a), (1, vI x), (2, vI q), (3, vI sd), (4, vI ch)] dX2_changeAway_37 (by decide) rfl ?_
  refine g_iload C 1 rfl dX2_changeAway_39 ?_
  refine g_bipush C 32 rfl dX2_changeAway_41 ?_
  refine g_irem C (by omega) (by omega) dX2_changeAway_43 ?_
  refine g_istore C [(9, vI (c % 32)), (8, .ref pg2), (7, vI c), (6, vI (x % 32)), (5, .ref pg1), (0, .ref a), (1, vI x), (2, vI q), (3, vI sd), (4, vI ch)] dX2_changeAway_44 (by decide) rfl ?_
  refine g_aload C 4 rfl dX2_changeAway_46 ?_
  refine g_iload C 3 rfl dX2_changeAway_48 ?_
  refine g_iconst C 1 rfl dX2_changeAway_50 ?_
  refine g_iload_n C 7 rfl dX2_changeAway_51 ?_
  refine g_callNI C [vI 1, vI q] [vI (x % 32), .ref pg1] (c_X3_cellBytes l D cy g _ 1 q hap (by omega) (by omega)) lm_X2_52 rfl (Nat.le_of_ble_eq_true rfl) ⟨(Nat.le_of_ble_eq_true rfl), (Nat.le_of_ble_eq_true rfl)⟩ ⟨Nat.zero_le _, Nat.zero_le _⟩ dX2_changeAway_52 ?_
  rintro _ V1 ⟨rfl, hV1⟩
  refine g_V hV1 ?_
  clear hV1 V1
  refine g_callI C [vI (x % 32), vI (cellB 1 q)] [] (cv_X1_hasRoomInstead l D cy g V pg1 _ (x % 32) (cellB 1 q) hap pg1h (by omega) (PI_pwf hH) (by unfold sm; omega)) lm_X2_81 (rcv_Page pg1h.1) rfl (Nat.le_of_ble_eq_true rfl) ⟨(Nat.le_of_ble_eq_true rfl), (Nat.le_of_ble_eq_true rfl)⟩ ⟨Nat.zero_le _, Nat.zero_le _⟩ dX2_changeAway_55 ?_
  rintro _ V1 ⟨rfl, hV1⟩
  refine g_V hV1 ?_
  clear hV1 V1
  refine g_if_eq C (by split <;> exact ⟨by decide, by decide⟩) 82 dX2_changeAway_58 (by decide) (fun c58 => ?_) (fun c58 => ?_)
  · have hA : ¬ cellB 1 q ≤ pRoom (V (b + x / 32)) + pBytes (V (b + x / 32)) (x % 32) := by
      intro hh; rw [if_pos hh] at c58; exact absurd c58 (by decide)
    refine g_aload C 1 rfl dX2_changeAway_82 ?_
    refine g_iload C 0 rfl dX2_changeAway_84 ?_
    refine g_iconst C 3 rfl dX2_changeAway_86 ?_
    refine g_iload_n C 7 rfl dX2_changeAway_87 ?_
    refine g_callNI C [vI 3, vI q] [vI (c % 32), .ref pg2] (c_X3_cellBytes l D cy g _ 3 q hap (by omega) (by omega)) lm_X2_52 rfl (Nat.le_of_ble_eq_true rfl) ⟨(Nat.le_of_ble_eq_true rfl), (Nat.le_of_ble_eq_true rfl)⟩ ⟨Nat.zero_le _, Nat.zero_le _⟩ dX2_changeAway_88 ?_
    rintro _ V1 ⟨rfl, hV1⟩
    refine g_V hV1 ?_
    clear hV1 V1
    refine g_callI C [vI (c % 32), vI (cellB 3 q)] [] (cv_X1_hasRoomInstead l D cy g V pg2 _ (c % 32) (cellB 3 q) hap pg2h (by omega) (PI_pwf hA9) (by unfold sm; omega)) lm_X2_81 (rcv_Page pg2h.1) rfl (Nat.le_of_ble_eq_true rfl) ⟨(Nat.le_of_ble_eq_true rfl), (Nat.le_of_ble_eq_true rfl)⟩ ⟨Nat.zero_le _, Nat.zero_le _⟩ dX2_changeAway_91 ?_
    rintro _ V1 ⟨rfl, hV1⟩
    refine g_V hV1 ?_
    clear hV1 V1
    refine g_if_eq C (by split <;> exact ⟨by decide, by decide⟩) 111 dX2_changeAway_94 (by decide) (fun c94 => ?_) (fun c94 => ?_)
    · have hB : ¬ cellB 3 q ≤ pRoom (V (b + c / 32)) + pBytes (V (b + c / 32)) (c % 32) := by
        intro hh; rw [if_pos hh] at c94; exact absurd c94 (by decide)
      refine g_aload_n C 5 rfl dX2_changeAway_111 ?_
      refine g_iconst C 3 rfl dX2_changeAway_112 ?_
      refine g_iload_n C 7 rfl dX2_changeAway_113 ?_
      refine g_callNI C [vI 3, vI q] [.ref a] (c_X3_cellBytes l D cy g _ 3 q hap (by omega) (by omega)) lm_X2_52 rfl (Nat.le_of_ble_eq_true rfl) ⟨(Nat.le_of_ble_eq_true rfl), (Nat.le_of_ble_eq_true rfl)⟩ ⟨Nat.zero_le _, Nat.zero_le _⟩ dX2_changeAway_114 ?_
      rintro _ V1 ⟨rfl, hV1⟩
      refine g_V hV1 ?_
      clear hV1 V1
      refine g_iload_n C 6 rfl dX2_changeAway_117 ?_
      refine g_bipush C 32 rfl dX2_changeAway_118 ?_
      refine g_idiv C (by omega) (by omega) dX2_changeAway_120 ?_
      refine g_iload C 2 rfl dX2_changeAway_121 ?_
      refine g_bipush C 32 rfl dX2_changeAway_123 ?_
      refine g_idiv C (by omega) (by omega) dX2_changeAway_125 ?_
      refine g_callI C [vI (cellB 3 q), vI (x / 32), vI (c / 32)] [] (c_X2_placeFor l D cy g V a b (cellB 3 q) (x / 32) (c / 32) hap hS (SI_swf hI) (SI_room hI) (by omega) (by omega) (by omega)) lm_X2_56 (rcv_Store hob) rfl (Nat.le_of_ble_eq_true rfl) ⟨(Nat.le_of_ble_eq_true rfl), (Nat.le_of_ble_eq_true rfl)⟩ ⟨Nat.zero_le _, Nat.zero_le _⟩ dX2_changeAway_126 ?_
      rintro pl V1 ⟨hpl, hV1⟩
      refine g_V hV1 ?_
      clear hV1 V1
      have hok := isPl_ok hI (by omega) hpl
      have hpl9 : -1 ≤ pl ∧ pl < 96 := by rcases hok with k | ⟨k, -⟩ <;> omega
      refine g_istore C [(10, vI pl), (9, vI (c % 32)), (8, .ref pg2), (7, vI c), (6, vI (x % 32)), (5, .ref pg1), (0, .ref a), (1, vI x), (2, vI q), (3, vI sd), (4, vI ch)] dX2_changeAway_129 (by decide) rfl ?_
      refine g_iload C 0 rfl dX2_changeAway_131 ?_
      refine g_iconst C (-1) rfl dX2_changeAway_133 ?_
      refine g_icmp_ne C (by unfold rng; omega) (by unfold rng; omega) 139 dX2_changeAway_134 (by decide) (fun c134 => ?_) (fun c134 => ?_)
      · have hok2 := hok.resolve_left c134
        have hPI := hI pl hok2.1.1 hok2.1.2
        have hne : pl ≠ x / 32 ∧ pl ≠ c / 32 := by
          rcases hok2.2.2 with k | k
          · exact ⟨fun e => by rw [e] at k; omega, fun e => by rw [e] at k; omega⟩
          · exact k.2
        refine g_iload C 0 rfl dX2_changeAway_139 ?_
        refine g_bipush C 32 rfl dX2_changeAway_141 ?_
        refine g_imul C dX2_changeAway_143 ?_
        refine g_aload_n C 6 rfl dX2_changeAway_144 ?_
        refine gf_Store_pages C hob hps lf_X2_11 dX2_changeAway_145 ?_
        refine g_iload C 0 rfl dX2_changeAway_148 ?_
        obtain ⟨pg3, pg3e, pg3h⟩ := hpgs pl (by omega) (by omega)
        obtain ⟨-, pg3r1, pg3r2, pg3r3, pg3r4, ⟨pg3hr1, pg3ha1⟩, ⟨pg3hr2, pg3ha2⟩, ⟨pg3hr3, pg3ha3⟩, ⟨pg3hr4, pg3ha4⟩⟩ := id pg3h
        refine g_aald C hq ⟨by omega, by omega⟩ (by decide) pg3e dX2_changeAway_150 ?_
        refine g_iconst C 3 rfl dX2_changeAway_151 ?_
        refine g_iload_n C 8 rfl dX2_changeAway_152 ?_
        refine g_iload_n C 9 rfl dX2_changeAway_153 ?_
        refine g_iload C 10 rfl dX2_changeAway_154 ?_
        refine g_callI C [vI 3, vI q, vI sd, vI ch] [vI (pl * 32)] (cv_X1_put l D cy g V pg3 _ 3 q sd ch hap pg3h (PI_pwf hPI) (by omega) (by omega) (fun r hr => PI_slot hPI hr)) lm_X2_64 (rcv_Page pg3h.1) rfl (Nat.le_of_ble_eq_true rfl) ⟨(Nat.le_of_ble_eq_true rfl), (Nat.le_of_ble_eq_true rfl)⟩ ⟨Nat.zero_le _, Nat.zero_le _⟩ dX2_changeAway_156 ?_
        rintro t V2 ⟨ht, hV2⟩
        have ht9 := PI_slot hPI ht
        have ht8 := ht.1.1
        have he2c : V2 (b + c / 32) = V (b + c / 32) := by rw [hV2, setp_ne (by omega)]
        refine g_iadd C dX2_changeAway_159 ?_
        refine g_istore C [(11, vI ((pl * 32) + t)), (10, vI pl), (9, vI (c % 32)), (8, .ref pg2), (7, vI c), (6, vI (x % 32)), (5, .ref pg1), (0, .ref a), (1, vI x), (2, vI q), (3, vI sd), (4, vI ch)] dX2_changeAway_160 (by decide) rfl ?_
        refine g_aload C 3 rfl dX2_changeAway_162 ?_
        refine g_iload C 2 rfl dX2_changeAway_164 ?_
        refine g_callV C [vI (c % 32)] [] (cv_X1_remove l D cy g V2 pg2 _ (c % 32) hap pg2h (by rw [he2c]; exact PI_pwf hA9) (by omega)) lm_X2_78 (rcv_Page pg2h.1) rfl (Nat.le_of_ble_eq_true rfl) ⟨(Nat.le_of_ble_eq_true rfl), (Nat.le_of_ble_eq_true rfl)⟩ ⟨Nat.zero_le _, Nat.zero_le _⟩ dX2_changeAway_166 ?_
        rintro V4 ⟨n9, hn9, hV4⟩
        rw [he2c] at hn9 hV4
        have he4 : V4 (b + x / 32) = V (b + x / 32) := by rw [hV4, setp_ne (by omega), hV2, setp_ne (by omega)]
        refine g_aload C 6 rfl dX2_changeAway_169 ?_
        refine g_iload C 5 rfl dX2_changeAway_171 ?_
        refine g_iconst C 2 rfl dX2_changeAway_173 ?_
        refine g_iconst C (-1) rfl dX2_changeAway_174 ?_
        refine g_iconst C (-1) rfl dX2_changeAway_175 ?_
        refine g_iload C 0 rfl dX2_changeAway_176 ?_
        refine g_callV C [vI (x % 32), vI 2, vI ((-1)), vI ((-1)), vI ((pl * 32) + t)] [] (cv_X1_change l D cy g V4 pg1 _ (x % 32) 2 ((-1)) ((-1)) ((pl * 32) + t) hap pg1h (by rw [he4]; exact PI_pwf hH) (by rw [he4]; exact PI_erase hH (by omega)) (by omega) (by omega) (by omega)) lm_X2_85 (rcv_Page pg1h.1) rfl (Nat.le_of_ble_eq_true rfl) ⟨(Nat.le_of_ble_eq_true rfl), (Nat.le_of_ble_eq_true rfl)⟩ ⟨Nat.zero_le _, Nat.zero_le _⟩ dX2_changeAway_178 ?_
        rintro V3 hV3
        refine g_iconst C 1 rfl dX2_changeAway_181 ?_
        refine g_zret C (by omega) dX2_changeAway_182 (Or.inr (Or.inr ⟨hA, hB, pl, hpl, Or.inr ⟨c134, rfl, t, n9, ht, hn9, ?_⟩⟩))
        rw [hV3, he4, hV4, hV2]
      · refine g_iconst C 0 rfl dX2_changeAway_137 ?_
        exact g_zret C (by omega) dX2_changeAway_138 (Or.inr (Or.inr ⟨hA, hB, pl, hpl, Or.inl ⟨c134, rfl, rfl⟩⟩))
    · have hB : cellB 3 q ≤ pRoom (V (b + c / 32)) + pBytes (V (b + c / 32)) (c % 32) := by
        by_cases hh : cellB 3 q ≤ pRoom (V (b + c / 32)) + pBytes (V (b + c / 32)) (c % 32)
        · exact hh
        · exfalso; rw [if_neg hh] at c94; exact c94 rfl
      refine g_aload C 1 rfl dX2_changeAway_97 ?_
      refine g_iload C 0 rfl dX2_changeAway_99 ?_
      refine g_iconst C 3 rfl dX2_changeAway_101 ?_
      refine g_iload_n C 7 rfl dX2_changeAway_102 ?_
      refine g_iload_n C 8 rfl dX2_changeAway_103 ?_
      refine g_iload C 9 rfl dX2_changeAway_104 ?_
      refine g_callV C [vI (c % 32), vI 3, vI q, vI sd, vI ch] [] (cv_X1_change l D cy g V pg2 _ (c % 32) 3 q sd ch hap pg2h (PI_pwf hA9) (PI_erase hA9 (by omega)) (by omega) (by omega) (by omega)) lm_X2_85 (rcv_Page pg2h.1) rfl (Nat.le_of_ble_eq_true rfl) ⟨(Nat.le_of_ble_eq_true rfl), (Nat.le_of_ble_eq_true rfl)⟩ ⟨Nat.zero_le _, Nat.zero_le _⟩ dX2_changeAway_106 ?_
      rintro V3 hV3
      refine g_iconst C 1 rfl dX2_changeAway_109 ?_
      exact g_zret C (by omega) dX2_changeAway_110 (Or.inr (Or.inl ⟨hA, hB, rfl, hV3⟩))
  · have hA : cellB 1 q ≤ pRoom (V (b + x / 32)) + pBytes (V (b + x / 32)) (x % 32) := by
      by_cases hh : cellB 1 q ≤ pRoom (V (b + x / 32)) + pBytes (V (b + x / 32)) (x % 32)
      · exact hh
      · exfalso; rw [if_neg hh] at c58; exact c58 rfl
    refine g_aload C 4 rfl dX2_changeAway_61 ?_
    refine g_iload C 3 rfl dX2_changeAway_63 ?_
    refine g_iconst C 1 rfl dX2_changeAway_65 ?_
    refine g_iload_n C 7 rfl dX2_changeAway_66 ?_
    refine g_iload_n C 8 rfl dX2_changeAway_67 ?_
    refine g_iload C 9 rfl dX2_changeAway_68 ?_
    refine g_callV C [vI (x % 32), vI 1, vI q, vI sd, vI ch] [] (cv_X1_change l D cy g V pg1 _ (x % 32) 1 q sd ch hap pg1h (PI_pwf hH) (PI_erase hH (by omega)) (by omega) (by omega) (by omega)) lm_X2_85 (rcv_Page pg1h.1) rfl (Nat.le_of_ble_eq_true rfl) ⟨(Nat.le_of_ble_eq_true rfl), (Nat.le_of_ble_eq_true rfl)⟩ ⟨Nat.zero_le _, Nat.zero_le _⟩ dX2_changeAway_70 ?_
    rintro V3 hV3
    have he3 : V3 (b + c / 32) = V (b + c / 32) := by rw [hV3, setp_ne (by omega)]
    refine g_aload C 1 rfl dX2_changeAway_73 ?_
    refine g_iload C 0 rfl dX2_changeAway_75 ?_
    refine g_callV C [vI (c % 32)] [] (cv_X1_remove l D cy g V3 pg2 _ (c % 32) hap pg2h (by rw [he3]; exact PI_pwf hA9) (by omega)) lm_X2_78 (rcv_Page pg2h.1) rfl (Nat.le_of_ble_eq_true rfl) ⟨(Nat.le_of_ble_eq_true rfl), (Nat.le_of_ble_eq_true rfl)⟩ ⟨Nat.zero_le _, Nat.zero_le _⟩ dX2_changeAway_77 ?_
    rintro V4 ⟨n9, hn9, hV4⟩
    rw [he3] at hn9 hV4
    refine g_iconst C 1 rfl dX2_changeAway_80 ?_
    refine g_zret C (by omega) dX2_changeAway_81 (Or.inl ⟨hA, rfl, n9, hn9, ?_⟩)
    rw [hV4, hV3]
