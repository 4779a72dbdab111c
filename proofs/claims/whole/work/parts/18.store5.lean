theorem HomeP_ok {V V' : VT} {b x q sd ch r : Int} (hI : SI V b) (hx : 0 ≤ x ∧ x < 3072) (hn : 0 ≤ q ∧ q ≤ 1200) (h0 : V (b + x / 32) 1 (x % 32) ≠ 0) (h : HomeP V b x q sd ch r V') : SI V' b ∧ nx V' b = nx V b ∧ (r = 0 ∨ r = 1) ∧ (r = 0 → V' = V) := by
  have hH := hI (x / 32) (by omega) (by omega)
  have hpb : 5 ≤ pBytes (V (b + x / 32)) (x % 32) := (cellB_bd (k := V (b + x / 32) 1 (x % 32)) (hH.1 (x % 32) (by omega) (by omega)).2.1).1
  have hcb3 := cellB_bd (k := 3) (len := q) ⟨by omega, hn.2⟩
  have hrm := PI_room hH
  rcases h with ⟨h1, rfl, rfl⟩ | ⟨h1, pl, h2, ⟨rfl, rfl, rfl⟩ | ⟨h3, rfl, t, h4, rfl⟩⟩
  · exact ⟨SI_setp hI (PI_change hH (by omega) h0 (by omega) ⟨by omega, by omega⟩ h1), nx_setp (pChange_f _ _ _ _ _ _).2.2.2.2.2.2.1, Or.inr rfl, fun q => absurd q (by decide)⟩
  · exact ⟨hI, rfl, Or.inl rfl, fun _ => rfl⟩
  · have hok := (isPl_ok hI (by omega) h2).resolve_left h3
    have hP := hI pl hok.1.1 hok.1.2
    have hne : pl ≠ x / 32 := by
      rcases hok.2.2 with k | k
      · intro e
        rw [e] at k
        have := (hH.2.2.2.2.2.1.2.2 (by omega)).1
        have hz := sumF_zero (F := cef (V (b + x / 32))) (n := 32) (fun i _ _ => by unfold cef; split <;> omega) (by have := hH.2.2.1; omega) (x % 32) (by omega) (by omega)
        unfold cef at hz
        rw [if_neg h0] at hz
        exact absurd hz (by decide)
      · exact k.2.1
    have e1 : setp V (b + pl) (pPut (V (b + pl)) t 3 q sd ch) (b + x / 32) = V (b + x / 32) := setp_ne (by omega)
    have s1 : SI (setp V (b + pl) (pPut (V (b + pl)) t 3 q sd ch)) b := SI_setp hI (PI_put hP h4 (by omega) hn hok.2.1 (by omega))
    refine ⟨SI_setp s1 (PI_change hH (by omega) h0 (by omega) ⟨by omega, by omega⟩ (by rw [show cellB 2 (-1) = 5 by decide]; omega)), ?_, Or.inr rfl, fun q => absurd q (by decide)⟩
    rw [nx_setp (by rw [e1]; exact (pChange_f _ _ _ _ _ _).2.2.2.2.2.2.1), nx_setp (pPut_f _ _ _ _ _ _ h4.1).2.2.2.2.2.2.1]
theorem AwayP_ok {V V' : VT} {b x c q sd ch r : Int} (hI : SI V b) (hx : 0 ≤ x ∧ x < 3072) (hc : 0 ≤ c ∧ c < 3072) (hcx : c / 32 ≠ x / 32) (hn : 0 ≤ q ∧ q ≤ 1200) (h0 : V (b + x / 32) 1 (x % 32) ≠ 0) (hk2 : V (b + x / 32) 0 0 = 1) (hk3 : V (b + c / 32) 0 0 = 1) (h0c : V (b + c / 32) 1 (c % 32) ≠ 0) (h : AwayP V b x c q sd ch r V') : SI V' b ∧ nx V' b = nx V b ∧ (r = 0 ∨ r = 1) ∧ (r = 0 → V' = V) := by
  have hH := hI (x / 32) (by omega) (by omega)
  have hA := hI (c / 32) (by omega) (by omega)
  have hpb : 5 ≤ pBytes (V (b + x / 32)) (x % 32) := (cellB_bd (k := V (b + x / 32) 1 (x % 32)) (hH.1 (x % 32) (by omega) (by omega)).2.1).1
  have hcb3 := cellB_bd (k := 3) (len := q) ⟨by omega, hn.2⟩
  have hrm := PI_room hH
  have h25 : cellB 2 (-1) = 5 := by decide
  rcases h with ⟨h1, rfl, n, h2, rfl⟩ | ⟨h1, h2, rfl, rfl⟩ | ⟨h1, h2, pl, h3, ⟨rfl, rfl, rfl⟩ | ⟨h4, rfl, t, n, h5, h6, rfl⟩⟩
  · have s1 : SI (setp V (b + x / 32) (pChange (V (b + x / 32)) (x % 32) 1 q sd ch)) b := SI_setp hI (PI_change hH (by omega) h0 (by omega) ⟨by omega, by omega⟩ h1)
    have e1 : setp V (b + x / 32) (pChange (V (b + x / 32)) (x % 32) 1 q sd ch) (b + c / 32) = V (b + c / 32) := setp_ne (by omega)
    refine ⟨SI_setp s1 (PI_rem hA (by omega) h0c h2), ?_, Or.inr rfl, fun q => absurd q (by decide)⟩
    rw [nx_setp (by rw [e1]; exact (pRem_f _ _ _).2.2.2.2.2.2.1), nx_setp (pChange_f _ _ _ _ _ _).2.2.2.2.2.2.1]
  · exact ⟨SI_setp hI (PI_change hA (by omega) h0c (by omega) ⟨by omega, by omega⟩ h2), nx_setp (pChange_f _ _ _ _ _ _).2.2.2.2.2.2.1, Or.inr rfl, fun q => absurd q (by decide)⟩
  · exact ⟨hI, rfl, Or.inl rfl, fun _ => rfl⟩
  · have hok := (isPl_ok hI (by omega) h3).resolve_left h4
    have hP := hI pl hok.1.1 hok.1.2
    have hne : pl ≠ x / 32 ∧ pl ≠ c / 32 := by
      rcases hok.2.2 with k | k
      · exact ⟨fun e => by rw [e] at k; omega, fun e => by rw [e] at k; omega⟩
      · exact k.2
    have s1 : SI (setp V (b + pl) (pPut (V (b + pl)) t 3 q sd ch)) b := SI_setp hI (PI_put hP h5 (by omega) hn hok.2.1 (by omega))
    have e1 : setp V (b + pl) (pPut (V (b + pl)) t 3 q sd ch) (b + c / 32) = V (b + c / 32) := setp_ne (by omega)
    have s2 : SI (setp (setp V (b + pl) (pPut (V (b + pl)) t 3 q sd ch)) (b + c / 32) (pRem (V (b + c / 32)) (c % 32) n)) b := SI_setp s1 (PI_rem hA (by omega) h0c h6)
    have e2 : setp (setp V (b + pl) (pPut (V (b + pl)) t 3 q sd ch)) (b + c / 32) (pRem (V (b + c / 32)) (c % 32) n) (b + x / 32) = V (b + x / 32) := by rw [setp_ne (by omega), setp_ne (by omega)]
    refine ⟨SI_setp s2 (PI_change hH (by omega) h0 (by omega) ⟨by omega, by omega⟩ (by omega)), ?_, Or.inr rfl, fun q => absurd q (by decide)⟩
    rw [nx_setp (by rw [e2]; exact (pChange_f _ _ _ _ _ _).2.2.2.2.2.2.1), nx_setp (by rw [e1]; exact (pRem_f _ _ _).2.2.2.2.2.2.1), nx_setp (pPut_f _ _ _ _ _ _ h5.1).2.2.2.2.2.2.1]
/-- what a record is, for its changes: its cell, its chain -/
def recOK (V : VT) (b x : Int) (L0 : List Int) : Prop :=
  (0 ≤ x ∧ x < 3072) ∧ V (b + x / 32) 0 0 = 1 ∧ (V (b + x / 32) 1 (x % 32) = 1 ∨ V (b + x / 32) 1 (x % 32) = 2) ∧ (V (b + x / 32) 1 (x % 32) = 2 → (0 ≤ V (b + x / 32) 4 (x % 32) ∧ V (b + x / 32) 4 (x % 32) < 3072) ∧ V (b + x / 32) 4 (x % 32) / 32 ≠ x / 32 ∧ V (b + V (b + x / 32) 4 (x % 32) / 32) 0 0 = 1 ∧ V (b + V (b + x / 32) 4 (x % 32) / 32) 1 (V (b + x / 32) 4 (x % 32) % 32) ≠ 0) ∧
  isCh (nx V b) L0 (V (b + vcel V b x / 32) 4 (vcel V b x % 32)) ∧ (∀ p ∈ L0, kd V b p = 2) ∧ L0.length ≤ 96
theorem recOK_vc {V : VT} {b x : Int} {L0 : List Int} (h : recOK V b x L0) : (0 ≤ vcel V b x ∧ vcel V b x < 3072) ∧ V (b + vcel V b x / 32) 0 0 = 1 ∧ V (b + vcel V b x / 32) 1 (vcel V b x % 32) ≠ 0 ∧ (vcel V b x = x ∨ (vcel V b x / 32 ≠ x / 32 ∧ vcel V b x = V (b + x / 32) 4 (x % 32))) := by
  obtain ⟨h1, h2, h3, h4, h5, h6, h7⟩ := h
  unfold vcel
  by_cases hk : V (b + x / 32) 1 (x % 32) = 2
  · rw [if_pos hk]
    obtain ⟨k1, k2, k3, k4⟩ := h4 hk
    exact ⟨k1, k3, k4, Or.inr ⟨k2, rfl⟩⟩
  · rw [if_neg hk]
    exact ⟨h1, h2, by omega, Or.inl rfl⟩
set_option maxHeartbeats 4000000 in
set_option maxRecDepth 100000 in
theorem c_X2_changeRecord (l : Launch) (D : va_G) (cy : ClassId × ClassId) (g : GT) (V : VT) (a : Nat) (b : Int) (x q sd : Int) (L0 : List Int) (hap : Apart g) (hS : isSt g a b) (hI : SI V b) (hn : 0 ≤ q ∧ q ≤ 1200) (hR : recOK V b x L0) : MetI l yX2_changeRecord cX2_changeRecord 7 (some .boolean) 4 D cy g [.ref a, vI x, vI q, vI sd] V (fun r V' => ChgP V b x q sd L0 r V') := by
  obtain ⟨⟨ob, hob⟩, ps, hps, hq, hpgs⟩ := id hS
  obtain ⟨hx, hk1, hkx, hst9, hL0, hL2, hLn⟩ := id hR
  obtain ⟨hvc, hvk, hvn, hvx⟩ := recOK_vc hR
  have hc := chP_bd hn
  refine MetI.of (by decide) (Nat.le_of_ble_eq_true rfl) hap ?_
  intro p_ e_ s_ m_ args_ below_ meth_ c_ C
  refine g_aload_n C 0 rfl dX2_changeRecord_0 ?_
  refine g_iload_n C 2 rfl dX2_changeRecord_1 ?_
  refine g_callI C [vI q] [] (c_X2_hasPagesForChain l D cy g V a b q hap hS (SI_swf hI) hn) lm_X2_46 (rcv_Store hob) rfl (Nat.le_of_ble_eq_true rfl) ⟨(Nat.le_of_ble_eq_true rfl), (Nat.le_of_ble_eq_true rfl)⟩ ⟨Nat.zero_le _, Nat.zero_le _⟩ dX2_changeRecord_2 ?_
  rintro _ V1 ⟨rfl, hV1⟩
  refine g_V hV1 ?_
  clear hV1 V1
  refine g_if_ne C (by split <;> exact ⟨by decide, by decide⟩) 10 dX2_changeRecord_5 (by decide) (fun c5 => ?_) (fun c5 => ?_)
  · have hen : chP q ≤ cntK (kd V b) 0 96 := by
      by_cases hh : chP q ≤ cntK (kd V b) 0 96
      · exact hh
      · exfalso; rw [if_neg hh] at c5; exact c5 rfl
    have hSI := tc_SI (len := q) hI (chP q).toNat (by omega) (chP q).toNat (Nat.le_refl _)
    obtain ⟨L, l1, l2, l3, l4, l5, l6, -⟩ := tc_chain (len := q) (SI_swf hI) (chP q).toNat (by omega) (chP q).toNat (Nat.le_refl _)
    have hfr := isCh_rng l2
    have hfr0 := isCh_rng hL0
    have hpg : ∀ i, kd V b i ≠ 0 → (tcN b V q (chP q).toNat).1 (b + i) = V (b + i) := fun i hi => l5 (b + i) (fun p hp e => hi ((show p = i by omega) ▸ (l3 p hp).2.1))
    have hpx := hpg (x / 32) (by simp only [kd]; omega)
    have hpc := hpg (vcel V b x / 32) (by simp only [kd]; omega)
    have hvT : vcel (tcN b V q (chP q).toNat).1 b x = vcel V b x := by unfold vcel; rw [hpx]
    have hnL : ∀ p ∈ L0, nx (tcN b V q (chP q).toNat).1 b p = nx V b p := fun p hp => by simp only [nx]; rw [hpg p (by rw [hL2 p hp]; decide)]
    refine g_aload_n C 0 rfl dX2_changeRecord_10 ?_
    refine g_iload_n C 1 rfl dX2_changeRecord_11 ?_
    refine g_callI C [vI x] [] (c_X2_chainOf l D cy g V a b x hap hS (SI_swf hI) hx hvc) lm_X2_68 (rcv_Store hob) rfl (Nat.le_of_ble_eq_true rfl) ⟨(Nat.le_of_ble_eq_true rfl), (Nat.le_of_ble_eq_true rfl)⟩ ⟨Nat.zero_le _, Nat.zero_le _⟩ dX2_changeRecord_12 ?_
    rintro _ V1 ⟨rfl, hV1⟩
    refine g_V hV1 ?_
    clear hV1 V1
    generalize hoe : V (b + vcel V b x / 32) 4 (vcel V b x % 32) = old at *
    refine g_istore C [(4, vI old), (0, .ref a), (1, vI x), (2, vI q), (3, vI sd)] dX2_changeRecord_15 (by decide) rfl ?_
    refine g_aload_n C 1 rfl dX2_changeRecord_17 ?_
    refine g_iload_n C 3 rfl dX2_changeRecord_18 ?_
    refine g_callI C [vI q] [] (c_X2_takeChain l D cy g V a b q hap hS (SI_swf hI) hn hen) lm_X2_49 (rcv_Store hob) rfl (Nat.le_of_ble_eq_true rfl) ⟨(Nat.le_of_ble_eq_true rfl), (Nat.le_of_ble_eq_true rfl)⟩ ⟨Nat.zero_le _, Nat.zero_le _⟩ dX2_changeRecord_19 ?_
    rintro _ V1 ⟨rfl, hV1⟩
    refine g_V hV1 ?_
    clear hV1 V1
    generalize hTe : tcN b V q (chP q).toNat = T at *
    refine g_istore C [(5, vI T.2.1), (4, vI old), (0, .ref a), (1, vI x), (2, vI q), (3, vI sd)] dX2_changeRecord_22 (by decide) rfl ?_
    refine g_aload_n C 2 rfl dX2_changeRecord_24 ?_
    refine g_iload_n C 3 rfl dX2_changeRecord_25 ?_
    refine g_callI C [vI x] [] (c_X2_valueCell l D cy g T.1 a b x hap hS (SI_swf hSI) hx) lm_X2_37 (rcv_Store hob) rfl (Nat.le_of_ble_eq_true rfl) ⟨(Nat.le_of_ble_eq_true rfl), (Nat.le_of_ble_eq_true rfl)⟩ ⟨Nat.zero_le _, Nat.zero_le _⟩ dX2_changeRecord_26 ?_
    rintro _ V1 ⟨rfl, hV1⟩
    refine g_V hV1 ?_
    clear hV1 V1
    rw [hvT]
    refine g_iload_n C 3 rfl dX2_changeRecord_29 ?_
    refine g_icmp_ne C (by unfold rng; omega) (by unfold rng; omega) 45 dX2_changeRecord_30 (by decide) (fun c30 => ?_) (fun c30 => ?_)
    · refine g_aload_n C 2 rfl dX2_changeRecord_45 ?_
      refine g_iload_n C 3 rfl dX2_changeRecord_46 ?_
      refine g_iload_n C 4 rfl dX2_changeRecord_47 ?_
      refine g_iload_n C 5 rfl dX2_changeRecord_48 ?_
      refine g_iload C 0 rfl dX2_changeRecord_49 ?_
      refine g_callI C [vI x, vI q, vI sd, vI T.2.1] [] (c_X2_changeAway l D cy g T.1 a b x q sd T.2.1 (vcel V b x) hap hS hSI hx hn (by rw [hpx]; exact hk1) (by rw [hpx]; exact (hvx.resolve_left c30).2.symm) hvc (hvx.resolve_left c30).1 (by rw [hpc]; exact hvk)) lm_X2_75 (rcv_Store hob) rfl (Nat.le_of_ble_eq_true rfl) ⟨(Nat.le_of_ble_eq_true rfl), (Nat.le_of_ble_eq_true rfl)⟩ ⟨Nat.zero_le _, Nat.zero_le _⟩ dX2_changeRecord_51 ?_
      rintro r1 V2 hP
      obtain ⟨o1, o2, o3, o4⟩ := AwayP_ok hSI hx hvc (hvx.resolve_left c30).1 hn (by rw [hpx]; omega) (by rw [hpx]; exact hk1) (by rw [hpc]; exact hvk) (by rw [hpc]; exact hvn) hP
      have hnV : isCh (nx V2 b) L0 old := by rw [o2]; exact isCh_congr hnL hL0
      have hpp : (vcel V b x = x ∧ HomeP T.1 b x q sd T.2.1 r1 V2) ∨ (vcel V b x ≠ x ∧ AwayP T.1 b x (vcel V b x) q sd T.2.1 r1 V2) := Or.inr ⟨c30, hP⟩
      refine g_istore C [(6, vI r1), (5, vI T.2.1), (4, vI old), (0, .ref a), (1, vI x), (2, vI q), (3, vI sd)] dX2_changeRecord_54 (by decide) rfl ?_
      refine g_aload_n C 3 rfl dX2_changeRecord_56 ?_
      refine g_iload C 0 rfl dX2_changeRecord_57 ?_
      refine g_if_eq C (by unfold rng; omega) 67 dX2_changeRecord_59 (by decide) (fun c59 => ?_) (fun c59 => ?_)
      · refine g_iload C 1 rfl dX2_changeRecord_67 ?_
        refine g_callV C [vI T.2.1] [] (c_X2_freeChain l D cy g V2 a b T.2.1 L hap hS (SI_swf o1) (by omega) (by rw [o2]; exact l2) (by omega)) lm_X2_60 (rcv_Store hob) rfl (Nat.le_of_ble_eq_true rfl) ⟨(Nat.le_of_ble_eq_true rfl), (Nat.le_of_ble_eq_true rfl)⟩ ⟨Nat.zero_le _, Nat.zero_le _⟩ dX2_changeRecord_69 ?_
        rintro V3 hV3
        refine g_iload C 0 rfl dX2_changeRecord_72 ?_
        exact g_zret C o3 dX2_changeRecord_74 (Or.inr ⟨hen, V2, by rw [hTe]; exact hpp, Or.inr ⟨by omega, L, by rw [hTe, o2]; exact l2, hV3⟩⟩)
      · refine g_iload C 2 rfl dX2_changeRecord_62 ?_
        refine g_goto C 69 dX2_changeRecord_64 (by decide) ?_
        refine g_callV C [vI old] [] (c_X2_freeChain l D cy g V2 a b old L0 hap hS (SI_swf o1) (by omega) hnV hLn) lm_X2_60 (rcv_Store hob) rfl (Nat.le_of_ble_eq_true rfl) ⟨(Nat.le_of_ble_eq_true rfl), (Nat.le_of_ble_eq_true rfl)⟩ ⟨Nat.zero_le _, Nat.zero_le _⟩ dX2_changeRecord_69 ?_
        rintro V3 hV3
        refine g_iload C 0 rfl dX2_changeRecord_72 ?_
        exact g_zret C o3 dX2_changeRecord_74 (Or.inr ⟨hen, V2, by rw [hTe]; exact hpp, Or.inl ⟨by omega, hV3⟩⟩)
    · refine g_aload_n C 2 rfl dX2_changeRecord_33 ?_
      refine g_iload_n C 3 rfl dX2_changeRecord_34 ?_
      refine g_iload_n C 4 rfl dX2_changeRecord_35 ?_
      refine g_iload_n C 5 rfl dX2_changeRecord_36 ?_
      refine g_iload C 0 rfl dX2_changeRecord_37 ?_
      refine g_callI C [vI x, vI q, vI sd, vI T.2.1] [] (c_X2_changeAtHome l D cy g T.1 a b x q sd T.2.1 hap hS hSI hx hn (by rw [hpx]; exact hk1)) lm_X2_71 (rcv_Store hob) rfl (Nat.le_of_ble_eq_true rfl) ⟨(Nat.le_of_ble_eq_true rfl), (Nat.le_of_ble_eq_true rfl)⟩ ⟨Nat.zero_le _, Nat.zero_le _⟩ dX2_changeRecord_39 ?_
      rintro r1 V2 hP
      obtain ⟨o1, o2, o3, o4⟩ := HomeP_ok hSI hx hn (by rw [hpx]; omega) hP
      have hnV : isCh (nx V2 b) L0 old := by rw [o2]; exact isCh_congr hnL hL0
      have hpp : (vcel V b x = x ∧ HomeP T.1 b x q sd T.2.1 r1 V2) ∨ (vcel V b x ≠ x ∧ AwayP T.1 b x (vcel V b x) q sd T.2.1 r1 V2) := Or.inl ⟨c30, hP⟩
      refine g_goto C 54 dX2_changeRecord_42 (by decide) ?_
      refine g_istore C [(6, vI r1), (5, vI T.2.1), (4, vI old), (0, .ref a), (1, vI x), (2, vI q), (3, vI sd)] dX2_changeRecord_54 (by decide) rfl ?_
      refine g_aload_n C 3 rfl dX2_changeRecord_56 ?_
      refine g_iload C 0 rfl dX2_changeRecord_57 ?_
      refine g_if_eq C (by unfold rng; omega) 67 dX2_changeRecord_59 (by decide) (fun c59 => ?_) (fun c59 => ?_)
      · refine g_iload C 1 rfl dX2_changeRecord_67 ?_
        refine g_callV C [vI T.2.1] [] (c_X2_freeChain l D cy g V2 a b T.2.1 L hap hS (SI_swf o1) (by omega) (by rw [o2]; exact l2) (by omega)) lm_X2_60 (rcv_Store hob) rfl (Nat.le_of_ble_eq_true rfl) ⟨(Nat.le_of_ble_eq_true rfl), (Nat.le_of_ble_eq_true rfl)⟩ ⟨Nat.zero_le _, Nat.zero_le _⟩ dX2_changeRecord_69 ?_
        rintro V3 hV3
        refine g_iload C 0 rfl dX2_changeRecord_72 ?_
        exact g_zret C o3 dX2_changeRecord_74 (Or.inr ⟨hen, V2, by rw [hTe]; exact hpp, Or.inr ⟨by omega, L, by rw [hTe, o2]; exact l2, hV3⟩⟩)
      · refine g_iload C 2 rfl dX2_changeRecord_62 ?_
        refine g_goto C 69 dX2_changeRecord_64 (by decide) ?_
        refine g_callV C [vI old] [] (c_X2_freeChain l D cy g V2 a b old L0 hap hS (SI_swf o1) (by omega) hnV hLn) lm_X2_60 (rcv_Store hob) rfl (Nat.le_of_ble_eq_true rfl) ⟨(Nat.le_of_ble_eq_true rfl), (Nat.le_of_ble_eq_true rfl)⟩ ⟨Nat.zero_le _, Nat.zero_le _⟩ dX2_changeRecord_69 ?_
        rintro V3 hV3
        refine g_iload C 0 rfl dX2_changeRecord_72 ?_
        exact g_zret C o3 dX2_changeRecord_74 (Or.inr ⟨hen, V2, by rw [hTe]; exact hpp, Or.inl ⟨by omega, hV3⟩⟩)
  · refine g_iconst C 0 rfl dX2_changeRecord_8 ?_
    refine g_zret C (by omega) dX2_changeRecord_9 (Or.inl ⟨?_, rfl, rfl⟩)
    intro hh; rw [if_pos hh] at c5; exact absurd c5 (by decide)
set_option maxHeartbeats 4000000 in
set_option maxRecDepth 100000 in
theorem c_X2_removeRecord (l : Launch) (D : va_G) (cy : ClassId × ClassId) (g : GT) (V : VT) (a : Nat) (b : Int) (x : Int) (L0 : List Int) (hap : Apart g) (hS : isSt g a b) (hI : SI V b) (hR : recOK V b x L0) : MetV l yX2_removeRecord cX2_removeRecord 3 none 3 D cy g [.ref a, vI x] V (fun V' => RemP V b x L0 V') := by
  obtain ⟨⟨ob, hob⟩, ps, hps, hq, hpgs⟩ := id hS
  obtain ⟨hx, hk1, hkx, hst9, hL0, hL2, hLn⟩ := id hR
  obtain ⟨hvc, hvk, hvn, hvx⟩ := recOK_vc hR
  have hfr0 := isCh_rng hL0
  have hH := hI (x / 32) (by omega) (by omega)
  have hA9 := hI (vcel V b x / 32) (by omega) (by omega)
  refine MetV.of (by decide) (Nat.le_of_ble_eq_true rfl) hap ?_
  intro p_ e_ s_ m_ args_ below_ meth_ c_ C
  refine g_aload_n C 0 rfl dX2_removeRecord_0 ?_
  refine g_iload_n C 1 rfl dX2_removeRecord_1 ?_
  refine g_callI C [vI x] [] (c_X2_valueCell l D cy g V a b x hap hS (SI_swf hI) hx) lm_X2_37 (rcv_Store hob) rfl (Nat.le_of_ble_eq_true rfl) ⟨(Nat.le_of_ble_eq_true rfl), (Nat.le_of_ble_eq_true rfl)⟩ ⟨Nat.zero_le _, Nat.zero_le _⟩ dX2_removeRecord_2 ?_
  rintro _ V1 ⟨rfl, hV1⟩
  refine g_V hV1 ?_
  clear hV1 V1
  refine g_istore_n C [(2, vI (vcel V b x)), (0, .ref a), (1, vI x)] dX2_removeRecord_5 rfl (by decide) rfl ?_
  refine g_aload_n C 1 rfl dX2_removeRecord_6 ?_
  refine g_aload_n C 1 rfl dX2_removeRecord_7 ?_
  refine g_iload_n C 2 rfl dX2_removeRecord_8 ?_
  refine g_callI C [vI x] [.ref a] (c_X2_chainOf l D cy g V a b x hap hS (SI_swf hI) hx hvc) lm_X2_68 (rcv_Store hob) rfl (Nat.le_of_ble_eq_true rfl) ⟨(Nat.le_of_ble_eq_true rfl), (Nat.le_of_ble_eq_true rfl)⟩ ⟨Nat.zero_le _, Nat.zero_le _⟩ dX2_removeRecord_9 ?_
  rintro _ V1 ⟨rfl, hV1⟩
  refine g_V hV1 ?_
  clear hV1 V1
  refine g_callV C [vI (V (b + vcel V b x / 32) 4 (vcel V b x % 32))] [] (c_X2_freeChain l D cy g V a b _ L0 hap hS (SI_swf hI) (by omega) hL0 hLn) lm_X2_60 (rcv_Store hob) rfl (Nat.le_of_ble_eq_true rfl) ⟨(Nat.le_of_ble_eq_true rfl), (Nat.le_of_ble_eq_true rfl)⟩ ⟨Nat.zero_le _, Nat.zero_le _⟩ dX2_removeRecord_12 ?_
  rintro V2 hV2
  have hpx : V2 (b + x / 32) = V (b + x / 32) := by rw [hV2]; exact freeL_out (fun p hp e => by have h2 := hL2 p hp; rw [show p = x / 32 by omega] at h2; simp only [kd] at h2; omega)
  have hpc : V2 (b + vcel V b x / 32) = V (b + vcel V b x / 32) := by rw [hV2]; exact freeL_out (fun p hp e => by have h2 := hL2 p hp; rw [show p = vcel V b x / 32 by omega] at h2; simp only [kd] at h2; omega)
  refine g_iload_n C 0 rfl dX2_removeRecord_15 ?_
  refine g_iload_n C 2 rfl dX2_removeRecord_16 ?_
  refine g_icmp_eq C (by unfold rng; omega) (by unfold rng; omega) 36 dX2_removeRecord_17 (by decide) (fun c17 => ?_) (fun c17 => ?_)
  · refine g_aload_n C 1 rfl dX2_removeRecord_36 ?_
    refine gf_Store_pages C hob hps lf_X2_11 dX2_removeRecord_37 ?_
    refine g_iload_n C 2 rfl dX2_removeRecord_40 ?_
    refine g_bipush C 32 rfl dX2_removeRecord_41 ?_
    refine g_idiv C (by omega) (by omega) dX2_removeRecord_43 ?_
    obtain ⟨pg1, pg1e, pg1h⟩ := hpgs (x / 32) (by omega) (by omega)
    obtain ⟨-, pg1r1, pg1r2, pg1r3, pg1r4, ⟨pg1hr1, pg1ha1⟩, ⟨pg1hr2, pg1ha2⟩, ⟨pg1hr3, pg1ha3⟩, ⟨pg1hr4, pg1ha4⟩⟩ := id pg1h
    refine g_aald C hq ⟨by omega, by omega⟩ (by decide) pg1e dX2_removeRecord_44 ?_
    refine g_iload_n C 2 rfl dX2_removeRecord_45 ?_
    refine g_bipush C 32 rfl dX2_removeRecord_46 ?_
    refine g_irem C (by omega) (by omega) dX2_removeRecord_48 ?_
    refine g_callV C [vI (x % 32)] [] (cv_X1_remove l D cy g V2 pg1 _ (x % 32) hap pg1h (by rw [hpx]; exact PI_pwf hH) (by omega)) lm_X2_78 (rcv_Page pg1h.1) rfl (Nat.le_of_ble_eq_true rfl) ⟨(Nat.le_of_ble_eq_true rfl), (Nat.le_of_ble_eq_true rfl)⟩ ⟨Nat.zero_le _, Nat.zero_le _⟩ dX2_removeRecord_49 ?_
    rintro V4 ⟨n9, hn9, hV4⟩
    rw [hpx] at hn9 hV4
    refine g_vret C dX2_removeRecord_52 (Or.inl ⟨c17, n9, hn9, ?_⟩)
    rw [hV4, hV2]
  · have hvx2 := (hvx.resolve_left c17).1
    refine g_aload_n C 1 rfl dX2_removeRecord_20 ?_
    refine gf_Store_pages C hob hps lf_X2_11 dX2_removeRecord_21 ?_
    refine g_iload_n C 0 rfl dX2_removeRecord_24 ?_
    refine g_bipush C 32 rfl dX2_removeRecord_25 ?_
    refine g_idiv C (by omega) (by omega) dX2_removeRecord_27 ?_
    obtain ⟨pg2, pg2e, pg2h⟩ := hpgs ((vcel V b x) / 32) (by omega) (by omega)
    obtain ⟨-, pg2r1, pg2r2, pg2r3, pg2r4, ⟨pg2hr1, pg2ha1⟩, ⟨pg2hr2, pg2ha2⟩, ⟨pg2hr3, pg2ha3⟩, ⟨pg2hr4, pg2ha4⟩⟩ := id pg2h
    refine g_aald C hq ⟨by omega, by omega⟩ (by decide) pg2e dX2_removeRecord_28 ?_
    refine g_iload_n C 0 rfl dX2_removeRecord_29 ?_
    refine g_bipush C 32 rfl dX2_removeRecord_30 ?_
    refine g_irem C (by omega) (by omega) dX2_removeRecord_32 ?_
    refine g_callV C [vI ((vcel V b x) % 32)] [] (cv_X1_remove l D cy g V2 pg2 _ ((vcel V b x) % 32) hap pg2h (by rw [hpc]; exact PI_pwf hA9) (by omega)) lm_X2_78 (rcv_Page pg2h.1) rfl (Nat.le_of_ble_eq_true rfl) ⟨(Nat.le_of_ble_eq_true rfl), (Nat.le_of_ble_eq_true rfl)⟩ ⟨Nat.zero_le _, Nat.zero_le _⟩ dX2_removeRecord_33 ?_
    rintro V3 ⟨n8, hn8, hV3⟩
    rw [hpc] at hn8 hV3
    have hpx3 : V3 (b + x / 32) = V (b + x / 32) := by rw [hV3, setp_ne (by omega), hpx]
    refine g_aload_n C 1 rfl dX2_removeRecord_36 ?_
    refine gf_Store_pages C hob hps lf_X2_11 dX2_removeRecord_37 ?_
    refine g_iload_n C 2 rfl dX2_removeRecord_40 ?_
    refine g_bipush C 32 rfl dX2_removeRecord_41 ?_
    refine g_idiv C (by omega) (by omega) dX2_removeRecord_43 ?_
    obtain ⟨pg3, pg3e, pg3h⟩ := hpgs (x / 32) (by omega) (by omega)
    obtain ⟨-, pg3r1, pg3r2, pg3r3, pg3r4, ⟨pg3hr1, pg3ha1⟩, ⟨pg3hr2, pg3ha2⟩, ⟨pg3hr3, pg3ha3⟩, ⟨pg3hr4, pg3ha4⟩⟩ := id pg3h
    refine g_aald C hq ⟨by omega, by omega⟩ (by decide) pg3e dX2_removeRecord_44 ?_
    refine g_iload_n C 2 rfl dX2_removeRecord_45 ?_
    refine g_bipush C 32 rfl dX2_removeRecord_46 ?_
    refine g_irem C (by omega) (by omega) dX2_removeRecord_48 ?_
    refine g_callV C [vI (x % 32)] [] (cv_X1_remove l D cy g V3 pg3 _ (x % 32) hap pg3h (by rw [hpx3]; exact PI_pwf hH) (by omega)) lm_X2_78 (rcv_Page pg3h.1) rfl (Nat.le_of_ble_eq_true rfl) ⟨(Nat.le_of_ble_eq_true rfl), (Nat.le_of_ble_eq_true rfl)⟩ ⟨Nat.zero_le _, Nat.zero_le _⟩ dX2_removeRecord_49 ?_
    rintro V4 ⟨n9, hn9, hV4⟩
    rw [hpx3] at hn9 hV4
    refine g_vret C dX2_removeRecord_52 (Or.inr ⟨c17, n8, n9, hn8, hn9, ?_⟩)
    rw [hV4, hV3, hV2]
