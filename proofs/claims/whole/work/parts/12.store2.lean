set_option maxHeartbeats 4000000 in
set_option maxRecDepth 100000 in
theorem c_X2_firstPageWithRoom (l : Launch) (D : va_G) (cy : ClassId × ClassId) (g : GT) (V : VT) (a : Nat) (b : Int) (q x y : Int) (hap : Apart g) (hS : isSt g a b) (hw : swf V b) (hq9 : sm q) (hx : sm x) (hy : sm y) : MetI l yX2_firstPageWithRoom cX2_firstPageWithRoom 5 (some .int) 1 D cy g [.ref a, vI q, vI x, vI y] V (fun r V' => isFR V b q x y r ∧ V' = V) := by
  obtain ⟨⟨ob, hob⟩, ps, hps, hq, hpgs⟩ := id hS
  simp only [sm] at hq9 hx hy
  refine MetI.of (by decide) (Nat.le_of_ble_eq_true rfl) hap ?_
  intro p_ e_ s_ m_ args_ below_ meth_ c_ C
  have loop : ∀ (n : Nat) (i : Int), 0 ≤ i ∧ i ≤ 96 → 96 - i ≤ n → (∀ j, 0 ≤ j → j < i → okp V b x y j → pRoom (V (b + j)) < q) → G p_ l e_ (rmd 1) s_ m_ args_ below_ meth_ c_ 5 0 0 (MQ below_ (QcI D cy g (fun r V' => isFR V b q x y r ∧ V' = V)) args_ s_ 0 0 (fun q => q ∈ gL g)) D cy g (fun q => q ∈ gL g) s_.heap V 3 [(4, vI i), (0, .ref a), (1, vI q), (2, vI x), (3, vI y)] [] := by
    intro n
    induction n with
    | zero =>
      intro i h1 h3 h4
      refine g_iload C 0 rfl dX2_firstPageWithRoom_3 ?_
      refine g_bipush C 96 rfl dX2_firstPageWithRoom_5 ?_
      refine g_icmp_ge C (by unfold rng; omega) (by unfold rng; omega) 58 dX2_firstPageWithRoom_7 (by decide) (fun c7 => ?_) (fun c7 => absurd c7 (by omega))
      refine g_iconst C (-1) rfl dX2_firstPageWithRoom_58 ?_
      exact g_iret C dX2_firstPageWithRoom_59 ⟨Or.inl ⟨rfl, fun j q1 q2 => h4 j q1 (by omega)⟩, rfl⟩
    | succ n ih =>
      intro i h1 h3 h4
      refine g_iload C 0 rfl dX2_firstPageWithRoom_3 ?_
      refine g_bipush C 96 rfl dX2_firstPageWithRoom_5 ?_
      refine g_icmp_ge C (by unfold rng; omega) (by unfold rng; omega) 58 dX2_firstPageWithRoom_7 (by decide) (fun c7 => ?_) (fun c7 => ?_)
      · refine g_iconst C (-1) rfl dX2_firstPageWithRoom_58 ?_
        exact g_iret C dX2_firstPageWithRoom_59 ⟨Or.inl ⟨rfl, fun j q1 q2 => h4 j q1 (by omega)⟩, rfl⟩
      · refine g_iload C 0 rfl dX2_firstPageWithRoom_10 ?_
        refine g_iload_n C 3 rfl dX2_firstPageWithRoom_12 ?_
        refine g_icmp_eq C (by unfold rng; omega) (by unfold rng; omega) 52 dX2_firstPageWithRoom_13 (by decide) (fun c13 => ?_) (fun c13 => ?_)
        · refine g_iinc C [(4, vI (i + 1)), (0, .ref a), (1, vI q), (2, vI x), (3, vI y)] 0 rfl dX2_firstPageWithRoom_52 (by decide) rfl ?_
          refine g_goto C 3 dX2_firstPageWithRoom_55 (by decide) ?_
          refine g_sub [0, 1, 2, 3, 4] rfl ?_
          refine ih (i + 1) (by omega) (by omega) (fun j q1 q2 => ?_)
          by_cases hj : j = i
          · subst hj; intro hk; obtain ⟨k1, k2, k3, k4⟩ := hk; first | (exact absurd (by assumption) k1) | (exact absurd (by assumption) k2) | (exfalso; have c9 := c32; rw [if_pos ⟨k3, k4⟩] at c9; exact absurd c9 (by decide)) | exact c46
          · exact h4 j q1 (by omega)
        · refine g_iload C 0 rfl dX2_firstPageWithRoom_16 ?_
          refine g_iload_n C 4 rfl dX2_firstPageWithRoom_18 ?_
          refine g_icmp_eq C (by unfold rng; omega) (by unfold rng; omega) 52 dX2_firstPageWithRoom_19 (by decide) (fun c19 => ?_) (fun c19 => ?_)
          · refine g_iinc C [(4, vI (i + 1)), (0, .ref a), (1, vI q), (2, vI x), (3, vI y)] 0 rfl dX2_firstPageWithRoom_52 (by decide) rfl ?_
            refine g_goto C 3 dX2_firstPageWithRoom_55 (by decide) ?_
            refine g_sub [0, 1, 2, 3, 4] rfl ?_
            refine ih (i + 1) (by omega) (by omega) (fun j q1 q2 => ?_)
            by_cases hj : j = i
            · subst hj; intro hk; obtain ⟨k1, k2, k3, k4⟩ := hk; first | (exact absurd (by assumption) k1) | (exact absurd (by assumption) k2) | (exfalso; have c9 := c32; rw [if_pos ⟨k3, k4⟩] at c9; exact absurd c9 (by decide)) | exact c46
            · exact h4 j q1 (by omega)
          · refine g_aload_n C 1 rfl dX2_firstPageWithRoom_22 ?_
            refine gf_Store_pages C hob hps lf_X2_11 dX2_firstPageWithRoom_23 ?_
            refine g_iload C 0 rfl dX2_firstPageWithRoom_26 ?_
            obtain ⟨pg1, pg1e, pg1h⟩ := hpgs i (by omega) (by omega)
            obtain ⟨-, pg1r1, pg1r2, pg1r3, pg1r4, ⟨pg1hr1, pg1ha1⟩, ⟨pg1hr2, pg1ha2⟩, ⟨pg1hr3, pg1ha3⟩, ⟨pg1hr4, pg1ha4⟩⟩ := id pg1h
            refine g_aald C hq ⟨by omega, by omega⟩ (by decide) pg1e dX2_firstPageWithRoom_28 ?_
            refine g_callI C [] [] (cv_X1_takesNewCells l D cy g V pg1 _ hap pg1h (hw _ (by omega) (by omega))) lm_X2_98 (rcv_Page pg1h.1) rfl (Nat.le_of_ble_eq_true rfl) ⟨(Nat.le_of_ble_eq_true rfl), (Nat.le_of_ble_eq_true rfl)⟩ ⟨Nat.zero_le _, Nat.zero_le _⟩ dX2_firstPageWithRoom_29 ?_
            rintro _ V1 ⟨rfl, hV1⟩
            refine g_V hV1 ?_
            clear hV1 V1
            refine g_if_eq C (by split <;> exact ⟨by decide, by decide⟩) 52 dX2_firstPageWithRoom_32 (by decide) (fun c32 => ?_) (fun c32 => ?_)
            · refine g_iinc C [(4, vI (i + 1)), (0, .ref a), (1, vI q), (2, vI x), (3, vI y)] 0 rfl dX2_firstPageWithRoom_52 (by decide) rfl ?_
              refine g_goto C 3 dX2_firstPageWithRoom_55 (by decide) ?_
              refine g_sub [0, 1, 2, 3, 4] rfl ?_
              refine ih (i + 1) (by omega) (by omega) (fun j q1 q2 => ?_)
              by_cases hj : j = i
              · subst hj; intro hk; obtain ⟨k1, k2, k3, k4⟩ := hk; first | (exact absurd (by assumption) k1) | (exact absurd (by assumption) k2) | (exfalso; have c9 := c32; rw [if_pos ⟨k3, k4⟩] at c9; exact absurd c9 (by decide)) | exact c46
              · exact h4 j q1 (by omega)
            · refine g_aload_n C 1 rfl dX2_firstPageWithRoom_35 ?_
              refine gf_Store_pages C hob hps lf_X2_11 dX2_firstPageWithRoom_36 ?_
              refine g_iload C 0 rfl dX2_firstPageWithRoom_39 ?_
              obtain ⟨pg2, pg2e, pg2h⟩ := hpgs i (by omega) (by omega)
              obtain ⟨-, pg2r1, pg2r2, pg2r3, pg2r4, ⟨pg2hr1, pg2ha1⟩, ⟨pg2hr2, pg2ha2⟩, ⟨pg2hr3, pg2ha3⟩, ⟨pg2hr4, pg2ha4⟩⟩ := id pg2h
              refine g_aald C hq ⟨by omega, by omega⟩ (by decide) pg2e dX2_firstPageWithRoom_41 ?_
              refine g_callI C [] [] (cv_X1_room l D cy g V pg2 _ hap pg2h) lm_X2_102 (rcv_Page pg2h.1) rfl (Nat.le_of_ble_eq_true rfl) ⟨(Nat.le_of_ble_eq_true rfl), (Nat.le_of_ble_eq_true rfl)⟩ ⟨Nat.zero_le _, Nat.zero_le _⟩ dX2_firstPageWithRoom_42 ?_
              rintro _ V1 ⟨rfl, hV1⟩
              refine g_V hV1 ?_
              clear hV1 V1
              refine g_iload_n C 2 rfl dX2_firstPageWithRoom_45 ?_
              refine g_icmp_lt C (by have h9 := hw i (by omega) (by omega); obtain ⟨-, z1, -, -, z4, -, -⟩ := h9; unfold sm at z4; unfold rng pRoom; omega) (by unfold rng; omega) 52 dX2_firstPageWithRoom_46 (by decide) (fun c46 => ?_) (fun c46 => ?_)
              · refine g_iinc C [(4, vI (i + 1)), (0, .ref a), (1, vI q), (2, vI x), (3, vI y)] 0 rfl dX2_firstPageWithRoom_52 (by decide) rfl ?_
                refine g_goto C 3 dX2_firstPageWithRoom_55 (by decide) ?_
                refine g_sub [0, 1, 2, 3, 4] rfl ?_
                refine ih (i + 1) (by omega) (by omega) (fun j q1 q2 => ?_)
                by_cases hj : j = i
                · subst hj; intro hk; obtain ⟨k1, k2, k3, k4⟩ := hk; first | (exact absurd (by assumption) k1) | (exact absurd (by assumption) k2) | (exfalso; have c9 := c32; rw [if_pos ⟨k3, k4⟩] at c9; exact absurd c9 (by decide)) | exact c46
                · exact h4 j q1 (by omega)
              · refine g_iload C 0 rfl dX2_firstPageWithRoom_49 ?_
                refine g_iret C dX2_firstPageWithRoom_51 ⟨Or.inr ⟨by omega, by omega, ?_, c46, h4⟩, rfl⟩
                by_cases hh : V (b + i) 0 0 = 1 ∧ V (b + i) 0 2 < 32
                · exact ⟨c13, c19, hh.1, hh.2⟩
                · exfalso; have c9 := c32; rw [if_neg hh] at c9; exact c9 rfl
  refine g_iconst C 0 rfl dX2_firstPageWithRoom_0 ?_
  refine g_istore C [(4, vI 0), (0, .ref a), (1, vI q), (2, vI x), (3, vI y)] dX2_firstPageWithRoom_1 (by decide) rfl ?_
  refine g_sub [0, 1, 2, 3, 4] rfl ?_
  exact loop 96 0 (by omega) (by omega) (fun j q1 q2 => absurd q1 (by omega))
set_option maxHeartbeats 4000000 in
set_option maxRecDepth 100000 in
theorem c_X2_leastClassPage (l : Launch) (D : va_G) (cy : ClassId × ClassId) (g : GT) (V : VT) (a : Nat) (b : Int) (q x y : Int) (hap : Apart g) (hS : isSt g a b) (hw : swf V b) (hroom : ∀ i, 0 ≤ i → i < 96 → V (b + i) 0 0 = 1 → 0 ≤ pRoom (V (b + i)) ∧ pRoom (V (b + i)) ≤ 248) (hq9 : sm q) (hx : sm x) (hy : sm y) : MetI l yX2_leastClassPage cX2_leastClassPage 8 (some .int) 1 D cy g [.ref a, vI q, vI x, vI y] V (fun r V' => (∃ c, isLC V b q x y 96 r c) ∧ V' = V) := by
  obtain ⟨⟨ob, hob⟩, ps, hps, hq, hpgs⟩ := id hS
  simp only [sm] at hq9 hx hy
  refine MetI.of (by decide) (Nat.le_of_ble_eq_true rfl) hap ?_
  intro p_ e_ s_ m_ args_ below_ meth_ c_ C
  have loop : ∀ (n : Nat) (i r d : Int), 0 ≤ i ∧ i ≤ 96 → 0 ≤ d ∧ d ≤ 9 → 96 - i ≤ n → isLC V b q x y i r d → G p_ l e_ (rmd 1) s_ m_ args_ below_ meth_ c_ 8 0 0 (MQ below_ (QcI D cy g (fun r V' => (∃ c, isLC V b q x y 96 r c) ∧ V' = V)) args_ s_ 0 0 (fun q => q ∈ gL g)) D cy g (fun q => q ∈ gL g) s_.heap V 10 [(6, vI i), (4, vI r), (5, vI d), (0, .ref a), (1, vI q), (2, vI x), (3, vI y)] [] := by
    intro n
    induction n with
    | zero =>
      intro i r d h1 h2 h3 h4
      refine g_iload C 0 rfl dX2_leastClassPage_10 ?_
      refine g_bipush C 96 rfl dX2_leastClassPage_12 ?_
      refine g_icmp_ge C (by unfold rng; omega) (by unfold rng; omega) 90 dX2_leastClassPage_14 (by decide) (fun c14 => ?_) (fun c14 => absurd c14 (by omega))
      refine g_iload C 1 rfl dX2_leastClassPage_90 ?_
      have hi : i = 96 := by omega
      subst hi
      exact g_iret C dX2_leastClassPage_92 ⟨⟨d, h4⟩, rfl⟩
    | succ n ih =>
      intro i r d h1 h2 h3 h4
      refine g_iload C 0 rfl dX2_leastClassPage_10 ?_
      refine g_bipush C 96 rfl dX2_leastClassPage_12 ?_
      refine g_icmp_ge C (by unfold rng; omega) (by unfold rng; omega) 90 dX2_leastClassPage_14 (by decide) (fun c14 => ?_) (fun c14 => ?_)
      · refine g_iload C 1 rfl dX2_leastClassPage_90 ?_
        have hi : i = 96 := by omega
        subst hi
        exact g_iret C dX2_leastClassPage_92 ⟨⟨d, h4⟩, rfl⟩
      · refine g_iload C 0 rfl dX2_leastClassPage_17 ?_
        refine g_iload_n C 5 rfl dX2_leastClassPage_19 ?_
        refine g_icmp_eq C (by unfold rng; omega) (by unfold rng; omega) 84 dX2_leastClassPage_20 (by decide) (fun c20 => ?_) (fun c20 => ?_)
        · refine g_iinc C [(6, vI (i + 1)), (4, vI r), (5, vI d), (0, .ref a), (1, vI q), (2, vI x), (3, vI y)] 0 rfl dX2_leastClassPage_84 (by decide) rfl ?_
          refine g_goto C 10 dX2_leastClassPage_87 (by decide) ?_
          refine g_sub [0, 1, 2, 3, 4, 5, 6] rfl ?_
          refine ih (i + 1) r d (by omega) (by omega) (by omega) ?_
          have hcl : pCls (V (b + i)) = pRoom (V (b + i)) / 31 := rfl
          have hno : okp V b x y i → q ≤ pCls (V (b + i)) * 31 → (0 ≤ r ∧ d ≤ pCls (V (b + i))) := by
            intro hk hq8
            obtain ⟨k1, k2, k3, k4⟩ := id hk
            have hrm9 := hroom i (by omega) (by omega) k3
            first | (exact absurd (by assumption) k1) | (exact absurd (by assumption) k2) | (exfalso; have c9 := c39; rw [if_pos ⟨k3, k4⟩] at c9; exact absurd c9 (by decide)) | (exfalso; omega) | (refine ⟨?_, by omega⟩; rcases h4 with ⟨e1, e2, -⟩ | ⟨e1, -⟩ <;> omega)
          rcases h4 with ⟨k1, k2, k3⟩ | ⟨k1, k2, k3, k4, k5, k6, k7⟩
          · refine Or.inl ⟨k1, k2, fun j q1 q2 q3 => ?_⟩
            by_cases hj : j = i
            · subst hj; exact Int.not_le.mp (fun q5 => by have := hno q3 q5; omega)
            · exact k3 j q1 (by omega) q3
          · refine Or.inr ⟨k1, by omega, k3, k4, k5, fun j q1 q2 q3 q4 => ?_, k7⟩
            by_cases hj : j = i
            · subst hj; exact (hno q3 q4).2
            · exact k6 j q1 (by omega) q3 q4
        · refine g_iload C 0 rfl dX2_leastClassPage_23 ?_
          refine g_iload_n C 6 rfl dX2_leastClassPage_25 ?_
          refine g_icmp_eq C (by unfold rng; omega) (by unfold rng; omega) 84 dX2_leastClassPage_26 (by decide) (fun c26 => ?_) (fun c26 => ?_)
          · refine g_iinc C [(6, vI (i + 1)), (4, vI r), (5, vI d), (0, .ref a), (1, vI q), (2, vI x), (3, vI y)] 0 rfl dX2_leastClassPage_84 (by decide) rfl ?_
            refine g_goto C 10 dX2_leastClassPage_87 (by decide) ?_
            refine g_sub [0, 1, 2, 3, 4, 5, 6] rfl ?_
            refine ih (i + 1) r d (by omega) (by omega) (by omega) ?_
            have hcl : pCls (V (b + i)) = pRoom (V (b + i)) / 31 := rfl
            have hno : okp V b x y i → q ≤ pCls (V (b + i)) * 31 → (0 ≤ r ∧ d ≤ pCls (V (b + i))) := by
              intro hk hq8
              obtain ⟨k1, k2, k3, k4⟩ := id hk
              have hrm9 := hroom i (by omega) (by omega) k3
              first | (exact absurd (by assumption) k1) | (exact absurd (by assumption) k2) | (exfalso; have c9 := c39; rw [if_pos ⟨k3, k4⟩] at c9; exact absurd c9 (by decide)) | (exfalso; omega) | (refine ⟨?_, by omega⟩; rcases h4 with ⟨e1, e2, -⟩ | ⟨e1, -⟩ <;> omega)
            rcases h4 with ⟨k1, k2, k3⟩ | ⟨k1, k2, k3, k4, k5, k6, k7⟩
            · refine Or.inl ⟨k1, k2, fun j q1 q2 q3 => ?_⟩
              by_cases hj : j = i
              · subst hj; exact Int.not_le.mp (fun q5 => by have := hno q3 q5; omega)
              · exact k3 j q1 (by omega) q3
            · refine Or.inr ⟨k1, by omega, k3, k4, k5, fun j q1 q2 q3 q4 => ?_, k7⟩
              by_cases hj : j = i
              · subst hj; exact (hno q3 q4).2
              · exact k6 j q1 (by omega) q3 q4
          · refine g_aload_n C 3 rfl dX2_leastClassPage_29 ?_
            refine gf_Store_pages C hob hps lf_X2_11 dX2_leastClassPage_30 ?_
            refine g_iload C 0 rfl dX2_leastClassPage_33 ?_
            obtain ⟨pg1, pg1e, pg1h⟩ := hpgs i (by omega) (by omega)
            obtain ⟨-, pg1r1, pg1r2, pg1r3, pg1r4, ⟨pg1hr1, pg1ha1⟩, ⟨pg1hr2, pg1ha2⟩, ⟨pg1hr3, pg1ha3⟩, ⟨pg1hr4, pg1ha4⟩⟩ := id pg1h
            refine g_aald C hq ⟨by omega, by omega⟩ (by decide) pg1e dX2_leastClassPage_35 ?_
            refine g_callI C [] [] (cv_X1_takesNewCells l D cy g V pg1 _ hap pg1h (hw _ (by omega) (by omega))) lm_X2_98 (rcv_Page pg1h.1) rfl (Nat.le_of_ble_eq_true rfl) ⟨(Nat.le_of_ble_eq_true rfl), (Nat.le_of_ble_eq_true rfl)⟩ ⟨Nat.zero_le _, Nat.zero_le _⟩ dX2_leastClassPage_36 ?_
            rintro _ V1 ⟨rfl, hV1⟩
            refine g_V hV1 ?_
            clear hV1 V1
            refine g_if_ne C (by split <;> exact ⟨by decide, by decide⟩) 45 dX2_leastClassPage_39 (by decide) (fun c39 => ?_) (fun c39 => ?_)
            · have hok : okp V b x y i := by
                by_cases hh : V (b + i) 0 0 = 1 ∧ V (b + i) 0 2 < 32
                · exact ⟨c20, c26, hh.1, hh.2⟩
                · exfalso; have c9 := c39; rw [if_neg hh] at c9; exact c9 rfl
              have hrm := hroom i (by omega) (by omega) hok.2.2.1
              refine g_aload_n C 3 rfl dX2_leastClassPage_45 ?_
              refine gf_Store_pages C hob hps lf_X2_11 dX2_leastClassPage_46 ?_
              refine g_iload C 0 rfl dX2_leastClassPage_49 ?_
              obtain ⟨pg2, pg2e, pg2h⟩ := hpgs i (by omega) (by omega)
              obtain ⟨-, pg2r1, pg2r2, pg2r3, pg2r4, ⟨pg2hr1, pg2ha1⟩, ⟨pg2hr2, pg2ha2⟩, ⟨pg2hr3, pg2ha3⟩, ⟨pg2hr4, pg2ha4⟩⟩ := id pg2h
              refine g_aald C hq ⟨by omega, by omega⟩ (by decide) pg2e dX2_leastClassPage_51 ?_
              refine g_callI C [] [] (cv_X1_room l D cy g V pg2 _ hap pg2h) lm_X2_102 (rcv_Page pg2h.1) rfl (Nat.le_of_ble_eq_true rfl) ⟨(Nat.le_of_ble_eq_true rfl), (Nat.le_of_ble_eq_true rfl)⟩ ⟨Nat.zero_le _, Nat.zero_le _⟩ dX2_leastClassPage_52 ?_
              rintro _ V1 ⟨rfl, hV1⟩
              refine g_V hV1 ?_
              clear hV1 V1
              refine g_bipush C 31 rfl dX2_leastClassPage_55 ?_
              refine g_idiv C (by omega) (by omega) dX2_leastClassPage_57 ?_
              refine g_istore C [(7, vI ((pRoom (V (b + i))) / 31)), (6, vI i), (4, vI r), (5, vI d), (0, .ref a), (1, vI q), (2, vI x), (3, vI y)] dX2_leastClassPage_58 (by decide) rfl ?_
              refine g_iload C 0 rfl dX2_leastClassPage_60 ?_
              refine g_bipush C 31 rfl dX2_leastClassPage_62 ?_
              refine g_imul C dX2_leastClassPage_64 ?_
              refine g_iload_n C 5 rfl dX2_leastClassPage_65 ?_
              refine g_icmp_lt C (by unfold rng; omega) (by unfold rng; omega) 84 dX2_leastClassPage_66 (by decide) (fun c66 => ?_) (fun c66 => ?_)
              · refine g_iinc C [(6, vI (i + 1)), (7, vI ((pRoom (V (b + i))) / 31)), (4, vI r), (5, vI d), (0, .ref a), (1, vI q), (2, vI x), (3, vI y)] 1 rfl dX2_leastClassPage_84 (by decide) rfl ?_
                refine g_goto C 10 dX2_leastClassPage_87 (by decide) ?_
                refine g_sub [0, 2, 3, 4, 5, 6, 7] rfl ?_
                refine ih (i + 1) r d (by omega) (by omega) (by omega) ?_
                have hcl : pCls (V (b + i)) = pRoom (V (b + i)) / 31 := rfl
                have hno : okp V b x y i → q ≤ pCls (V (b + i)) * 31 → (0 ≤ r ∧ d ≤ pCls (V (b + i))) := by
                  intro hk hq8
                  obtain ⟨k1, k2, k3, k4⟩ := id hk
                  have hrm9 := hroom i (by omega) (by omega) k3
                  first | (exact absurd (by assumption) k1) | (exact absurd (by assumption) k2) | (exfalso; have c9 := c39; rw [if_pos ⟨k3, k4⟩] at c9; exact absurd c9 (by decide)) | (exfalso; omega) | (refine ⟨?_, by omega⟩; rcases h4 with ⟨e1, e2, -⟩ | ⟨e1, -⟩ <;> omega)
                rcases h4 with ⟨k1, k2, k3⟩ | ⟨k1, k2, k3, k4, k5, k6, k7⟩
                · refine Or.inl ⟨k1, k2, fun j q1 q2 q3 => ?_⟩
                  by_cases hj : j = i
                  · subst hj; exact Int.not_le.mp (fun q5 => by have := hno q3 q5; omega)
                  · exact k3 j q1 (by omega) q3
                · refine Or.inr ⟨k1, by omega, k3, k4, k5, fun j q1 q2 q3 q4 => ?_, k7⟩
                  by_cases hj : j = i
                  · subst hj; exact (hno q3 q4).2
                  · exact k6 j q1 (by omega) q3 q4
              · refine g_iload C 0 rfl dX2_leastClassPage_69 ?_
                refine g_iload C 3 rfl dX2_leastClassPage_71 ?_
                refine g_icmp_ge C (by unfold rng; omega) (by unfold rng; omega) 84 dX2_leastClassPage_73 (by decide) (fun c73 => ?_) (fun c73 => ?_)
                · refine g_iinc C [(6, vI (i + 1)), (7, vI ((pRoom (V (b + i))) / 31)), (4, vI r), (5, vI d), (0, .ref a), (1, vI q), (2, vI x), (3, vI y)] 1 rfl dX2_leastClassPage_84 (by decide) rfl ?_
                  refine g_goto C 10 dX2_leastClassPage_87 (by decide) ?_
                  refine g_sub [0, 2, 3, 4, 5, 6, 7] rfl ?_
                  refine ih (i + 1) r d (by omega) (by omega) (by omega) ?_
                  have hcl : pCls (V (b + i)) = pRoom (V (b + i)) / 31 := rfl
                  have hno : okp V b x y i → q ≤ pCls (V (b + i)) * 31 → (0 ≤ r ∧ d ≤ pCls (V (b + i))) := by
                    intro hk hq8
                    obtain ⟨k1, k2, k3, k4⟩ := id hk
                    have hrm9 := hroom i (by omega) (by omega) k3
                    first | (exact absurd (by assumption) k1) | (exact absurd (by assumption) k2) | (exfalso; have c9 := c39; rw [if_pos ⟨k3, k4⟩] at c9; exact absurd c9 (by decide)) | (exfalso; omega) | (refine ⟨?_, by omega⟩; rcases h4 with ⟨e1, e2, -⟩ | ⟨e1, -⟩ <;> omega)
                  rcases h4 with ⟨k1, k2, k3⟩ | ⟨k1, k2, k3, k4, k5, k6, k7⟩
                  · refine Or.inl ⟨k1, k2, fun j q1 q2 q3 => ?_⟩
                    by_cases hj : j = i
                    · subst hj; exact Int.not_le.mp (fun q5 => by have := hno q3 q5; omega)
                    · exact k3 j q1 (by omega) q3
                  · refine Or.inr ⟨k1, by omega, k3, k4, k5, fun j q1 q2 q3 q4 => ?_, k7⟩
                    by_cases hj : j = i
                    · subst hj; exact (hno q3 q4).2
                    · exact k6 j q1 (by omega) q3 q4
                · refine g_iload C 1 rfl dX2_leastClassPage_76 ?_
                  refine g_istore C [(4, vI i), (7, vI ((pRoom (V (b + i))) / 31)), (6, vI i), (5, vI d), (0, .ref a), (1, vI q), (2, vI x), (3, vI y)] dX2_leastClassPage_78 (by decide) rfl ?_
                  refine g_iload C 1 rfl dX2_leastClassPage_80 ?_
                  refine g_istore C [(5, vI ((pRoom (V (b + i))) / 31)), (4, vI i), (7, vI ((pRoom (V (b + i))) / 31)), (6, vI i), (0, .ref a), (1, vI q), (2, vI x), (3, vI y)] dX2_leastClassPage_82 (by decide) rfl ?_
                  refine g_iinc C [(6, vI (i + 1)), (5, vI ((pRoom (V (b + i))) / 31)), (4, vI i), (7, vI ((pRoom (V (b + i))) / 31)), (0, .ref a), (1, vI q), (2, vI x), (3, vI y)] 3 rfl dX2_leastClassPage_84 (by decide) rfl ?_
                  refine g_goto C 10 dX2_leastClassPage_87 (by decide) ?_
                  refine g_sub [0, 2, 1, 4, 5, 6, 7] rfl ?_
                  refine ih (i + 1) i (pRoom (V (b + i)) / 31) (by omega) (by omega) (by omega) ?_
                  refine Or.inr ⟨by omega, by omega, hok, rfl, by omega, fun j q1 q2 q3 q4 => ?_, fun j q1 q2 q3 q4 => ?_⟩
                  · by_cases hj : j = i
                    · subst hj; exact Int.le_refl _
                    · rcases h4 with ⟨-, -, k3⟩ | ⟨k1, k2, k3, k4, k5, k6, k7⟩
                      · exact absurd q4 (by have := k3 j q1 (by omega) q3; omega)
                      · have := k6 j q1 (by omega) q3 q4; omega
                  · rcases h4 with ⟨-, -, k3⟩ | ⟨k1, k2, k3, k4, k5, k6, k7⟩
                    · exact absurd q4 (by have := k3 j q1 (by omega) q3; omega)
                    · have := k6 j q1 (by omega) q3 q4; omega
            · refine g_goto C 84 dX2_leastClassPage_42 (by decide) ?_
              refine g_iinc C [(6, vI (i + 1)), (4, vI r), (5, vI d), (0, .ref a), (1, vI q), (2, vI x), (3, vI y)] 0 rfl dX2_leastClassPage_84 (by decide) rfl ?_
              refine g_goto C 10 dX2_leastClassPage_87 (by decide) ?_
              refine g_sub [0, 1, 2, 3, 4, 5, 6] rfl ?_
              refine ih (i + 1) r d (by omega) (by omega) (by omega) ?_
              have hcl : pCls (V (b + i)) = pRoom (V (b + i)) / 31 := rfl
              have hno : okp V b x y i → q ≤ pCls (V (b + i)) * 31 → (0 ≤ r ∧ d ≤ pCls (V (b + i))) := by
                intro hk hq8
                obtain ⟨k1, k2, k3, k4⟩ := id hk
                have hrm9 := hroom i (by omega) (by omega) k3
                first | (exact absurd (by assumption) k1) | (exact absurd (by assumption) k2) | (exfalso; have c9 := c39; rw [if_pos ⟨k3, k4⟩] at c9; exact absurd c9 (by decide)) | (exfalso; omega) | (refine ⟨?_, by omega⟩; rcases h4 with ⟨e1, e2, -⟩ | ⟨e1, -⟩ <;> omega)
              rcases h4 with ⟨k1, k2, k3⟩ | ⟨k1, k2, k3, k4, k5, k6, k7⟩
              · refine Or.inl ⟨k1, k2, fun j q1 q2 q3 => ?_⟩
                by_cases hj : j = i
                · subst hj; exact Int.not_le.mp (fun q5 => by have := hno q3 q5; omega)
                · exact k3 j q1 (by omega) q3
              · refine Or.inr ⟨k1, by omega, k3, k4, k5, fun j q1 q2 q3 q4 => ?_, k7⟩
                by_cases hj : j = i
                · subst hj; exact (hno q3 q4).2
                · exact k6 j q1 (by omega) q3 q4
  refine g_iconst C (-1) rfl dX2_leastClassPage_0 ?_
  refine g_istore C [(4, vI ((-1))), (0, .ref a), (1, vI q), (2, vI x), (3, vI y)] dX2_leastClassPage_1 (by decide) rfl ?_
  refine g_bipush C 9 rfl dX2_leastClassPage_3 ?_
  refine g_istore C [(5, vI 9), (4, vI ((-1))), (0, .ref a), (1, vI q), (2, vI x), (3, vI y)] dX2_leastClassPage_5 (by decide) rfl ?_
  refine g_iconst C 0 rfl dX2_leastClassPage_7 ?_
  refine g_istore C [(6, vI 0), (5, vI 9), (4, vI ((-1))), (0, .ref a), (1, vI q), (2, vI x), (3, vI y)] dX2_leastClassPage_8 (by decide) rfl ?_
  refine g_sub [0, 2, 1, 3, 4, 5, 6] rfl ?_
  exact loop 96 0 (-1) 9 (by omega) (by omega) (by omega) (Or.inl ⟨rfl, rfl, fun j q1 q2 => absurd q1 (by omega)⟩)
set_option maxHeartbeats 4000000 in
set_option maxRecDepth 100000 in
theorem c_X2_placeFor (l : Launch) (D : va_G) (cy : ClassId × ClassId) (g : GT) (V : VT) (a : Nat) (b : Int) (q x y : Int) (hap : Apart g) (hS : isSt g a b) (hw : swf V b) (hroom : ∀ i, 0 ≤ i → i < 96 → V (b + i) 0 0 = 1 → 0 ≤ pRoom (V (b + i)) ∧ pRoom (V (b + i)) ≤ 248) (hq9 : 0 ≤ q ∧ q ≤ 1000) (hx : -1 ≤ x ∧ x ≤ 96) (hy : -1 ≤ y ∧ y ≤ 96) : MetI l yX2_placeFor cX2_placeFor 6 (some .int) 2 D cy g [.ref a, vI q, vI x, vI y] V (fun r V' => isPl V b (q + 4) x y r ∧ V' = V) := by
  obtain ⟨⟨ob, hob⟩, ps, hps, hq, hpgs⟩ := id hS
  refine MetI.of (by decide) (Nat.le_of_ble_eq_true rfl) hap ?_
  intro p_ e_ s_ m_ args_ below_ meth_ c_ C
  refine g_iload_n C 1 rfl dX2_placeFor_0 ?_
  refine g_iconst C 4 rfl dX2_placeFor_1 ?_
  refine g_iadd C dX2_placeFor_2 ?_
  refine g_istore C [(4, vI (q + 4)), (0, .ref a), (1, vI q), (2, vI x), (3, vI y)] dX2_placeFor_3 (by decide) rfl ?_
  refine g_aload_n C 1 rfl dX2_placeFor_5 ?_
  refine g_iload C 0 rfl dX2_placeFor_6 ?_
  refine g_iload_n C 3 rfl dX2_placeFor_8 ?_
  refine g_iload_n C 4 rfl dX2_placeFor_9 ?_
  refine g_callI C [vI (q + 4), vI x, vI y] [] (c_X2_leastClassPage l D cy g V a b (q + 4) x y hap hS hw hroom (by unfold sm; omega) (by unfold sm; omega) (by unfold sm; omega)) lm_X2_89 (rcv_Store hob) rfl (Nat.le_of_ble_eq_true rfl) ⟨(Nat.le_of_ble_eq_true rfl), (Nat.le_of_ble_eq_true rfl)⟩ ⟨Nat.zero_le _, Nat.zero_le _⟩ dX2_placeFor_10 ?_
  rintro r1 V1 ⟨⟨c1, h1⟩, hV1⟩
  refine g_V hV1 ?_
  clear hV1 V1
  have e1 : -1 ≤ r1 ∧ r1 < 96 := by rcases h1 with ⟨k, -⟩ | ⟨k1, k2, -⟩ <;> omega
  refine g_istore C [(5, vI r1), (4, vI (q + 4)), (0, .ref a), (1, vI q), (2, vI x), (3, vI y)] dX2_placeFor_13 (by decide) rfl ?_
  refine g_iload C 0 rfl dX2_placeFor_15 ?_
  refine g_iconst C (-1) rfl dX2_placeFor_17 ?_
  refine g_icmp_ne C (by unfold rng; omega) (by unfold rng; omega) 31 dX2_placeFor_18 (by decide) (fun c18 => ?_) (fun c18 => ?_)
  · refine g_iload C 0 rfl dX2_placeFor_31 ?_
    refine g_iconst C (-1) rfl dX2_placeFor_33 ?_
    refine g_icmp_ne C (by unfold rng; omega) (by unfold rng; omega) 45 dX2_placeFor_34 (by decide) (fun c34 => ?_) (fun c34 => absurd c34 (by omega))
    refine g_iload C 0 rfl dX2_placeFor_45 ?_
    exact g_iret C dX2_placeFor_47 ⟨Or.inl ⟨c1, c18, h1⟩, rfl⟩
  · refine g_aload_n C 2 rfl dX2_placeFor_21 ?_
    refine g_iload C 1 rfl dX2_placeFor_22 ?_
    refine g_iload_n C 4 rfl dX2_placeFor_24 ?_
    refine g_iload_n C 5 rfl dX2_placeFor_25 ?_
    refine g_callI C [vI (q + 4), vI x, vI y] [] (c_X2_firstPageWithRoom l D cy g V a b (q + 4) x y hap hS hw (by unfold sm; omega) (by unfold sm; omega) (by unfold sm; omega)) lm_X2_92 (rcv_Store hob) rfl (Nat.le_of_ble_eq_true rfl) ⟨(Nat.le_of_ble_eq_true rfl), (Nat.le_of_ble_eq_true rfl)⟩ ⟨Nat.zero_le _, Nat.zero_le _⟩ dX2_placeFor_26 ?_
    rintro r2 V1 ⟨h2, hV1⟩
    refine g_V hV1 ?_
    clear hV1 V1
    have e2 : -1 ≤ r2 ∧ r2 < 96 := by rcases h2 with ⟨k, -⟩ | ⟨k1, k2, -⟩ <;> omega
    have c1e : r1 = -1 := c18
    subst c1e
    refine g_istore C [(5, vI r2), (4, vI (q + 4)), (0, .ref a), (1, vI q), (2, vI x), (3, vI y)] dX2_placeFor_29 (by decide) rfl ?_
    refine g_iload C 0 rfl dX2_placeFor_31 ?_
    refine g_iconst C (-1) rfl dX2_placeFor_33 ?_
    refine g_icmp_ne C (by unfold rng; omega) (by unfold rng; omega) 45 dX2_placeFor_34 (by decide) (fun c34 => ?_) (fun c34 => ?_)
    · refine g_iload C 0 rfl dX2_placeFor_45 ?_
      exact g_iret C dX2_placeFor_47 ⟨Or.inr ⟨⟨c1, h1⟩, Or.inl ⟨c34, h2⟩⟩, rfl⟩
    · refine g_aload_n C 2 rfl dX2_placeFor_37 ?_
      refine g_iconst C 0 rfl dX2_placeFor_38 ?_
      refine g_callI C [vI 0] [] (c_X2_leastFreePage l D cy g V a b 0 hap hS hw (by omega)) lm_X2_95 (rcv_Store hob) rfl (Nat.le_of_ble_eq_true rfl) ⟨(Nat.le_of_ble_eq_true rfl), (Nat.le_of_ble_eq_true rfl)⟩ ⟨Nat.zero_le _, Nat.zero_le _⟩ dX2_placeFor_39 ?_
      rintro r3 V1 ⟨h3, hV1⟩
      refine g_V hV1 ?_
      clear hV1 V1
      refine g_goto C 47 dX2_placeFor_42 (by decide) ?_
      have c2e : r2 = -1 := c34
      subst c2e
      exact g_iret C dX2_placeFor_47 ⟨Or.inr ⟨⟨c1, h1⟩, Or.inr ⟨h2, h3⟩⟩, rfl⟩
set_option maxHeartbeats 4000000 in
set_option maxRecDepth 100000 in
theorem c_X2_hasPagesForChain (l : Launch) (D : va_G) (cy : ClassId × ClassId) (g : GT) (V : VT) (a : Nat) (b : Int) (q : Int) (hap : Apart g) (hS : isSt g a b) (hw : swf V b) (hn : 0 ≤ q ∧ q ≤ 1200) : MetI l yX2_hasPagesForChain cX2_hasPagesForChain 2 (some .boolean) 1 D cy g [.ref a, vI q] V (fun r V' => r = (if chP q ≤ cntK (kd V b) 0 96 then 1 else 0) ∧ V' = V) := by
  obtain ⟨⟨ob, hob⟩, ps, hps, hq, hpgs⟩ := id hS
  have hc := chP_bd hn
  have hk := cntK_bd (kd V b) 0 96
  refine MetI.of (by decide) (Nat.le_of_ble_eq_true rfl) hap ?_
  intro p_ e_ s_ m_ args_ below_ meth_ c_ C
  refine g_iload_n C 1 rfl dX2_hasPagesForChain_0 ?_
  refine g_callNI C [vI q] [] (c_X3_chainPages l D cy g V q hap hn) lm_X2_110 rfl (Nat.le_of_ble_eq_true rfl) ⟨(Nat.le_of_ble_eq_true rfl), (Nat.le_of_ble_eq_true rfl)⟩ ⟨Nat.zero_le _, Nat.zero_le _⟩ dX2_hasPagesForChain_1 ?_
  rintro _ V1 ⟨rfl, hV1⟩
  refine g_V hV1 ?_
  clear hV1 V1
  refine g_aload_n C 0 rfl dX2_hasPagesForChain_4 ?_
  refine g_iconst C 0 rfl dX2_hasPagesForChain_5 ?_
  refine g_callI C [vI 0] [vI (chP q)] (c_X2_pagesThatAre l D cy g V a b 0 hap hS hw (by unfold sm; omega)) lm_X2_113 (rcv_Store hob) rfl (Nat.le_of_ble_eq_true rfl) ⟨(Nat.le_of_ble_eq_true rfl), (Nat.le_of_ble_eq_true rfl)⟩ ⟨Nat.zero_le _, Nat.zero_le _⟩ dX2_hasPagesForChain_6 ?_
  rintro _ V1 ⟨rfl, hV1⟩
  refine g_V hV1 ?_
  clear hV1 V1
  refine g_icmp_gt C (by unfold rng; omega) (by unfold rng; omega) 16 dX2_hasPagesForChain_9 (by decide) (fun c9 => ?_) (fun c9 => ?_)
  · refine g_iconst C 0 rfl dX2_hasPagesForChain_16 ?_
    exact g_zret C (by omega) dX2_hasPagesForChain_17 ⟨by first | rw [if_pos (by omega)] | rw [if_neg (by omega)], rfl⟩
  · refine g_iconst C 1 rfl dX2_hasPagesForChain_12 ?_
    refine g_goto C 17 dX2_hasPagesForChain_13 (by decide) ?_
    exact g_zret C (by omega) dX2_hasPagesForChain_17 ⟨by first | rw [if_pos (by omega)] | rw [if_neg (by omega)], rfl⟩
set_option maxHeartbeats 4000000 in
set_option maxRecDepth 100000 in
theorem c_X2_hasRecord (l : Launch) (D : va_G) (cy : ClassId × ClassId) (g : GT) (V : VT) (a : Nat) (b : Int) (q : Int) (hap : Apart g) (hS : isSt g a b) (hw : swf V b) (hq9 : rng q) : MetI l yX2_hasRecord cX2_hasRecord 2 (some .boolean) 1 D cy g [.ref a, vI q] V (fun r V' => r = (if 0 ≤ q ∧ q < 3072 ∧ (V (b + q / 32) 1 (q % 32) = 1 ∨ V (b + q / 32) 1 (q % 32) = 2) then 1 else 0) ∧ V' = V) := by
  obtain ⟨⟨ob, hob⟩, ps, hps, hq, hpgs⟩ := id hS
  unfold rng at hq9
  refine MetI.of (by decide) (Nat.le_of_ble_eq_true rfl) hap ?_
  intro p_ e_ s_ m_ args_ below_ meth_ c_ C
  refine g_iload_n C 1 rfl dX2_hasRecord_0 ?_
  refine g_if_lt C (by unfold rng; omega) 34 dX2_hasRecord_1 (by decide) (fun c1 => ?_) (fun c1 => ?_)
  · refine g_iconst C 0 rfl dX2_hasRecord_34 ?_
    refine g_zret C (by omega) dX2_hasRecord_35 ⟨?_, rfl⟩
    rw [if_neg]
    rintro ⟨k1, k2, k3⟩
    first | (exfalso; omega) | (have c9 := c27; unfold isRec pHome at k3; rw [if_pos k3] at c9; exact absurd c9 (by decide))
  · refine g_iload_n C 1 rfl dX2_hasRecord_4 ?_
    refine g_sipush C 3072 rfl dX2_hasRecord_5 ?_
    refine g_icmp_ge C (by unfold rng; omega) (by unfold rng; omega) 34 dX2_hasRecord_8 (by decide) (fun c8 => ?_) (fun c8 => ?_)
    · refine g_iconst C 0 rfl dX2_hasRecord_34 ?_
      refine g_zret C (by omega) dX2_hasRecord_35 ⟨?_, rfl⟩
      rw [if_neg]
      rintro ⟨k1, k2, k3⟩
      first | (exfalso; omega) | (have c9 := c27; unfold isRec pHome at k3; rw [if_pos k3] at c9; exact absurd c9 (by decide))
    · refine g_aload_n C 0 rfl dX2_hasRecord_11 ?_
      refine gf_Store_pages C hob hps lf_X2_11 dX2_hasRecord_12 ?_
      refine g_iload_n C 1 rfl dX2_hasRecord_15 ?_
      refine g_bipush C 32 rfl dX2_hasRecord_16 ?_
      refine g_idiv C (by omega) (by omega) dX2_hasRecord_18 ?_
      obtain ⟨pg1, pg1e, pg1h⟩ := hpgs (q / 32) (by omega) (by omega)
      obtain ⟨-, pg1r1, pg1r2, pg1r3, pg1r4, ⟨pg1hr1, pg1ha1⟩, ⟨pg1hr2, pg1ha2⟩, ⟨pg1hr3, pg1ha3⟩, ⟨pg1hr4, pg1ha4⟩⟩ := id pg1h
      refine g_aald C hq ⟨by omega, by omega⟩ (by decide) pg1e dX2_hasRecord_19 ?_
      refine g_iload_n C 1 rfl dX2_hasRecord_20 ?_
      refine g_bipush C 32 rfl dX2_hasRecord_21 ?_
      refine g_irem C (by omega) (by omega) dX2_hasRecord_23 ?_
      refine g_callI C [vI (q % 32)] [] (cv_X1_hasHome l D cy g V pg1 _ (q % 32) hap pg1h (by omega) (hw _ (by omega) (by omega))) lm_X2_22 (rcv_Page pg1h.1) rfl (Nat.le_of_ble_eq_true rfl) ⟨(Nat.le_of_ble_eq_true rfl), (Nat.le_of_ble_eq_true rfl)⟩ ⟨Nat.zero_le _, Nat.zero_le _⟩ dX2_hasRecord_24 ?_
      rintro _ V1 ⟨rfl, hV1⟩
      refine g_V hV1 ?_
      clear hV1 V1
      refine g_if_eq C (by split <;> exact ⟨by decide, by decide⟩) 34 dX2_hasRecord_27 (by decide) (fun c27 => ?_) (fun c27 => ?_)
      · refine g_iconst C 0 rfl dX2_hasRecord_34 ?_
        refine g_zret C (by omega) dX2_hasRecord_35 ⟨?_, rfl⟩
        rw [if_neg]
        rintro ⟨k1, k2, k3⟩
        first | (exfalso; omega) | (have c9 := c27; unfold isRec pHome at k3; rw [if_pos k3] at c9; exact absurd c9 (by decide))
      · refine g_iconst C 1 rfl dX2_hasRecord_30 ?_
        refine g_goto C 35 dX2_hasRecord_31 (by decide) ?_
        refine g_zret C (by omega) dX2_hasRecord_35 ⟨?_, rfl⟩
        rw [if_pos]
        refine ⟨by omega, by omega, ?_⟩
        by_cases hh : V (b + q / 32) 1 (q % 32) = 1 ∨ V (b + q / 32) 1 (q % 32) = 2
        · exact hh
        · exfalso; rw [if_neg hh] at c27; exact c27 rfl
set_option maxHeartbeats 4000000 in
set_option maxRecDepth 100000 in
theorem c_X2_valueCell (l : Launch) (D : va_G) (cy : ClassId × ClassId) (g : GT) (V : VT) (a : Nat) (b : Int) (q : Int) (hap : Apart g) (hS : isSt g a b) (hw : swf V b) (hq9 : 0 ≤ q ∧ q < 3072) : MetI l yX2_valueCell cX2_valueCell 4 (some .int) 0 D cy g [.ref a, vI q] V (fun r V' => r = vcel V b q ∧ V' = V) := by
  obtain ⟨⟨ob, hob⟩, ps, hps, hq, hpgs⟩ := id hS
  refine MetI.of (by decide) (Nat.le_of_ble_eq_true rfl) hap ?_
  intro p_ e_ s_ m_ args_ below_ meth_ c_ C
  refine g_aload_n C 0 rfl dX2_valueCell_0 ?_
  refine gf_Store_pages C hob hps lf_X2_11 dX2_valueCell_1 ?_
  refine g_iload_n C 1 rfl dX2_valueCell_4 ?_
  refine g_bipush C 32 rfl dX2_valueCell_5 ?_
  refine g_idiv C (by omega) (by omega) dX2_valueCell_7 ?_
  obtain ⟨pg1, pg1e, pg1h⟩ := hpgs (q / 32) (by omega) (by omega)
  obtain ⟨-, pg1r1, pg1r2, pg1r3, pg1r4, ⟨pg1hr1, pg1ha1⟩, ⟨pg1hr2, pg1ha2⟩, ⟨pg1hr3, pg1ha3⟩, ⟨pg1hr4, pg1ha4⟩⟩ := id pg1h
  refine g_aald C hq ⟨by omega, by omega⟩ (by decide) pg1e dX2_valueCell_8 ?_
  refine g_astore_n C [(2, .ref pg1), (0, .ref a), (1, vI q)] dX2_valueCell_9 rfl (by decide) rfl ?_
  refine g_iload_n C 2 rfl dX2_valueCell_10 ?_
  refine g_bipush C 32 rfl dX2_valueCell_11 ?_
  refine g_irem C (by omega) (by omega) dX2_valueCell_13 ?_
  refine g_istore_n C [(3, vI (q % 32)), (2, .ref pg1), (0, .ref a), (1, vI q)] dX2_valueCell_14 rfl (by decide) rfl ?_
  refine g_aload_n C 1 rfl dX2_valueCell_15 ?_
  refine gfN_Page_kinds C pg1h.1 pg1hr1 lf_X2_30 dX2_valueCell_16 ?_
  refine g_iload_n C 0 rfl dX2_valueCell_19 ?_
  refine g_iald C pg1ha1 (by omega) (by decide) dX2_valueCell_20 ?_
  refine g_iconst C 2 rfl dX2_valueCell_21 ?_
  refine g_icmp_ne C (by have z := (hw (q / 32) (by omega) (by omega)).2.2.2.2.2.2 (q % 32) (by omega) (by omega); unfold rng; omega) (by unfold rng; omega) 34 dX2_valueCell_22 (by decide) (fun c22 => ?_) (fun c22 => ?_)
  · refine g_iload_n C 3 rfl dX2_valueCell_34 ?_
    refine g_iret C dX2_valueCell_35 ⟨?_, rfl⟩
    unfold vcel
    first | rw [if_pos (by assumption)] | rw [if_neg (by assumption)]
  · refine g_aload_n C 1 rfl dX2_valueCell_25 ?_
    refine gfN_Page_links C pg1h.1 pg1hr4 lf_X2_34 dX2_valueCell_26 ?_
    refine g_iload_n C 0 rfl dX2_valueCell_29 ?_
    refine g_iald C pg1ha4 (by omega) (by decide) dX2_valueCell_30 ?_
    refine g_goto C 35 dX2_valueCell_31 (by decide) ?_
    refine g_iret C dX2_valueCell_35 ⟨?_, rfl⟩
    unfold vcel
    first | rw [if_pos (by assumption)] | rw [if_neg (by assumption)]
set_option maxHeartbeats 4000000 in
set_option maxRecDepth 100000 in
theorem c_X2_lengthOf (l : Launch) (D : va_G) (cy : ClassId × ClassId) (g : GT) (V : VT) (a : Nat) (b : Int) (q : Int) (hap : Apart g) (hS : isSt g a b) (hw : swf V b) (hq9 : 0 ≤ q ∧ q < 3072) (hv : 0 ≤ vcel V b q ∧ vcel V b q < 3072) : MetI l yX2_lengthOf cX2_lengthOf 3 (some .int) 1 D cy g [.ref a, vI q] V (fun r V' => r = V (b + vcel V b q / 32) 2 (vcel V b q % 32) ∧ V' = V) := by
  obtain ⟨⟨ob, hob⟩, ps, hps, hq, hpgs⟩ := id hS
  refine MetI.of (by decide) (Nat.le_of_ble_eq_true rfl) hap ?_
  intro p_ e_ s_ m_ args_ below_ meth_ c_ C
  refine g_aload_n C 0 rfl dX2_lengthOf_0 ?_
  refine g_iload_n C 1 rfl dX2_lengthOf_1 ?_
  refine g_callI C [vI q] [] (c_X2_valueCell l D cy g V a b q hap hS hw hq9) lm_X2_37 (rcv_Store hob) rfl (Nat.le_of_ble_eq_true rfl) ⟨(Nat.le_of_ble_eq_true rfl), (Nat.le_of_ble_eq_true rfl)⟩ ⟨Nat.zero_le _, Nat.zero_le _⟩ dX2_lengthOf_2 ?_
  rintro _ V1 ⟨rfl, hV1⟩
  refine g_V hV1 ?_
  clear hV1 V1
  refine g_istore_n C [(2, vI (vcel V b q)), (0, .ref a), (1, vI q)] dX2_lengthOf_5 rfl (by decide) rfl ?_
  refine g_aload_n C 1 rfl dX2_lengthOf_6 ?_
  refine gf_Store_pages C hob hps lf_X2_11 dX2_lengthOf_7 ?_
  refine g_iload_n C 0 rfl dX2_lengthOf_10 ?_
  refine g_bipush C 32 rfl dX2_lengthOf_11 ?_
  refine g_idiv C (by omega) (by omega) dX2_lengthOf_13 ?_
  obtain ⟨pg1, pg1e, pg1h⟩ := hpgs ((vcel V b q) / 32) (by omega) (by omega)
  obtain ⟨-, pg1r1, pg1r2, pg1r3, pg1r4, ⟨pg1hr1, pg1ha1⟩, ⟨pg1hr2, pg1ha2⟩, ⟨pg1hr3, pg1ha3⟩, ⟨pg1hr4, pg1ha4⟩⟩ := id pg1h
  refine g_aald C hq ⟨by omega, by omega⟩ (by decide) pg1e dX2_lengthOf_14 ?_
  refine gfN_Page_lengths C pg1h.1 pg1hr2 lf_X2_40 dX2_lengthOf_15 ?_
  refine g_iload_n C 0 rfl dX2_lengthOf_18 ?_
  refine g_bipush C 32 rfl dX2_lengthOf_19 ?_
  refine g_irem C (by omega) (by omega) dX2_lengthOf_21 ?_
  refine g_iald C pg1ha2 (by omega) (by decide) dX2_lengthOf_22 ?_
  exact g_iret C dX2_lengthOf_23 ⟨rfl, rfl⟩
set_option maxHeartbeats 4000000 in
set_option maxRecDepth 100000 in
theorem c_X2_seedOf (l : Launch) (D : va_G) (cy : ClassId × ClassId) (g : GT) (V : VT) (a : Nat) (b : Int) (q : Int) (hap : Apart g) (hS : isSt g a b) (hw : swf V b) (hq9 : 0 ≤ q ∧ q < 3072) (hv : 0 ≤ vcel V b q ∧ vcel V b q < 3072) : MetI l yX2_seedOf cX2_seedOf 3 (some .int) 1 D cy g [.ref a, vI q] V (fun r V' => r = V (b + vcel V b q / 32) 3 (vcel V b q % 32) ∧ V' = V) := by
  obtain ⟨⟨ob, hob⟩, ps, hps, hq, hpgs⟩ := id hS
  refine MetI.of (by decide) (Nat.le_of_ble_eq_true rfl) hap ?_
  intro p_ e_ s_ m_ args_ below_ meth_ c_ C
  refine g_aload_n C 0 rfl dX2_seedOf_0 ?_
  refine g_iload_n C 1 rfl dX2_seedOf_1 ?_
  refine g_callI C [vI q] [] (c_X2_valueCell l D cy g V a b q hap hS hw hq9) lm_X2_37 (rcv_Store hob) rfl (Nat.le_of_ble_eq_true rfl) ⟨(Nat.le_of_ble_eq_true rfl), (Nat.le_of_ble_eq_true rfl)⟩ ⟨Nat.zero_le _, Nat.zero_le _⟩ dX2_seedOf_2 ?_
  rintro _ V1 ⟨rfl, hV1⟩
  refine g_V hV1 ?_
  clear hV1 V1
  refine g_istore_n C [(2, vI (vcel V b q)), (0, .ref a), (1, vI q)] dX2_seedOf_5 rfl (by decide) rfl ?_
  refine g_aload_n C 1 rfl dX2_seedOf_6 ?_
  refine gf_Store_pages C hob hps lf_X2_11 dX2_seedOf_7 ?_
  refine g_iload_n C 0 rfl dX2_seedOf_10 ?_
  refine g_bipush C 32 rfl dX2_seedOf_11 ?_
  refine g_idiv C (by omega) (by omega) dX2_seedOf_13 ?_
  obtain ⟨pg1, pg1e, pg1h⟩ := hpgs ((vcel V b q) / 32) (by omega) (by omega)
  obtain ⟨-, pg1r1, pg1r2, pg1r3, pg1r4, ⟨pg1hr1, pg1ha1⟩, ⟨pg1hr2, pg1ha2⟩, ⟨pg1hr3, pg1ha3⟩, ⟨pg1hr4, pg1ha4⟩⟩ := id pg1h
  refine g_aald C hq ⟨by omega, by omega⟩ (by decide) pg1e dX2_seedOf_14 ?_
  refine gfN_Page_seeds C pg1h.1 pg1hr3 lf_X2_43 dX2_seedOf_15 ?_
  refine g_iload_n C 0 rfl dX2_seedOf_18 ?_
  refine g_bipush C 32 rfl dX2_seedOf_19 ?_
  refine g_irem C (by omega) (by omega) dX2_seedOf_21 ?_
  refine g_iald C pg1ha3 (by omega) (by decide) dX2_seedOf_22 ?_
  exact g_iret C dX2_seedOf_23 ⟨rfl, rfl⟩
set_option maxHeartbeats 4000000 in
set_option maxRecDepth 100000 in
theorem c_X2_chainOf (l : Launch) (D : va_G) (cy : ClassId × ClassId) (g : GT) (V : VT) (a : Nat) (b : Int) (q : Int) (hap : Apart g) (hS : isSt g a b) (hw : swf V b) (hq9 : 0 ≤ q ∧ q < 3072) (hv : 0 ≤ vcel V b q ∧ vcel V b q < 3072) : MetI l yX2_chainOf cX2_chainOf 3 (some .int) 1 D cy g [.ref a, vI q] V (fun r V' => r = V (b + vcel V b q / 32) 4 (vcel V b q % 32) ∧ V' = V) := by
  obtain ⟨⟨ob, hob⟩, ps, hps, hq, hpgs⟩ := id hS
  refine MetI.of (by decide) (Nat.le_of_ble_eq_true rfl) hap ?_
  intro p_ e_ s_ m_ args_ below_ meth_ c_ C
  refine g_aload_n C 0 rfl dX2_chainOf_0 ?_
  refine g_iload_n C 1 rfl dX2_chainOf_1 ?_
  refine g_callI C [vI q] [] (c_X2_valueCell l D cy g V a b q hap hS hw hq9) lm_X2_37 (rcv_Store hob) rfl (Nat.le_of_ble_eq_true rfl) ⟨(Nat.le_of_ble_eq_true rfl), (Nat.le_of_ble_eq_true rfl)⟩ ⟨Nat.zero_le _, Nat.zero_le _⟩ dX2_chainOf_2 ?_
  rintro _ V1 ⟨rfl, hV1⟩
  refine g_V hV1 ?_
  clear hV1 V1
  refine g_istore_n C [(2, vI (vcel V b q)), (0, .ref a), (1, vI q)] dX2_chainOf_5 rfl (by decide) rfl ?_
  refine g_aload_n C 1 rfl dX2_chainOf_6 ?_
  refine gf_Store_pages C hob hps lf_X2_11 dX2_chainOf_7 ?_
  refine g_iload_n C 0 rfl dX2_chainOf_10 ?_
  refine g_bipush C 32 rfl dX2_chainOf_11 ?_
  refine g_idiv C (by omega) (by omega) dX2_chainOf_13 ?_
  obtain ⟨pg1, pg1e, pg1h⟩ := hpgs ((vcel V b q) / 32) (by omega) (by omega)
  obtain ⟨-, pg1r1, pg1r2, pg1r3, pg1r4, ⟨pg1hr1, pg1ha1⟩, ⟨pg1hr2, pg1ha2⟩, ⟨pg1hr3, pg1ha3⟩, ⟨pg1hr4, pg1ha4⟩⟩ := id pg1h
  refine g_aald C hq ⟨by omega, by omega⟩ (by decide) pg1e dX2_chainOf_14 ?_
  refine gfN_Page_links C pg1h.1 pg1hr4 lf_X2_34 dX2_chainOf_15 ?_
  refine g_iload_n C 0 rfl dX2_chainOf_18 ?_
  refine g_bipush C 32 rfl dX2_chainOf_19 ?_
  refine g_irem C (by omega) (by omega) dX2_chainOf_21 ?_
  refine g_iald C pg1ha4 (by omega) (by decide) dX2_chainOf_22 ?_
  exact g_iret C dX2_chainOf_23 ⟨rfl, rfl⟩
