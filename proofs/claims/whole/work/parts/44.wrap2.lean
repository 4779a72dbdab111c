set_option maxHeartbeats 4000000 in
set_option maxRecDepth 100000 in
theorem w_L_insert (l : Launch) (D : va_G) (cy : ClassId × ClassId) (g : GT) (V : VT) (a oa : Nat) (cL : ClassId) (v : Int64) (p0 p1 : Int) {post : Int → VT → Prop} {px : String → VT → Prop} (hap : Apart g) (hsf : isSf g a) (hno : oa ∉ gL g) (hM : MetXI l yX3_insert cX3_insert 4 (some .int) 8 2 D cy g [.ref a, vI p0, vI p1] V post px) (hpx : ∀ E u, px E u → E = xIAE) : MetL l yL_insert cL_insert 5 [(0, 10, 13, 13)] D cy g oa cL [.ref a, vI p0, vI p1, .ref oa] V v (WP1 post px xIAE v) := by
  refine MetL.of (by decide) (Nat.le_of_ble_eq_true rfl) hap ?_
  intro p_ e_ s_ m_ args_ below_ meth_ c_ C hT htab hO hKL hNc
  refine g_aload_n C 3 rfl dL_insert_0 ?_
  refine g_iconst C 0 rfl dL_insert_1 ?_
  refine g_aload_n C 0 rfl dL_insert_2 ?_
  refine g_iload_n C 1 rfl dL_insert_3 ?_
  refine g_iload_n C 2 rfl dL_insert_4 ?_
  refine gw_call C hT [vI p0, vI p1] [vI 0, .ref oa] hM lm_L_7 (rcv_Sf hsf.1) rfl (Nat.le_of_ble_eq_true rfl) ⟨(Nat.le_of_ble_eq_true rfl), (Nat.le_of_ble_eq_true rfl)⟩ ⟨(Nat.le_of_ble_eq_true rfl), (Nat.le_of_ble_eq_true rfl)⟩ dL_insert_5 ?_ ?_
  · intro E u hp
    have hE := hpx E u hp
    subst hE
    refine ⟨13, tk_1 (ks := (0, 10, 13, 13)) C hT htab rfl (by decide) lcn_13 xw_I, fun q => ?_⟩
    refine g_astore C [(4, .ref q), (0, .ref a), (1, vI p0), (2, vI p1), (3, .ref oa)] dL_insert_13 (by decide) rfl ?_
    refine g_iconst C 1 rfl dL_insert_15 ?_
    exact gw_iret C hO hno (Nat.le_of_ble_eq_true rfl) (Nat.le_of_ble_eq_true rfl) dL_insert_16 (Or.inr ⟨rfl, hp, rfl⟩)
  · intro r V' hp
    refine g_i2l C dL_insert_8 ?_
    exact gw_store C hO hno hKL (Nat.le_of_ble_eq_true rfl) (Nat.le_of_ble_eq_true rfl) 17 dL_insert_9 dL_insert_10 (by decide) dL_insert_17 dL_insert_18 (Or.inl ⟨rfl, r, hp, rfl⟩)
set_option maxHeartbeats 4000000 in
set_option maxRecDepth 100000 in
theorem w_L_update (l : Launch) (D : va_G) (cy : ClassId × ClassId) (g : GT) (V : VT) (a oa : Nat) (cL : ClassId) (v : Int64) (p0 p1 p2 : Int) {post : Int → VT → Prop} {px : String → VT → Prop} (hap : Apart g) (hsf : isSf g a) (hno : oa ∉ gL g) (hM : MetXI l yX3_update cX3_update 5 (some .boolean) 8 2 D cy g [.ref a, vI p0, vI p1, vI p2] V post px) (hpx : ∀ E u, px E u → E = xNSE ∨ E = xIAE) (hz : ∀ r V', post r V' → r = 0 ∨ r = 1) : MetL l yL_update cL_update 6 [(0, 19, 22, 19), (0, 19, 26, 13)] D cy g oa cL [.ref a, vI p0, vI p1, vI p2, .ref oa] V v (WP2 post px v) := by
  refine MetL.of (by decide) (Nat.le_of_ble_eq_true rfl) hap ?_
  intro p_ e_ s_ m_ args_ below_ meth_ c_ C hT htab hO hKL hNc
  refine g_aload C 4 rfl dL_update_0 ?_
  refine g_iconst C 0 rfl dL_update_2 ?_
  refine g_aload_n C 0 rfl dL_update_3 ?_
  refine g_iload_n C 1 rfl dL_update_4 ?_
  refine g_iload_n C 2 rfl dL_update_5 ?_
  refine g_iload_n C 3 rfl dL_update_6 ?_
  refine gw_call C hT [vI p0, vI p1, vI p2] [vI 0, .ref oa] hM lm_L_15 (rcv_Sf hsf.1) rfl (Nat.le_of_ble_eq_true rfl) ⟨(Nat.le_of_ble_eq_true rfl), (Nat.le_of_ble_eq_true rfl)⟩ ⟨(Nat.le_of_ble_eq_true rfl), (Nat.le_of_ble_eq_true rfl)⟩ dL_update_7 ?_ ?_
  · intro E u hp
    rcases hpx E u hp with hE | hE <;> subst hE
    · refine ⟨22, tk_2a (ks := (0, 19, 22, 19)) (k2 := (0, 19, 26, 13)) C hT htab rfl (by decide) lcn_19 xw_N, fun q => ?_⟩
      refine g_astore C [(5, .ref q), (0, .ref a), (1, vI p0), (2, vI p1), (3, vI p2), (4, .ref oa)] dL_update_22 (by decide) rfl ?_
      refine g_iconst C 1 rfl dL_update_24 ?_
      exact gw_iret C hO hno (Nat.le_of_ble_eq_true rfl) (Nat.le_of_ble_eq_true rfl) dL_update_25 (Or.inr (Or.inl ⟨rfl, hp, rfl⟩))
    · refine ⟨26, tk_2b (ks := (0, 19, 22, 19)) (k2 := (0, 19, 26, 13)) C hT htab (by decide) lcn_19 hNc rfl (by decide) lcn_13 xw_I, fun q => ?_⟩
      refine g_astore C [(5, .ref q), (0, .ref a), (1, vI p0), (2, vI p1), (3, vI p2), (4, .ref oa)] dL_update_26 (by decide) rfl ?_
      refine g_iconst C 2 rfl dL_update_28 ?_
      exact gw_iret C hO hno (Nat.le_of_ble_eq_true rfl) (Nat.le_of_ble_eq_true rfl) dL_update_29 (Or.inr (Or.inr ⟨rfl, hp, rfl⟩))
  · intro r V' hp
    have hz9 := hz r V' hp
    refine g_if_eq C (by unfold rng; omega) 17 dL_update_10 (by decide) (fun c10 => ?_) (fun c10 => ?_)
    · refine g_lconst C 0 rfl dL_update_17 ?_
      exact gw_store C hO hno hKL (Nat.le_of_ble_eq_true rfl) (Nat.le_of_ble_eq_true rfl) 30 dL_update_18 dL_update_19 (by decide) dL_update_30 dL_update_31 (Or.inl ⟨rfl, r, hp, by first | (rw [show r = 0 by omega]; rfl) | (rw [show r = 1 by omega]; rfl)⟩)
    · refine g_lconst C 1 rfl dL_update_13 ?_
      refine g_goto C 18 dL_update_14 (by decide) ?_
      exact gw_store C hO hno hKL (Nat.le_of_ble_eq_true rfl) (Nat.le_of_ble_eq_true rfl) 30 dL_update_18 dL_update_19 (by decide) dL_update_30 dL_update_31 (Or.inl ⟨rfl, r, hp, by first | (rw [show r = 0 by omega]; rfl) | (rw [show r = 1 by omega]; rfl)⟩)
set_option maxHeartbeats 4000000 in
set_option maxRecDepth 100000 in
theorem w_L_delete (l : Launch) (D : va_G) (cy : ClassId × ClassId) (g : GT) (V : VT) (a oa : Nat) (cL : ClassId) (v : Int64) (p0 : Int) {post : Int → VT → Prop} {px : String → VT → Prop} (hap : Apart g) (hsf : isSf g a) (hno : oa ∉ gL g) (hM : MetXI l yX3_delete cX3_delete 3 (some .int) 8 2 D cy g [.ref a, vI p0] V post px) (hpx : ∀ E u, px E u → E = xNSE) : MetL l yL_delete cL_delete 4 [(0, 9, 12, 19)] D cy g oa cL [.ref a, vI p0, .ref oa] V v (WP1 post px xNSE v) := by
  refine MetL.of (by decide) (Nat.le_of_ble_eq_true rfl) hap ?_
  intro p_ e_ s_ m_ args_ below_ meth_ c_ C hT htab hO hKL hNc
  refine g_aload_n C 2 rfl dL_delete_0 ?_
  refine g_iconst C 0 rfl dL_delete_1 ?_
  refine g_aload_n C 0 rfl dL_delete_2 ?_
  refine g_iload_n C 1 rfl dL_delete_3 ?_
  refine gw_call C hT [vI p0] [vI 0, .ref oa] hM lm_L_21 (rcv_Sf hsf.1) rfl (Nat.le_of_ble_eq_true rfl) ⟨(Nat.le_of_ble_eq_true rfl), (Nat.le_of_ble_eq_true rfl)⟩ ⟨(Nat.le_of_ble_eq_true rfl), (Nat.le_of_ble_eq_true rfl)⟩ dL_delete_4 ?_ ?_
  · intro E u hp
    have hE := hpx E u hp
    subst hE
    refine ⟨12, tk_1 (ks := (0, 9, 12, 19)) C hT htab rfl (by decide) lcn_19 xw_N, fun q => ?_⟩
    refine g_astore_n C [(3, .ref q), (0, .ref a), (1, vI p0), (2, .ref oa)] dL_delete_12 rfl (by decide) rfl ?_
    refine g_iconst C 1 rfl dL_delete_13 ?_
    exact gw_iret C hO hno (Nat.le_of_ble_eq_true rfl) (Nat.le_of_ble_eq_true rfl) dL_delete_14 (Or.inr ⟨rfl, hp, rfl⟩)
  · intro r V' hp
    refine g_i2l C dL_delete_7 ?_
    exact gw_store C hO hno hKL (Nat.le_of_ble_eq_true rfl) (Nat.le_of_ble_eq_true rfl) 15 dL_delete_8 dL_delete_9 (by decide) dL_delete_15 dL_delete_16 (Or.inl ⟨rfl, r, hp, rfl⟩)
set_option maxHeartbeats 4000000 in
set_option maxRecDepth 100000 in
theorem w_L_byteAt (l : Launch) (D : va_G) (cy : ClassId × ClassId) (g : GT) (V : VT) (a oa : Nat) (cL : ClassId) (v : Int64) (p0 p1 : Int) {post : Int → VT → Prop} {px : String → VT → Prop} (hap : Apart g) (hsf : isSf g a) (hno : oa ∉ gL g) (hM : MetXI l yX3_byteAt cX3_byteAt 3 (some .int) 8 2 D cy g [.ref a, vI p0, vI p1] V post px) (hpx : ∀ E u, px E u → E = xNSE) : MetL l yL_byteAt cL_byteAt 5 [(0, 10, 13, 19)] D cy g oa cL [.ref a, vI p0, vI p1, .ref oa] V v (WP1 post px xNSE v) := by
  refine MetL.of (by decide) (Nat.le_of_ble_eq_true rfl) hap ?_
  intro p_ e_ s_ m_ args_ below_ meth_ c_ C hT htab hO hKL hNc
  refine g_aload_n C 3 rfl dL_byteAt_0 ?_
  refine g_iconst C 0 rfl dL_byteAt_1 ?_
  refine g_aload_n C 0 rfl dL_byteAt_2 ?_
  refine g_iload_n C 1 rfl dL_byteAt_3 ?_
  refine g_iload_n C 2 rfl dL_byteAt_4 ?_
  refine gw_call C hT [vI p0, vI p1] [vI 0, .ref oa] hM lm_L_25 (rcv_Sf hsf.1) rfl (Nat.le_of_ble_eq_true rfl) ⟨(Nat.le_of_ble_eq_true rfl), (Nat.le_of_ble_eq_true rfl)⟩ ⟨(Nat.le_of_ble_eq_true rfl), (Nat.le_of_ble_eq_true rfl)⟩ dL_byteAt_5 ?_ ?_
  · intro E u hp
    have hE := hpx E u hp
    subst hE
    refine ⟨13, tk_1 (ks := (0, 10, 13, 19)) C hT htab rfl (by decide) lcn_19 xw_N, fun q => ?_⟩
    refine g_astore C [(4, .ref q), (0, .ref a), (1, vI p0), (2, vI p1), (3, .ref oa)] dL_byteAt_13 (by decide) rfl ?_
    refine g_iconst C 1 rfl dL_byteAt_15 ?_
    exact gw_iret C hO hno (Nat.le_of_ble_eq_true rfl) (Nat.le_of_ble_eq_true rfl) dL_byteAt_16 (Or.inr ⟨rfl, hp, rfl⟩)
  · intro r V' hp
    refine g_i2l C dL_byteAt_8 ?_
    exact gw_store C hO hno hKL (Nat.le_of_ble_eq_true rfl) (Nat.le_of_ble_eq_true rfl) 17 dL_byteAt_9 dL_byteAt_10 (by decide) dL_byteAt_17 dL_byteAt_18 (Or.inl ⟨rfl, r, hp, rfl⟩)
set_option maxHeartbeats 4000000 in
set_option maxRecDepth 100000 in
theorem w_L_where (l : Launch) (D : va_G) (cy : ClassId × ClassId) (g : GT) (V : VT) (a oa : Nat) (cL : ClassId) (v : Int64) (p0 p1 : Int) {post : Int → VT → Prop} {px : String → VT → Prop} (hap : Apart g) (hsf : isSf g a) (hno : oa ∉ gL g) (hM : MetXI l yX3_where cX3_where 3 (some .int) 8 2 D cy g [.ref a, vI p0, vI p1] V post px) (hpx : ∀ E u, px E u → E = xNSE ∨ E = xIAE) : MetL l yL_where cL_where 5 [(0, 10, 13, 19), (0, 10, 17, 13)] D cy g oa cL [.ref a, vI p0, vI p1, .ref oa] V v (WP2 post px v) := by
  refine MetL.of (by decide) (Nat.le_of_ble_eq_true rfl) hap ?_
  intro p_ e_ s_ m_ args_ below_ meth_ c_ C hT htab hO hKL hNc
  refine g_aload_n C 3 rfl dL_where_0 ?_
  refine g_iconst C 0 rfl dL_where_1 ?_
  refine g_aload_n C 0 rfl dL_where_2 ?_
  refine g_iload_n C 1 rfl dL_where_3 ?_
  refine g_iload_n C 2 rfl dL_where_4 ?_
  refine gw_call C hT [vI p0, vI p1] [vI 0, .ref oa] hM lm_L_28 (rcv_Sf hsf.1) rfl (Nat.le_of_ble_eq_true rfl) ⟨(Nat.le_of_ble_eq_true rfl), (Nat.le_of_ble_eq_true rfl)⟩ ⟨(Nat.le_of_ble_eq_true rfl), (Nat.le_of_ble_eq_true rfl)⟩ dL_where_5 ?_ ?_
  · intro E u hp
    rcases hpx E u hp with hE | hE <;> subst hE
    · refine ⟨13, tk_2a (ks := (0, 10, 13, 19)) (k2 := (0, 10, 17, 13)) C hT htab rfl (by decide) lcn_19 xw_N, fun q => ?_⟩
      refine g_astore C [(4, .ref q), (0, .ref a), (1, vI p0), (2, vI p1), (3, .ref oa)] dL_where_13 (by decide) rfl ?_
      refine g_iconst C 1 rfl dL_where_15 ?_
      exact gw_iret C hO hno (Nat.le_of_ble_eq_true rfl) (Nat.le_of_ble_eq_true rfl) dL_where_16 (Or.inr (Or.inl ⟨rfl, hp, rfl⟩))
    · refine ⟨17, tk_2b (ks := (0, 10, 13, 19)) (k2 := (0, 10, 17, 13)) C hT htab (by decide) lcn_19 hNc rfl (by decide) lcn_13 xw_I, fun q => ?_⟩
      refine g_astore C [(4, .ref q), (0, .ref a), (1, vI p0), (2, vI p1), (3, .ref oa)] dL_where_17 (by decide) rfl ?_
      refine g_iconst C 2 rfl dL_where_19 ?_
      exact gw_iret C hO hno (Nat.le_of_ble_eq_true rfl) (Nat.le_of_ble_eq_true rfl) dL_where_20 (Or.inr (Or.inr ⟨rfl, hp, rfl⟩))
  · intro r V' hp
    refine g_i2l C dL_where_8 ?_
    exact gw_store C hO hno hKL (Nat.le_of_ble_eq_true rfl) (Nat.le_of_ble_eq_true rfl) 21 dL_where_9 dL_where_10 (by decide) dL_where_21 dL_where_22 (Or.inl ⟨rfl, r, hp, rfl⟩)
set_option maxHeartbeats 4000000 in
set_option maxRecDepth 100000 in
theorem w_L_page (l : Launch) (D : va_G) (cy : ClassId × ClassId) (g : GT) (V : VT) (a oa : Nat) (cL : ClassId) (v : Int64) (p0 p1 : Int) {post : Int → VT → Prop} {px : String → VT → Prop} (hap : Apart g) (hsf : isSf g a) (hno : oa ∉ gL g) (hM : MetXI l yX3_page cX3_page 4 (some .int) 8 2 D cy g [.ref a, vI p0, vI p1] V post px) (hpx : ∀ E u, px E u → E = xIAE) : MetL l yL_page cL_page 5 [(0, 10, 13, 13)] D cy g oa cL [.ref a, vI p0, vI p1, .ref oa] V v (WP1 post px xIAE v) := by
  refine MetL.of (by decide) (Nat.le_of_ble_eq_true rfl) hap ?_
  intro p_ e_ s_ m_ args_ below_ meth_ c_ C hT htab hO hKL hNc
  refine g_aload_n C 3 rfl dL_page_0 ?_
  refine g_iconst C 0 rfl dL_page_1 ?_
  refine g_aload_n C 0 rfl dL_page_2 ?_
  refine g_iload_n C 1 rfl dL_page_3 ?_
  refine g_iload_n C 2 rfl dL_page_4 ?_
  refine gw_call C hT [vI p0, vI p1] [vI 0, .ref oa] hM lm_L_31 (rcv_Sf hsf.1) rfl (Nat.le_of_ble_eq_true rfl) ⟨(Nat.le_of_ble_eq_true rfl), (Nat.le_of_ble_eq_true rfl)⟩ ⟨(Nat.le_of_ble_eq_true rfl), (Nat.le_of_ble_eq_true rfl)⟩ dL_page_5 ?_ ?_
  · intro E u hp
    have hE := hpx E u hp
    subst hE
    refine ⟨13, tk_1 (ks := (0, 10, 13, 13)) C hT htab rfl (by decide) lcn_13 xw_I, fun q => ?_⟩
    refine g_astore C [(4, .ref q), (0, .ref a), (1, vI p0), (2, vI p1), (3, .ref oa)] dL_page_13 (by decide) rfl ?_
    refine g_iconst C 1 rfl dL_page_15 ?_
    exact gw_iret C hO hno (Nat.le_of_ble_eq_true rfl) (Nat.le_of_ble_eq_true rfl) dL_page_16 (Or.inr ⟨rfl, hp, rfl⟩)
  · intro r V' hp
    refine g_i2l C dL_page_8 ?_
    exact gw_store C hO hno hKL (Nat.le_of_ble_eq_true rfl) (Nat.le_of_ble_eq_true rfl) 17 dL_page_9 dL_page_10 (by decide) dL_page_17 dL_page_18 (Or.inl ⟨rfl, r, hp, rfl⟩)
set_option maxHeartbeats 4000000 in
set_option maxRecDepth 100000 in
theorem w_L_slot (l : Launch) (D : va_G) (cy : ClassId × ClassId) (g : GT) (V : VT) (a oa : Nat) (cL : ClassId) (v : Int64) (p0 p1 : Int) {post : Int → VT → Prop} {px : String → VT → Prop} (hap : Apart g) (hsf : isSf g a) (hno : oa ∉ gL g) (hM : MetXI l yX3_slot cX3_slot 4 (some .int) 8 2 D cy g [.ref a, vI p0, vI p1] V post px) (hpx : ∀ E u, px E u → E = xIAE) : MetL l yL_slot cL_slot 5 [(0, 10, 13, 13)] D cy g oa cL [.ref a, vI p0, vI p1, .ref oa] V v (WP1 post px xIAE v) := by
  refine MetL.of (by decide) (Nat.le_of_ble_eq_true rfl) hap ?_
  intro p_ e_ s_ m_ args_ below_ meth_ c_ C hT htab hO hKL hNc
  refine g_aload_n C 3 rfl dL_slot_0 ?_
  refine g_iconst C 0 rfl dL_slot_1 ?_
  refine g_aload_n C 0 rfl dL_slot_2 ?_
  refine g_iload_n C 1 rfl dL_slot_3 ?_
  refine g_iload_n C 2 rfl dL_slot_4 ?_
  refine gw_call C hT [vI p0, vI p1] [vI 0, .ref oa] hM lm_L_34 (rcv_Sf hsf.1) rfl (Nat.le_of_ble_eq_true rfl) ⟨(Nat.le_of_ble_eq_true rfl), (Nat.le_of_ble_eq_true rfl)⟩ ⟨(Nat.le_of_ble_eq_true rfl), (Nat.le_of_ble_eq_true rfl)⟩ dL_slot_5 ?_ ?_
  · intro E u hp
    have hE := hpx E u hp
    subst hE
    refine ⟨13, tk_1 (ks := (0, 10, 13, 13)) C hT htab rfl (by decide) lcn_13 xw_I, fun q => ?_⟩
    refine g_astore C [(4, .ref q), (0, .ref a), (1, vI p0), (2, vI p1), (3, .ref oa)] dL_slot_13 (by decide) rfl ?_
    refine g_iconst C 1 rfl dL_slot_15 ?_
    exact gw_iret C hO hno (Nat.le_of_ble_eq_true rfl) (Nat.le_of_ble_eq_true rfl) dL_slot_16 (Or.inr ⟨rfl, hp, rfl⟩)
  · intro r V' hp
    refine g_i2l C dL_slot_8 ?_
    exact gw_store C hO hno hKL (Nat.le_of_ble_eq_true rfl) (Nat.le_of_ble_eq_true rfl) 17 dL_slot_9 dL_slot_10 (by decide) dL_slot_17 dL_slot_18 (Or.inl ⟨rfl, r, hp, rfl⟩)
set_option maxHeartbeats 4000000 in
set_option maxRecDepth 100000 in
theorem w_L_crash (l : Launch) (D : va_G) (cy : ClassId × ClassId) (g : GT) (V : VT) (a oa : Nat) (cL : ClassId) (v : Int64) (p0 : Int) {post : Int → VT → Prop} {px : String → VT → Prop} (hap : Apart g) (hsf : isSf g a) (hno : oa ∉ gL g) (hM : MetXI l yX3_crash cX3_crash 3 (some .int) 8 2 D cy g [.ref a, vI p0] V post px) (hpx : ∀ E u, px E u → E = xIAE) : MetL l yL_crash cL_crash 4 [(0, 9, 12, 13)] D cy g oa cL [.ref a, vI p0, .ref oa] V v (WP1 post px xIAE v) := by
  refine MetL.of (by decide) (Nat.le_of_ble_eq_true rfl) hap ?_
  intro p_ e_ s_ m_ args_ below_ meth_ c_ C hT htab hO hKL hNc
  refine g_aload_n C 2 rfl dL_crash_0 ?_
  refine g_iconst C 0 rfl dL_crash_1 ?_
  refine g_aload_n C 0 rfl dL_crash_2 ?_
  refine g_iload_n C 1 rfl dL_crash_3 ?_
  refine gw_call C hT [vI p0] [vI 0, .ref oa] hM lm_L_37 (rcv_Sf hsf.1) rfl (Nat.le_of_ble_eq_true rfl) ⟨(Nat.le_of_ble_eq_true rfl), (Nat.le_of_ble_eq_true rfl)⟩ ⟨(Nat.le_of_ble_eq_true rfl), (Nat.le_of_ble_eq_true rfl)⟩ dL_crash_4 ?_ ?_
  · intro E u hp
    have hE := hpx E u hp
    subst hE
    refine ⟨12, tk_1 (ks := (0, 9, 12, 13)) C hT htab rfl (by decide) lcn_13 xw_I, fun q => ?_⟩
    refine g_astore_n C [(3, .ref q), (0, .ref a), (1, vI p0), (2, .ref oa)] dL_crash_12 rfl (by decide) rfl ?_
    refine g_iconst C 1 rfl dL_crash_13 ?_
    exact gw_iret C hO hno (Nat.le_of_ble_eq_true rfl) (Nat.le_of_ble_eq_true rfl) dL_crash_14 (Or.inr ⟨rfl, hp, rfl⟩)
  · intro r V' hp
    refine g_i2l C dL_crash_7 ?_
    exact gw_store C hO hno hKL (Nat.le_of_ble_eq_true rfl) (Nat.le_of_ble_eq_true rfl) 15 dL_crash_8 dL_crash_9 (by decide) dL_crash_15 dL_crash_16 (Or.inl ⟨rfl, r, hp, rfl⟩)
set_option maxHeartbeats 4000000 in
set_option maxRecDepth 100000 in
theorem w_L_total (l : Launch) (D : va_G) (cy : ClassId × ClassId) (g : GT) (V : VT) (a oa : Nat) (cL : ClassId) (v : Int64) (p0 : Int) {post : Int → VT → Prop} {px : String → VT → Prop} (hap : Apart g) (hsf : isSf g a) (hno : oa ∉ gL g) (hM : MetXI l yX3_total cX3_total 2 (some .int) 8 2 D cy g [.ref a, vI p0] V post px) (hpx : ∀ E u, px E u → E = xIAE) : MetL l yL_total cL_total 4 [(0, 9, 12, 13)] D cy g oa cL [.ref a, vI p0, .ref oa] V v (WP1 post px xIAE v) := by
  refine MetL.of (by decide) (Nat.le_of_ble_eq_true rfl) hap ?_
  intro p_ e_ s_ m_ args_ below_ meth_ c_ C hT htab hO hKL hNc
  refine g_aload_n C 2 rfl dL_total_0 ?_
  refine g_iconst C 0 rfl dL_total_1 ?_
  refine g_aload_n C 0 rfl dL_total_2 ?_
  refine g_iload_n C 1 rfl dL_total_3 ?_
  refine gw_call C hT [vI p0] [vI 0, .ref oa] hM lm_L_40 (rcv_Sf hsf.1) rfl (Nat.le_of_ble_eq_true rfl) ⟨(Nat.le_of_ble_eq_true rfl), (Nat.le_of_ble_eq_true rfl)⟩ ⟨(Nat.le_of_ble_eq_true rfl), (Nat.le_of_ble_eq_true rfl)⟩ dL_total_4 ?_ ?_
  · intro E u hp
    have hE := hpx E u hp
    subst hE
    refine ⟨12, tk_1 (ks := (0, 9, 12, 13)) C hT htab rfl (by decide) lcn_13 xw_I, fun q => ?_⟩
    refine g_astore_n C [(3, .ref q), (0, .ref a), (1, vI p0), (2, .ref oa)] dL_total_12 rfl (by decide) rfl ?_
    refine g_iconst C 1 rfl dL_total_13 ?_
    exact gw_iret C hO hno (Nat.le_of_ble_eq_true rfl) (Nat.le_of_ble_eq_true rfl) dL_total_14 (Or.inr ⟨rfl, hp, rfl⟩)
  · intro r V' hp
    refine g_i2l C dL_total_7 ?_
    exact gw_store C hO hno hKL (Nat.le_of_ble_eq_true rfl) (Nat.le_of_ble_eq_true rfl) 15 dL_total_8 dL_total_9 (by decide) dL_total_15 dL_total_16 (Or.inl ⟨rfl, r, hp, rfl⟩)
