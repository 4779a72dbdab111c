/-! SlotFile$Page: its pure words -/
def cellH (len : Int) : Int := if 100 < len then 9 else len + 1
def cellA (k len : Int) : Int := if k = 3 then cellH len + 4 else cellH len
def cellB (k len : Int) : Int := if k = 2 then 5 else if cellA k len < 5 then 5 else cellA k len
def isPg (g : GT) (a : Nat) (o : Int) : Prop := isO g 1 a o ∧ ∃ r1 r2 r3 r4, (gR g a 9 = some r1 ∧ isA g r1 o 1 32) ∧ (gR g a 10 = some r2 ∧ isA g r2 o 2 32) ∧ (gR g a 11 = some r3 ∧ isA g r3 o 3 32) ∧ (gR g a 12 = some r4 ∧ isA g r4 o 4 32)
def sm (x : Int) : Prop := -1000000 ≤ x ∧ x ≤ 1000000
/-- what a page's numbers keep: enough for every index and comparison in its methods -/
def pwf (w : Int → Int → Int) : Prop := sm (w 0 0) ∧ (0 ≤ w 0 1 ∧ w 0 1 ≤ 32) ∧ sm (w 0 2) ∧ sm (w 0 3) ∧ sm (w 0 4) ∧ sm (w 0 5) ∧ (∀ s, 0 ≤ s → s < 32 → (0 ≤ w 1 s ∧ w 1 s ≤ 3) ∧ (-1 ≤ w 2 s ∧ w 2 s ≤ 1200))
def pRoom (w : Int → Int → Int) : Int := 248 - 4 * w 0 1 - w 0 4
def pBytes (w : Int → Int → Int) (s : Int) : Int := cellB (w 1 s) (w 2 s)
def pHome (w : Int → Int → Int) (s : Int) : Prop := w 1 s = 1 ∨ w 1 s = 2
def pClaim (w : Int → Int → Int) (b sb : Int) : Int → Int → Int :=
  if 248 - 4 * w 0 1 < w 0 5 + b + sb then upw (upw (upw w 0 5 (w 0 4)) 0 8 (w 0 8 + 1)) 0 5 (w 0 4 + b) else upw w 0 5 (w 0 5 + b)
def pErase (w : Int → Int → Int) (s : Int) : Int → Int → Int :=
  if w 1 s = 2 then upw (upw (upw w 0 4 (w 0 4 - cellB (w 1 s) (w 2 s))) 0 3 (w 0 3 - 1)) 1 s 0 else upw (upw w 0 4 (w 0 4 - cellB (w 1 s) (w 2 s))) 1 s 0
def pWrite (w : Int → Int → Int) (s k len seed link : Int) : Int → Int → Int :=
  if k = 2 then upw (upw (upw (upw (upw (upw w 1 s k) 2 s len) 3 s seed) 4 s link) 0 4 (w 0 4 + cellB k len)) 0 3 (w 0 3 + 1) else upw (upw (upw (upw (upw w 1 s k) 2 s len) 3 s seed) 4 s link) 0 4 (w 0 4 + cellB k len)
def pEmpty (w : Int → Int → Int) (r : Int) : Prop := (0 ≤ r ∧ r ≤ w 0 1) ∧ (∀ i, 0 ≤ i → i < r → w 1 i ≠ 0) ∧ (r < w 0 1 → w 1 r = 0)
def pPut (w : Int → Int → Int) (r k len seed link : Int) : Int → Int → Int :=
  if r < w 0 1 then pWrite (upw (pClaim (upw w 0 0 1) (cellB k len) 0) 0 2 (pClaim (upw w 0 0 1) (cellB k len) 0 0 2 + 1)) r k len seed link
  else pWrite (upw (upw (pClaim (upw w 0 0 1) (cellB k len) 4) 0 1 (r + 1)) 0 2 (pClaim (upw w 0 0 1) (cellB k len) 4 0 2 + 1)) r k len seed link
def pChange (w : Int → Int → Int) (s k len seed link : Int) : Int → Int → Int :=
  if cellB k len ≤ pBytes w s then pWrite (pErase w s) s k len seed link else pWrite (pClaim (pErase w s) (cellB k len) 0) s k len seed link
/-- what copyFrom leaves: all of the other but the count of compactings -/
def pCopy (w u : Int → Int → Int) : Int → Int → Int := fun t j => if t = 0 ∧ j = 8 then w 0 8 else u t j
def pLast (w : Int → Int → Int) (n : Int) : Prop := (0 ≤ n ∧ n ≤ w 0 1) ∧ (∀ i, n ≤ i → i < w 0 1 → w 1 i = 0) ∧ (0 < n → w 1 (n - 1) ≠ 0)
def pFree (w : Int → Int → Int) : Int → Int → Int := upw (upw w 0 0 0) 0 5 0
def pChain (w : Int → Int → Int) (b : Int) : Int → Int → Int := upw (upw (upw w 0 0 2) 0 6 (-1)) 0 7 b
def pRem (w : Int → Int → Int) (s n : Int) : Int → Int → Int :=
  if pErase w s 0 2 - 1 = 0 then pFree (upw (upw (pErase w s) 0 2 (pErase w s 0 2 - 1)) 0 1 n) else upw (upw (pErase w s) 0 2 (pErase w s 0 2 - 1)) 0 1 n
theorem cellB_bd {k len : Int} (h : -1 ≤ len ∧ len ≤ 1200) : 5 ≤ cellB k len ∧ cellB k len ≤ 105 := by
  unfold cellB cellA cellH
  repeat' split
  all_goals omega
theorem pClaim_0 (w : Int → Int → Int) (b sb j : Int) (h5 : j ≠ 5) (h8 : j ≠ 8) : pClaim w b sb 0 j = w 0 j := by
  unfold pClaim; split <;> simp [upw, h5, h8]
theorem pClaim_t (w : Int → Int → Int) (b sb t j : Int) (h : t ≠ 0) : pClaim w b sb t j = w t j := by
  unfold pClaim; split <;> simp [upw, h]
theorem pErase_0 (w : Int → Int → Int) (s j : Int) (h5 : j ≠ 4) (h8 : j ≠ 3) : pErase w s 0 j = w 0 j := by
  unfold pErase; split <;> simp [upw, h5, h8]
theorem pErase_1 (w : Int → Int → Int) (s j : Int) : pErase w s 1 j = if j = s then 0 else w 1 j := by
  unfold pErase; split <;> simp [upw]
theorem pErase_t (w : Int → Int → Int) (s t j : Int) (h : t ≠ 0) (h1 : t ≠ 1) : pErase w s t j = w t j := by
  unfold pErase; split <;> simp [upw, h, h1]
theorem pErase_4 (w : Int → Int → Int) (s : Int) : pErase w s 0 4 = w 0 4 - cellB (w 1 s) (w 2 s) := by
  unfold pErase; split <;> simp [upw]
theorem pErase_3 (w : Int → Int → Int) (s : Int) : pErase w s 0 3 = if w 1 s = 2 then w 0 3 - 1 else w 0 3 := by
  unfold pErase; split <;> simp [upw]
set_option maxHeartbeats 4000000 in
set_option maxRecDepth 100000 in
theorem c_X3_cellBytes (l : Launch) (D : va_G) (cy : ClassId × ClassId) (g : GT) (V : VT) (k n : Int) (hap : Apart g) (hk : 0 ≤ k ∧ k ≤ 3) (hn : -1 ≤ n ∧ n ≤ 1200) : MetI l yX3_cellBytes cX3_cellBytes 4 (some .int) 0 D cy g [vI k, vI n] V (fun r V' => r = cellB k n ∧ V' = V) := by
  refine MetI.of (by decide) (Nat.le_of_ble_eq_true rfl) hap ?_
  intro p_ e_ s_ m_ args_ below_ meth_ c_ C
  refine g_iload_n C 0 rfl dX3_cellBytes_0 ?_
  refine g_iconst C 2 rfl dX3_cellBytes_1 ?_
  refine g_icmp_ne C (by unfold rng; omega) (by unfold rng; omega) 7 dX3_cellBytes_2 (by decide) (fun c2 => ?_) (fun c2 => ?_)
  · refine g_iload_n C 1 rfl dX3_cellBytes_7 ?_
    refine g_bipush C 100 rfl dX3_cellBytes_8 ?_
    refine g_icmp_le C (by unfold rng; omega) (by unfold rng; omega) 18 dX3_cellBytes_10 (by decide) (fun c10 => ?_) (fun c10 => ?_)
    · refine g_iload_n C 1 rfl dX3_cellBytes_18 ?_
      refine g_iconst C 1 rfl dX3_cellBytes_19 ?_
      refine g_iadd C dX3_cellBytes_20 ?_
      refine g_istore_n C [(2, vI (n + 1)), (0, vI k), (1, vI n)] dX3_cellBytes_21 rfl (by decide) rfl ?_
      refine g_iload_n C 1 rfl dX3_cellBytes_22 ?_
      refine g_iconst C 3 rfl dX3_cellBytes_23 ?_
      refine g_icmp_ne C (by unfold rng; omega) (by unfold rng; omega) 33 dX3_cellBytes_24 (by decide) (fun c24 => ?_) (fun c24 => ?_)
      · refine g_iload_n C 0 rfl dX3_cellBytes_33 ?_
        refine g_istore_n C [(3, vI (n + 1)), (2, vI (n + 1)), (0, vI k), (1, vI n)] dX3_cellBytes_34 rfl (by decide) rfl ?_
        refine g_iload_n C 0 rfl dX3_cellBytes_35 ?_
        refine g_iconst C 5 rfl dX3_cellBytes_36 ?_
        refine g_icmp_ge C (by unfold rng; omega) (by unfold rng; omega) 44 dX3_cellBytes_37 (by decide) (fun c37 => ?_) (fun c37 => ?_)
        · refine g_iload_n C 0 rfl dX3_cellBytes_44 ?_
          exact g_iret C dX3_cellBytes_45 ⟨by unfold cellB cellA cellH; repeat' split; all_goals omega, rfl⟩
        · refine g_iconst C 5 rfl dX3_cellBytes_40 ?_
          refine g_goto C 45 dX3_cellBytes_41 (by decide) ?_
          exact g_iret C dX3_cellBytes_45 ⟨by unfold cellB cellA cellH; repeat' split; all_goals omega, rfl⟩
      · refine g_iload_n C 0 rfl dX3_cellBytes_27 ?_
        refine g_iconst C 4 rfl dX3_cellBytes_28 ?_
        refine g_iadd C dX3_cellBytes_29 ?_
        refine g_goto C 34 dX3_cellBytes_30 (by decide) ?_
        refine g_istore_n C [(3, vI ((n + 1) + 4)), (2, vI (n + 1)), (0, vI k), (1, vI n)] dX3_cellBytes_34 rfl (by decide) rfl ?_
        refine g_iload_n C 0 rfl dX3_cellBytes_35 ?_
        refine g_iconst C 5 rfl dX3_cellBytes_36 ?_
        refine g_icmp_ge C (by unfold rng; omega) (by unfold rng; omega) 44 dX3_cellBytes_37 (by decide) (fun c37 => ?_) (fun c37 => ?_)
        · refine g_iload_n C 0 rfl dX3_cellBytes_44 ?_
          exact g_iret C dX3_cellBytes_45 ⟨by unfold cellB cellA cellH; repeat' split; all_goals omega, rfl⟩
        · refine g_iconst C 5 rfl dX3_cellBytes_40 ?_
          refine g_goto C 45 dX3_cellBytes_41 (by decide) ?_
          exact g_iret C dX3_cellBytes_45 ⟨by unfold cellB cellA cellH; repeat' split; all_goals omega, rfl⟩
    · refine g_bipush C 9 rfl dX3_cellBytes_13 ?_
      refine g_goto C 21 dX3_cellBytes_15 (by decide) ?_
      refine g_istore_n C [(2, vI 9), (0, vI k), (1, vI n)] dX3_cellBytes_21 rfl (by decide) rfl ?_
      refine g_iload_n C 1 rfl dX3_cellBytes_22 ?_
      refine g_iconst C 3 rfl dX3_cellBytes_23 ?_
      refine g_icmp_ne C (by unfold rng; omega) (by unfold rng; omega) 33 dX3_cellBytes_24 (by decide) (fun c24 => ?_) (fun c24 => ?_)
      · refine g_iload_n C 0 rfl dX3_cellBytes_33 ?_
        refine g_istore_n C [(3, vI 9), (2, vI 9), (0, vI k), (1, vI n)] dX3_cellBytes_34 rfl (by decide) rfl ?_
        refine g_iload_n C 0 rfl dX3_cellBytes_35 ?_
        refine g_iconst C 5 rfl dX3_cellBytes_36 ?_
        refine g_icmp_ge C (by unfold rng; omega) (by unfold rng; omega) 44 dX3_cellBytes_37 (by decide) (fun c37 => ?_) (fun c37 => ?_)
        · refine g_iload_n C 0 rfl dX3_cellBytes_44 ?_
          exact g_iret C dX3_cellBytes_45 ⟨by unfold cellB cellA cellH; repeat' split; all_goals omega, rfl⟩
        · refine g_iconst C 5 rfl dX3_cellBytes_40 ?_
          refine g_goto C 45 dX3_cellBytes_41 (by decide) ?_
          exact g_iret C dX3_cellBytes_45 ⟨by unfold cellB cellA cellH; repeat' split; all_goals omega, rfl⟩
      · refine g_iload_n C 0 rfl dX3_cellBytes_27 ?_
        refine g_iconst C 4 rfl dX3_cellBytes_28 ?_
        refine g_iadd C dX3_cellBytes_29 ?_
        refine g_goto C 34 dX3_cellBytes_30 (by decide) ?_
        refine g_istore_n C [(3, vI (9 + 4)), (2, vI 9), (0, vI k), (1, vI n)] dX3_cellBytes_34 rfl (by decide) rfl ?_
        refine g_iload_n C 0 rfl dX3_cellBytes_35 ?_
        refine g_iconst C 5 rfl dX3_cellBytes_36 ?_
        refine g_icmp_ge C (by unfold rng; omega) (by unfold rng; omega) 44 dX3_cellBytes_37 (by decide) (fun c37 => ?_) (fun c37 => ?_)
        · refine g_iload_n C 0 rfl dX3_cellBytes_44 ?_
          exact g_iret C dX3_cellBytes_45 ⟨by unfold cellB cellA cellH; repeat' split; all_goals omega, rfl⟩
        · refine g_iconst C 5 rfl dX3_cellBytes_40 ?_
          refine g_goto C 45 dX3_cellBytes_41 (by decide) ?_
          exact g_iret C dX3_cellBytes_45 ⟨by unfold cellB cellA cellH; repeat' split; all_goals omega, rfl⟩
  · refine g_iconst C 5 rfl dX3_cellBytes_5 ?_
    exact g_iret C dX3_cellBytes_6 ⟨by unfold cellB cellA cellH; repeat' split; all_goals omega, rfl⟩
set_option maxHeartbeats 4000000 in
set_option maxRecDepth 100000 in
theorem c_X1_room (l : Launch) (D : va_G) (cy : ClassId × ClassId) (g : GT) (V : VT) (w : Int → Int → Int) (a : Nat) (o : Int) (hap : Apart g) (hp : isPg g a o) : MetI l yX1_room cX1_room 1 (some .int) 0 D cy g [.ref a] (setp V o w) (fun r V' => r = pRoom w ∧ V' = setp V o w) := by
  obtain ⟨hp1, r1, r2, r3, r4, ⟨hr1, ha1⟩, ⟨hr2, ha2⟩, ⟨hr3, ha3⟩, ⟨hr4, ha4⟩⟩ := id hp
  refine MetI.of (by decide) (Nat.le_of_ble_eq_true rfl) hap ?_
  intro p_ e_ s_ m_ args_ below_ meth_ c_ C
  refine g_sipush C 248 rfl dX1_room_0 ?_
  refine g_iconst C 4 rfl dX1_room_3 ?_
  refine g_aload_n C 0 rfl dX1_room_4 ?_
  refine sf_Page_slots C (w 0 1) hp1 rfl lf_X1_15 dX1_room_5 ?_
  refine g_imul C dX1_room_8 ?_
  refine g_isub C dX1_room_9 ?_
  refine g_aload_n C 0 rfl dX1_room_10 ?_
  refine sf_Page_used C (w 0 4) hp1 rfl lf_X1_24 dX1_room_11 ?_
  refine g_isub C dX1_room_14 ?_
  exact g_iret C dX1_room_15 ⟨rfl, rfl⟩
set_option maxHeartbeats 4000000 in
set_option maxRecDepth 100000 in
theorem c_X1_takesNewCells (l : Launch) (D : va_G) (cy : ClassId × ClassId) (g : GT) (V : VT) (w : Int → Int → Int) (a : Nat) (o : Int) (hap : Apart g) (hp : isPg g a o) (hw : pwf w) : MetI l yX1_takesNewCells cX1_takesNewCells 1 (some .boolean) 0 D cy g [.ref a] (setp V o w) (fun r V' => r = (if w 0 0 = 1 ∧ w 0 2 < 32 then 1 else 0) ∧ V' = setp V o w) := by
  obtain ⟨hp1, r1, r2, r3, r4, ⟨hr1, ha1⟩, ⟨hr2, ha2⟩, ⟨hr3, ha3⟩, ⟨hr4, ha4⟩⟩ := id hp
  obtain ⟨z0, z1, z2, z3, z4, z5, z6⟩ := id hw
  simp only [sm] at z0 z2 z3 z4 z5
  refine MetI.of (by decide) (Nat.le_of_ble_eq_true rfl) hap ?_
  intro p_ e_ s_ m_ args_ below_ meth_ c_ C
  refine g_aload_n C 0 rfl dX1_takesNewCells_0 ?_
  refine sf_Page_kind C (w 0 0) hp1 rfl lf_X1_9 dX1_takesNewCells_1 ?_
  refine g_iconst C 1 rfl dX1_takesNewCells_4 ?_
  refine g_icmp_ne C (by unfold rng; omega) (by unfold rng; omega) 21 dX1_takesNewCells_5 (by decide) (fun c5 => ?_) (fun c5 => ?_)
  · refine g_iconst C 0 rfl dX1_takesNewCells_21 ?_
    exact g_zret C (by omega) dX1_takesNewCells_22 ⟨by first | rw [if_pos ⟨by omega, by omega⟩] | rw [if_neg (by omega)], rfl⟩
  · refine g_aload_n C 0 rfl dX1_takesNewCells_8 ?_
    refine sf_Page_cells C (w 0 2) hp1 rfl lf_X1_18 dX1_takesNewCells_9 ?_
    refine g_bipush C 32 rfl dX1_takesNewCells_12 ?_
    refine g_icmp_ge C (by unfold rng; omega) (by unfold rng; omega) 21 dX1_takesNewCells_14 (by decide) (fun c14 => ?_) (fun c14 => ?_)
    · refine g_iconst C 0 rfl dX1_takesNewCells_21 ?_
      exact g_zret C (by omega) dX1_takesNewCells_22 ⟨by first | rw [if_pos ⟨by omega, by omega⟩] | rw [if_neg (by omega)], rfl⟩
    · refine g_iconst C 1 rfl dX1_takesNewCells_17 ?_
      refine g_goto C 22 dX1_takesNewCells_18 (by decide) ?_
      exact g_zret C (by omega) dX1_takesNewCells_22 ⟨by first | rw [if_pos ⟨by omega, by omega⟩] | rw [if_neg (by omega)], rfl⟩
set_option maxHeartbeats 4000000 in
set_option maxRecDepth 100000 in
theorem c_X1_bytesAt (l : Launch) (D : va_G) (cy : ClassId × ClassId) (g : GT) (V : VT) (w : Int → Int → Int) (a : Nat) (o : Int) (s : Int) (hap : Apart g) (hp : isPg g a o) (hs : 0 ≤ s ∧ s < 32) (hw : pwf w) : MetI l yX1_bytesAt cX1_bytesAt 2 (some .int) 1 D cy g [.ref a, vI s] (setp V o w) (fun r V' => r = pBytes w s ∧ V' = setp V o w) := by
  obtain ⟨hp1, r1, r2, r3, r4, ⟨hr1, ha1⟩, ⟨hr2, ha2⟩, ⟨hr3, ha3⟩, ⟨hr4, ha4⟩⟩ := id hp
  obtain ⟨z0, z1, z2, z3, z4, z5, z6⟩ := id hw
  simp only [sm] at z0 z2 z3 z4 z5
  have z7 := z6 s hs.1 hs.2
  refine MetI.of (by decide) (Nat.le_of_ble_eq_true rfl) hap ?_
  intro p_ e_ s_ m_ args_ below_ meth_ c_ C
  refine g_aload_n C 0 rfl dX1_bytesAt_0 ?_
  refine gf_Page_kinds C hp1 hr1 lf_X1_39 dX1_bytesAt_1 ?_
  refine g_iload_n C 1 rfl dX1_bytesAt_4 ?_
  refine s_iald C (w 1 s) ha1 (by omega) (by decide) rfl dX1_bytesAt_5 ?_
  refine g_aload_n C 0 rfl dX1_bytesAt_6 ?_
  refine gf_Page_lengths C hp1 hr2 lf_X1_43 dX1_bytesAt_7 ?_
  refine g_iload_n C 1 rfl dX1_bytesAt_10 ?_
  refine s_iald C (w 2 s) ha2 (by omega) (by decide) rfl dX1_bytesAt_11 ?_
  refine g_callNI C [vI (w 1 s), vI (w 2 s)] [] (c_X3_cellBytes l D cy g _ (w 1 s) (w 2 s) hap (by omega) (by omega)) lm_X1_73 rfl (Nat.le_of_ble_eq_true rfl) ⟨(Nat.le_of_ble_eq_true rfl), (Nat.le_of_ble_eq_true rfl)⟩ ⟨Nat.zero_le _, Nat.zero_le _⟩ dX1_bytesAt_12 ?_
  rintro _ _ ⟨rfl, rfl⟩
  exact g_iret C dX1_bytesAt_15 ⟨rfl, rfl⟩
set_option maxHeartbeats 4000000 in
set_option maxRecDepth 100000 in
theorem c_X1_hasRoomInstead (l : Launch) (D : va_G) (cy : ClassId × ClassId) (g : GT) (V : VT) (w : Int → Int → Int) (a : Nat) (o : Int) (s b : Int) (hap : Apart g) (hp : isPg g a o) (hs : 0 ≤ s ∧ s < 32) (hw : pwf w) (hb : sm b) : MetI l yX1_hasRoomInstead cX1_hasRoomInstead 3 (some .boolean) 2 D cy g [.ref a, vI s, vI b] (setp V o w) (fun r V' => r = (if b ≤ pRoom w + pBytes w s then 1 else 0) ∧ V' = setp V o w) := by
  obtain ⟨hp1, r1, r2, r3, r4, ⟨hr1, ha1⟩, ⟨hr2, ha2⟩, ⟨hr3, ha3⟩, ⟨hr4, ha4⟩⟩ := id hp
  obtain ⟨z0, z1, z2, z3, z4, z5, z6⟩ := id hw
  simp only [sm] at z0 z2 z3 z4 z5
  have z7 := z6 s hs.1 hs.2
  have z8 := cellB_bd (k := w 1 s) z7.2
  simp only [sm] at hb
  refine MetI.of (by decide) (Nat.le_of_ble_eq_true rfl) hap ?_
  intro p_ e_ s_ m_ args_ below_ meth_ c_ C
  refine g_aload_n C 0 rfl dX1_hasRoomInstead_0 ?_
  refine g_callI C [] [] (c_X1_room l D cy g V w a o hap hp) lm_X1_58 (rcv_Page hp.1) rfl (Nat.le_of_ble_eq_true rfl) ⟨(Nat.le_of_ble_eq_true rfl), (Nat.le_of_ble_eq_true rfl)⟩ ⟨Nat.zero_le _, Nat.zero_le _⟩ dX1_hasRoomInstead_1 ?_
  rintro _ _ ⟨rfl, rfl⟩
  refine g_aload_n C 0 rfl dX1_hasRoomInstead_4 ?_
  refine g_iload_n C 1 rfl dX1_hasRoomInstead_5 ?_
  refine g_callI C [vI s] [vI (pRoom w)] (c_X1_bytesAt l D cy g V w a o s hap hp hs hw) lm_X1_62 (rcv_Page hp.1) rfl (Nat.le_of_ble_eq_true rfl) ⟨(Nat.le_of_ble_eq_true rfl), (Nat.le_of_ble_eq_true rfl)⟩ ⟨Nat.zero_le _, Nat.zero_le _⟩ dX1_hasRoomInstead_6 ?_
  rintro _ _ ⟨rfl, rfl⟩
  refine g_iadd C dX1_hasRoomInstead_9 ?_
  refine g_iload_n C 2 rfl dX1_hasRoomInstead_10 ?_
  refine g_icmp_lt C (by unfold rng pRoom; unfold pBytes; omega) (by unfold rng; omega) 18 dX1_hasRoomInstead_11 (by decide) (fun c11 => ?_) (fun c11 => ?_)
  · refine g_iconst C 0 rfl dX1_hasRoomInstead_18 ?_
    exact g_zret C (by omega) dX1_hasRoomInstead_19 ⟨by first | rw [if_pos (by omega)] | rw [if_neg (by omega)], rfl⟩
  · refine g_iconst C 1 rfl dX1_hasRoomInstead_14 ?_
    refine g_goto C 19 dX1_hasRoomInstead_15 (by decide) ?_
    exact g_zret C (by omega) dX1_hasRoomInstead_19 ⟨by first | rw [if_pos (by omega)] | rw [if_neg (by omega)], rfl⟩
set_option maxHeartbeats 4000000 in
set_option maxRecDepth 100000 in
theorem c_X1_hasHome (l : Launch) (D : va_G) (cy : ClassId × ClassId) (g : GT) (V : VT) (w : Int → Int → Int) (a : Nat) (o : Int) (s : Int) (hap : Apart g) (hp : isPg g a o) (hs : 0 ≤ s ∧ s < 32) (hw : pwf w) : MetI l yX1_hasHome cX1_hasHome 2 (some .boolean) 0 D cy g [.ref a, vI s] (setp V o w) (fun r V' => r = (if w 1 s = 1 ∨ w 1 s = 2 then 1 else 0) ∧ V' = setp V o w) := by
  obtain ⟨hp1, r1, r2, r3, r4, ⟨hr1, ha1⟩, ⟨hr2, ha2⟩, ⟨hr3, ha3⟩, ⟨hr4, ha4⟩⟩ := id hp
  obtain ⟨z0, z1, z2, z3, z4, z5, z6⟩ := id hw
  simp only [sm] at z0 z2 z3 z4 z5
  have z7 := z6 s hs.1 hs.2
  refine MetI.of (by decide) (Nat.le_of_ble_eq_true rfl) hap ?_
  intro p_ e_ s_ m_ args_ below_ meth_ c_ C
  refine g_aload_n C 0 rfl dX1_hasHome_0 ?_
  refine gf_Page_kinds C hp1 hr1 lf_X1_39 dX1_hasHome_1 ?_
  refine g_iload_n C 1 rfl dX1_hasHome_4 ?_
  refine s_iald C (w 1 s) ha1 (by omega) (by decide) rfl dX1_hasHome_5 ?_
  refine g_iconst C 1 rfl dX1_hasHome_6 ?_
  refine g_icmp_eq C (by unfold rng; omega) (by unfold rng; omega) 20 dX1_hasHome_7 (by decide) (fun c7 => ?_) (fun c7 => ?_)
  · refine g_iconst C 1 rfl dX1_hasHome_20 ?_
    refine g_goto C 25 dX1_hasHome_21 (by decide) ?_
    exact g_zret C (by omega) dX1_hasHome_25 ⟨by first | rw [if_pos (by omega)] | rw [if_neg (by omega)], rfl⟩
  · refine g_aload_n C 0 rfl dX1_hasHome_10 ?_
    refine gf_Page_kinds C hp1 hr1 lf_X1_39 dX1_hasHome_11 ?_
    refine g_iload_n C 1 rfl dX1_hasHome_14 ?_
    refine s_iald C (w 1 s) ha1 (by omega) (by decide) rfl dX1_hasHome_15 ?_
    refine g_iconst C 2 rfl dX1_hasHome_16 ?_
    refine g_icmp_ne C (by unfold rng; omega) (by unfold rng; omega) 24 dX1_hasHome_17 (by decide) (fun c17 => ?_) (fun c17 => ?_)
    · refine g_iconst C 0 rfl dX1_hasHome_24 ?_
      exact g_zret C (by omega) dX1_hasHome_25 ⟨by first | rw [if_pos (by omega)] | rw [if_neg (by omega)], rfl⟩
    · refine g_iconst C 1 rfl dX1_hasHome_20 ?_
      refine g_goto C 25 dX1_hasHome_21 (by decide) ?_
      exact g_zret C (by omega) dX1_hasHome_25 ⟨by first | rw [if_pos (by omega)] | rw [if_neg (by omega)], rfl⟩
set_option maxHeartbeats 4000000 in
set_option maxRecDepth 100000 in
theorem c_X1_firstHomeFrom (l : Launch) (D : va_G) (cy : ClassId × ClassId) (g : GT) (V : VT) (w : Int → Int → Int) (a : Nat) (o : Int) (s : Int) (hap : Apart g) (hp : isPg g a o) (hs : 0 ≤ s ∧ s < 1000) (hw : pwf w) : MetI l yX1_firstHomeFrom cX1_firstHomeFrom 3 (some .int) 1 D cy g [.ref a, vI s] (setp V o w) (fun r V' => V' = setp V o w ∧ ((r = -1 ∧ ∀ j, s ≤ j → j < w 0 1 → ¬ pHome w j) ∨ (s ≤ r ∧ r < w 0 1 ∧ pHome w r ∧ ∀ j, s ≤ j → j < r → ¬ pHome w j))) := by
  obtain ⟨hp1, r1, r2, r3, r4, ⟨hr1, ha1⟩, ⟨hr2, ha2⟩, ⟨hr3, ha3⟩, ⟨hr4, ha4⟩⟩ := id hp
  obtain ⟨z0, z1, z2, z3, z4, z5, z6⟩ := id hw
  simp only [sm] at z0 z2 z3 z4 z5
  refine MetI.of (by decide) (Nat.le_of_ble_eq_true rfl) hap ?_
  intro p_ e_ s_ m_ args_ below_ meth_ c_ C
  have loop : ∀ (n : Nat) (i : Int), s ≤ i ∧ i < 1000 → w 0 1 - i ≤ n → (∀ j, s ≤ j → j < i → ¬ pHome w j) → G p_ l e_ (rmd 1) s_ m_ args_ below_ meth_ c_ 3 0 0 (MQ below_ (QcI D cy g (fun r V' => V' = setp V o w ∧ ((r = -1 ∧ ∀ j, s ≤ j → j < w 0 1 → ¬ pHome w j) ∨ (s ≤ r ∧ r < w 0 1 ∧ pHome w r ∧ ∀ j, s ≤ j → j < r → ¬ pHome w j)))) args_ s_ 0 0 (fun q => q ∈ gL g)) D cy g (fun q => q ∈ gL g) s_.heap (setp V o w) 2 [(2, vI i), (0, .ref a), (1, vI s)] [] := by
    intro n
    induction n with
    | zero =>
      intro i h1 h3 h4
      refine g_iload_n C 0 rfl dX1_firstHomeFrom_2 ?_
      refine g_aload_n C 1 rfl dX1_firstHomeFrom_3 ?_
      refine sf_Page_slots C (w 0 1) hp1 rfl lf_X1_15 dX1_firstHomeFrom_4 ?_
      refine g_icmp_ge C (by unfold rng; omega) (by unfold rng; omega) 26 dX1_firstHomeFrom_7 (by decide) (fun c7 => ?_) (fun c7 => absurd c7 (by omega))
      refine g_iconst C (-1) rfl dX1_firstHomeFrom_26 ?_
      exact g_iret C dX1_firstHomeFrom_27 ⟨rfl, Or.inl ⟨rfl, fun j h1 h2 => h4 j h1 (by omega)⟩⟩
    | succ n ih =>
      intro i h1 h3 h4
      refine g_iload_n C 0 rfl dX1_firstHomeFrom_2 ?_
      refine g_aload_n C 1 rfl dX1_firstHomeFrom_3 ?_
      refine sf_Page_slots C (w 0 1) hp1 rfl lf_X1_15 dX1_firstHomeFrom_4 ?_
      refine g_icmp_ge C (by unfold rng; omega) (by unfold rng; omega) 26 dX1_firstHomeFrom_7 (by decide) (fun c7 => ?_) (fun c7 => ?_)
      · refine g_iconst C (-1) rfl dX1_firstHomeFrom_26 ?_
        exact g_iret C dX1_firstHomeFrom_27 ⟨rfl, Or.inl ⟨rfl, fun j h1 h2 => h4 j h1 (by omega)⟩⟩
      · refine g_aload_n C 1 rfl dX1_firstHomeFrom_10 ?_
        refine g_iload_n C 0 rfl dX1_firstHomeFrom_11 ?_
        refine g_callI C [vI i] [] (c_X1_hasHome l D cy g V w a o i hap hp ⟨by omega, by omega⟩ hw) lm_X1_66 (rcv_Page hp.1) rfl (Nat.le_of_ble_eq_true rfl) ⟨(Nat.le_of_ble_eq_true rfl), (Nat.le_of_ble_eq_true rfl)⟩ ⟨Nat.zero_le _, Nat.zero_le _⟩ dX1_firstHomeFrom_12 ?_
        rintro _ _ ⟨rfl, rfl⟩
        refine g_if_eq C (by split <;> exact ⟨by decide, by decide⟩) 20 dX1_firstHomeFrom_15 (by decide) (fun c15 => ?_) (fun c15 => ?_)
        · refine g_iinc C [(2, vI (i + 1)), (0, .ref a), (1, vI s)] 0 rfl dX1_firstHomeFrom_20 (by decide) rfl ?_
          refine g_goto C 2 dX1_firstHomeFrom_23 (by decide) ?_
          refine g_sub [0, 1, 2] rfl ?_
          refine ih (i + 1) (by omega) (by omega) (fun j h1 h2 => ?_)
          by_cases hj : j = i
          · subst hj; intro hh; unfold pHome at hh; rw [if_pos hh] at c15; exact absurd c15 (by decide)
          · exact h4 j h1 (by omega)
        · refine g_iload_n C 0 rfl dX1_firstHomeFrom_18 ?_
          refine g_iret C dX1_firstHomeFrom_19 ⟨rfl, Or.inr ⟨by omega, by omega, ?_, h4⟩⟩
          by_cases hh : w 1 i = 1 ∨ w 1 i = 2
          · exact hh
          · rw [if_neg hh] at c15; exact absurd rfl c15
  refine g_iload_n C 1 rfl dX1_firstHomeFrom_0 ?_
  refine g_istore_n C [(2, vI s), (0, .ref a), (1, vI s)] dX1_firstHomeFrom_1 rfl (by decide) rfl ?_
  exact loop (w 0 1 - s).toNat s (by omega) (by omega) (fun j h1 h2 => absurd h1 (by omega))
set_option maxHeartbeats 4000000 in
set_option maxRecDepth 100000 in
theorem c_X1_leastEmptySlot (l : Launch) (D : va_G) (cy : ClassId × ClassId) (g : GT) (V : VT) (w : Int → Int → Int) (a : Nat) (o : Int) (hap : Apart g) (hp : isPg g a o) (hw : pwf w) : MetI l yX1_leastEmptySlot cX1_leastEmptySlot 2 (some .int) 0 D cy g [.ref a] (setp V o w) (fun r V' => V' = setp V o w ∧ pEmpty w r) := by
  obtain ⟨hp1, r1, r2, r3, r4, ⟨hr1, ha1⟩, ⟨hr2, ha2⟩, ⟨hr3, ha3⟩, ⟨hr4, ha4⟩⟩ := id hp
  obtain ⟨z0, z1, z2, z3, z4, z5, z6⟩ := id hw
  simp only [sm] at z0 z2 z3 z4 z5
  refine MetI.of (by decide) (Nat.le_of_ble_eq_true rfl) hap ?_
  intro p_ e_ s_ m_ args_ below_ meth_ c_ C
  have loop : ∀ (n : Nat) (i : Int), 0 ≤ i ∧ i ≤ w 0 1 → w 0 1 - i ≤ n → (∀ j, 0 ≤ j → j < i → w 1 j ≠ 0) → G p_ l e_ (rmd 0) s_ m_ args_ below_ meth_ c_ 2 0 0 (MQ below_ (QcI D cy g (fun r V' => V' = setp V o w ∧ pEmpty w r)) args_ s_ 0 0 (fun q => q ∈ gL g)) D cy g (fun q => q ∈ gL g) s_.heap (setp V o w) 2 [(1, vI i), (0, .ref a)] [] := by
    intro n
    induction n with
    | zero =>
      intro i h1 h3 h4
      refine g_iload_n C 0 rfl dX1_leastEmptySlot_2 ?_
      refine g_aload_n C 1 rfl dX1_leastEmptySlot_3 ?_
      refine sf_Page_slots C (w 0 1) hp1 rfl lf_X1_15 dX1_leastEmptySlot_4 ?_
      refine g_icmp_ge C (by unfold rng; omega) (by unfold rng; omega) 27 dX1_leastEmptySlot_7 (by decide) (fun c7 => ?_) (fun c7 => absurd c7 (by omega))
      refine g_aload_n C 1 rfl dX1_leastEmptySlot_27 ?_
      refine sf_Page_slots C (w 0 1) hp1 rfl lf_X1_15 dX1_leastEmptySlot_28 ?_
      exact g_iret C dX1_leastEmptySlot_31 ⟨rfl, by omega, fun j q1 q2 => h4 j q1 (by omega), fun q => absurd q (by omega)⟩
    | succ n ih =>
      intro i h1 h3 h4
      refine g_iload_n C 0 rfl dX1_leastEmptySlot_2 ?_
      refine g_aload_n C 1 rfl dX1_leastEmptySlot_3 ?_
      refine sf_Page_slots C (w 0 1) hp1 rfl lf_X1_15 dX1_leastEmptySlot_4 ?_
      refine g_icmp_ge C (by unfold rng; omega) (by unfold rng; omega) 27 dX1_leastEmptySlot_7 (by decide) (fun c7 => ?_) (fun c7 => ?_)
      · refine g_aload_n C 1 rfl dX1_leastEmptySlot_27 ?_
        refine sf_Page_slots C (w 0 1) hp1 rfl lf_X1_15 dX1_leastEmptySlot_28 ?_
        exact g_iret C dX1_leastEmptySlot_31 ⟨rfl, by omega, fun j q1 q2 => h4 j q1 (by omega), fun q => absurd q (by omega)⟩
      · refine g_aload_n C 1 rfl dX1_leastEmptySlot_10 ?_
        refine gf_Page_kinds C hp1 hr1 lf_X1_39 dX1_leastEmptySlot_11 ?_
        refine g_iload_n C 0 rfl dX1_leastEmptySlot_14 ?_
        refine s_iald C (w 1 i) ha1 (by omega) (by decide) rfl dX1_leastEmptySlot_15 ?_
        refine g_if_ne C (by have z7 := z6 i (by omega) (by omega); unfold rng; omega) 21 dX1_leastEmptySlot_16 (by decide) (fun c16 => ?_) (fun c16 => ?_)
        · refine g_iinc C [(1, vI (i + 1)), (0, .ref a)] 0 rfl dX1_leastEmptySlot_21 (by decide) rfl ?_
          refine g_goto C 2 dX1_leastEmptySlot_24 (by decide) ?_
          refine ih (i + 1) (by omega) (by omega) (fun j q1 q2 => ?_)
          by_cases hj : j = i
          · subst hj; exact c16
          · exact h4 j q1 (by omega)
        · refine g_iload_n C 0 rfl dX1_leastEmptySlot_19 ?_
          exact g_iret C dX1_leastEmptySlot_20 ⟨rfl, by omega, h4, fun _ => c16⟩
  refine g_iconst C 0 rfl dX1_leastEmptySlot_0 ?_
  refine g_istore_n C [(1, vI 0), (0, .ref a)] dX1_leastEmptySlot_1 rfl (by decide) rfl ?_
  exact loop (w 0 1).toNat 0 (by omega) (by omega) (fun j q1 q2 => absurd q1 (by omega))
set_option maxHeartbeats 4000000 in
set_option maxRecDepth 100000 in
theorem c_X1_claimEnd (l : Launch) (D : va_G) (cy : ClassId × ClassId) (g : GT) (V : VT) (w : Int → Int → Int) (a : Nat) (o : Int) (b q : Int) (hap : Apart g) (hp : isPg g a o) (hw : pwf w) (hb : sm b) (hq : sm q) : MetV l yX1_claimEnd cX1_claimEnd 3 none 0 D cy g [.ref a, vI b, vI q] (setp V o w) (fun V' => V' = setp V o (pClaim w b q)) := by
  obtain ⟨hp1, r1, r2, r3, r4, ⟨hr1, ha1⟩, ⟨hr2, ha2⟩, ⟨hr3, ha3⟩, ⟨hr4, ha4⟩⟩ := id hp
  obtain ⟨z0, z1, z2, z3, z4, z5, z6⟩ := id hw
  simp only [sm] at z0 z2 z3 z4 z5
  simp only [sm] at hb hq
  refine MetV.of (by decide) (Nat.le_of_ble_eq_true rfl) hap ?_
  intro p_ e_ s_ m_ args_ below_ meth_ c_ C
  refine g_aload_n C 0 rfl dX1_claimEnd_0 ?_
  refine sf_Page_end C (w 0 5) hp1 rfl lf_X1_27 dX1_claimEnd_1 ?_
  refine g_iload_n C 1 rfl dX1_claimEnd_4 ?_
  refine g_iadd C dX1_claimEnd_5 ?_
  refine g_iload_n C 2 rfl dX1_claimEnd_6 ?_
  refine g_iadd C dX1_claimEnd_7 ?_
  refine g_sipush C 248 rfl dX1_claimEnd_8 ?_
  refine g_iconst C 4 rfl dX1_claimEnd_11 ?_
  refine g_aload_n C 0 rfl dX1_claimEnd_12 ?_
  refine sf_Page_slots C (w 0 1) hp1 rfl lf_X1_15 dX1_claimEnd_13 ?_
  refine g_imul C dX1_claimEnd_16 ?_
  refine g_isub C dX1_claimEnd_17 ?_
  refine g_icmp_le C (by unfold rng; omega) (by unfold rng; omega) 39 dX1_claimEnd_18 (by decide) (fun c18 => ?_) (fun c18 => ?_)
  · refine g_aload_n C 0 rfl dX1_claimEnd_39 ?_
    refine g_dupR C dX1_claimEnd_40 ?_
    refine sf_Page_end C (w 0 5) hp1 rfl lf_X1_27 dX1_claimEnd_41 ?_
    refine g_iload_n C 1 rfl dX1_claimEnd_44 ?_
    refine g_iadd C dX1_claimEnd_45 ?_
    refine sp_Page_end C hp1 lf_X1_27 dX1_claimEnd_46 ?_
    refine g_vret C dX1_claimEnd_49 ?_
    congr 1
    unfold pClaim
    first | rw [if_pos (by omega)] | rw [if_neg (by omega)]
  · refine g_aload_n C 0 rfl dX1_claimEnd_21 ?_
    refine g_aload_n C 0 rfl dX1_claimEnd_22 ?_
    refine sf_Page_used C (w 0 4) hp1 rfl lf_X1_24 dX1_claimEnd_23 ?_
    refine sp_Page_end C hp1 lf_X1_27 dX1_claimEnd_26 ?_
    refine g_aload_n C 0 rfl dX1_claimEnd_29 ?_
    refine g_dupR C dX1_claimEnd_30 ?_
    refine sf_Page_compactings C (w 0 8) hp1 (by simp [upw]) lf_X1_36 dX1_claimEnd_31 ?_
    refine g_iconst C 1 rfl dX1_claimEnd_34 ?_
    refine g_iadd C dX1_claimEnd_35 ?_
    refine sp_Page_compactings C hp1 lf_X1_36 dX1_claimEnd_36 ?_
    refine g_aload_n C 0 rfl dX1_claimEnd_39 ?_
    refine g_dupR C dX1_claimEnd_40 ?_
    refine sf_Page_end C (w 0 4) hp1 (by simp [upw]) lf_X1_27 dX1_claimEnd_41 ?_
    refine g_iload_n C 1 rfl dX1_claimEnd_44 ?_
    refine g_iadd C dX1_claimEnd_45 ?_
    refine sp_Page_end C hp1 lf_X1_27 dX1_claimEnd_46 ?_
    refine g_vret C dX1_claimEnd_49 ?_
    congr 1
    unfold pClaim
    first | rw [if_pos (by omega)] | rw [if_neg (by omega)]
set_option maxHeartbeats 4000000 in
set_option maxRecDepth 100000 in
theorem c_X1_erase (l : Launch) (D : va_G) (cy : ClassId × ClassId) (g : GT) (V : VT) (w : Int → Int → Int) (a : Nat) (o : Int) (s : Int) (hap : Apart g) (hp : isPg g a o) (hs : 0 ≤ s ∧ s < 32) (hw : pwf w) : MetV l yX1_erase cX1_erase 2 none 1 D cy g [.ref a, vI s] (setp V o w) (fun V' => V' = setp V o (pErase w s)) := by
  obtain ⟨hp1, r1, r2, r3, r4, ⟨hr1, ha1⟩, ⟨hr2, ha2⟩, ⟨hr3, ha3⟩, ⟨hr4, ha4⟩⟩ := id hp
  obtain ⟨z0, z1, z2, z3, z4, z5, z6⟩ := id hw
  simp only [sm] at z0 z2 z3 z4 z5
  have z7 := z6 s hs.1 hs.2
  refine MetV.of (by decide) (Nat.le_of_ble_eq_true rfl) hap ?_
  intro p_ e_ s_ m_ args_ below_ meth_ c_ C
  refine g_aload_n C 0 rfl dX1_erase_0 ?_
  refine g_dupR C dX1_erase_1 ?_
  refine sf_Page_used C (w 0 4) hp1 rfl lf_X1_24 dX1_erase_2 ?_
  refine g_aload_n C 0 rfl dX1_erase_5 ?_
  refine gf_Page_kinds C hp1 hr1 lf_X1_39 dX1_erase_6 ?_
  refine g_iload_n C 1 rfl dX1_erase_9 ?_
  refine s_iald C (w 1 s) ha1 (by omega) (by decide) rfl dX1_erase_10 ?_
  refine g_aload_n C 0 rfl dX1_erase_11 ?_
  refine gf_Page_lengths C hp1 hr2 lf_X1_43 dX1_erase_12 ?_
  refine g_iload_n C 1 rfl dX1_erase_15 ?_
  refine s_iald C (w 2 s) ha2 (by omega) (by decide) rfl dX1_erase_16 ?_
  refine g_callNI C [vI (w 1 s), vI (w 2 s)] [vI (w 0 4), .ref a] (c_X3_cellBytes l D cy g _ (w 1 s) (w 2 s) hap (by omega) (by omega)) lm_X1_73 rfl (Nat.le_of_ble_eq_true rfl) ⟨(Nat.le_of_ble_eq_true rfl), (Nat.le_of_ble_eq_true rfl)⟩ ⟨Nat.zero_le _, Nat.zero_le _⟩ dX1_erase_17 ?_
  rintro _ _ ⟨rfl, rfl⟩
  refine g_isub C dX1_erase_20 ?_
  refine sp_Page_used C hp1 lf_X1_24 dX1_erase_21 ?_
  refine g_aload_n C 0 rfl dX1_erase_24 ?_
  refine gf_Page_kinds C hp1 hr1 lf_X1_39 dX1_erase_25 ?_
  refine g_iload_n C 1 rfl dX1_erase_28 ?_
  refine s_iald C (w 1 s) ha1 (by omega) (by decide) (by simp [upw]) dX1_erase_29 ?_
  refine g_iconst C 2 rfl dX1_erase_30 ?_
  refine g_icmp_ne C (by unfold rng; omega) (by unfold rng; omega) 44 dX1_erase_31 (by decide) (fun c31 => ?_) (fun c31 => ?_)
  · refine g_aload_n C 0 rfl dX1_erase_44 ?_
    refine gf_Page_kinds C hp1 hr1 lf_X1_39 dX1_erase_45 ?_
    refine g_iload_n C 1 rfl dX1_erase_48 ?_
    refine g_iconst C 0 rfl dX1_erase_49 ?_
    refine s_iast C ha1 (by omega) (by decide) dX1_erase_50 ?_
    refine g_vret C dX1_erase_51 ?_
    congr 1
    unfold pErase
    first | rw [if_pos (by omega)] | rw [if_neg (by omega)]
  · refine g_aload_n C 0 rfl dX1_erase_34 ?_
    refine g_dupR C dX1_erase_35 ?_
    refine sf_Page_stubs C (w 0 3) hp1 (by simp [upw]) lf_X1_21 dX1_erase_36 ?_
    refine g_iconst C 1 rfl dX1_erase_39 ?_
    refine g_isub C dX1_erase_40 ?_
    refine sp_Page_stubs C hp1 lf_X1_21 dX1_erase_41 ?_
    refine g_aload_n C 0 rfl dX1_erase_44 ?_
    refine gf_Page_kinds C hp1 hr1 lf_X1_39 dX1_erase_45 ?_
    refine g_iload_n C 1 rfl dX1_erase_48 ?_
    refine g_iconst C 0 rfl dX1_erase_49 ?_
    refine s_iast C ha1 (by omega) (by decide) dX1_erase_50 ?_
    refine g_vret C dX1_erase_51 ?_
    congr 1
    unfold pErase
    first | rw [if_pos (by omega)] | rw [if_neg (by omega)]
set_option maxHeartbeats 4000000 in
set_option maxRecDepth 100000 in
theorem c_X1_write (l : Launch) (D : va_G) (cy : ClassId × ClassId) (g : GT) (V : VT) (w : Int → Int → Int) (a : Nat) (o : Int) (s k n sd lk : Int) (hap : Apart g) (hp : isPg g a o) (hs : 0 ≤ s ∧ s < 32) (hk : 0 ≤ k ∧ k ≤ 3) (hn : -1 ≤ n ∧ n ≤ 1200) : MetV l yX1_write cX1_write 6 none 1 D cy g [.ref a, vI s, vI k, vI n, vI sd, vI lk] (setp V o w) (fun V' => V' = setp V o (pWrite w s k n sd lk)) := by
  obtain ⟨hp1, r1, r2, r3, r4, ⟨hr1, ha1⟩, ⟨hr2, ha2⟩, ⟨hr3, ha3⟩, ⟨hr4, ha4⟩⟩ := id hp
  refine MetV.of (by decide) (Nat.le_of_ble_eq_true rfl) hap ?_
  intro p_ e_ s_ m_ args_ below_ meth_ c_ C
  refine g_aload_n C 0 rfl dX1_write_0 ?_
  refine gf_Page_kinds C hp1 hr1 lf_X1_39 dX1_write_1 ?_
  refine g_iload_n C 1 rfl dX1_write_4 ?_
  refine g_iload_n C 2 rfl dX1_write_5 ?_
  refine s_iast C ha1 (by omega) (by decide) dX1_write_6 ?_
  refine g_aload_n C 0 rfl dX1_write_7 ?_
  refine gf_Page_lengths C hp1 hr2 lf_X1_43 dX1_write_8 ?_
  refine g_iload_n C 1 rfl dX1_write_11 ?_
  refine g_iload_n C 3 rfl dX1_write_12 ?_
  refine s_iast C ha2 (by omega) (by decide) dX1_write_13 ?_
  refine g_aload_n C 0 rfl dX1_write_14 ?_
  refine gf_Page_seeds C hp1 hr3 lf_X1_46 dX1_write_15 ?_
  refine g_iload_n C 1 rfl dX1_write_18 ?_
  refine g_iload C 4 rfl dX1_write_19 ?_
  refine s_iast C ha3 (by omega) (by decide) dX1_write_21 ?_
  refine g_aload_n C 0 rfl dX1_write_22 ?_
  refine gf_Page_links C hp1 hr4 lf_X1_49 dX1_write_23 ?_
  refine g_iload_n C 1 rfl dX1_write_26 ?_
  refine g_iload C 5 rfl dX1_write_27 ?_
  refine s_iast C ha4 (by omega) (by decide) dX1_write_29 ?_
  refine g_aload_n C 0 rfl dX1_write_30 ?_
  refine g_dupR C dX1_write_31 ?_
  refine sf_Page_used C (w 0 4) hp1 (by simp [upw]) lf_X1_24 dX1_write_32 ?_
  refine g_iload_n C 2 rfl dX1_write_35 ?_
  refine g_iload_n C 3 rfl dX1_write_36 ?_
  refine g_callNI C [vI k, vI n] [vI (w 0 4), .ref a] (c_X3_cellBytes l D cy g _ k n hap (by omega) (by omega)) lm_X1_73 rfl (Nat.le_of_ble_eq_true rfl) ⟨(Nat.le_of_ble_eq_true rfl), (Nat.le_of_ble_eq_true rfl)⟩ ⟨Nat.zero_le _, Nat.zero_le _⟩ dX1_write_37 ?_
  rintro _ _ ⟨rfl, rfl⟩
  refine g_iadd C dX1_write_40 ?_
  refine sp_Page_used C hp1 lf_X1_24 dX1_write_41 ?_
  refine g_iload_n C 2 rfl dX1_write_44 ?_
  refine g_iconst C 2 rfl dX1_write_45 ?_
  refine g_icmp_ne C (by unfold rng; omega) (by unfold rng; omega) 59 dX1_write_46 (by decide) (fun c46 => ?_) (fun c46 => ?_)
  · refine g_vret C dX1_write_59 ?_
    congr 1
    unfold pWrite
    first | rw [if_pos (by omega)] | rw [if_neg (by omega)]
  · refine g_aload_n C 0 rfl dX1_write_49 ?_
    refine g_dupR C dX1_write_50 ?_
    refine sf_Page_stubs C (w 0 3) hp1 (by simp [upw]) lf_X1_21 dX1_write_51 ?_
    refine g_iconst C 1 rfl dX1_write_54 ?_
    refine g_iadd C dX1_write_55 ?_
    refine sp_Page_stubs C hp1 lf_X1_21 dX1_write_56 ?_
    refine g_vret C dX1_write_59 ?_
    congr 1
    unfold pWrite
    first | rw [if_pos (by omega)] | rw [if_neg (by omega)]
set_option maxHeartbeats 4000000 in
set_option maxRecDepth 100000 in
theorem c_X1_becomeFree (l : Launch) (D : va_G) (cy : ClassId × ClassId) (g : GT) (V : VT) (w : Int → Int → Int) (a : Nat) (o : Int) (hap : Apart g) (hp : isPg g a o) : MetV l yX1_becomeFree cX1_becomeFree 1 none 0 D cy g [.ref a] (setp V o w) (fun V' => V' = setp V o (pFree w)) := by
  obtain ⟨hp1, r1, r2, r3, r4, ⟨hr1, ha1⟩, ⟨hr2, ha2⟩, ⟨hr3, ha3⟩, ⟨hr4, ha4⟩⟩ := id hp
  refine MetV.of (by decide) (Nat.le_of_ble_eq_true rfl) hap ?_
  intro p_ e_ s_ m_ args_ below_ meth_ c_ C
  refine g_aload_n C 0 rfl dX1_becomeFree_0 ?_
  refine g_iconst C 0 rfl dX1_becomeFree_1 ?_
  refine sp_Page_kind C hp1 lf_X1_9 dX1_becomeFree_2 ?_
  refine g_aload_n C 0 rfl dX1_becomeFree_5 ?_
  refine g_iconst C 0 rfl dX1_becomeFree_6 ?_
  refine sp_Page_end C hp1 lf_X1_27 dX1_becomeFree_7 ?_
  exact g_vret C dX1_becomeFree_10 rfl
set_option maxHeartbeats 4000000 in
set_option maxRecDepth 100000 in
theorem c_X1_becomeChain (l : Launch) (D : va_G) (cy : ClassId × ClassId) (g : GT) (V : VT) (w : Int → Int → Int) (a : Nat) (o : Int) (b : Int) (hap : Apart g) (hp : isPg g a o) : MetV l yX1_becomeChain cX1_becomeChain 2 none 0 D cy g [.ref a, vI b] (setp V o w) (fun V' => V' = setp V o (pChain w b)) := by
  obtain ⟨hp1, r1, r2, r3, r4, ⟨hr1, ha1⟩, ⟨hr2, ha2⟩, ⟨hr3, ha3⟩, ⟨hr4, ha4⟩⟩ := id hp
  refine MetV.of (by decide) (Nat.le_of_ble_eq_true rfl) hap ?_
  intro p_ e_ s_ m_ args_ below_ meth_ c_ C
  refine g_aload_n C 0 rfl dX1_becomeChain_0 ?_
  refine g_iconst C 2 rfl dX1_becomeChain_1 ?_
  refine sp_Page_kind C hp1 lf_X1_9 dX1_becomeChain_2 ?_
  refine g_aload_n C 0 rfl dX1_becomeChain_5 ?_
  refine g_iconst C (-1) rfl dX1_becomeChain_6 ?_
  refine sp_Page_chainNext C hp1 lf_X1_30 dX1_becomeChain_7 ?_
  refine g_aload_n C 0 rfl dX1_becomeChain_10 ?_
  refine g_iload_n C 1 rfl dX1_becomeChain_11 ?_
  refine sp_Page_chainBytes C hp1 lf_X1_33 dX1_becomeChain_12 ?_
  exact g_vret C dX1_becomeChain_15 rfl
