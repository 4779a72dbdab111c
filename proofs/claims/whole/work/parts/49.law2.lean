/-! a call of the class and then the model's: what the law compares -/
theorem MetL.mono {l : Launch} {y : MethodName} {cc : ByteArray} {maxL : Nat} {hh : List (Nat × Nat × Nat × Nat)} {D : va_G} {cy : ClassId × ClassId} {g : GT} {oa : Nat} {cL : ClassId} {av : List Value} {V : VT} {v : Int64} {post post' : Int → VT → Int64 → Prop} (h : MetL l y cc maxL hh D cy g oa cL av V v post) (hp : ∀ r V' v', post r V' v' → post' r V' v') : MetL l y cc maxL hh D cy g oa cL av V v post' := by
  unfold MetL at h ⊢
  unfold Met at h ⊢
  refine MetFree.mono h (fun _ _ h => h) (fun _ _ _ _ _ h => h) ?_
  rintro a s o t - ⟨⟨⟨r, u, h1, ⟨h2, h3⟩, h4⟩, h5⟩, h6⟩
  exact ⟨⟨⟨r, u, h1, ⟨h2, hp _ _ _ h3⟩, h4⟩, h5⟩, h6⟩
theorem MetI.mono {l : Launch} {y : MethodName} {cc : ByteArray} {maxL d : Nat} {ret : Option FieldType} {D : va_G} {cy : ClassId × ClassId} {g : GT} {av : List Value} {V : VT} {post post' : Int → VT → Prop} (h : MetI l y cc maxL ret d D cy g av V post) (hp : ∀ r V', post r V' → post' r V') : MetI l y cc maxL ret d D cy g av V post' := by
  unfold MetI at h ⊢
  unfold Met at h ⊢
  refine MetFree.mono h (fun _ _ h => h) (fun _ _ _ _ _ h => h) ?_
  rintro a s o t - ⟨⟨⟨r, u, h1, ⟨h2, h3⟩, h4⟩, h5⟩, h6⟩
  exact ⟨⟨⟨r, u, h1, ⟨h2, hp _ _ h3⟩, h4⟩, h5⟩, h6⟩
theorem MetI.at {l : Launch} {y : MethodName} {cc : ByteArray} {maxL d : Nat} {ret : Option FieldType} {D : va_G} {cy : ClassId × ClassId} {g : GT} {av : List Value} {V V1 : VT} {w : Int → Int → Int} {post post' : Int → VT → Prop} (hV : V1 194 = w) (h : MetI l y cc maxL ret d D cy g av (setp V1 194 w) post) (hp : ∀ r V', post r V' → post' r V') : MetI l y cc maxL ret d D cy g av V1 post' := by
  subst hV
  rw [setp_self] at h
  exact h.mono hp
def WPo (l : Launch) (D : va_G) (cy : ClassId × ClassId) (g : GT) (k : Int) (y : MethodName) (cc : ByteArray) (maxL : Nat) (ret : Option FieldType) (d : Nat) (av : List Value) (E : Int → Prop) : Int → VT → Int64 → Prop := fun rc V1 v1 => (rc = 0 ∨ rc = 1 ∨ rc = 2) ∧ MetI l y cc maxL ret d D cy g av V1 (fun rm V2 => Inv V2 (k + 1) ∧ V2 194 0 7 = rc ∧ (rc = 0 → v1 = lL rm ∧ E rm))
def WPi (l : Launch) (D : va_G) (cy : ClassId × ClassId) (g : GT) (k : Int) (y : MethodName) (cc : ByteArray) (maxL : Nat) (ret : Option FieldType) (d : Nat) (av : List Value) : Int → VT → Prop := fun r V1 => MetI l y cc maxL ret d D cy g av V1 (fun rm V2 => Inv V2 (k + 1) ∧ r = rm)
theorem mNx7 (w : Int → Int → Int) (v : Int) : mNx (upw w 0 7 v) = mNx w := by
  funext i; show (upw w 0 7 v) 1 (192 + i) = _; rw [u7]
theorem mSync_7 (w : Int → Int → Int) : mSync w 0 7 = 0 := by
  unfold mSync updt
  rw [upw_j (by decide), if_neg (by decide), upw_at]
theorem xNI : xNSE ≠ xIAE := by decide
theorem o_insert (l : Launch) (D : va_G) (cy : ClassId × ClassId) (g : GT) (V : VT) (hl : l.stackTraces = false) (a am oa : Nat) (cL : ClassId) (v : Int64) (k : Int) (hap : Apart g) (hsf : isSf g a) (hm : isMod g am 194) (hno : oa ∉ gL g) (hI : Inv V k) (hk : k < 512) (q sd : Int) (hq : rng q) (hs : rng sd) : MetL l yL_insert cL_insert 5 [(0, 10, 13, 13)] D cy g oa cL [.ref a, vI q, vI sd, .ref oa] V v (WPo l D cy g k yX4_insert cX4_insert 4 (some .int) 5 [.ref am, vI q, vI sd] (fun _ => True)) := by
  obtain ⟨ch, hR⟩ := hI.1
  have hi := hI.2.2.2.1
  have hM : ∀ V1, MetI l yX4_insert cX4_insert 4 (some .int) 5 D cy g [.ref am, vI q, vI sd] (setp V1 194 (V 194)) _ := fun V1 => c_X4_insert l D cy g V1 (V 194) am 194 q sd hap hm hI.2.2.1.1 (Or.inl hi.1) (by omega) hq hs (fun _ => MB7 (MB_inv hI)) (fun h => ch_inv hI h.1)
  refine MetL.mono (w_L_insert l D cy g V a oa cL v q sd hap hsf hno (c_X3_insert l D cy g V hl a q sd hap hsf hR.1 hq hs (by omega)) (fun E u h => h.1)) ?_
  rintro rc V1 v1 (⟨rfl, r, ⟨hv, V2, hA, hV1⟩, rfl⟩ | ⟨rfl, ⟨-, rfl, hn⟩, rfl⟩)
  · refine ⟨Or.inl rfl, MetI.at (V := V) (by rw [hV1]; exact out_ins hR.1 hv.1 hA) (hM V1) ?_⟩
    rintro rm V3 (⟨hn, -⟩ | ⟨hv', u, hU, rfl⟩)
    · exact absurd hv hn
    · obtain ⟨e, h1, h2⟩ := op_insert hI hk hv hA hU
      exact ⟨by rw [hV1]; exact h1, by rw [setp_at]; exact h2, fun _ => ⟨by rw [e], trivial⟩⟩
  · refine ⟨Or.inr (Or.inl rfl), MetI.at (V := V1) rfl (hM V1) ?_⟩
    rintro rm V3 (⟨hn', -, rfl⟩ | ⟨hv', -⟩)
    · exact ⟨inv_same hI, by rw [setp_at, upw_at], fun h => absurd h (by decide)⟩
    · exact absurd hv' hn
theorem o_update (l : Launch) (D : va_G) (cy : ClassId × ClassId) (g : GT) (V : VT) (hl : l.stackTraces = false) (a am oa : Nat) (cL : ClassId) (v : Int64) (k : Int) (hap : Apart g) (hsf : isSf g a) (hm : isMod g am 194) (hno : oa ∉ gL g) (hI : Inv V k) (hk : k < 512) (x q sd : Int) (hx : rng x) (hq : rng q) (hs : rng sd) : MetL l yL_update cL_update 6 [(0, 19, 22, 19), (0, 19, 26, 13)] D cy g oa cL [.ref a, vI x, vI q, vI sd, .ref oa] V v (WPo l D cy g k yX4_update cX4_update 5 (some .boolean) 5 [.ref am, vI x, vI q, vI sd] (fun r => r = 0 ∨ r = 1)) := by
  obtain ⟨ch, hR⟩ := hI.1
  have hi := hI.2.2.2.1
  obtain ⟨hiff, L0, hrd⟩ := rd (x := x) hI
  have hM : ∀ V1, MetI l yX4_update cX4_update 5 (some .boolean) 5 D cy g [.ref am, vI x, vI q, vI sd] (setp V1 194 (V 194)) _ := fun V1 => c_X4_update l D cy g V1 (V 194) am 194 x q sd L0 hap hm hI.2.2.1.1 (Or.inl hi.1) (by omega) hx hq hs (fun h1 h2 => by
    obtain ⟨r1, r2, r3, r4, r5, r6, r7, r8, r9, r10, r11, r12, r13⟩ := hrd (hiff.mpr h1)
    rw [u7, mNx7]
    exact ⟨MB7 (MB_inv hI), by rw [← r2]; exact r6, r9, r10, r11, r12, r13, by have := ch_inv hI h2.1; rw [u7] at this; exact this⟩)
  refine MetL.mono (w_L_update l D cy g V a oa cL v x q sd hap hsf hno (c_X3_update l D cy g V hl a x q sd L0 hap hsf hR.1 hx hq hs (by omega) (fun h => (hrd h).1)) (fun E u h => h.2.imp (fun z => z.1) (fun z => z.1)) (fun r V' h => by obtain ⟨-, -, V2, hA, -⟩ := h; exact ChgP_r hA)) ?_
  rintro rc V1 v1 (⟨rfl, r, ⟨hr, hv, V2, hA, hV1⟩, rfl⟩ | ⟨rfl, ⟨rfl, hE⟩, rfl⟩ | ⟨rfl, ⟨rfl, hE⟩, rfl⟩)
  · refine ⟨Or.inl rfl, MetI.at (V := V) (by rw [hV1]; exact out_upd hR.1 hv.1 (hrd hr).1 hA) (hM V1) ?_⟩
    rintro rm V3 (⟨hn, -⟩ | ⟨-, hn, -⟩ | ⟨-, hv', u, hU, rfl⟩)
    · exact absurd (hiff.mp hr) hn
    · exact absurd hv hn
    · obtain ⟨e, h1, h2⟩ := op_update hI hk hr hv (hrd hr).1 hA (hrd hr).2.2.2.2.2.2.2.2.2.2.2.1 hU
      exact ⟨by rw [hV1]; exact h1, by rw [setp_at]; exact h2, fun _ => ⟨by rw [e], by rw [← e]; exact ChgP_r hA⟩⟩
  · have hn : ¬ isRc V1 x := hE.elim (fun z => z.2) (fun z => absurd z.1 xNI)
    refine ⟨Or.inr (Or.inl rfl), MetI.at (V := V1) rfl (hM V1) ?_⟩
    rintro rm V3 (⟨hn', -, rfl⟩ | ⟨hr, -⟩ | ⟨hr, -⟩)
    · exact ⟨inv_same hI, by rw [setp_at, upw_at], fun h => absurd h (by decide)⟩
    · exact absurd (hiff.mpr hr) hn
    · exact absurd (hiff.mpr hr) hn
  · have hn : isRc V1 x ∧ ¬ vOK q sd := hE.elim (fun z => absurd z.1.symm xNI) (fun z => z.2)
    refine ⟨Or.inr (Or.inr rfl), MetI.at (V := V1) rfl (hM V1) ?_⟩
    rintro rm V3 (⟨hr, -⟩ | ⟨-, -, -, rfl⟩ | ⟨-, hv, -⟩)
    · exact absurd (hiff.mp hn.1) hr
    · exact ⟨inv_same hI, by rw [setp_at, upw_at], fun h => absurd h (by decide)⟩
    · exact absurd hv hn.2
theorem o_delete (l : Launch) (D : va_G) (cy : ClassId × ClassId) (g : GT) (V : VT) (hl : l.stackTraces = false) (a am oa : Nat) (cL : ClassId) (v : Int64) (k : Int) (hap : Apart g) (hsf : isSf g a) (hm : isMod g am 194) (hno : oa ∉ gL g) (hI : Inv V k) (hk : k < 512) (x : Int) (hx : rng x) : MetL l yL_delete cL_delete 4 [(0, 9, 12, 19)] D cy g oa cL [.ref a, vI x, .ref oa] V v (WPo l D cy g k yX4_delete cX4_delete 3 (some .int) 4 [.ref am, vI x] (fun _ => True)) := by
  obtain ⟨ch, hR⟩ := hI.1
  have hi := hI.2.2.2.1
  obtain ⟨hiff, L0, hrd⟩ := rd (x := x) hI
  have hM : ∀ V1, MetI l yX4_delete cX4_delete 3 (some .int) 4 D cy g [.ref am, vI x] (setp V1 194 (V 194)) _ := fun V1 => c_X4_delete l D cy g V1 (V 194) am 194 x L0 hap hm hI.2.2.1.1 (Or.inl hi.1) (by omega) hx (fun h1 => by
    obtain ⟨r1, r2, r3, r4, r5, r6, r7, r8, r9, r10, r11, r12, r13⟩ := hrd (hiff.mpr h1)
    rw [u7, mNx7]
    exact ⟨by rw [← r2]; exact r6, r12⟩)
  refine MetL.mono (w_L_delete l D cy g V a oa cL v x hap hsf hno (c_X3_delete l D cy g V hl a x L0 hap hsf hR.1 hx (by omega) (fun h => (hrd h).1) (fun h => ⟨(hrd h).2.2.2.2.2.1, (hrd h).2.2.2.2.2.2.1, (hrd h).2.2.2.2.2.2.2.1⟩)) (fun E u h => h.1)) ?_
  rintro rc V1 v1 (⟨rfl, r, ⟨hr, hrr, V2, hA, hV1⟩, rfl⟩ | ⟨rfl, ⟨-, rfl, hn⟩, rfl⟩)
  · refine ⟨Or.inl rfl, MetI.at (V := V) (by rw [hV1]; exact out_del (hrd hr).1 hA) (hM V1) ?_⟩
    rintro rm V3 (⟨hn, -⟩ | ⟨-, hrm, rfl⟩)
    · exact absurd (hiff.mp hr) hn
    · obtain ⟨h1, h2⟩ := op_delete hI hk hr (hrd hr).1 hA (hrd hr).2.2.2.2.2.2.2.2.2.2.2.1
      exact ⟨by rw [hV1]; exact h1, by rw [setp_at]; exact h2, fun _ => ⟨by rw [hrr, hrm, (hrd hr).2.2.1], trivial⟩⟩
  · refine ⟨Or.inr (Or.inl rfl), MetI.at (V := V1) rfl (hM V1) ?_⟩
    rintro rm V3 (⟨hn', -, rfl⟩ | ⟨hr, -⟩)
    · exact ⟨inv_same hI, by rw [setp_at, upw_at], fun h => absurd h (by decide)⟩
    · exact absurd (hiff.mpr hr) hn
theorem o_byteAt (l : Launch) (D : va_G) (cy : ClassId × ClassId) (g : GT) (V : VT) (hl : l.stackTraces = false) (a am oa : Nat) (cL : ClassId) (v : Int64) (k : Int) (hap : Apart g) (hsf : isSf g a) (hm : isMod g am 194) (hno : oa ∉ gL g) (hI : Inv V k) (hk : k < 512) (x i : Int) (hx : rng x) (hq : rng i) : MetL l yL_byteAt cL_byteAt 5 [(0, 10, 13, 19)] D cy g oa cL [.ref a, vI x, vI i, .ref oa] V v (WPo l D cy g k yX4_byteAt cX4_byteAt 3 (some .int) 1 [.ref am, vI x, vI i] (fun _ => True)) := by
  obtain ⟨ch, hR⟩ := hI.1
  have hi := hI.2.2.2.1
  obtain ⟨hiff, L0, hrd⟩ := rd (x := x) hI
  have hM : ∀ V1, MetI l yX4_byteAt cX4_byteAt 3 (some .int) 1 D cy g [.ref am, vI x, vI i] (setp V1 194 (V 194)) _ := fun V1 => c_X4_byteAt l D cy g V1 (V 194) am 194 x i hap hm hI.2.2.1.1 hx hq (fun h1 => by
    obtain ⟨r1, r2, r3, r4, r5, r6, r7, r8, r9, r10, r11, r12, r13⟩ := hrd (hiff.mpr h1)
    rw [← r3, ← r4]
    exact ⟨r7, r8⟩)
  refine MetL.mono (w_L_byteAt l D cy g V a oa cL v x i hap hsf hno (c_X3_byteAt l D cy g V hl a x i hap hsf hR.1 hx hq (fun h => ⟨(hrd h).2.2.2.2.2.1, (hrd h).2.2.2.2.2.2.1, (hrd h).2.2.2.2.2.2.2.1⟩)) (fun E u h => h.1)) ?_
  rintro rc V1 v1 (⟨rfl, r, ⟨hr, hrr, rfl⟩, rfl⟩ | ⟨rfl, ⟨-, rfl, hn⟩, rfl⟩)
  · refine ⟨Or.inl rfl, MetI.at (V := V1) rfl (hM V1) ?_⟩
    rintro rm V3 (⟨hn, -⟩ | ⟨-, hrm, rfl⟩)
    · exact absurd (hiff.mp hr) hn
    · exact ⟨inv_same hI, by rw [setp_at, upw_at], fun _ => ⟨by rw [hrr, hrm, (hrd hr).2.2.1, (hrd hr).2.2.2.1], trivial⟩⟩
  · refine ⟨Or.inr (Or.inl rfl), MetI.at (V := V1) rfl (hM V1) ?_⟩
    rintro rm V3 (⟨hn', -, rfl⟩ | ⟨hr, -⟩)
    · exact ⟨inv_same hI, by rw [setp_at, upw_at], fun h => absurd h (by decide)⟩
    · exact absurd (hiff.mpr hr) hn
theorem o_where (l : Launch) (D : va_G) (cy : ClassId × ClassId) (g : GT) (V : VT) (hl : l.stackTraces = false) (a am oa : Nat) (cL : ClassId) (v : Int64) (k : Int) (hap : Apart g) (hsf : isSf g a) (hm : isMod g am 194) (hno : oa ∉ gL g) (hI : Inv V k) (hk : k < 512) (x i : Int) (hx : rng x) (hq : rng i) : MetL l yL_where cL_where 5 [(0, 10, 13, 19), (0, 10, 17, 13)] D cy g oa cL [.ref a, vI x, vI i, .ref oa] V v (WPo l D cy g k yX4_where cX4_where 4 (some .int) 1 [.ref am, vI x, vI i] (fun _ => True)) := by
  obtain ⟨ch, hR⟩ := hI.1
  have hi := hI.2.2.2.1
  obtain ⟨hiff, L0, hrd⟩ := rd (x := x) hI
  have hM : ∀ V1, MetI l yX4_where cX4_where 4 (some .int) 1 D cy g [.ref am, vI x, vI i] (setp V1 194 (V 194)) _ := fun V1 => c_X4_where l D cy g V1 (V 194) am 194 x i hap hm hI.2.2.1.1 hx hq (fun h1 => by
    obtain ⟨r1, r2, r3, r4, r5, r6, r7, r8, r9, r10, r11, r12, r13⟩ := hrd (hiff.mpr h1)
    rw [← r3, ← r2]
    exact ⟨r6, r7⟩)
  refine MetL.mono (w_L_where l D cy g V a oa cL v x i hap hsf hno (c_X3_where l D cy g V hl a x i hap hsf hR.1 hx hq (fun h => ⟨(hrd h).2.2.2.2.2.1, (hrd h).2.2.2.2.2.2.1, (hrd h).2.2.2.2.2.2.2.1⟩)) (fun E u h => h.2.imp (fun z => z.1) (fun z => z.1))) ?_
  rintro rc V1 v1 (⟨rfl, r, ⟨hr, hv, hrr, rfl⟩, rfl⟩ | ⟨rfl, ⟨rfl, hE⟩, rfl⟩ | ⟨rfl, ⟨rfl, hE⟩, rfl⟩)
  · refine ⟨Or.inl rfl, MetI.at (V := V1) rfl (hM V1) ?_⟩
    rintro rm V3 (⟨hn, -⟩ | ⟨-, hn, -⟩ | ⟨-, -, hrm, rfl⟩)
    · exact absurd (hiff.mp hr) hn
    · omega
    · exact ⟨inv_same hI, by rw [setp_at, upw_at], fun _ => ⟨by rw [hrr, hrm, op_where hI hr], trivial⟩⟩
  · have hn : ¬ isRc V1 x := hE.elim (fun z => z.2) (fun z => absurd z.1 xNI)
    refine ⟨Or.inr (Or.inl rfl), MetI.at (V := V1) rfl (hM V1) ?_⟩
    rintro rm V3 (⟨hn', -, rfl⟩ | ⟨hr, -⟩ | ⟨hr, -⟩)
    · exact ⟨inv_same hI, by rw [setp_at, upw_at], fun h => absurd h (by decide)⟩
    · exact absurd (hiff.mpr hr) hn
    · exact absurd (hiff.mpr hr) hn
  · have hn : isRc V1 x ∧ ¬ (0 ≤ i ∧ i ≤ 3) := hE.elim (fun z => absurd z.1.symm xNI) (fun z => z.2)
    refine ⟨Or.inr (Or.inr rfl), MetI.at (V := V1) rfl (hM V1) ?_⟩
    rintro rm V3 (⟨hr, -⟩ | ⟨-, -, -, rfl⟩ | ⟨-, hv, -⟩)
    · exact absurd (hiff.mp hn.1) hr
    · exact ⟨inv_same hI, by rw [setp_at, upw_at], fun h => absurd h (by decide)⟩
    · exact absurd hv hn.2
theorem o_page (l : Launch) (D : va_G) (cy : ClassId × ClassId) (g : GT) (V : VT) (hl : l.stackTraces = false) (a am oa : Nat) (cL : ClassId) (v : Int64) (k : Int) (hap : Apart g) (hsf : isSf g a) (hm : isMod g am 194) (hno : oa ∉ gL g) (hI : Inv V k) (hk : k < 512) (x i : Int) (hx : rng x) (hq : rng i) : MetL l yL_page cL_page 5 [(0, 10, 13, 13)] D cy g oa cL [.ref a, vI x, vI i, .ref oa] V v (WPo l D cy g k yX4_page cX4_page 3 (some .int) 3 [.ref am, vI x, vI i] (fun _ => True)) := by
  obtain ⟨ch, hR⟩ := hI.1
  have hM : ∀ V1, MetI l yX4_page cX4_page 3 (some .int) 3 D cy g [.ref am, vI x, vI i] (setp V1 194 (V 194)) _ := fun V1 => c_X4_page l D cy g V1 (V 194) am 194 x i hap hm hI.2.2.1.1 hx hq (fun h1 h2 => (MB_inv hI x h1.1 h1.2).2.2.1 h2)
  refine MetL.mono (w_L_page l D cy g V a oa cL v x i hap hsf hno (c_X3_page l D cy g V hl a x i hap hsf hR.1 hx hq) (fun E u h => h.1)) ?_
  rintro rc V1 v1 (⟨rfl, r, ⟨hr, hrr, rfl⟩, rfl⟩ | ⟨rfl, ⟨-, rfl, hn⟩, rfl⟩)
  · refine ⟨Or.inl rfl, MetI.at (V := V1) rfl (hM V1) ?_⟩
    rintro rm V3 (⟨hn, -⟩ | ⟨-, hrm, rfl⟩)
    · exact absurd hr hn
    · exact ⟨inv_same hI, by rw [setp_at, upw_at], fun _ => ⟨by rw [hrr, hrm, page_ans hR hr.1 hr.2], trivial⟩⟩
  · refine ⟨Or.inr (Or.inl rfl), MetI.at (V := V1) rfl (hM V1) ?_⟩
    rintro rm V3 (⟨hn', -, rfl⟩ | ⟨hr, -⟩)
    · exact ⟨inv_same hI, by rw [setp_at, upw_at], fun h => absurd h (by decide)⟩
    · exact absurd hr hn
theorem o_slot (l : Launch) (D : va_G) (cy : ClassId × ClassId) (g : GT) (V : VT) (hl : l.stackTraces = false) (a am oa : Nat) (cL : ClassId) (v : Int64) (k : Int) (hap : Apart g) (hsf : isSf g a) (hm : isMod g am 194) (hno : oa ∉ gL g) (hI : Inv V k) (hk : k < 512) (x i : Int) (hx : rng x) (hq : rng i) : MetL l yL_slot cL_slot 5 [(0, 10, 13, 13)] D cy g oa cL [.ref a, vI x, vI i, .ref oa] V v (WPo l D cy g k yX4_slot cX4_slot 3 (some .int) 2 [.ref am, vI x, vI i] (fun _ => True)) := by
  obtain ⟨ch, hR⟩ := hI.1
  have hM : ∀ V1, MetI l yX4_slot cX4_slot 3 (some .int) 2 D cy g [.ref am, vI x, vI i] (setp V1 194 (V 194)) _ := fun V1 => c_X4_slot l D cy g V1 (V 194) am 194 x i hap hm hI.2.2.1.1 hx hq
  refine MetL.mono (w_L_slot l D cy g V a oa cL v x i hap hsf hno (c_X3_slot l D cy g V hl a x i hap hsf hR.1 hx hq) (fun E u h => h.1)) ?_
  rintro rc V1 v1 (⟨rfl, r, ⟨hr, hrr, rfl⟩, rfl⟩ | ⟨rfl, ⟨-, rfl, hn⟩, rfl⟩)
  · refine ⟨Or.inl rfl, MetI.at (V := V1) rfl (hM V1) ?_⟩
    rintro rm V3 (⟨hn, -⟩ | ⟨-, hrm, rfl⟩)
    · exact absurd hr hn
    · exact ⟨inv_same hI, by rw [setp_at, upw_at], fun _ => ⟨by rw [hrr, hrm, slot_ans hR hr.1 hr.2], trivial⟩⟩
  · refine ⟨Or.inr (Or.inl rfl), MetI.at (V := V1) rfl (hM V1) ?_⟩
    rintro rm V3 (⟨hn', -, rfl⟩ | ⟨hr, -⟩)
    · exact ⟨inv_same hI, by rw [setp_at, upw_at], fun h => absurd h (by decide)⟩
    · exact absurd hr hn
theorem o_total (l : Launch) (D : va_G) (cy : ClassId × ClassId) (g : GT) (V : VT) (hl : l.stackTraces = false) (a am oa : Nat) (cL : ClassId) (v : Int64) (k : Int) (hap : Apart g) (hsf : isSf g a) (hm : isMod g am 194) (hno : oa ∉ gL g) (hI : Inv V k) (hk : k < 512) (x : Int) (hx : rng x) : MetL l yL_total cL_total 4 [(0, 9, 12, 13)] D cy g oa cL [.ref a, vI x, .ref oa] V v (WPo l D cy g k yX4_total cX4_total 2 (some .int) 2 [.ref am, vI x] (fun _ => True)) := by
  obtain ⟨ch, hR⟩ := hI.1
  have hM : ∀ V1, MetI l yX4_total cX4_total 2 (some .int) 2 D cy g [.ref am, vI x] (setp V1 194 (V 194)) _ := fun V1 => c_X4_total l D cy g V1 (V 194) am 194 x hap hm hI.2.2.1.1 hx
  refine MetL.mono (w_L_total l D cy g V a oa cL v x hap hsf hno (c_X3_total l D cy g V hl a x hap hsf hR.1 hx) (fun E u h => h.1)) ?_
  rintro rc V1 v1 (⟨rfl, r, ⟨hr, hrr, rfl⟩, rfl⟩ | ⟨rfl, ⟨-, rfl, hn⟩, rfl⟩)
  · refine ⟨Or.inl rfl, MetI.at (V := V1) rfl (hM V1) ?_⟩
    rintro rm V3 (⟨hn, -⟩ | ⟨-, hrm, rfl⟩)
    · exact absurd hr hn
    · exact ⟨inv_same hI, by rw [setp_at, upw_at], fun _ => ⟨by rw [hrr, hrm, op_total hI hr], trivial⟩⟩
  · refine ⟨Or.inr (Or.inl rfl), MetI.at (V := V1) rfl (hM V1) ?_⟩
    rintro rm V3 (⟨hn', -, rfl⟩ | ⟨hr, -⟩)
    · exact ⟨inv_same hI, by rw [setp_at, upw_at], fun h => absurd h (by decide)⟩
    · exact absurd hr hn
theorem o_crash (l : Launch) (D : va_G) (cy : ClassId × ClassId) (g : GT) (V : VT) (hl : l.stackTraces = false) (a am oa : Nat) (cL : ClassId) (v : Int64) (k : Int) (hap : Apart g) (hsf : isSf g a) (hm : isMod g am 194) (hno : oa ∉ gL g) (hI : Inv V k) (hk : k < 512) (x : Int) (hx : rng x) : MetL l yL_crash cL_crash 4 [(0, 9, 12, 13)] D cy g oa cL [.ref a, vI x, .ref oa] V v (WPo l D cy g k yX4_crash cX4_crash 5 (some .int) 5 [.ref am, vI x] (fun _ => True)) := by
  have hi := hI.2.2.2.1
  have h5 := hI.2.2.1.2.2.1
  obtain ⟨Dh, c1, c2, c3, hH⟩ := crash_c hI x
  refine MetL.mono (w_L_crash l D cy g V a oa cL v x hap hsf hno (c_X3_crash l D cy g V hl a x (fun i U => (0 ≤ x ∧ x ≤ V 192 0 3) ∧ JC V Dh i U) hap hsf hx (by omega) hI.2.2.1.2.2.2 c1 c2 c3) (fun E u h => h.1)) ?_
  rintro rc V1 v1 (⟨rfl, r, ⟨hr, hrr, U, ⟨-, Us, u1, u2, u3, u4⟩, hV1⟩, rfl⟩ | ⟨rfl, ⟨-, rfl, hn⟩, rfl⟩)
  · obtain ⟨m1, m2, m3⟩ := crash_m hI u1 (fun _ j hj => u3 j hj) hH
    have hUo : ∀ o, o < 96 ∨ 192 ≤ o → U o = V o := fun o ho => by rw [← u2]; exact (u4 x.toNat (Nat.le_refl _)).2 o ho
    refine ⟨Or.inl rfl, MetI.at (V := V) (by rw [hV1, crsh_194, hUo 194 (by decide)]) (c_X4_crash l D cy g V1 (V 194) am 194 x (fun i u => (0 ≤ x ∧ x ≤ V 194 0 3) ∧ JM Us (V 194) i u) hap hm hI.2.2.1.1 hx (by omega) h5 m1 m2 m3) ?_⟩
    rintro rm V3 (⟨hn, -⟩ | ⟨-, hrm, u, ⟨-, hJ⟩, rfl⟩)
    · omega
    · exact ⟨by rw [hV1]; exact inv_crash (D := Dh) hI u2 hUo hJ, by rw [setp_at, mSync_7], fun _ => ⟨by rw [hrr, hrm, hi.2.2.2.1], trivial⟩⟩
  · refine ⟨Or.inr (Or.inl rfl), MetI.at (V := V1) rfl (c_X4_crash l D cy g V1 (V1 194) am 194 x (fun _ _ => False) hap hm hI.2.2.1.1 hx (by omega) h5 (fun h => absurd h (by omega)) (fun _ _ h => h.elim) (fun _ _ _ h => h.elim)) ?_⟩
    rintro rm V3 (⟨hn', -, rfl⟩ | ⟨hr, -⟩)
    · exact ⟨inv_same hI, by rw [setp_at, upw_at], fun h => absurd h (by decide)⟩
    · omega
theorem o_length (l : Launch) (D : va_G) (cy : ClassId × ClassId) (g : GT) (V : VT) (a am : Nat) (k : Int) (hap : Apart g) (hsf : isSf g a) (hm : isMod g am 194) (hI : Inv V k) (x : Int) (hx : rng x) : MetI l yX3_length cX3_length 2 (some .int) 2 D cy g [.ref a, vI x] V (WPi l D cy g k yX4_length cX4_length 2 (some .int) 1 [.ref am, vI x]) := by
  obtain ⟨ch, hR⟩ := hI.1
  obtain ⟨hiff, L0, hrd⟩ := rd (x := x) hI
  refine MetI.mono (c_X3_length l D cy g V a x hap hsf hR.1 hx (fun h => ⟨(hrd h).2.2.2.2.2.1, (hrd h).2.2.2.2.2.2.1, (hrd h).2.2.2.2.2.2.2.1⟩)) ?_
  rintro r V1 ⟨h, rfl⟩
  refine MetI.at (V := V1) rfl (c_X4_length l D cy g V1 (V1 194) am 194 x hap hm hI.2.2.1.1 hx) ?_
  rintro rm V3 ⟨hrm, rfl⟩
  refine ⟨inv_same hI, ?_⟩
  rw [hrm]
  rcases h with ⟨hr, e⟩ | ⟨hr, e⟩
  · rw [if_pos (hiff.mp hr), e, (hrd hr).2.2.1]
  · rw [if_neg (fun z => hr (hiff.mpr z)), e]
theorem o_next (l : Launch) (D : va_G) (cy : ClassId × ClassId) (g : GT) (V : VT) (a am : Nat) (k : Int) (hap : Apart g) (hsf : isSf g a) (hm : isMod g am 194) (hI : Inv V k) (x : Int) (hx : rng x) : MetI l yX3_next cX3_next 2 (some .int) 3 D cy g [.ref a, vI x] V (WPi l D cy g k yX4_next cX4_next 3 (some .int) 1 [.ref am, vI x]) := by
  obtain ⟨ch, hR⟩ := hI.1
  refine MetI.mono (c_X3_next l D cy g V a x hap hsf hR.1 hx) ?_
  rintro r V1 ⟨h, rfl⟩
  refine MetI.at (V := V1) rfl (c_X4_next l D cy g V1 (V1 194) am 194 x hap hm hI.2.2.1.1 hx) ?_
  rintro rm V3 ⟨hrm, rfl⟩
  exact ⟨inv_same hI, op_next hI h hrm⟩
theorem o_sync (l : Launch) (D : va_G) (cy : ClassId × ClassId) (g : GT) (V : VT) (a am : Nat) (k : Int) (hap : Apart g) (hsf : isSf g a) (hm : isMod g am 194) (hI : Inv V k) : MetI l yX3_sync cX3_sync 2 (some .int) 4 D cy g [.ref a] V (WPi l D cy g k yX4_sync cX4_sync 2 (some .int) 1 [.ref am]) := by
  have hi := hI.2.2.2.1
  obtain ⟨e, hN⟩ := inv_sync hI
  refine MetI.mono (c_X3_sync l D cy g V a hap hsf) ?_
  rintro r V1 ⟨h, rfl⟩
  refine MetI.at (V := V) e (c_X4_sync l D cy g (sett' V) (V 194) am 194 hap hm) ?_
  rintro rm V3 ⟨hrm, rfl⟩
  exact ⟨hN, by rw [h, hrm, hi.2.2.2.1]⟩
theorem c_thr (l : Launch) (D : va_G) (cy : ClassId × ClassId) (g : GT) (V : VT) (a : Nat) (hap : Apart g) (hm : isMod g a 194) : MetI l yX4_thrown cX4_thrown 1 (some .int) 0 D cy g [.ref a] V (fun r V' => r = V 194 0 7 ∧ V' = V) := by
  refine MetI.at (V := V) rfl (c_X4_thrown l D cy g V (V 194) a 194 hap hm) ?_
  rintro r V' ⟨h1, rfl⟩
  exact ⟨h1, setp_self _ _⟩
theorem lkw_47 : LkW RL 47 yL_insert cL_insert 5 [(0, 10, 13, 13)] 4 := ⟨⟨List.mem_filter.mpr ⟨by decide +kernel, rfl⟩, List.mem_filter.mpr ⟨by decide +kernel, rfl⟩, List.mem_filter.mpr ⟨by decide +kernel, rfl⟩, List.mem_filter.mpr ⟨by decide +kernel, rfl⟩⟩, ⟨by decide +kernel, by decide +kernel, by decide +kernel⟩⟩
theorem lkw_57 : LkW RL 57 yL_update cL_update 6 [(0, 19, 22, 19), (0, 19, 26, 13)] 5 := ⟨⟨List.mem_filter.mpr ⟨by decide +kernel, rfl⟩, List.mem_filter.mpr ⟨by decide +kernel, rfl⟩, List.mem_filter.mpr ⟨by decide +kernel, rfl⟩, List.mem_filter.mpr ⟨by decide +kernel, rfl⟩⟩, ⟨by decide +kernel, by decide +kernel, by decide +kernel⟩⟩
theorem lkw_61 : LkW RL 61 yL_delete cL_delete 4 [(0, 9, 12, 19)] 3 := ⟨⟨List.mem_filter.mpr ⟨by decide +kernel, rfl⟩, List.mem_filter.mpr ⟨by decide +kernel, rfl⟩, List.mem_filter.mpr ⟨by decide +kernel, rfl⟩, List.mem_filter.mpr ⟨by decide +kernel, rfl⟩⟩, ⟨by decide +kernel, by decide +kernel, by decide +kernel⟩⟩
theorem lkw_69 : LkW RL 69 yL_byteAt cL_byteAt 5 [(0, 10, 13, 19)] 4 := ⟨⟨List.mem_filter.mpr ⟨by decide +kernel, rfl⟩, List.mem_filter.mpr ⟨by decide +kernel, rfl⟩, List.mem_filter.mpr ⟨by decide +kernel, rfl⟩, List.mem_filter.mpr ⟨by decide +kernel, rfl⟩⟩, ⟨by decide +kernel, by decide +kernel, by decide +kernel⟩⟩
theorem lkw_72 : LkW RL 72 yL_where cL_where 5 [(0, 10, 13, 19), (0, 10, 17, 13)] 4 := ⟨⟨List.mem_filter.mpr ⟨by decide +kernel, rfl⟩, List.mem_filter.mpr ⟨by decide +kernel, rfl⟩, List.mem_filter.mpr ⟨by decide +kernel, rfl⟩, List.mem_filter.mpr ⟨by decide +kernel, rfl⟩⟩, ⟨by decide +kernel, by decide +kernel, by decide +kernel⟩⟩
theorem lkw_79 : LkW RL 79 yL_page cL_page 5 [(0, 10, 13, 13)] 4 := ⟨⟨List.mem_filter.mpr ⟨by decide +kernel, rfl⟩, List.mem_filter.mpr ⟨by decide +kernel, rfl⟩, List.mem_filter.mpr ⟨by decide +kernel, rfl⟩, List.mem_filter.mpr ⟨by decide +kernel, rfl⟩⟩, ⟨by decide +kernel, by decide +kernel, by decide +kernel⟩⟩
theorem lkw_82 : LkW RL 82 yL_slot cL_slot 5 [(0, 10, 13, 13)] 4 := ⟨⟨List.mem_filter.mpr ⟨by decide +kernel, rfl⟩, List.mem_filter.mpr ⟨by decide +kernel, rfl⟩, List.mem_filter.mpr ⟨by decide +kernel, rfl⟩, List.mem_filter.mpr ⟨by decide +kernel, rfl⟩⟩, ⟨by decide +kernel, by decide +kernel, by decide +kernel⟩⟩
theorem lkw_89 : LkW RL 89 yL_crash cL_crash 4 [(0, 9, 12, 13)] 3 := ⟨⟨List.mem_filter.mpr ⟨by decide +kernel, rfl⟩, List.mem_filter.mpr ⟨by decide +kernel, rfl⟩, List.mem_filter.mpr ⟨by decide +kernel, rfl⟩, List.mem_filter.mpr ⟨by decide +kernel, rfl⟩⟩, ⟨by decide +kernel, by decide +kernel, by decide +kernel⟩⟩
theorem lkw_92 : LkW RL 92 yL_total cL_total 4 [(0, 9, 12, 13)] 3 := ⟨⟨List.mem_filter.mpr ⟨by decide +kernel, rfl⟩, List.mem_filter.mpr ⟨by decide +kernel, rfl⟩, List.mem_filter.mpr ⟨by decide +kernel, rfl⟩, List.mem_filter.mpr ⟨by decide +kernel, rfl⟩⟩, ⟨by decide +kernel, by decide +kernel, by decide +kernel⟩⟩
