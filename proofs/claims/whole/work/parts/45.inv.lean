/-! what a run keeps -/
def Eqv (d d' : Int → Int) : Prop := (∀ j, 0 ≤ j → (j < 192 ∨ 384 ≤ j) → d j = d' j) ∧ ∀ p, 0 ≤ p → p < 96 → d p = 2 → d (192 + p) = d' (192 + p) ∧ d (288 + p) = d' (288 + p)
theorem Eqv.rfl {d : Int → Int} : Eqv d d := ⟨fun _ _ _ => Eq.refl _, fun _ _ _ _ => ⟨Eq.refl _, Eq.refl _⟩⟩
theorem Eqv.trans {d d' d'' : Int → Int} (h : Eqv d d') (h' : Eqv d' d'') : Eqv d d'' := ⟨fun j j1 j2 => (h.1 j j1 j2).trans (h'.1 j j1 j2), fun p p1 p2 hp => by
  have h2 : d' p = 2 := by rw [← h.1 p p1 (by omega)]; exact hp
  exact ⟨(h.2 p p1 p2 hp).1.trans (h'.2 p p1 p2 h2).1, (h.2 p p1 p2 hp).2.trans (h'.2 p p1 p2 h2).2⟩⟩
theorem Eqv.symm {d d' : Int → Int} (h : Eqv d d') : Eqv d' d := ⟨fun j j1 j2 => (h.1 j j1 j2).symm, fun p p1 p2 hp => by
  have h2 : d p = 2 := by rw [h.1 p p1 (by omega)]; exact hp
  exact ⟨(h.2 p p1 p2 h2).1.symm, (h.2 p p1 p2 h2).2.symm⟩⟩
theorem Rel_eqv {V : VT} {b : Int} {d d' : Int → Int} {ch : Int → List Int} (h : Rel V b d ch) (he : Eqv d d') : Rel V b d' ch := by
  obtain ⟨hI, hP, hRR, hN⟩ := h
  refine ⟨hI, fun p p1 p2 => ?_, ?_, hN⟩
  · obtain ⟨⟨q0, q5, q6, q7⟩, qs⟩ := hP p p1 p2
    refine ⟨⟨q0.trans (he.1 p p1 (by omega)), q5.trans (he.1 _ (by omega) (by omega)), fun z => (q6 z).trans (he.2 p p1 p2 (q0.symm.trans z)).1, fun z => (q7 z).trans (he.2 p p1 p2 (q0.symm.trans z)).2⟩, fun s s1 s2 => ?_⟩
    rw [← he.1 _ (by omega) (by omega)]; exact qs s s1 s2
  · exact RR_same hRR (fun _ _ _ _ => rfl) (fun j hj => (he.1 j (by omega) (by omega)).symm) (fun y y1 y2 hy p hp => ⟨((hRR y y1 y2).2.2.2.2.2.1 hy).2.1 p hp, rfl⟩)
/-- a change that failed left the same, but for free pages' chains -/
theorem fail_eqv {V : VT} {b : Int} {u : Int → Int → Int} {ch : Int → List Int} {q : Int} {L : List Int} (h : Rel V b (u 1) ch) (hw : mwf u) (hq : 0 ≤ q ∧ q ≤ 1200) (hf : chP q ≤ cntK (u 1) 0 96) (hL : isCh (mNx (mtN u q (chP q).toNat).1) L (mtN u q (chP q).toNat).2.1) : Eqv (u 1) (mFreeL (mtN u q (chP q).toNat).1 L 1) := by
  have hc := chP_bd hq
  obtain ⟨k1, k2, k3, k4, -⟩ := mt_keep hw hq (chP q).toNat (by omega) (by omega) (chP q).toNat (Nat.le_refl _)
  have hf' : chP q ≤ cntK (kd V b) 0 96 := by rw [← cnt_sim h.2.1]; exact hf
  obtain ⟨a1, a2, -, -, -, -, -, -, L0, l1, l2, l3, -, -⟩ := Rel_tc h hw hq hf'
  obtain ⟨L1, -, m2, m3, -, m5, -, -⟩ := tc_chain (len := q) (SI_swf h.1) (chP q).toNat (by omega) (chP q).toNat (Nat.le_refl _)
  have e1 : L = L0 := isCh_uniq hL l2
  have e2 : L1 = L0 := isCh_uniq m2 l1
  subst e1
  subst e2
  have hr : ∀ p ∈ L1, 0 ≤ p ∧ p < 96 := fun p hp => (l3 p hp).1
  refine ⟨fun j j1 j2 => ?_, fun p p1 p2 hp => ?_⟩
  · by_cases hj : j ∈ L1
    · rw [mFreeL_in hj, ← (h.2.1 j j1 (hr j hj).2).1.1]; exact (l3 j hj).2.1
    · rw [mFreeL_out (Or.inr hj)]
      by_cases h96 : j < 96
      · have e3 := m5 (b + j) (fun p hp e => hj ((show p = j by omega) ▸ hp))
        rw [← (a1.2.1 j j1 h96).1.1, e3, (h.2.1 j j1 h96).1.1]
      · exact (k2 j (by omega)).symm
  · have hp0 : u 1 p ≠ 0 := by omega
    obtain ⟨-, z2, z3⟩ := k3 p p1 p2 hp0
    rw [mFreeL_out (Or.inr (fun z => by have := hr _ z; omega)), mFreeL_out (Or.inr (fun z => by have := hr _ z; omega))]
    exact ⟨z2.symm, z3.symm⟩
theorem fail_ins {V : VT} {b : Int} {u u' : Int → Int → Int} {ch : Int → List Int} {q sd : Int} (h : Rel V b (u 1) ch) (hw : mwf u) (hq : 0 ≤ q ∧ q ≤ 1200) (hM : InsM u q sd (-1) u') : Eqv (u 1) (u' 1) := by
  rcases hM with ⟨-, -, rfl⟩ | ⟨m1, pl, m2, ⟨-, -, L, hL, rfl⟩ | ⟨e, t, -, ht, hr, -⟩⟩
  · exact Eqv.rfl
  · exact fail_eqv h hw hq m1 hL
  · have := (isPlM_ok m2).resolve_left e
    omega
theorem fail_upd {V : VT} {b : Int} {u u' : Int → Int → Int} {ch : Int → List Int} {x q sd : Int} {L0 : List Int} (h : Rel V b (u 1) ch) (hw : mwf u) (hq : 0 ≤ q ∧ q ≤ 1200) (hM : UpdM u x q sd L0 0 u') : Eqv (u 1) (u' 1) := by
  rcases hM with ⟨-, -, rfl⟩ | ⟨m1, v, m2, ⟨e, -⟩ | ⟨-, L, hL, rfl⟩⟩
  · exact Eqv.rfl
  · exact absurd e (by decide)
  · rcases m2 with ⟨-, e, -⟩ | ⟨-, -, -, e, -⟩ | ⟨-, -, pl, -, ⟨-, -, rfl⟩ | ⟨-, e, -⟩⟩
    · exact absurd e (by decide)
    · exact absurd e (by decide)
    · exact fail_eqv h hw hq m1 hL
    · exact absurd e (by decide)
def enc (x n s c0 c1 c2 c3 : Int) : Prop := (x = -1 ∧ c0 = 0 ∧ c2 = n ∧ c3 = s) ∨ (x ≠ -1 ∧ n = -1 ∧ c0 = 2 ∧ c1 = x) ∨ (x ≠ -1 ∧ n ≠ -1 ∧ c0 = 1 ∧ c1 = x ∧ c2 = n ∧ c3 = s)
def HSt (D : Nat → Int → Int) (lg : Int → Int → Int) (mc : Int → Int) (i : Nat) : Prop := (∃ u u' r, Eqv (D i) (u 1) ∧ Eqv (u' 1) (D (i + 1)) ∧ mwf u ∧ MSt (lg 1 i) (lg 2 i) (lg 3 i) r u u') ∧ enc (lg 1 i) (lg 2 i) (lg 3 i) (mc (4 * i)) (mc (4 * i + 1)) (mc (4 * i + 2)) (mc (4 * i + 3))
def Hist (V : VT) : Prop := ∃ D : Nat → Int → Int, Eqv (V 194 2) (D 0) ∧ Eqv (D (V 192 0 3).toNat) (V 194 1) ∧ ∀ i : Nat, (i : Int) < V 192 0 3 → HSt D (V 192) (V 194 3) i
def Inv (V : VT) (k : Int) : Prop :=
  (∃ ch, Rel V 0 (V 194 1) ch) ∧ (∃ ch, Rel V 96 (V 194 2) ch) ∧ (mwf (V 194) ∧ (∀ j, 0 ≤ j → j < 18816 → sm (V 194 2 j)) ∧ (∀ j, 0 ≤ j → j < 16000 → sm (V 194 3 j)) ∧ ∀ j, 0 ≤ j → j < 512 → sm (V 192 1 j) ∧ sm (V 192 2 j)) ∧
  (V 194 0 6 = 0 ∧ V 194 0 4 = sumC V 0 ∧ V 194 0 5 = V 193 0 3 ∧ V 194 0 3 = V 192 0 3 ∧ 0 ≤ V 192 0 3 ∧ V 192 0 3 ≤ k) ∧ Hist V
theorem sumC_out {V V' : VT} {b : Int} (h : ∀ o, b ≤ o → o < b + 96 → V' o = V o) : sumC V' b = sumC V b := sumF_congr (fun i i1 i2 => by rw [h (b + i) (by omega) (by omega)])
theorem MSt_0 {x n s r t j : Int} {u u' : Int → Int → Int} (h : MSt x n s r u u') (ht : t ≠ 1) (hj : t ≠ 0 ∨ j ≠ 4) : u' t j = u t j := by
  rcases h with ⟨-, -, h⟩ | ⟨-, -, -, -, L, -, rfl⟩ | ⟨-, -, -, L, -, h⟩
  · exact InsM_0 h ht hj
  · exact mDel_0 ht
  · exact UpdM_0 h ht hj
/-- nothing but what was thrown -/
theorem inv_same {V : VT} {k v : Int} (h : Inv V k) : Inv (setp V 194 (upw (V 194) 0 7 v)) (k + 1) := by
  obtain ⟨⟨c1, h1⟩, ⟨c2, h2⟩, ⟨h3, h4, h5, h6⟩, ⟨g1, g2, g3, g4, g5, g6⟩, D, d1, d2, d3⟩ := h
  have e1 : setp V 194 (upw (V 194) 0 7 v) 194 = upw (V 194) 0 7 v := setp_at _ _ _
  have e2 : ∀ o, o ≠ 194 → setp V 194 (upw (V 194) 0 7 v) o = V o := fun o ho => setp_ne ho
  have t1 := u7 (V 194) v
  have t2 := u7t (V 194) v 2 (by decide)
  have t3 := u7t (V 194) v 3 (by decide)
  have t0 : ∀ j, j ≠ 7 → upw (V 194) 0 7 v 0 j = V 194 0 j := fun j hj => upw_j hj
  unfold Inv Hist
  rw [sumC_out (V := V) (fun o _ _ => e2 o (by omega)), e1, e2 192 (by decide), e2 193 (by decide), t1, t2, t3, t0 6 (by decide), t0 4 (by decide), t0 5 (by decide), t0 3 (by decide)]
  exact ⟨⟨c1, Rel_out (fun o _ _ => e2 o (by omega)) h1⟩, ⟨c2, Rel_out (fun o _ _ => e2 o (by omega)) h2⟩, ⟨mwf_7 h3 v, h4, h5, h6⟩, ⟨g1, g2, g3, g4, g5, by omega⟩, D, d1, d2, d3⟩
theorem inv_R7 {V : VT} {ch : Int → List Int} {b : Int} (h : Rel V b (V 194 1) ch) : Rel V b ((upw (V 194) 0 7 0) 1) ch := by rw [u7]; exact h
/-- a change that is not noted -/
theorem inv_fail {V V2 : VT} {k x n s r r' : Int} {u' : Int → Int → Int} (h : Inv V k) (hC : CSt 0 x n s r V V2) (hM : MSt x n s r' (upw (V 194) 0 7 0) u') (he : Eqv (V 194 1) (u' 1)) : r = r' ∧ Inv (setp V2 194 u') (k + 1) := by
  obtain ⟨⟨c1, h1⟩, ⟨c2, h2⟩, ⟨h3, h4, h5, h6⟩, ⟨g1, g2, g3, g4, g5, g6⟩, D, d1, d2, d3⟩ := h
  obtain ⟨e0, s1, ⟨ch', s2⟩, s3, δ, s4, s5⟩ := sim_step (inv_R7 h1) (mwf_7 h3 0) hC hM
  refine ⟨e0, ?_⟩
  have m0 := fun t j (ht : t ≠ 1) (hj : t ≠ 0 ∨ j ≠ 4) => MSt_0 hM ht hj
  have e1 : setp V2 194 u' 194 = u' := setp_at _ _ _
  have e2 : ∀ o, o ≠ 194 → setp V2 194 u' o = V2 o := fun o ho => setp_ne ho
  have o1 : ∀ o, 96 ≤ o → V2 o = V o := fun o ho => s3 o (Or.inr (by omega))
  have t2 : u' 2 = V 194 2 := funext fun j => (m0 2 j (by decide) (Or.inl (by decide))).trans (upw_t (by decide))
  have t3 : u' 3 = V 194 3 := funext fun j => (m0 3 j (by decide) (Or.inl (by decide))).trans (upw_t (by decide))
  have t0 : ∀ j, j ≠ 4 → j ≠ 7 → u' 0 j = V 194 0 j := fun j h4 h7 => (m0 0 j (by decide) (Or.inr h4)).trans (upw_j h7)
  have t4 : u' 0 4 = V 194 0 4 + δ := by rw [s5, upw_j (by decide), upw_j (by decide), g1, if_pos rfl]
  unfold Inv Hist
  rw [sumC_out (V := V2) (fun o _ _ => e2 o (by omega)), e1, e2 192 (by decide), e2 193 (by decide), o1 192 (by decide), o1 193 (by decide), t2, t3, t0 6 (by decide) (by decide), t4, t0 5 (by decide) (by decide), t0 3 (by decide) (by decide)]
  exact ⟨⟨ch', Rel_out (fun o _ _ => e2 o (by omega)) s2⟩, ⟨c2, Rel_out (fun o _ _ => (e2 o (by omega)).trans (o1 o (by omega))) h2⟩, ⟨s1, h4, h5, h6⟩, ⟨g1, by rw [s4, g2], g3, g4, g5, by omega⟩, D, d1, d2.trans he, d3⟩
theorem mNote_1 (u : Int → Int → Int) (a b c d : Int) : mNote u a b c d 1 = u 1 := by funext j; unfold mNote; rw [upw_t (by decide), upw_t (by decide), upw_t (by decide), upw_t (by decide), upw_t (by decide)]
theorem mNote_2 (u : Int → Int → Int) (a b c d : Int) : mNote u a b c d 2 = u 2 := by funext j; unfold mNote; rw [upw_t (by decide), upw_t (by decide), upw_t (by decide), upw_t (by decide), upw_t (by decide)]
theorem mNote_0 (u : Int → Int → Int) (a b c d j : Int) (hj : j ≠ 3) : mNote u a b c d 0 j = u 0 j := by unfold mNote; rw [upw_j hj, upw_t (by decide), upw_t (by decide), upw_t (by decide), upw_t (by decide)]
theorem mNote_03 (u : Int → Int → Int) (a b c d : Int) : mNote u a b c d 0 3 = u 0 3 + 1 := by unfold mNote; rw [upw_at]
theorem mNote_3 (u : Int → Int → Int) (a b c d j : Int) : mNote u a b c d 3 j = if j = 4 * u 0 3 then a else if j = 4 * u 0 3 + 1 then b else if j = 4 * u 0 3 + 2 then c else if j = 4 * u 0 3 + 3 then d else u 3 j := by
  unfold mNote
  rw [upw_t (by decide)]
  unfold upw
  by_cases h3 : j = 4 * u 0 3 + 3
  · rw [if_pos ⟨rfl, h3⟩, if_neg (by omega), if_neg (by omega), if_neg (by omega), if_pos h3]
  · rw [if_neg (fun z => h3 z.2)]
    by_cases h2 : j = 4 * u 0 3 + 2
    · rw [if_pos ⟨rfl, h2⟩, if_neg (by omega), if_neg (by omega), if_pos h2]
    · rw [if_neg (fun z => h2 z.2)]
      by_cases h1 : j = 4 * u 0 3 + 1
      · rw [if_pos ⟨rfl, h1⟩, if_neg (by omega), if_pos h1]
      · rw [if_neg (fun z => h1 z.2)]
        by_cases h0 : j = 4 * u 0 3
        · rw [if_pos ⟨rfl, h0⟩, if_pos h0]
        · rw [if_neg (fun z => h0 z.2), if_neg h0, if_neg h1, if_neg h2, if_neg h3]
theorem lAdd_f (w : Int → Int → Int) (x n s : Int) : lAdd w x n s 0 3 = w 0 3 + 1 ∧ (∀ j, lAdd w x n s 1 j = if j = w 0 3 then x else w 1 j) ∧ (∀ j, lAdd w x n s 2 j = if j = w 0 3 then n else w 2 j) ∧ (∀ j, lAdd w x n s 3 j = if j = w 0 3 then s else w 3 j) := by
  unfold lAdd
  refine ⟨upw_at _ _ _ _, fun j => ?_, fun j => ?_, fun j => ?_⟩
  · rw [upw_t (by decide), upw_t (by decide), upw_t (by decide)]; unfold upw; by_cases hj : j = w 0 3
    · rw [if_pos ⟨rfl, hj⟩, if_pos hj]
    · rw [if_neg (fun z => hj z.2), if_neg hj]
  · rw [upw_t (by decide), upw_t (by decide)]; unfold upw; by_cases hj : j = w 0 3
    · rw [if_pos ⟨rfl, hj⟩, if_pos hj]
    · rw [if_neg (fun z => hj z.2), if_neg hj, if_neg (by omega)]
  · rw [upw_t (by decide)]; unfold upw; by_cases hj : j = w 0 3
    · rw [if_pos ⟨rfl, hj⟩, if_pos hj]
    · rw [if_neg (fun z => hj z.2), if_neg hj, if_neg (by omega), if_neg (by omega)]
/-- a change that is noted -/
theorem inv_note {V V2 : VT} {k x n s r r' c0 c1 c2 c3 : Int} {u' : Int → Int → Int} (h : Inv V k) (hk : k < 512) (hC : CSt 0 x n s r V V2) (hM : MSt x n s r' (upw (V 194) 0 7 0) u') (henc : r = r' → enc x n s c0 c1 c2 c3) (hx : sm x) (hn : sm n) (hc : sm c0 ∧ sm c1 ∧ sm c2 ∧ sm c3) : r = r' ∧ Inv (setp (setp V2 192 (lAdd (V2 192) x n s)) 194 (mNote u' c0 c1 c2 c3)) (k + 1) := by
  obtain ⟨⟨ca, h1⟩, ⟨cb, h2⟩, ⟨h3, h4, h5, h6⟩, ⟨g1, g2, g3, g4, g5, g6⟩, D, d1, d2, d3⟩ := h
  obtain ⟨e0, s1, ⟨ch', s2⟩, s3, δ, s4, s5⟩ := sim_step (inv_R7 h1) (mwf_7 h3 0) hC hM
  refine ⟨e0, ?_⟩
  have henc := henc e0
  have m0 := fun t j (ht : t ≠ 1) (hj : t ≠ 0 ∨ j ≠ 4) => MSt_0 hM ht hj
  have o1 : ∀ o, 96 ≤ o → V2 o = V o := fun o ho => s3 o (Or.inr (by omega))
  have t2 : u' 2 = V 194 2 := funext fun j => (m0 2 j (by decide) (Or.inl (by decide))).trans (upw_t (by decide))
  have t3 : u' 3 = V 194 3 := funext fun j => (m0 3 j (by decide) (Or.inl (by decide))).trans (upw_t (by decide))
  have t0 : ∀ j, j ≠ 4 → j ≠ 7 → u' 0 j = V 194 0 j := fun j h4 h7 => (m0 0 j (by decide) (Or.inr h4)).trans (upw_j h7)
  have t4 : u' 0 4 = V 194 0 4 + δ := by rw [s5, upw_j (by decide), upw_j (by decide), g1, if_pos rfl]
  have t03 : u' 0 3 = V 192 0 3 := (t0 3 (by decide) (by decide)).trans g4
  rw [o1 192 (by decide)]
  obtain ⟨l0, l1, l2, l3⟩ := lAdd_f (V 192) x n s
  have n3 := mNote_3 u' c0 c1 c2 c3
  rw [t03, t3] at n3
  have e1 : setp (setp V2 192 (lAdd (V 192) x n s)) 194 (mNote u' c0 c1 c2 c3) 194 = mNote u' c0 c1 c2 c3 := setp_at _ _ _
  have e3 : setp (setp V2 192 (lAdd (V 192) x n s)) 194 (mNote u' c0 c1 c2 c3) 192 = lAdd (V 192) x n s := by rw [setp_ne (by decide), setp_at]
  have e2 : ∀ o, o ≠ 194 → o ≠ 192 → setp (setp V2 192 (lAdd (V 192) x n s)) 194 (mNote u' c0 c1 c2 c3) o = V2 o := fun o ho ho2 => by rw [setp_ne ho, setp_ne ho2]
  unfold Inv Hist
  rw [sumC_out (V := V2) (fun o _ _ => e2 o (by omega) (by omega)), e1, e3, e2 193 (by decide) (by decide), o1 193 (by decide), mNote_1, mNote_2, t2, mNote_0 _ _ _ _ _ 6 (by decide), mNote_0 _ _ _ _ _ 4 (by decide), mNote_0 _ _ _ _ _ 5 (by decide), mNote_03, t0 6 (by decide) (by decide), t4, t0 5 (by decide) (by decide), t03, l0]
  have hM1 := mNote_1 u' c0 c1 c2 c3
  generalize mNote u' c0 c1 c2 c3 = M at *
  generalize lAdd (V 192) x n s = Lg at *
  generalize hN : V 192 0 3 = N at *
  have hNn : (N + 1).toNat = N.toNat + 1 := by omega
  refine ⟨⟨ch', Rel_out (fun o _ _ => e2 o (by omega) (by omega)) s2⟩, ⟨cb, Rel_out (fun o _ _ => (e2 o (by omega) (by omega)).trans (o1 o (by omega))) h2⟩, ⟨fun j j1 j2 => by rw [hM1]; exact s1 j j1 j2, h4, fun j j1 j2 => ?_, fun j j1 j2 => ?_⟩, ⟨g1, by rw [s4, g2], g3, rfl, by omega, by omega⟩, fun i => if i ≤ N.toNat then D i else u' 1, ?_, ?_, fun i hi => ?_⟩
  · rw [n3]
    split
    · exact hc.1
    · split
      · exact hc.2.1
      · split
        · exact hc.2.2.1
        · split
          · exact hc.2.2.2
          · exact h5 j j1 j2
  · rw [l1, l2]
    split
    · exact ⟨hx, hn⟩
    · exact h6 j j1 j2
  · show Eqv (V 194 2) (if 0 ≤ N.toNat then D 0 else u' 1)
    rw [if_pos (Nat.zero_le _)]; exact d1
  · show Eqv (if (N + 1).toNat ≤ N.toNat then D (N + 1).toNat else u' 1) (u' 1)
    rw [if_neg (by omega)]; exact Eqv.rfl
  · unfold HSt
    by_cases hiN : (i : Int) < N
    · obtain ⟨⟨u, v, r9, a1, a2, a3, a4⟩, a5⟩ := d3 i hiN
      rw [l1, l2, l3, if_neg (by omega), if_neg (by omega), if_neg (by omega), n3, n3, n3, n3]
      rw [if_neg (by omega), if_neg (by omega), if_neg (by omega), if_neg (by omega)]
      rw [if_neg (by omega), if_neg (by omega), if_neg (by omega), if_neg (by omega)]
      rw [if_neg (by omega), if_neg (by omega), if_neg (by omega), if_neg (by omega)]
      rw [if_neg (by omega), if_neg (by omega), if_neg (by omega), if_neg (by omega)]
      refine ⟨⟨u, v, r9, ?_, ?_, a3, a4⟩, a5⟩
      · show Eqv (if i ≤ N.toNat then D i else u' 1) (u 1)
        rw [if_pos (by omega)]; exact a1
      · show Eqv (v 1) (if i + 1 ≤ N.toNat then D (i + 1) else u' 1)
        rw [if_pos (by omega)]; exact a2
    · have hie : (i : Int) = N := by omega
      have hin : i = N.toNat := by omega
      rw [l1, l2, l3, if_pos hie, if_pos hie, if_pos hie, n3, n3, n3, n3]
      refine ⟨⟨upw (V 194) 0 7 0, u', r', ?_, ?_, mwf_7 h3 0, hM⟩, ?_⟩
      · show Eqv (if i ≤ N.toNat then D i else u' 1) (upw (V 194) 0 7 0 1)
        rw [if_pos (by omega), hin, u7]; exact d2
      · show Eqv (u' 1) (if i + 1 ≤ N.toNat then D (i + 1) else u' 1)
        rw [if_neg (by omega)]; exact Eqv.rfl
      · rw [if_pos (by omega), if_neg (show ¬ 4 * (i : Int) + 1 = 4 * N by omega), if_pos (show 4 * (i : Int) + 1 = 4 * N + 1 by omega), if_neg (show ¬ 4 * (i : Int) + 2 = 4 * N by omega), if_neg (show ¬ 4 * (i : Int) + 2 = 4 * N + 1 by omega), if_pos (show 4 * (i : Int) + 2 = 4 * N + 2 by omega), if_neg (show ¬ 4 * (i : Int) + 3 = 4 * N by omega), if_neg (show ¬ 4 * (i : Int) + 3 = 4 * N + 1 by omega), if_neg (show ¬ 4 * (i : Int) + 3 = 4 * N + 2 by omega), if_pos (show 4 * (i : Int) + 3 = 4 * N + 3 by omega)]
        exact henc
