theorem mSync_f (w : Int → Int → Int) : mSync w 1 = w 1 ∧ mSync w 2 = w 1 ∧ mSync w 3 = w 3 ∧ mSync w 0 3 = 0 ∧ ∀ j, j ≠ 3 → j ≠ 7 → mSync w 0 j = w 0 j := by
  unfold mSync updt
  refine ⟨funext fun j => ?_, funext fun j => ?_, funext fun j => ?_, upw_at _ _ _ _, fun j h3 h7 => ?_⟩
  · rw [upw_t (by decide), if_neg (by decide), upw_t (by decide)]
  · rw [upw_t (by decide), if_pos rfl, upw_t (by decide)]
  · rw [upw_t (by decide), if_neg (by decide), upw_t (by decide)]
  · rw [upw_j h3, if_neg (by decide), upw_j h7]
theorem up_row (U : VT) (o t j v : Int) : up U o t j v o = upw (U o) t j v := by
  funext a b
  unfold up upw
  by_cases h : a = t ∧ b = j
  · rw [if_pos ⟨rfl, h⟩, if_pos h]
  · rw [if_neg (fun z => h z.2), if_neg h]
theorem up_oth (U : VT) (o t j v o' : Int) (h : o' ≠ o) : up U o t j v o' = U o' := by
  funext a b
  exact up_o h
theorem cpS_out {V : VT} {b b2 o : Int} (h : o < b ∨ b + 96 ≤ o) : cpS V b b2 96 o = V o := by unfold cpS; rw [if_neg (by omega)]
theorem inv_sync {V : VT} {k : Int} (h : Inv V k) : sett' V 194 = V 194 ∧ Inv (setp (sett' V) 194 (mSync (V 194))) (k + 1) := by
  obtain ⟨⟨c1, h1⟩, ⟨c2, h2⟩, ⟨h3, h4, h5, h6⟩, ⟨g1, g2, g3, g4, g5, g6⟩, -⟩ := h
  obtain ⟨f1, f2, f3, f4, f5⟩ := mSync_f (V 194)
  have a1 : ∀ o, o ≠ 192 → sett' V o = cpS V 96 0 96 o := fun o ho => up_oth _ _ _ _ _ _ ho
  have a2 : sett' V 192 = upw (V 192) 0 3 0 := by unfold sett'; rw [up_row, cpS_out (by decide)]
  have a3 : sett' V 194 = V 194 := by rw [a1 194 (by decide), cpS_out (by decide)]
  have a4 : sett' V 193 = V 193 := by rw [a1 193 (by decide), cpS_out (by decide)]
  refine ⟨a3, ?_⟩
  have e1 : setp (sett' V) 194 (mSync (V 194)) 194 = mSync (V 194) := setp_at _ _ _
  have e2 : ∀ o, o ≠ 194 → setp (sett' V) 194 (mSync (V 194)) o = sett' V o := fun o ho => setp_ne ho
  have e3 : ∀ o, o ≠ 194 → o ≠ 192 → setp (sett' V) 194 (mSync (V 194)) o = cpS V 96 0 96 o := fun o ho h2 => (e2 o ho).trans (a1 o h2)
  have e0 : ∀ o, 0 ≤ o → o < 0 + 96 → setp (sett' V) 194 (mSync (V 194)) o = V o := fun o o1 o2 => by rw [e3 o (by omega) (by omega), cpS_out (by omega)]
  unfold Inv Hist
  rw [sumC_out (V := V) e0, e1, e2 192 (by decide), a2, e2 193 (by decide), a4, f1, f2, f3, f4, f5 6 (by decide) (by decide), f5 4 (by decide) (by decide), f5 5 (by decide) (by decide), upw_at]
  refine ⟨⟨c1, Rel_out e0 h1⟩, ⟨c1, Rel_out (fun o o1 o2 => e3 o (by omega) (by omega)) (Rel_cp h1)⟩, ⟨fun j j1 j2 => by rw [f1]; exact h3 j j1 j2, fun j j1 j2 => h3 j j1 j2, h5, fun j j1 j2 => ?_⟩, ⟨g1, g2, g3, rfl, by decide, by omega⟩, fun _ => V 194 1, Eqv.rfl, Eqv.rfl, fun i hi => absurd hi (by omega)⟩
  rw [upw_t (by decide), upw_t (by decide)]; exact h6 j j1 j2
/-! crash -/
def JC (V : VT) (D : Nat → Int → Int) (i : Nat) (U : VT) : Prop := ∃ Us : Nat → VT, Us 0 = V ∧ Us i = U ∧ (∀ j : Nat, j < i → ∃ r, CSt 96 (V 192 1 j) (V 192 2 j) (V 192 3 j) r (Us j) (Us (j + 1))) ∧ ∀ j : Nat, j ≤ i → (∃ ch, Rel (Us j) 96 (D j) ch) ∧ ∀ o, o < 96 ∨ 192 ≤ o → Us j o = V o
theorem JC_step {V U U' : VT} {D : Nat → Int → Int} {i : Nat} {mc : Int → Int} {r : Int} (hJ : JC V D i U) (hH : HSt D (V 192) mc i) (hC : CSt 96 (V 192 1 i) (V 192 2 i) (V 192 3 i) r U U') : JC V D (i + 1) U' := by
  obtain ⟨Us, u1, u2, u3, u4⟩ := hJ
  obtain ⟨⟨u, v, r9, a1, a2, a3, a4⟩, -⟩ := hH
  obtain ⟨⟨ch, b1⟩, b2⟩ := u4 i (Nat.le_refl _)
  rw [u2] at b1 b2
  obtain ⟨-, s1, ⟨ch', s2⟩, s3, -⟩ := sim_step (Rel_eqv b1 a1) a3 hC a4
  have e0 : ∀ j : Nat, j ≤ i → (fun j : Nat => if j ≤ i then Us j else U') j = Us j := fun j hj => if_pos hj
  have e1 : (fun j : Nat => if j ≤ i then Us j else U') (i + 1) = U' := if_neg (by omega)
  refine ⟨fun j => if j ≤ i then Us j else U', (e0 0 (Nat.zero_le _)).trans u1, e1, fun j hj => ?_, fun j hj => ?_⟩
  · by_cases hji : j < i
    · rw [e0 j (by omega), e0 (j + 1) (by omega)]; exact u3 j hji
    · have : j = i := by omega
      subst this
      rw [e0 j (by omega), e1, u2]
      exact ⟨r, hC⟩
  · by_cases hji : j ≤ i
    · rw [e0 j hji]; exact u4 j hji
    · have : j = i + 1 := by omega
      subst this
      rw [e1]
      exact ⟨⟨ch', Rel_eqv s2 a2⟩, fun o ho => (s3 o (by omega)).trans (b2 o ho)⟩
theorem JC_cStep {V U : VT} {D : Nat → Int → Int} {i : Nat} {mc : Int → Int} {P : Prop} (hP : P) (hJ : JC V D i U) (hH : HSt D (V 192) mc i) : cStep (fun i U => P ∧ JC V D i U) 96 (V 192) i U := by
  have hJ0 := hJ
  obtain ⟨Us, u1, u2, u3, u4⟩ := hJ0
  have hH0 := hH
  obtain ⟨⟨u, v, r9, a1, a2, a3, a4⟩, -⟩ := hH0
  obtain ⟨⟨ch, b1⟩, b2⟩ := u4 i (Nat.le_refl _)
  rw [u2] at b1
  have hR := Rel_eqv b1 a1
  refine ⟨fun hx => ?_, fun hx hn => ?_, fun hx hn => ?_⟩
  · rcases a4 with ⟨-, z, -⟩ | ⟨z, -⟩ | ⟨z, -⟩
    · exact ⟨z.1, fun r U' hA => ⟨hP, JC_step hJ hH (Or.inl ⟨hx, hA⟩)⟩⟩
    · exact absurd hx z
    · exact absurd hx z
  · rcases a4 with ⟨z, -⟩ | ⟨-, -, -, z, -⟩ | ⟨-, z, -⟩
    · exact absurd z hx
    · have hro := recOK_of hR z.1 ((isR_iff hR z.1).mp z.2)
      exact ⟨_, hro, fun U' hA => ⟨hP, JC_step hJ hH (Or.inr (Or.inl ⟨hx, hn, rfl, _, hro, hA⟩))⟩⟩
    · exact absurd hn (by have := z.1.1; omega)
  · rcases a4 with ⟨z, -⟩ | ⟨-, z, -⟩ | ⟨-, z1, z, -⟩
    · exact absurd z hx
    · exact absurd z hn
    · have hro := recOK_of hR z.1 ((isR_iff hR z.1).mp z.2)
      exact ⟨z1.1, _, hro, fun r U' hA => ⟨hP, JC_step hJ hH (Or.inr (Or.inr ⟨hx, hn, _, hro, hA⟩))⟩⟩
def JM (Us : Nat → VT) (w : Int → Int → Int) (i : Nat) (u : Int → Int → Int) : Prop := (∃ ch, Rel (Us i) 96 (u 1) ch) ∧ (∀ j, u 3 j = w 3 j) ∧ mwf u ∧ u 0 6 = 1 ∧ u 0 4 = w 0 4 ∧ u 0 5 = w 0 5
theorem JM_step {Us : Nat → VT} {w u u' : Int → Int → Int} {i : Nat} {x n s r r' : Int} (hJ : JM Us w i u) (hC : CSt 96 x n s r (Us i) (Us (i + 1))) (hM : MSt x n s r' u u') : JM Us w (i + 1) u' := by
  obtain ⟨⟨ch, j1⟩, j2, j3, j4, j5, j6⟩ := hJ
  obtain ⟨-, s1, s2, s3, δ, s4, s5⟩ := sim_step j1 j3 hC hM
  refine ⟨s2, fun j => (MSt_0 hM (by decide) (Or.inl (by decide))).trans (j2 j), s1, (MSt_0 hM (by decide) (Or.inr (by decide))).trans j4, ?_, (MSt_0 hM (by decide) (Or.inr (by decide))).trans j6⟩
  rw [s5, if_neg (by omega), j5]; omega
theorem JM_mStep {V : VT} {Us : Nat → VT} {w u : Int → Int → Int} {D : Nat → Int → Int} {i : Nat} {r : Int} {P : Prop} (hP : P) (hJ : JM Us w i u) (hH : HSt D (V 192) (w 3) i) (hC : CSt 96 (V 192 1 i) (V 192 2 i) (V 192 3 i) r (Us i) (Us (i + 1))) : mStep (fun i u => P ∧ JM Us w i u) (w 3) i u := by
  have hJ0 := hJ
  obtain ⟨⟨ch, j1⟩, j2, j3, j4, j5, j6⟩ := hJ0
  obtain ⟨⟨u9, v9, r9, a1, a2, a3, a4⟩, he⟩ := hH
  unfold mStep
  generalize V 192 1 i = x at *
  generalize V 192 2 i = n at *
  generalize V 192 3 i = s at *
  generalize w 3 (4 * i) = c0 at *
  generalize w 3 (4 * i + 1) = c1 at *
  generalize w 3 (4 * i + 2) = c2 at *
  generalize w 3 (4 * i + 3) = c3 at *
  rcases he with ⟨e1, e2, e3, e4⟩ | ⟨e1, e2, e3, e4⟩ | ⟨e1, e2, e3, e4, e5, e6⟩
  · subst e2; subst e3; subst e4
    have hv : vOK c2 c3 := by
      rcases a4 with ⟨-, z, -⟩ | ⟨z, -⟩ | ⟨z, -⟩
      · exact z
      · exact absurd e1 z
      · exact absurd e1 z
    exact ⟨fun _ => ⟨hv.1, mod_ch j1 j3 hv.1, fun r' u' hI => ⟨hP, JM_step hJ hC (Or.inl ⟨e1, hv, hI⟩)⟩⟩, fun z => absurd z (by decide), fun z => absurd rfl z⟩
  · subst e3; subst e4
    have hro : recOK (Us i) 96 c1 (ch (vcel (Us i) 96 c1)) ∧ (0 ≤ c1 ∧ c1 < 3072) ∧ (cK (Us i) 96 c1 = 1 ∨ cK (Us i) 96 c1 = 2) := by
      rcases hC with ⟨z, -⟩ | ⟨-, -, -, L, z, -⟩ | ⟨-, z, -⟩
      · exact absurd z e1
      · exact ⟨recOK_of j1 z.1 z.2.2.1, z.1, z.2.2.1⟩
      · exact absurd e2 z
    obtain ⟨p1, p2, p3, p4, p5, p6⟩ := mod_pre j1 hro.2.1 hro.2.2
    exact ⟨fun z => absurd z (by decide), fun z => absurd z (by decide), fun _ _ => ⟨hro.2.1, p1, _, p5, hP, JM_step hJ hC (Or.inr (Or.inl ⟨e1, e2, rfl, ⟨hro.2.1, (isR_iff j1 hro.2.1).mpr hro.2.2⟩, _, p5, rfl⟩))⟩⟩
  · subst e3; subst e4; subst e5; subst e6
    have hv : vOK c2 c3 := by
      rcases a4 with ⟨z, -⟩ | ⟨-, z, -⟩ | ⟨-, z, -⟩
      · exact absurd z e1
      · exact absurd z e2
      · exact z
    have hro : (0 ≤ c1 ∧ c1 < 3072) ∧ (cK (Us i) 96 c1 = 1 ∨ cK (Us i) 96 c1 = 2) := by
      rcases hC with ⟨z, -⟩ | ⟨-, z, -⟩ | ⟨-, -, L, z, -⟩
      · exact absurd z e1
      · exact absurd z e2
      · exact ⟨z.1, z.2.2.1⟩
    obtain ⟨p1, p2, p3, p4, p5, p6⟩ := mod_pre j1 hro.1 hro.2
    exact ⟨fun z => absurd z (by decide), fun _ => ⟨hv.1, mod_ch j1 j3 hv.1, hro.1, p1, p2, p3, p4, _, p5, p6, fun r' u' hU => ⟨hP, JM_step hJ hC (Or.inr (Or.inr ⟨e1, hv, ⟨hro.1, (isR_iff j1 hro.1).mpr hro.2⟩, _, p5, hU⟩))⟩⟩, fun _ z => absurd rfl z⟩
theorem inv_crash {V U : VT} {k c : Int} {D : Nat → Int → Int} {Us : Nat → VT} {u : Int → Int → Int} (h : Inv V k) (hU : Us c.toNat = U) (hUo : ∀ o, o < 96 ∨ 192 ≤ o → U o = V o) (hJ : JM Us (V 194) c.toNat u) : Inv (setp (crsh U) 194 (mSync (upw (upw u 0 6 0) 0 5 (u 0 5 + 1)))) (k + 1) := by
  obtain ⟨-, -, ⟨h3, h4, h5, h6⟩, ⟨g1, g2, g3, g4, g5, g6⟩, -⟩ := h
  obtain ⟨⟨ch, j1⟩, j2, j3, j4, j5, j6⟩ := hJ
  rw [hU] at j1
  obtain ⟨f1, f2, f3, f4, f5⟩ := mSync_f (upw (upw u 0 6 0) 0 5 (u 0 5 + 1))
  have w1 : (upw (upw u 0 6 0) 0 5 (u 0 5 + 1)) 1 = u 1 := funext fun j => by rw [upw_t (by decide), upw_t (by decide)]
  have w3 : (upw (upw u 0 6 0) 0 5 (u 0 5 + 1)) 3 = V 194 3 := funext fun j => by rw [upw_t (by decide), upw_t (by decide)]; exact j2 j
  have w6 : (upw (upw u 0 6 0) 0 5 (u 0 5 + 1)) 0 6 = 0 := by rw [upw_j (by decide), upw_at]
  have w4 : (upw (upw u 0 6 0) 0 5 (u 0 5 + 1)) 0 4 = u 0 4 := by rw [upw_j (by decide), upw_j (by decide)]
  have w5 : (upw (upw u 0 6 0) 0 5 (u 0 5 + 1)) 0 5 = u 0 5 + 1 := upw_at _ _ _ _
  generalize upw (upw u 0 6 0) 0 5 (u 0 5 + 1) = w at *
  have a0 : ∀ o, o ≠ 192 → o ≠ 193 → crsh U o = cpS U 0 96 96 o := fun o h1 h2 => by unfold crsh; rw [up_oth _ _ _ _ _ _ h2, up_oth _ _ _ _ _ _ h1]
  have a2 : crsh U 192 = upw (V 192) 0 3 0 := by unfold crsh; rw [up_oth _ _ _ _ _ _ (by decide), up_row, cpS_out (by decide), hUo 192 (by decide)]
  have a3 : crsh U 193 0 3 = V 193 0 3 + 1 := by
    unfold crsh
    rw [up_row, upw_at, up_oth _ _ _ _ _ _ (by decide), cpS_out (by decide), hUo 193 (by decide)]
  have e1 : setp (crsh U) 194 (mSync w) 194 = mSync w := setp_at _ _ _
  have e2 : ∀ o, o ≠ 194 → setp (crsh U) 194 (mSync w) o = crsh U o := fun o ho => setp_ne ho
  have e3 : ∀ o, o < 192 → setp (crsh U) 194 (mSync w) o = cpS U 0 96 96 o := fun o ho => by rw [e2 o (by omega), a0 o (by omega) (by omega)]
  have hs : sumC (setp (crsh U) 194 (mSync w)) 0 = sumC V 0 := by
    rw [sumC_out (V := cpS U 0 96 96) (fun o _ _ => e3 o (by omega)), sumC_cp]
    exact sumC_out (fun o _ _ => hUo o (by omega))
  unfold Inv Hist
  rw [hs, e1, e2 192 (by decide), a2, e2 193 (by decide), a3, f1, f2, f3, f4, f5 6 (by decide) (by decide), f5 4 (by decide) (by decide), f5 5 (by decide) (by decide), upw_at, w1, w3, w6, w4, w5]
  refine ⟨⟨ch, Rel_out (fun o _ _ => e3 o (by omega)) (Rel_cp j1)⟩, ⟨ch, Rel_out (fun o o1 o2 => by rw [e3 o (by omega), cpS_out (by omega)]) j1⟩, ⟨fun j q1 q2 => by rw [f1, w1]; exact j3 j q1 q2, fun j q1 q2 => j3 j q1 q2, h5, fun j q1 q2 => ?_⟩, ⟨rfl, j5.trans g2, by omega, rfl, by decide, by omega⟩, fun _ => u 1, Eqv.rfl, Eqv.rfl, fun i hi => absurd hi (by omega)⟩
  rw [upw_t (by decide), upw_t (by decide)]; exact h6 j q1 q2
