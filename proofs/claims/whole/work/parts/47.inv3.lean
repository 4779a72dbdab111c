/-! the start -/
theorem sumF_z {F : Int → Int} {n : Nat} (h : ∀ i : Int, 0 ≤ i → i < n → F i = 0) : sumF F n = 0 := by
  induction n with
  | zero => rfl
  | succ n ih => unfold sumF; rw [ih (fun i i1 i2 => h i i1 (by omega)), h n (by omega) (by omega)]; rfl
theorem pgI_t (t j : Int) (h : t ≠ 0 ∨ j ≠ 6) : pgI t j = 0 := by
  unfold pgI
  rcases h with h | h
  · rw [upw_t h]; rfl
  · rw [upw_j h]; rfl
theorem PI_pgI : PI pgI := by
  have z : ∀ t j, (t ≠ 0 ∨ j ≠ 6) → pgI t j = 0 := pgI_t
  refine ⟨fun s _ _ => ?_, ⟨?_, fun s _ _ => z 1 s (Or.inl (by decide)), fun h => ?_⟩, ?_, ?_, ?_, ⟨?_, fun h => ?_, fun _ => ?_⟩, ?_⟩
  · unfold okc
    rw [z 1 s (Or.inl (by decide)), z 2 s (Or.inl (by decide))]
    exact ⟨by decide, by decide, fun h => absurd h (by decide), fun _ => by decide⟩
  · rw [z 0 1 (Or.inr (by decide))]; decide
  · rw [z 0 1 (Or.inr (by decide))] at h; exact absurd h (by decide)
  · rw [z 0 2 (Or.inr (by decide)), sumF_z (fun i _ _ => by unfold cef; rw [if_pos (z 1 i (Or.inl (by decide)))])]
  · rw [z 0 3 (Or.inr (by decide)), sumF_z (fun i _ _ => by unfold stf; rw [z 1 i (Or.inl (by decide)), if_neg (by decide)])]
  · rw [z 0 4 (Or.inr (by decide)), sumF_z (fun i _ _ => by unfold szf; rw [if_pos (z 1 i (Or.inl (by decide)))])]
  · rw [z 0 0 (Or.inr (by decide))]; decide
  · rw [z 0 0 (Or.inr (by decide))] at h; exact absurd h (by decide)
  · exact ⟨z 0 2 (Or.inr (by decide)), z 0 5 (Or.inr (by decide))⟩
  · rw [z 0 4 (Or.inr (by decide)), z 0 5 (Or.inr (by decide)), z 0 1 (Or.inr (by decide))]; decide
theorem mI1 (j : Int) (hj : 0 ≤ j) (h1 : ¬ (192 ≤ j ∧ j < 288)) (h2 : ¬ (6528 ≤ j ∧ j < 9600)) (h3 : ¬ (15744 ≤ j ∧ j < 18816)) : mI 96 3072 1 j = 0 := by
  unfold mI; rw [if_neg (by omega)]
theorem Rel_init {V : VT} {b : Int} (hV : ∀ p, 0 ≤ p → p < 96 → V (b + p) = pgI) : Rel V b (mI 96 3072 1) (fun _ => []) := by
  have z : ∀ t j, (t ≠ 0 ∨ j ≠ 6) → pgI t j = 0 := pgI_t
  have cz : ∀ x, 0 ≤ x → x < 3072 → cK V b x = 0 := fun x x1 x2 => by
    show V (b + x / 32) 1 (x % 32) = 0
    rw [hV (x / 32) (by omega) (by omega)]; exact z 1 _ (Or.inl (by decide))
  refine ⟨fun p p1 p2 => by rw [hV p p1 p2]; exact PI_pgI, fun p p1 p2 => ?_, fun x x1 x2 => ?_, ?_⟩
  · rw [hV p p1 p2]
    refine ⟨⟨?_, ?_, fun h => ?_, fun h => ?_⟩, fun s s1 s2 => ?_⟩
    · rw [z 0 0 (Or.inr (by decide)), mI1 p p1 (by omega) (by omega) (by omega)]
    · rw [z 0 5 (Or.inr (by decide)), mI1 _ (by omega) (by omega) (by omega) (by omega)]
    · rw [z 0 0 (Or.inr (by decide))] at h; exact absurd h (by decide)
    · rw [z 0 0 (Or.inr (by decide))] at h; exact absurd h (by decide)
    · rw [mI1 _ (by omega) (by omega) (by omega) (by omega)]
      unfold szf; rw [if_pos (z 1 s (Or.inl (by decide)))]
  · have h0 := cz x x1 x2
    refine ⟨fun q => absurd q (by omega), fun q => absurd q (by omega), ?_, fun q => absurd q (by omega), fun q => absurd q (by omega), fun q => absurd q (by omega), fun y _ _ _ q => absurd q (by omega)⟩
    rw [if_neg (by omega), if_neg (by omega)]
    unfold mI; rw [if_pos ⟨rfl, Or.inr (Or.inl (by omega))⟩]
  · have a1 : awN V b = 0 := sumF_z (fun p p1 p2 => sumF_z (fun s s1 s2 => by unfold awf; rw [hV p p1 (by omega), z 1 s (Or.inl (by decide)), if_neg (by decide)]))
    have a2 : stN V b = 0 := sumF_z (fun p p1 p2 => by rw [hV p p1 (by omega)]; exact z 0 3 (Or.inr (by decide)))
    rw [a1, a2]
theorem inv_start : Inv (setp VI 194 mInit) 0 := by
  have v0 : ∀ o, 0 ≤ o → o < 192 → setp VI 194 mInit o = pgI := by
    intro o o1 o2
    rw [setp_ne (by omega)]
    unfold VI stI
    by_cases h : 96 ≤ o ∧ o < 96 + 96
    · rw [if_pos h]
    · rw [if_neg h, if_pos (by omega)]
  have v1 : setp VI 194 mInit 194 = mInit := setp_at _ _ _
  have v2 : ∀ o, 192 ≤ o → o ≠ 194 → setp VI 194 mInit o = z0 := by
    intro o o1 o2
    rw [setp_ne o2]
    unfold VI stI
    rw [if_neg (by omega), if_neg (by omega)]; rfl
  have m1 : mInit 1 = mI 96 3072 1 := by funext j; unfold mInit updt; rw [if_neg (by decide)]
  have m2 : mInit 2 = mI 96 3072 1 := by funext j; unfold mInit updt; rw [if_pos rfl]
  have m3 : mInit 3 = fun _ => 0 := by funext j; unfold mInit updt mI; rw [if_neg (by decide), if_neg (fun h => absurd h.1 (by decide))]
  have m0 : ∀ j, mInit 0 j = 0 := by intro j; unfold mInit updt mI; rw [if_neg (by decide), if_neg (fun h => absurd h.1 (by decide))]
  have hsm : ∀ j, sm (mI 96 3072 1 j) := by intro j; unfold mI sm; split <;> decide
  have hz : sm 0 := ⟨by decide, by decide⟩
  have hs : sumC (setp VI 194 mInit) 0 = 0 := sumF_z (fun i i1 i2 => by rw [v0 (0 + i) (by omega) (by omega)]; exact pgI_t 0 8 (Or.inr (by decide)))
  unfold Inv Hist
  rw [hs, v1, v2 192 (by decide) (by decide), v2 193 (by decide) (by decide), m1, m2, m3, m0, m0, m0, m0]
  exact ⟨⟨_, Rel_init (fun p p1 p2 => v0 _ (by omega) (by omega))⟩, ⟨_, Rel_init (fun p p1 p2 => v0 _ (by omega) (by omega))⟩, ⟨fun j _ _ => by rw [m1]; exact hsm j, fun j _ _ => hsm j, fun j _ _ => hz, fun j _ _ => ⟨hz, hz⟩⟩, ⟨rfl, rfl, rfl, rfl, by decide, by decide⟩, fun _ => mI 96 3072 1, Eqv.rfl, Eqv.rfl, fun i hi => absurd hi (show ¬ ((i : Int) < 0) by omega)⟩
/-! the calls, class beside model -/
theorem rd {V : VT} {k x : Int} (h : Inv V k) : (isRc V x ↔ ((0 ≤ x ∧ x < 3072) ∧ V 194 1 (6528 + x) ≠ -1)) ∧ ∃ L0, (isRc V x → recOK V 0 x L0 ∧ vcel V 0 x = V 194 1 (6528 + x) ∧ cLen V x = V 194 1 (9600 + x) ∧ cSd V x = V 194 1 (12672 + x) ∧ cChn V x = V 194 1 (15744 + x) ∧ (0 ≤ vcel V 0 x ∧ vcel V 0 x < 3072) ∧ (0 ≤ cLen V x ∧ cLen V x ≤ 1200) ∧ (0 ≤ cSd V x ∧ cSd V x ≤ 255) ∧ V 194 1 (x / 32) = 1 ∧ V 194 1 (V 194 1 (6528 + x) / 32) = 1 ∧ (V 194 1 (6528 + x) = x ∨ V 194 1 (6528 + x) / 32 ≠ x / 32) ∧ isCh (mNx (V 194)) L0 (V 194 1 (15744 + x)) ∧ ∀ p ∈ L0, V 194 1 p = 2) := by
  obtain ⟨⟨ch, h1⟩, -⟩ := h
  refine ⟨⟨fun hr => ⟨⟨hr.1, hr.2.1⟩, (isR_iff h1 ⟨hr.1, hr.2.1⟩).mpr hr.2.2⟩, fun hr => ⟨hr.1.1, hr.1.2, (isR_iff h1 hr.1).mp hr.2⟩⟩, ch (vcel V 0 x), fun hr => ?_⟩
  have hx : 0 ≤ x ∧ x < 3072 := ⟨hr.1, hr.2.1⟩
  obtain ⟨c1, c2, c3, c4, c5, c6, c7, c8⟩ := rec_cell h1 hx hr.2.2
  obtain ⟨b1, b2, b3⟩ := val_bd h1 hx hr.2.2
  obtain ⟨p1, p2, p3, p4, p5, p6⟩ := mod_pre (w := V 194) h1 hx hr.2.2
  exact ⟨recOK_of h1 hx hr.2.2, c2.symm, c5.symm, c6.symm, c4.symm, c1, b1, b2, p2, p3, p4, p5, p6⟩
theorem MB_inv {V : VT} {k : Int} (h : Inv V k) : MB (V 194) := by
  obtain ⟨⟨ch, h1⟩, -⟩ := h
  exact MB_of (w := V 194) h1.1 h1.2.1
theorem MB7 {w : Int → Int → Int} {v : Int} (h : MB w) : MB (upw w 0 7 v) := by
  intro p p1 p2
  obtain ⟨a1, a2, a3, a4⟩ := h p p1 p2
  obtain ⟨e1, e2, e3, e4⟩ := p7 w v p
  rw [e2, e4, u7]
  exact ⟨a1, a2, a3, fun s s1 s2 => by unfold mSz; rw [u7]; exact a4 s s1 s2⟩
theorem ch_inv {V : VT} {k q : Int} (h : Inv V k) (hq : 0 ≤ q ∧ q ≤ 1200) : chP q ≤ cntK ((upw (V 194) 0 7 0) 1) 0 96 → ∃ L, isCh (mNx (mtN (upw (V 194) 0 7 0) q (chP q).toNat).1) L (mtN (upw (V 194) 0 7 0) q (chP q).toNat).2.1 := by
  obtain ⟨⟨ch, h1⟩, -, ⟨h3, -⟩, -⟩ := h
  exact mod_ch (inv_R7 h1) (mwf_7 h3 0) hq
theorem op_insert {V V2 : VT} {k q sd r rm : Int} {u : Int → Int → Int} (h : Inv V k) (hk : k < 512) (hv : vOK q sd) (hA : AddP V 0 q sd r V2) (hM : InsM (upw (V 194) 0 7 0) q sd rm u) : r = rm ∧ Inv (setp (if r = -1 then V2 else setp V2 192 (lAdd (V2 192) (-1) q sd)) 194 (if rm = -1 then u else mNote u 0 rm q sd)) (k + 1) ∧ (if rm = -1 then u else mNote u 0 rm q sd) 0 7 = 0 := by
  have hC : CSt 0 (-1) q sd r V V2 := Or.inl ⟨rfl, hA⟩
  have hS : MSt (-1) q sd rm (upw (V 194) 0 7 0) u := Or.inl ⟨rfl, hv, hM⟩
  have h7 : u 0 7 = 0 := (MSt_0 hS (by decide) (Or.inr (by decide))).trans (upw_at _ _ _ _)
  have hI := h.1
  obtain ⟨ch, h1⟩ := hI
  have hrr := AddP_r h1.1 hv.1 hA
  have hvv := hv
  unfold vOK at hvv
  obtain ⟨e0, s1⟩ := inv_note (c0 := 0) (c1 := rm) (c2 := q) (c3 := sd) h hk hC hS (fun _ => Or.inl ⟨rfl, rfl, rfl, rfl⟩) (by unfold sm; omega) (by unfold sm; omega) (by
    have e9 := (sim_step (inv_R7 h1) (mwf_7 h.2.2.1.1 0) hC hS).1
    unfold sm; omega)
  subst e0
  refine ⟨rfl, ?_, ?_⟩
  · by_cases hr : r = -1
    · rw [if_pos hr, if_pos hr]
      subst hr
      exact (inv_fail h hC hS (by have := fail_ins (inv_R7 h1) (mwf_7 h.2.2.1.1 0) hv.1 hM; rw [u7] at this; exact this)).2
    · rw [if_neg hr, if_neg hr]; exact s1
  · by_cases hr : r = -1
    · rw [if_pos hr]; exact h7
    · rw [if_neg hr, mNote_0 _ _ _ _ _ _ (by decide)]; exact h7
theorem op_update {V V2 : VT} {k x q sd r rm : Int} {L0 L0' : List Int} {u : Int → Int → Int} (h : Inv V k) (hk : k < 512) (hr : isRc V x) (hv : vOK q sd) (hR : recOK V 0 x L0) (hA : ChgP V 0 x q sd L0 r V2) (hL : isCh (mNx (V 194)) L0' (V 194 1 (15744 + x))) (hM : UpdM (upw (V 194) 0 7 0) x q sd L0' rm u) : r = rm ∧ Inv (setp (if r = 0 then V2 else setp V2 192 (lAdd (V2 192) x q sd)) 194 (if rm = 0 then u else mNote u 1 x q sd)) (k + 1) ∧ (if rm = 0 then u else mNote u 1 x q sd) 0 7 = 0 := by
  have hvv := hv
  unfold vOK at hvv
  have hx := hr.1
  have hx2 := hr.2.1
  have hC : CSt 0 x q sd r V V2 := Or.inr (Or.inr ⟨by omega, by omega, L0, hR, hA⟩)
  have hL' : isCh (mNx (upw (V 194) 0 7 0)) L0' ((upw (V 194) 0 7 0) 1 (15744 + x)) := by
    have e : mNx (upw (V 194) 0 7 0) = mNx (V 194) := by funext i; show (upw (V 194) 0 7 0) 1 (192 + i) = _; rw [u7]
    rw [e, u7]; exact hL
  have hmr : mIsR (upw (V 194) 0 7 0) x := ⟨⟨hx, hx2⟩, by rw [u7]; exact ((rd h).1.mp hr).2⟩
  have hS : MSt x q sd rm (upw (V 194) 0 7 0) u := Or.inr (Or.inr ⟨by omega, hv, hmr, L0', hL', hM⟩)
  have h7 : u 0 7 = 0 := (MSt_0 hS (by decide) (Or.inr (by decide))).trans (upw_at _ _ _ _)
  have hI := h.1
  obtain ⟨ch, h1⟩ := hI
  obtain ⟨e0, s1⟩ := inv_note (c0 := 1) (c1 := x) (c2 := q) (c3 := sd) h hk hC hS (fun _ => Or.inr (Or.inr ⟨by omega, by omega, rfl, rfl, rfl, rfl⟩)) (by unfold sm; omega) (by unfold sm; omega) (by unfold sm; omega)
  subst e0
  refine ⟨rfl, ?_, ?_⟩
  · by_cases hr0 : r = 0
    · rw [if_pos hr0, if_pos hr0]
      subst hr0
      exact (inv_fail h hC hS (by have := fail_upd (inv_R7 h1) (mwf_7 h.2.2.1.1 0) hv.1 hM; rw [u7] at this; exact this)).2
    · rw [if_neg hr0, if_neg hr0]; exact s1
  · by_cases hr0 : r = 0
    · rw [if_pos hr0]; exact h7
    · rw [if_neg hr0, mNote_0 _ _ _ _ _ _ (by decide)]; exact h7
theorem op_delete {V V2 : VT} {k x : Int} {L0 L0' : List Int} (h : Inv V k) (hk : k < 512) (hr : isRc V x) (hR : recOK V 0 x L0) (hA : RemP V 0 x L0 V2) (hL : isCh (mNx (V 194)) L0' (V 194 1 (15744 + x))) : Inv (setp (setp V2 192 (lAdd (V2 192) x (-1) (-1))) 194 (mNote (mDel (upw (V 194) 0 7 0) x L0') 2 x 0 0)) (k + 1) ∧ mNote (mDel (upw (V 194) 0 7 0) x L0') 2 x 0 0 0 7 = 0 := by
  have hx := hr.1
  have hx2 := hr.2.1
  have hC : CSt 0 x (-1) (-1) 0 V V2 := Or.inr (Or.inl ⟨by omega, rfl, rfl, L0, hR, hA⟩)
  have hL' : isCh (mNx (upw (V 194) 0 7 0)) L0' ((upw (V 194) 0 7 0) 1 (15744 + x)) := by
    have e : mNx (upw (V 194) 0 7 0) = mNx (V 194) := by funext i; show (upw (V 194) 0 7 0) 1 (192 + i) = _; rw [u7]
    rw [e, u7]; exact hL
  have hmr : mIsR (upw (V 194) 0 7 0) x := ⟨⟨hx, hx2⟩, by rw [u7]; exact ((rd h).1.mp hr).2⟩
  have hS : MSt x (-1) (-1) 0 (upw (V 194) 0 7 0) (mDel (upw (V 194) 0 7 0) x L0') := Or.inr (Or.inl ⟨by omega, rfl, rfl, hmr, L0', hL', rfl⟩)
  have h7 : mDel (upw (V 194) 0 7 0) x L0' 0 7 = 0 := (mDel_0 (by decide)).trans (upw_at _ _ _ _)
  refine ⟨(inv_note (c0 := 2) (c1 := x) (c2 := 0) (c3 := 0) h hk hC hS (fun _ => Or.inr (Or.inl ⟨by omega, rfl, rfl, rfl⟩)) (by unfold sm; omega) (by unfold sm; omega) (by unfold sm; omega)).2, ?_⟩
  rw [mNote_0 _ _ _ _ _ _ (by decide)]; exact h7
theorem op_total {V : VT} {k c : Int} (h : Inv V k) (hc : 0 ≤ c ∧ c ≤ 7) : cTotal V c = mTotal (V 194) c := by
  obtain ⟨⟨ch, h1⟩, -, -, ⟨g1, g2, g3, g4, g5, g6⟩, -⟩ := h
  have hk : ∀ c, cntK (kd V 0) c 96 = cntK (V 194 1) c 96 := fun c => cntK_congr (fun i i1 i2 => (h1.2.1 i i1 (by omega)).1.1)
  have e0 := rec_sum (w := V 194) h1 3072 rfl
  have e4 := stub_sum (w := V 194) h1 3072 rfl
  unfold sumC at g2
  unfold cTotal mTotal
  rw [hk, hk, hk, e0, e4, g2, g3, g4]
theorem op_where {V : VT} {k x c : Int} (h : Inv V k) (hr : isRc V x) : cWhere V x c = mWhere (V 194) x c := by
  obtain ⟨-, L0, r⟩ := rd (x := x) h
  obtain ⟨-, r1, r2, r3, r4, -⟩ := r hr
  unfold cWhere mWhere
  rw [r1, r2, r4]
theorem op_next {V : VT} {k x r rm : Int} (h : Inv V k) (hC : (¬ x < 3072 ∧ r = -1) ∨ (x < 3072 ∧ ((r = -1 ∧ ∀ j, (if x < -1 then -1 else x) + 1 ≤ j → j < 3072 → ¬ isRec V 0 j) ∨ ((if x < -1 then -1 else x) + 1 ≤ r ∧ r < 3072 ∧ isRec V 0 r ∧ ∀ j, (if x < -1 then -1 else x) + 1 ≤ j → j < r → ¬ isRec V 0 j)))) (hM : (rm = -1 ∧ ∀ j, 0 ≤ j → j < 3072 → x < j → ¬ V 194 1 (6528 + j) ≠ -1) ∨ ((0 ≤ rm ∧ rm < 3072) ∧ x < rm ∧ V 194 1 (6528 + rm) ≠ -1 ∧ ∀ j, 0 ≤ j → j < rm → x < j → ¬ V 194 1 (6528 + j) ≠ -1)) : r = rm := by
  obtain ⟨⟨ch, h1⟩, -⟩ := h
  have hi : ∀ j, 0 ≤ j → j < 3072 → (V 194 1 (6528 + j) ≠ -1 ↔ isRec V 0 j) := fun j j1 j2 => isR_iff h1 ⟨j1, j2⟩
  have hm : ∀ j, ((if x < -1 then -1 else x) + 1 ≤ j ↔ (0 ≤ j ∧ x < j)) := by intro j; split <;> omega
  simp only [hm] at hC
  rcases hM with ⟨m1, m2⟩ | ⟨m1, m2, m3, m4⟩ <;> rcases hC with ⟨c1, c2⟩ | ⟨c1, ⟨c2, c3⟩ | ⟨c2, c3, c4, c5⟩⟩
  · omega
  · omega
  · exact absurd ((hi r c2.1 c3).mpr c4) (m2 r c2.1 c3 c2.2)
  · omega
  · exact absurd ((hi rm m1.1 m1.2).mp m3) (c3 rm ⟨m1.1, m2⟩ m1.2)
  · rcases Int.lt_trichotomy r rm with z | z | z
    · exact absurd ((hi r c2.1 c3).mpr c4) (m4 r c2.1 z c2.2)
    · exact z
    · exact absurd ((hi rm m1.1 m1.2).mp m3) (c5 rm ⟨m1.1, m2⟩ z)
theorem out_ins {V V2 : VT} {q sd r : Int} (hI : SI V 0) (hq : 0 ≤ q ∧ q ≤ 1200) (hA : AddP V 0 q sd r V2) : (if r = -1 then V2 else setp V2 192 (lAdd (V2 192) (-1) q sd)) 194 = V 194 := by
  have e := AddP_out hI hq hA 194 (by decide)
  split
  · exact e
  · rw [setp_ne (by decide)]; exact e
theorem out_upd {V V2 : VT} {x q sd r : Int} {L0 : List Int} (hI : SI V 0) (hq : 0 ≤ q ∧ q ≤ 1200) (hR : recOK V 0 x L0) (hA : ChgP V 0 x q sd L0 r V2) : (if r = 0 then V2 else setp V2 192 (lAdd (V2 192) x q sd)) 194 = V 194 := by
  have e := ChgP_out hI hq hR hA 194 (by decide)
  split
  · exact e
  · rw [setp_ne (by decide)]; exact e
theorem out_del {V V2 : VT} {x : Int} {L0 : List Int} (hR : recOK V 0 x L0) (hA : RemP V 0 x L0 V2) : (setp V2 192 (lAdd (V2 192) x (-1) (-1))) 194 = V 194 := by
  rw [setp_ne (by decide)]; exact RemP_out hR hA 194 (by decide)
