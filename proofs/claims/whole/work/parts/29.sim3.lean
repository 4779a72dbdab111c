theorem isCh_uniq {N : Int → Int} {L L' : List Int} {f : Int} (h : isCh N L f) (h' : isCh N L' f) : L = L' := by
  induction L generalizing L' f with
  | nil =>
    cases L' with
    | nil => rfl
    | cons p L' => have e : f = -1 := h; obtain ⟨e1, e2, -⟩ := h'; omega
  | cons p L ih =>
    cases L' with
    | nil => have e : f = -1 := h'; obtain ⟨e1, e2, -⟩ := h; omega
    | cons p' L' =>
      obtain ⟨e1, e2, e3⟩ := h
      obtain ⟨e1', e2', e3'⟩ := h'
      have hp : p = p' := e1.symm.trans e1'
      subst hp
      rw [ih e3 e3']
theorem lfn_congr {K K' : Int → Int} {n : Nat} (h : ∀ i : Int, 0 ≤ i → i < n → K i = K' i) : lfn K n = lfn K' n := by
  induction n with
  | zero => rfl
  | succ n ih => unfold lfn; rw [ih (fun i h1 h2 => h i h1 (by omega)), h n (by omega) (by omega)]
theorem tc_same {b : Int} {V : VT} {len : Int} (hw : swf V b) (m : Nat) (hm : (m : Int) ≤ cntK (kd V b) 0 96) (o t j : Int) (h : t ≠ 0 ∨ (j ≠ 0 ∧ j ≠ 6 ∧ j ≠ 7)) : (tcN b V len m).1 o t j = V o t j := by
  obtain ⟨L, l1, l2, l3, l4, l5, l6, -⟩ := tc_chain (len := len) hw m hm m (Nat.le_refl _)
  by_cases ho : ∃ p ∈ L, o = b + p
  · obtain ⟨p, hp, rfl⟩ := ho
    exact l6 p hp t j h
  · rw [l5 o (fun p hp e => ho ⟨p, hp, e⟩)]
theorem tc_sim {b : Int} {V : VT} {w : Int → Int → Int} {q : Int} (hw : swf V b) (hw2 : mwf w) (hq : 0 ≤ q ∧ q ≤ 1200) (hk : ∀ p, 0 ≤ p → p < 96 → kd V b p = w 1 p ∧ (kd V b p = 2 → nx V b p = w 1 (192 + p)) ∧ (kd V b p = 2 → V (b + p) 0 7 = w 1 (288 + p))) (m : Nat) (hm5 : m ≤ 5) (hm : (m : Int) ≤ cntK (kd V b) 0 96) : ∀ k : Nat, k ≤ m →
    (∀ p, 0 ≤ p → p < 96 → kd (tcN b V q k).1 b p = (mtN w q k).1 1 p ∧ (kd (tcN b V q k).1 b p = 2 → nx (tcN b V q k).1 b p = (mtN w q k).1 1 (192 + p)) ∧ (kd (tcN b V q k).1 b p = 2 → (tcN b V q k).1 (b + p) 0 7 = (mtN w q k).1 1 (288 + p))) ∧ (tcN b V q k).2.1 = (mtN w q k).2.1 ∧ (tcN b V q k).2.2.1 = (mtN w q k).2.2 := by
  intro k
  induction k with
  | zero => intro _; exact ⟨hk, rfl, rfl⟩
  | succ k ih =>
    intro hk1
    obtain ⟨j1, j2, j3⟩ := ih (by omega)
    obtain ⟨i1, i2, i3, i4, i5⟩ := tc_inv (len := q) hw m hm k (by omega)
    have hpos : 0 < cntK (kd (tcN b V q k).1 b) 0 96 := by rw [i4]; omega
    obtain ⟨f, f1, f2, f3⟩ := cntK_pos hpos
    have hl := lfr_LF (kd (tcN b V q k).1 b)
    have hlf : lfr ((mtN w q k).1 1) = lfr (kd (tcN b V q k).1 b) := lfn_congr (n := 96) (fun i q1 q2 => ((j1 i q1 (by omega)).1).symm)
    have hst : tcN b V q (k + 1) = tcStep b (tcN b V q k) := rfl
    have hst2 : mtN w q (k + 1) = mtStep q k (mtN w q k) := rfl
    rw [hst, hst2]
    generalize tcN b V q k = T at *
    generalize mtN w q k = S at *
    generalize hr : lfr (kd T.1 b) = r at *
    rcases hl with ⟨-, kk⟩ | ⟨k1, k2, k3, k4⟩
    · exact absurd f3 (kk f f1 (by omega))
    · have hlast : T.2.2.1 < r := by
        by_cases hz : T.2.2.1 < r
        · exact hz
        · exact absurd k3 (i3 r k1 (by omega))
      have hby : (if 240 < T.2.2.2 then 240 else T.2.2.2) = (if q - 240 * (k : Int) < 240 then q - 240 * k else 240) := by rw [i5]; split <;> split <;> omega
      unfold tcStep mtStep
      rw [hr, hlf, hby, ← j3]
      generalize (if q - 240 * (k : Int) < 240 then q - 240 * k else 240) = y
      by_cases hl1 : T.2.2.1 = -1
      · rw [if_pos hl1, if_pos hl1]
        refine ⟨fun p p1 p2 => ?_, rfl, rfl⟩
        obtain ⟨a1, a2, a3⟩ := j1 p p1 p2
        show kd (setp T.1 (b + r) (pChain (T.1 (b + r)) y)) b p = upw (upw (upw S.1 1 r 2) 1 (192 + r) (-1)) 1 (288 + r) y 1 p ∧ (kd (setp T.1 (b + r) (pChain (T.1 (b + r)) y)) b p = 2 → nx (setp T.1 (b + r) (pChain (T.1 (b + r)) y)) b p = upw (upw (upw S.1 1 r 2) 1 (192 + r) (-1)) 1 (288 + r) y 1 (192 + p)) ∧ (kd (setp T.1 (b + r) (pChain (T.1 (b + r)) y)) b p = 2 → setp T.1 (b + r) (pChain (T.1 (b + r)) y) (b + p) 0 7 = upw (upw (upw S.1 1 r 2) 1 (192 + r) (-1)) 1 (288 + r) y 1 (288 + p))
        by_cases hp : p = r
        · subst hp
          refine ⟨?_, ?_, ?_⟩
          · rw [upw_j (by omega), upw_j (by omega), upw_at]; simp [kd, setp_at, pChain, upw]
          · intro _; rw [upw_j (by omega), upw_at]; simp [nx, setp_at, pChain, upw]
          · intro _; rw [upw_at]; simp [setp_at, pChain, upw]
        · refine ⟨?_, ?_, ?_⟩
          · rw [upw_j (by omega), upw_j (by omega), upw_j (by omega)]; simp only [kd]; rw [setp_ne (by omega)]; exact a1
          · intro hz2
            have hk2 : kd T.1 b p = 2 := by simp only [kd] at hz2 ⊢; rw [setp_ne (by omega)] at hz2; exact hz2
            rw [upw_j (by omega), upw_j (by omega), upw_j (by omega)]; simp only [nx]; rw [setp_ne (by omega)]; exact a2 hk2
          · intro hz2
            have hk2 : kd T.1 b p = 2 := by simp only [kd] at hz2 ⊢; rw [setp_ne (by omega)] at hz2; exact hz2
            rw [upw_j (by omega), upw_j (by omega), upw_j (by omega), setp_ne (by omega)]; exact a3 hk2
      · rw [if_neg hl1, if_neg hl1]
        refine ⟨fun p p1 p2 => ?_, j2, rfl⟩
        obtain ⟨a1, a2, a3⟩ := j1 p p1 p2
        show kd (up (setp T.1 (b + r) (pChain (T.1 (b + r)) y)) (b + T.2.2.1) 0 6 r) b p = upw (upw (upw (upw S.1 1 r 2) 1 (192 + r) (-1)) 1 (288 + r) y) 1 (192 + T.2.2.1) r 1 p ∧ (kd (up (setp T.1 (b + r) (pChain (T.1 (b + r)) y)) (b + T.2.2.1) 0 6 r) b p = 2 → nx (up (setp T.1 (b + r) (pChain (T.1 (b + r)) y)) (b + T.2.2.1) 0 6 r) b p = upw (upw (upw (upw S.1 1 r 2) 1 (192 + r) (-1)) 1 (288 + r) y) 1 (192 + T.2.2.1) r 1 (192 + p)) ∧ (kd (up (setp T.1 (b + r) (pChain (T.1 (b + r)) y)) (b + T.2.2.1) 0 6 r) b p = 2 → up (setp T.1 (b + r) (pChain (T.1 (b + r)) y)) (b + T.2.2.1) 0 6 r (b + p) 0 7 = upw (upw (upw (upw S.1 1 r 2) 1 (192 + r) (-1)) 1 (288 + r) y) 1 (192 + T.2.2.1) r 1 (288 + p))
        have hu0 : ∀ j, j ≠ 6 → up (setp T.1 (b + r) (pChain (T.1 (b + r)) y)) (b + T.2.2.1) 0 6 r (b + p) 0 j = setp T.1 (b + r) (pChain (T.1 (b + r)) y) (b + p) 0 j := fun j hj => up_j hj
        by_cases hp : p = r
        · subst hp
          refine ⟨?_, ?_, ?_⟩
          · rw [upw_j (by omega), upw_j (by omega), upw_j (by omega), upw_at]; simp only [kd]; rw [hu0 0 (by decide)]; simp [setp_at, pChain, upw]
          · intro _; rw [upw_j (by omega), upw_j (by omega), upw_at]; simp only [nx]; rw [up_o (by omega)]; simp [setp_at, pChain, upw]
          · intro _; rw [upw_j (by omega), upw_at, hu0 7 (by decide)]; simp [setp_at, pChain, upw]
        · refine ⟨?_, ?_, ?_⟩
          · rw [upw_j (by omega), upw_j (by omega), upw_j (by omega), upw_j (by omega)]; simp only [kd]; rw [hu0 0 (by decide), setp_ne (by omega)]; exact a1
          · intro hz2
            have hk2 : kd T.1 b p = 2 := by simp only [kd] at hz2 ⊢; rw [hu0 0 (by decide), setp_ne (by omega)] at hz2; exact hz2
            by_cases hpl : p = T.2.2.1
            · rw [hpl, upw_at]; simp [nx, up]
            · rw [upw_j (by omega), upw_j (by omega), upw_j (by omega), upw_j (by omega)]; simp only [nx]; rw [up_o (by omega), setp_ne (by omega)]; exact a2 hk2
          · intro hz2
            have hk2 : kd T.1 b p = 2 := by simp only [kd] at hz2 ⊢; rw [hu0 0 (by decide), setp_ne (by omega)] at hz2; exact hz2
            rw [upw_j (by omega), upw_j (by omega), upw_j (by omega), upw_j (by omega), hu0 7 (by decide), setp_ne (by omega)]; exact a3 hk2
/-- cells, tables and chains as they were -/
theorem RR_same {V V' : VT} {b : Int} {d d' : Int → Int} {ch : Int → List Int} (h : RR V b d ch) (hc : ∀ o t j, t ≠ 0 → V' o t j = V o t j) (hd : ∀ j, 3456 ≤ j → d' j = d j)
    (hp : ∀ y, 0 ≤ y → y < 3072 → (cK V b y = 1 ∨ cK V b y = 3) → ∀ p ∈ ch y, kd V' b p = 2 ∧ nx V' b p = nx V b p) : RR V' b d' ch := by
  have e1 : ∀ c, cK V' b c = cK V b c := fun c => hc _ 1 _ (by decide)
  have e2 : ∀ c, cL V' b c = cL V b c := fun c => hc _ 2 _ (by decide)
  have e3 : ∀ c, cS V' b c = cS V b c := fun c => hc _ 3 _ (by decide)
  have e4 : ∀ c, cN V' b c = cN V b c := fun c => hc _ 4 _ (by decide)
  intro y y1 y2
  obtain ⟨r1, r2, r3, r4, r5, r6, r7⟩ := h y y1 y2
  rw [e1, e4, hd (3456 + y) (by omega), hd (6528 + y) (by omega), hd (9600 + y) (by omega), hd (12672 + y) (by omega), hd (15744 + y) (by omega)]
  refine ⟨r1, r2, r3, fun q => ?_, fun q => ?_, fun q => ?_, fun z z1 z2 hz q qz => ?_⟩
  · obtain ⟨s1, s2, s3, s4⟩ := r4 q
    rw [e1, hd _ (by omega)]
    exact ⟨s1, s2, s3, s4⟩
  · rw [e2, e3, e4]; exact r5 q
  · obtain ⟨s1, s2, s3, s4⟩ := r6 q
    rw [e3]
    exact ⟨isCh_congr (fun p hpp => (hp y y1 y2 q p hpp).2) s1, fun p hpp => (hp y y1 y2 q p hpp).1, s3, s4⟩
  · rw [e1] at qz; exact r7 z z1 z2 hz q qz
theorem sums_same {V V' : VT} {b : Int} (h1 : ∀ o t j, t ≠ 0 → V' o t j = V o t j) (h3 : ∀ o, V' o 0 3 = V o 0 3) : awN V' b = awN V b ∧ stN V' b = stN V b := by
  refine ⟨sumF_congr (fun p _ _ => sumF_congr (fun s _ _ => by unfold awf; rw [h1 _ 1 _ (by decide)])), sumF_congr (fun p _ _ => h3 _)⟩
/-- a chain is taken on both sides -/
theorem Rel_tc {V : VT} {b : Int} {w : Int → Int → Int} {ch : Int → List Int} {q : Int} (h : Rel V b (w 1) ch) (hw2 : mwf w) (hq : 0 ≤ q ∧ q ≤ 1200) (hf : chP q ≤ cntK (kd V b) 0 96) :
    Rel (tcN b V q (chP q).toNat).1 b ((mtN w q (chP q).toNat).1 1) ch ∧ (tcN b V q (chP q).toNat).2.1 = (mtN w q (chP q).toNat).2.1 ∧ sumC (tcN b V q (chP q).toNat).1 b = sumC V b ∧ (mtN w q (chP q).toNat).1 0 4 = w 0 4 ∧ (mtN w q (chP q).toNat).1 0 6 = w 0 6 ∧ (∀ j, 384 ≤ j → (mtN w q (chP q).toNat).1 1 j = w 1 j) ∧ (∀ o t j, t ≠ 0 → (tcN b V q (chP q).toNat).1 o t j = V o t j) ∧ (∀ p, kd V b p ≠ 0 → (tcN b V q (chP q).toNat).1 (b + p) = V (b + p)) ∧
    ∃ L, isCh (nx (tcN b V q (chP q).toNat).1 b) L (tcN b V q (chP q).toNat).2.1 ∧ isCh (mNx (mtN w q (chP q).toNat).1) L (mtN w q (chP q).toNat).2.1 ∧ (∀ p ∈ L, (0 ≤ p ∧ p < 96) ∧ kd V b p = 0 ∧ kd (tcN b V q (chP q).toNat).1 b p = 2) ∧ L.length ≤ 96 ∧ (∀ y, 0 ≤ y → y < 3072 → (cK V b y = 1 ∨ cK V b y = 3) → ∀ p ∈ L, p ∉ ch y) := by
  obtain ⟨hI, hP, hRR, hN⟩ := h
  have hc := chP_bd hq
  have hsw := SI_swf hI
  obtain ⟨L, l1, l2, l3, l4, l5, l6, -⟩ := tc_chain (len := q) hsw (chP q).toNat (by omega) (chP q).toNat (Nat.le_refl _)
  have hcnt : cntK (w 1) 0 96 = cntK (kd V b) 0 96 := cntK_congr (fun i q1 q2 => ((hP i q1 (by omega)).1.1).symm)
  obtain ⟨k1, k2, k3, k4, k5⟩ := mt_keep hw2 hq (chP q).toNat (by omega) (by omega) (chP q).toNat (Nat.le_refl _)
  obtain ⟨s1, s2, s3⟩ := tc_sim (q := q) hsw hw2 hq (fun p p1 p2 => ⟨(hP p p1 p2).1.1, (hP p p1 p2).1.2.2.1, (hP p p1 p2).1.2.2.2⟩) (chP q).toNat (by omega) (by omega) (chP q).toNat (Nat.le_refl _)
  have hs := tc_same (len := q) hsw (chP q).toNat (by omega)
  have hsi := tc_SI (len := q) hI (chP q).toNat (by omega) (chP q).toNat (Nat.le_refl _)
  have hpg : ∀ p, kd V b p ≠ 0 → (tcN b V q (chP q).toNat).1 (b + p) = V (b + p) := fun p hp => l5 (b + p) (fun p' hp' e => hp ((show p' = p by omega) ▸ (l3 p' hp').2.1))
  generalize tcN b V q (chP q).toNat = T at *
  generalize mtN w q (chP q).toNat = S at *
  have hs0 : ∀ o t j, t ≠ 0 → T.1 o t j = V o t j := fun o t j ht => hs o t j (Or.inl ht)
  obtain ⟨n1, n2⟩ := sums_same (b := b) hs0 (fun o => hs o 0 3 (Or.inr ⟨by decide, by decide, by decide⟩))
  refine ⟨⟨hsi, ?_, ?_, by rw [n1, n2]; exact hN⟩, s2, ?_, k1 0 4 (by decide), k1 0 6 (by decide), fun j hj => k2 j (Or.inr hj), hs0, hpg, L, l2, ?_, fun p hp => ⟨(l3 p hp).1, (l3 p hp).2.1, (l3 p hp).2.2.1⟩, by omega, ?_⟩
  · intro p p1 p2
    obtain ⟨a1, a2, a3⟩ := s1 p p1 p2
    obtain ⟨⟨q0, q5, q6, q7⟩, qs⟩ := hP p p1 p2
    refine ⟨⟨a1, by rw [hs _ 0 5 (Or.inr ⟨by decide, by decide, by decide⟩), k2 _ (by omega)]; exact q5, a2, a3⟩, fun s z1 z2 => ?_⟩
    rw [k2 _ (by omega), qs s z1 z2]
    unfold szf
    rw [hs0 _ 1 _ (by decide), hs0 _ 2 _ (by decide)]
  · refine RR_same hRR hs0 (fun j hj => k2 j (by omega)) (fun y y1 y2 hy p hp => ?_)
    have h6 := (hRR y y1 y2).2.2.2.2.2.1 hy
    have hk2 := h6.2.1 p hp
    have e := hpg p (by rw [hk2]; decide)
    simp only [kd, nx] at hk2 ⊢
    rw [e]
    exact ⟨hk2, rfl⟩
  · unfold sumC; exact sumF_congr (fun i _ _ => hs _ 0 8 (Or.inr ⟨by decide, by decide, by decide⟩))
  · rw [← s2]
    exact isCh_congr (fun p hp => ((s1 p (l3 p hp).1.1 (l3 p hp).1.2).2.1 (l3 p hp).2.2.1).symm) l2
  · intro y y1 y2 hy p hp hpy
    have h6 := (hRR y y1 y2).2.2.2.2.2.1 hy
    have := h6.2.1 p hpy
    have := (l3 p hp).2.1
    omega
theorem freeL_at {V : VT} {b : Int} {L : List Int} {o t j : Int} (h : t ≠ 0 ∨ (j ≠ 0 ∧ j ≠ 5)) : freeL V b L o t j = V o t j := by
  induction L generalizing V with
  | nil => rfl
  | cons p L ih =>
    show freeL (setp V (b + p) (pFree (V (b + p)))) b L o t j = V o t j
    rw [ih]
    by_cases ho : o = b + p
    · subst ho; rw [setp_at]; unfold pFree upw; rcases h with h | ⟨h1, h2⟩
      · simp [h]
      · simp [h1, h2]
    · rw [setp_ne ho]
theorem freeL_in {V : VT} {b : Int} {L : List Int} {p : Int} (h : p ∈ L) : freeL V b L (b + p) 0 0 = 0 ∧ freeL V b L (b + p) 0 5 = 0 := by
  induction L generalizing V with
  | nil => exact absurd h List.not_mem_nil
  | cons a L ih =>
    show freeL (setp V (b + a) (pFree (V (b + a)))) b L (b + p) 0 0 = 0 ∧ freeL (setp V (b + a) (pFree (V (b + a)))) b L (b + p) 0 5 = 0
    by_cases hp : p ∈ L
    · exact ih hp
    · have e : p = a := (List.mem_cons.mp h).resolve_right hp
      subst e
      have e9 := freeL_out (V := setp V (b + p) (pFree (V (b + p)))) (b := b) (L := L) (o := b + p) (fun q hq z => hp ((show q = p by omega) ▸ hq))
      rw [e9, setp_at]
      simp [pFree, upw]
theorem mFreeL_in {w : Int → Int → Int} {L : List Int} {p : Int} (h : p ∈ L) : mFreeL w L 1 p = 0 := by
  induction L generalizing w with
  | nil => exact absurd h List.not_mem_nil
  | cons a L ih =>
    show mFreeL (upw w 1 a 0) L 1 p = 0
    by_cases hp : p ∈ L
    · exact ih hp
    · rw [mFreeL_out (Or.inr hp)]
      rcases List.mem_cons.mp h with e | e
      · subst e; exact upw_at _ _ _ _
      · exact absurd e hp
theorem Rel_free {V : VT} {b : Int} {u : Int → Int → Int} {ch : Int → List Int} {L : List Int} (h : Rel V b (u 1) ch) (hL : ∀ p ∈ L, (0 ≤ p ∧ p < 96) ∧ kd V b p = 2) (hdis : ∀ y, 0 ≤ y → y < 3072 → (cK V b y = 1 ∨ cK V b y = 3) → ∀ p ∈ ch y, p ∉ L) : Rel (freeL V b L) b (mFreeL u L 1) ch ∧ sumC (freeL V b L) b = sumC V b := by
  obtain ⟨hI, hP, hRR, hN⟩ := h
  have hs0 : ∀ o t j, t ≠ 0 → freeL V b L o t j = V o t j := fun o t j ht => freeL_at (Or.inl ht)
  obtain ⟨n1, n2⟩ := sums_same (b := b) hs0 (fun o => freeL_at (V := V) (b := b) (L := L) (o := o) (Or.inr ⟨by decide, by decide⟩))
  refine ⟨⟨freeL_SI hI (fun p hp => ⟨(hL p hp).1, by rw [(hL p hp).2]; decide⟩), ?_, ?_, by rw [n1, n2]; exact hN⟩, by unfold sumC; exact sumF_congr (fun i _ _ => freeL_at (Or.inr ⟨by decide, by decide⟩))⟩
  · intro p p1 p2
    obtain ⟨⟨q0, q5, q6, q7⟩, qs⟩ := hP p p1 p2
    have ho : ∀ j, 96 ≤ j → mFreeL u L 1 j = u 1 j := fun j hj => mFreeL_out (Or.inr (fun hm => by have := (hL j hm).1; omega))
    have hsz : ∀ s, 0 ≤ s → s < 32 → mFreeL u L 1 (384 + 32 * p + s) = szf (freeL V b L (b + p)) s := by
      intro s s1 s2
      rw [ho _ (by omega), qs s s1 s2]
      unfold szf
      rw [hs0 _ 1 _ (by decide), hs0 _ 2 _ (by decide)]
    by_cases hp : p ∈ L
    · obtain ⟨f0, f5⟩ := freeL_in (V := V) (b := b) hp
      have hk2 := (hL p hp).2
      have h50 := ((hI p p1 p2).2.2.2.2.2.1.2.2 (by simp only [kd] at hk2; omega)).2
      exact ⟨⟨by rw [f0, mFreeL_in hp], by rw [f5, ho _ (by omega), ← q5, h50], fun z => absurd (f0.symm.trans z) (by decide), fun z => absurd (f0.symm.trans z) (by decide)⟩, hsz⟩
    · have e9 := freeL_out (V := V) (b := b) (L := L) (o := b + p) (fun p' hp' e => hp ((show p' = p by omega) ▸ hp'))
      rw [e9] at hsz ⊢
      exact ⟨⟨by rw [mFreeL_out (Or.inr hp)]; exact q0, by rw [ho _ (by omega)]; exact q5, by rw [ho _ (by omega)]; exact q6, by rw [ho _ (by omega)]; exact q7⟩, hsz⟩
  · refine RR_same hRR hs0 (fun j hj => mFreeL_out (Or.inr (fun hm => by have := (hL j hm).1; omega))) (fun y y1 y2 hy p hp => ?_)
    have h6 := (hRR y y1 y2).2.2.2.2.2.1 hy
    have e : freeL V b L (b + p) = V (b + p) := freeL_out (fun p' hp' e => hdis y y1 y2 hy p hp ((show p' = p by omega) ▸ hp'))
    have hk2 := h6.2.1 p hp
    simp only [kd, nx] at hk2 ⊢
    rw [e]
    exact ⟨hk2, rfl⟩
