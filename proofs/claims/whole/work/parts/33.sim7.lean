/-! the changes of a record, class beside model -/
def SimC (V V' : VT) (b : Int) (w w' : Int → Int → Int) : Prop := mwf w' ∧ (∃ ch', Rel V' b (w' 1) ch') ∧ (∀ o, o < b ∨ b + 96 ≤ o → V' o = V o) ∧ ∃ δ, sumC V' b = sumC V b + δ ∧ w' 0 4 = w 0 4 + if w 0 6 = 0 then δ else 0
theorem mwf_free {w : Int → Int → Int} {L : List Int} (h : mwf w) : mwf (mFreeL w L) := by
  induction L generalizing w with
  | nil => exact h
  | cons p L ih => exact ih (mwf_up h ⟨by decide, by decide⟩)
theorem fit_sim {V : VT} {b : Int} {w : Int → Int → Int} {p s : Int} (hI : SI V b) (hR : PRel V b (w 1)) (hp : 0 ≤ p ∧ p < 96) (hs : 0 ≤ s ∧ s < 32) (h0 : V (b + p) 1 s ≠ 0) : mRoom w p + mSz w p s = pRoom (V (b + p)) + pBytes (V (b + p)) s := by
  rw [(page_sim hI hR hp).2.2.2]
  unfold mSz
  rw [(hR p hp.1 hp.2).2 s hs.1 hs.2]
  unfold szf pBytes
  rw [if_neg h0]
theorem cnt_sim {V : VT} {b : Int} {w : Int → Int → Int} (hR : PRel V b (w 1)) : cntK (w 1) 0 96 = cntK (kd V b) 0 96 := cntK_congr (fun i q1 q2 => ((hR i q1 (by omega)).1.1).symm)
theorem ch_sim' {V : VT} {b : Int} {w : Int → Int → Int} {L : List Int} {f : Int} (hR : PRel V b (w 1)) (h : isCh (nx V b) L f) (h2 : ∀ p ∈ L, kd V b p = 2) : isCh (mNx w) L f :=
  isCh_congr (fun p hp => ((hR p ((isCh_rng h).1 p hp).1 ((isCh_rng h).1 p hp).2).1.2.2.1 (h2 p hp)).symm) h
theorem setp_out {V : VT} {b p o : Int} {w : Int → Int → Int} (hp : 0 ≤ p ∧ p < 96) (ho : o < b ∨ b + 96 ≤ o) : setp V (b + p) w o = V o := setp_ne (by omega)
theorem free_out {V : VT} {b o : Int} {L : List Int} (hp : ∀ p ∈ L, 0 ≤ p ∧ p < 96) (ho : o < b ∨ b + 96 ≤ o) : freeL V b L o = V o := freeL_out (V := V) (b := b) (L := L) (o := o) (fun p h => by have := hp p h; omega)
theorem tc_pack {V : VT} {b : Int} {w : Int → Int → Int} {ch : Int → List Int} {q : Int} (h : Rel V b (w 1) ch) (hw2 : mwf w) (hq : 0 ≤ q ∧ q ≤ 1200) (hf : chP q ≤ cntK (kd V b) 0 96) :
    Rel (tcN b V q (chP q).toNat).1 b ((mtN w q (chP q).toNat).1 1) ch ∧ (tcN b V q (chP q).toNat).2.1 = (mtN w q (chP q).toNat).2.1 ∧ sumC (tcN b V q (chP q).toNat).1 b = sumC V b ∧ (mtN w q (chP q).toNat).1 0 4 = w 0 4 ∧ (mtN w q (chP q).toNat).1 0 6 = w 0 6 ∧ (∀ j, 384 ≤ j → (mtN w q (chP q).toNat).1 1 j = w 1 j) ∧ (∀ o t j, t ≠ 0 → (tcN b V q (chP q).toNat).1 o t j = V o t j) ∧ (∀ o, o < b ∨ b + 96 ≤ o → (tcN b V q (chP q).toNat).1 o = V o) ∧ mwf (mtN w q (chP q).toNat).1 ∧ (-1 ≤ (mtN w q (chP q).toNat).2.1 ∧ (mtN w q (chP q).toNat).2.1 < 96) ∧
    ∃ L, newCh (tcN b V q (chP q).toNat).1 b ch L (tcN b V q (chP q).toNat).2.1 ∧ isCh (mNx (mtN w q (chP q).toNat).1) L (mtN w q (chP q).toNat).2.1 := by
  obtain ⟨a1, a2, a3, a4, a5, a6, a7, a8, L, l1, l2, l3, l4, l5⟩ := Rel_tc h hw2 hq hf
  have hc := chP_bd hq
  have hsw := SI_swf h.1
  obtain ⟨L', -, -, k3, -, k5, -, -⟩ := tc_chain (len := q) hsw (chP q).toNat (by omega) (chP q).toNat (Nat.le_refl _)
  obtain ⟨i1, -, -, i4⟩ := mt_inv hw2 hq (chP q).toNat (by omega) (by rw [cnt_sim h.2.1]; omega) (chP q).toNat (Nat.le_refl _)
  refine ⟨a1, a2, a3, a4, a5, a6, a7, fun o ho => k5 o (fun p hp => by have := (k3 p hp).1; omega), i1, i4, L, ⟨l1, fun p hp => ⟨(l3 p hp).1, (l3 p hp).2.2⟩, l4, fun y y1 y2 hy p hp => l5 y y1 y2 ?_ p hp⟩, l2⟩
  have e : cK (tcN b V q (chP q).toNat).1 b y = cK V b y := a7 _ 1 _ (by decide)
  rw [e] at hy
  exact hy
/-- the new chain goes again -/
theorem fin_bad {T : VT} {b : Int} {S : Int → Int → Int} {ch : Int → List Int} {L L1 L2 : List Int} {f : Int} (h : Rel T b (S 1) ch) (hw : mwf S) (hL : newCh T b ch L f) (h1 : isCh (nx T b) L1 f) (h2 : isCh (mNx S) L2 f) : SimC T (freeL T b L1) b S (mFreeL S L2) := by
  have e1 : L1 = L := isCh_uniq h1 hL.1
  have e2 : L2 = L := isCh_uniq h2 (ch_sim' h.2.1 hL.1 (fun p hp => (hL.2.1 p hp).2))
  subst e1
  subst e2
  obtain ⟨r1, r2⟩ := Rel_free h hL.2.1 (fun y y1 y2 hy p hp hq => hL.2.2.2 y y1 y2 hy p hq hp)
  exact ⟨mwf_free hw, ⟨ch, r1⟩, fun o ho => free_out (fun p hp => (hL.2.1 p hp).1) ho, 0, by rw [r2]; omega, by rw [mFreeL_out (Or.inl (by decide))]; split <;> omega⟩
theorem sim_add {V : VT} {b : Int} {w : Int → Int → Int} {ch : Int → List Int} {q sd r r' : Int} {V' : VT} {w' : Int → Int → Int} (h : Rel V b (w 1) ch) (hw : mwf w) (hq : 0 ≤ q ∧ q ≤ 1200) (hsd : 0 ≤ sd ∧ sd ≤ 255) (hA : AddP V b q sd r V') (hM : InsM w q sd r' w') : r = r' ∧ SimC V V' b w w' := by
  have hcnt := cnt_sim h.2.1
  have hcb := cellB_bd (k := 1) (len := q) ⟨by omega, hq.2⟩
  rcases hA with ⟨a1, rfl, rfl⟩ | ⟨a1, pl, a2, a3⟩
  · rcases hM with ⟨-, rfl, rfl⟩ | ⟨m1, -⟩
    · exact ⟨rfl, hw, ⟨ch, h⟩, fun _ _ => rfl, 0, by omega, by split <;> omega⟩
    · exact absurd (hcnt ▸ m1) a1
  · rcases hM with ⟨m1, -⟩ | ⟨m1, pl', m2, m3⟩
    · exact absurd (hcnt.symm ▸ a1) m1
    · obtain ⟨t1, t2, t3, t4, t5, t6, t7, t8, t9, t10, L, t11, t12⟩ := tc_pack h hw hq a1
      rw [← t2] at m3 t10 t12
      generalize tcN b V q (chP q).toNat = T at *
      generalize mtN w q (chP q).toNat = S at *
      have hpp : pl = pl' := place_sim t1.1 t1.2.1 (fun _ _ _ => Iff.rfl) a2 m2
      subst hpp
      have hok := isPl_ok t1.1 (by omega) a2
      suffices hs : r = r' ∧ SimC T.1 V' b S.1 w' by
        obtain ⟨e, s1, s2, s3, δ, s4, s5⟩ := hs
        exact ⟨e, s1, s2, fun o ho => (s3 o ho).trans (t8 o ho), δ, by rw [s4, t3], by rw [s5, t4, t5]⟩
      rcases a3 with ⟨e, rfl, L1, h1, rfl⟩ | ⟨e, t, ht, rfl, rfl⟩
      · rcases m3 with ⟨-, rfl, L2, h2, rfl⟩ | ⟨e', -⟩
        · exact ⟨rfl, fin_bad t1 t9 t11 h1 h2⟩
        · exact absurd e e'
      · rcases m3 with ⟨e', -⟩ | ⟨-, t', ht', hr', rfl, rfl⟩
        · exact absurd e' e
        · obtain ⟨o1, o2, o3⟩ := hok.resolve_left e
          have hkd : T.1 (b + pl) 0 0 = 0 ∨ T.1 (b + pl) 0 0 = 1 := o3.imp id (fun z => z.1)
          have htt : t = t' := slot_sim t1.1 t1.2.1 o1 ht ht' hkd
          subst htt
          obtain ⟨ch', s1, δ, s2, s3⟩ := sim_ins t1 hq hsd t11 o1 hkd o2 ht
          refine ⟨by omega, mwf_keep (mwf_put t9 (MB_of t1.1 t1.2.1) o1 hr' (by omega) (by unfold sm; omega)) (by unfold sm; omega) (by unfold sm; omega) (by unfold sm; omega) (by unfold sm; omega), ⟨ch', s1⟩, fun o ho => setp_out o1 ho, δ, s2, s3⟩
/-- the old chain goes -/
theorem fin_ok {T V1 : VT} {b v c : Int} {S u : Int → Int → Int} {ch ch' : Int → List Int} {L : List Int} {f : Int} (h : Rel T b (S 1) ch) (hL : newCh T b ch L f) (hc : 0 ≤ c ∧ c < 3072) (hkc : cK T b c = 1 ∨ cK T b c = 3) (h1 : Rel V1 b (u 1) ch') (hw : mwf u) (hch : ∀ y, 0 ≤ y → y < 3072 → (cK V1 b y = 1 ∨ cK V1 b y = 3) → ch' y = if y = v then L else ch y) (hv : ∀ y, 0 ≤ y → y < 3072 → y ≠ v → (cK V1 b y = 1 ∨ cK V1 b y = 3) → (cK T b y = 1 ∨ cK T b y = 3) ∧ y ≠ c) (hk2 : ∀ i, kd T b i = 2 → kd V1 b i = 2) (hout : ∀ o, o < b ∨ b + 96 ≤ o → V1 o = T o) (hδ : ∃ δ, sumC V1 b = sumC T b + δ ∧ u 0 4 = S 0 4 + if S 0 6 = 0 then δ else 0) : SimC T (freeL V1 b (ch c)) b S (mFreeL u (ch c)) := by
  obtain ⟨δ, d1, d2⟩ := hδ
  have h6 := (h.2.2.1 c hc.1 hc.2).2.2.2.2.2.1 hkc
  have hrg := (isCh_rng h6.1).1
  obtain ⟨r1, r2⟩ := Rel_free (L := ch c) h1 (fun p hp => ⟨hrg p hp, hk2 p (h6.2.1 p hp)⟩) (fun y y1 y2 hy p hp hq => by
    rw [hch y y1 y2 hy] at hp
    by_cases hyv : y = v
    · rw [if_pos hyv] at hp
      exact hL.2.2.2 c hc.1 hc.2 hkc p hp hq
    · rw [if_neg hyv] at hp
      obtain ⟨z1, z2⟩ := hv y y1 y2 hyv hy
      exact (h.2.2.1 y y1 y2).2.2.2.2.2.2 c hc.1 hc.2 (fun e => z2 e.symm) z1 hkc p hp hq)
  exact ⟨mwf_free hw, ⟨ch', r1⟩, fun o ho => (free_out hrg ho).trans (hout o ho), δ, by rw [r2, d1], by rw [mFreeL_out (Or.inl (by decide))]; exact d2⟩
