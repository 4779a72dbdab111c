/-- what stays when x's value is away at c: c's owner is x alone -/
theorem RR_away {V : VT} {b : Int} {d : Int → Int} {ch : Int → List Int} {x : Int} (hRR : RR V b d ch) (hx : 0 ≤ x ∧ x < 3072) (hk : cK V b x = 2) : ∀ y, 0 ≤ y → y < 3072 → y ≠ x → cK V b y = 2 → cN V b y ≠ cN V b x := by
  intro y y1 y2 hy hk2 e
  have h1 := ((hRR x hx.1 hx.2).2.2.2.1 hk).2.2.2
  have h2 := ((hRR y y1 y2).2.2.2.1 hk2).2.2.2
  rw [e] at h2
  exact hy (h2.symm.trans h1)
/-- x comes home -/
theorem sim_awayA {V : VT} {b : Int} {w : Int → Int → Int} {ch : Int → List Int} {L : List Int} {f q sd x c n9 : Int} (h : Rel V b (w 1) ch) (hq : 0 ≤ q ∧ q ≤ 1200) (hsd : 0 ≤ sd ∧ sd ≤ 255) (hL : newCh V b ch L f) (hx : 0 ≤ x ∧ x < 3072) (hk : cK V b x = 2) (hc : cN V b x = c) (hroom : cellB 1 q ≤ pRoom (V (b + x / 32)) + pBytes (V (b + x / 32)) (x % 32)) (hn9 : rm9 (V (b + c / 32)) (c % 32) n9)
    {V' : VT} (hV' : V' = setp (setp V (b + x / 32) (pChange (V (b + x / 32)) (x % 32) 1 q sd f)) (b + c / 32) (pRem (V (b + c / 32)) (c % 32) n9)) {u : Int → Int → Int} (hu : u = mKeep (mTake (mPut w (x / 32) (x % 32) (cellB 1 q) x) (c / 32) (c % 32)) x x q sd f) :
    ∃ ch', Rel V' b (u 1) ch' ∧ (∀ y, 0 ≤ y → y < 3072 → (cK V' b y = 1 ∨ cK V' b y = 3) → ch' y = if y = x then L else ch y) ∧ (∀ y, 0 ≤ y → y < 3072 → y ≠ x → (cK V' b y = 1 ∨ cK V' b y = 3) → (cK V b y = 1 ∨ cK V b y = 3) ∧ y ≠ c) ∧ (∀ i, kd V b i = 2 → kd V' b i = 2) ∧ ∃ δ, sumC V' b = sumC V b + δ ∧ u 0 4 = w 0 4 + if w 0 6 = 0 then δ else 0 := by
  obtain ⟨hI, hP, hRR, hN⟩ := h
  obtain ⟨L1, L2, L3, L4⟩ := hL
  have hp : 0 ≤ x / 32 ∧ x / 32 < 96 := by omega
  have hs : 0 ≤ x % 32 ∧ x % 32 < 32 := by omega
  have hxe : 32 * (x / 32) + x % 32 = x := by omega
  obtain ⟨hc1, hc2, hc3, hc4⟩ := (hRR x hx.1 hx.2).2.2.2.1 hk
  rw [hc] at hc1 hc2 hc3 hc4
  have hpc : 0 ≤ c / 32 ∧ c / 32 < 96 := by omega
  have hsc : 0 ≤ c % 32 ∧ c % 32 < 32 := by omega
  have hce : 32 * (c / 32) + c % 32 = c := by omega
  have hcx : c ≠ x := fun e => hc2 (by rw [e])
  have hkx : V (b + x / 32) 1 (x % 32) = 2 := hk
  have hkc : V (b + c / 32) 1 (c % 32) = 3 := hc3
  have hH := hI (x / 32) hp.1 hp.2
  have h0 : V (b + x / 32) 1 (x % 32) ≠ 0 := by omega
  obtain ⟨hPR, δ, hδ1, hδ2⟩ := PRel_change (k := 1) (n := q) (sd := sd) (lk := f) (ow := x) hI hP hp hs h0 (by omega)
  have hSI1 : SI (setp V (b + x / 32) (pChange (V (b + x / 32)) (x % 32) 1 q sd f)) b := SI_setp hI (PI_change hH hs h0 (by omega) ⟨by omega, by omega⟩ hroom)
  have hwr := wrc_change (V := V) (b := b) (p := x / 32) (t := x % 32) (k := 1) (n := q) (sd := sd) (lk := f) hs
  rw [hxe] at hwr
  obtain ⟨d1, d2, d3, d4, d5, d6⟩ := mPut_d (w := w) (z := cellB 1 q) (ow := x) hp hs
  rw [hxe] at d5
  obtain ⟨f0, f1, f2, f3, f4, f5, f6, f7, f8, g1, g2, g3, g4⟩ := pChange_f (V (b + x / 32)) (x % 32) 1 q sd f
  have e1 : setp V (b + x / 32) (pChange (V (b + x / 32)) (x % 32) 1 q sd f) (b + c / 32) = V (b + c / 32) := setp_ne (by omega)
  have haw1 : awN (setp V (b + x / 32) (pChange (V (b + x / 32)) (x % 32) 1 q sd f)) b = awN V b := by
    rw [awN_setp hp, awf_upd hs g1, hkx, if_neg (by decide), if_neg (by decide)]; omega
  have hst1 : stN (setp V (b + x / 32) (pChange (V (b + x / 32)) (x % 32) 1 q sd f)) b = stN V b - 1 := by
    rw [stN_setp hp, f3, hkx, if_pos rfl, if_neg (by decide)]; omega
  have hkd1 : ∀ i, kd (setp V (b + x / 32) (pChange (V (b + x / 32)) (x % 32) 1 q sd f)) b i = kd V b i := by
    intro i
    by_cases hi : i = x / 32
    · subst hi; simp only [kd]; rw [setp_at]; exact f0
    · exact kd_setp hi
  have hnx1 : nx (setp V (b + x / 32) (pChange (V (b + x / 32)) (x % 32) 1 q sd f)) b = nx V b := nx_setp f6
  rw [← e1] at hV' hn9 hkc
  generalize setp V (b + x / 32) (pChange (V (b + x / 32)) (x % 32) 1 q sd f) = V1 at *
  have hSI2 : SI V' b := by rw [hV']; exact SI_setp hSI1 (PI_rem (hSI1 _ hpc.1 hpc.2) hsc (by omega) hn9)
  obtain ⟨hPR2, hδ3⟩ := PRel_rem (n := n9) hSI1 hPR hpc hsc (by omega)
  have hrm := rmc (V := V1) (b := b) (p := c / 32) (t := c % 32) (n := n9) hsc
  rw [hce] at hrm
  obtain ⟨d1', d2', d3', d4', d5'⟩ := mTake_d (w := mPut w (x / 32) (x % 32) (cellB 1 q) x) hpc hsc
  obtain ⟨f0', f1', f2', f3', f4', f5', f6', f7', f8', g1', g2', g3', g4'⟩ := pRem_f (V1 (b + c / 32)) (c % 32) n9
  have hnx2 : nx V' b = nx V b := by rw [hV', nx_setp f6', hnx1]
  have hkd2 : ∀ i, kd V b i = 2 → kd V' b i = 2 := by
    intro i hi
    have hic : i ≠ c / 32 := by
      intro e
      rw [e, ← hkd1] at hi
      have hPc := hSI1 _ hpc.1 hpc.2
      have h8 := (hPc.2.2.2.2.2.1.2.2 (by simp only [kd] at hi; omega)).1
      have hz := sumF_zero (F := cef (V1 (b + c / 32))) (n := 32) (fun i _ _ => by unfold cef; split <;> omega) (by have := hPc.2.2.1; omega) (c % 32) hsc.1 (by omega)
      unfold cef at hz
      rw [if_neg (by omega)] at hz
      exact absurd hz (by decide)
    rw [hV', kd_setp hic, hkd1]; exact hi
  have hcc : ∀ y, cK V' b y = (if y = c then 0 else if y = x then 1 else cK V b y) ∧ cL V' b y = (if y = x then q else cL V b y) ∧ cS V' b y = (if y = x then sd else cS V b y) ∧ cN V' b y = (if y = x then f else cN V b y) := by
    intro y
    obtain ⟨a1, a2, a3, a4⟩ := hrm y
    obtain ⟨b1, b2, b3, b4⟩ := hwr y
    rw [hV', a1, a2, a3, a4, b1, b2, b3, b4]
    exact ⟨rfl, rfl, rfl, rfl⟩
  have hnc : ∀ y, 0 ≤ y → y < 3072 → y ≠ x → cK V b y = 2 → cN V b y ≠ c := fun y y1 y2 hy hk2 => by
    have := RR_away hRR hx hk y y1 y2 hy hk2
    rwa [hc] at this
  refine ⟨fun y => if y = x then L else ch y, ⟨hSI2, ?_, ?_, ?_⟩, fun _ _ _ _ => rfl, ?_, hkd2, δ, by rw [hV', hδ3, hδ1], by rw [hu, mKeep_0 (by decide), mTake_0 (by decide)]; exact hδ2⟩
  · rw [hu, hV']; exact PRel_keep hx hPR2
  · subst hu
    refine RR_upd (x := x) (v := x) (Z := fun y => y = x ∨ y = c) hRR hx hx (Or.inl rfl) (Or.inl rfl) ?_ ?_ ?_ ?_ ?_ ?_ ?_
    · intro y y1 y2 hy
      have hy1 : y ≠ x := fun e => hy (Or.inl e)
      have hy2 : y ≠ c := fun e => hy (Or.inr e)
      obtain ⟨c1, c2, c3, c4⟩ := hcc y
      obtain ⟨m0, m1, m2, m3, m4⟩ := mKeep_d (u := mTake (mPut w (x / 32) (x % 32) (cellB 1 q) x) (c / 32) (c % 32)) (c := x) (n := q) (sd := sd) (f := f) hx y ⟨y1, y2⟩
      rw [if_neg hy1] at c1 c2 c3 c4
      rw [if_neg hy2] at c1
      exact ⟨c1, c2, c3, c4, by rw [m0, d5' _ (by omega), d5 y y1 y2, if_neg hy1], if_neg hy1⟩
    · intro y y1 y2 hy
      obtain ⟨m0, m1, m2, m3, m4⟩ := mKeep_d (u := mTake (mPut w (x / 32) (x % 32) (cellB 1 q) x) (c / 32) (c % 32)) (c := x) (n := q) (sd := sd) (f := f) hx y ⟨y1, y2⟩
      rw [m1, m2, m3, m4, if_neg hy, if_neg hy, if_neg hy, if_neg hy, d5' _ (by omega), d5' _ (by omega), d5' _ (by omega), d5' _ (by omega)]
      exact ⟨d6 _ (by omega), d6 _ (by omega), d6 _ (by omega), d6 _ (by omega)⟩
    · intro y _ _ hz hy
      have : y = c := hz.resolve_left hy
      rw [this, hc3]; decide
    · intro y y1 y2 hy hk2 hz
      have hy1 : y ≠ x := fun e => hy (Or.inl e)
      rcases hz with hz | hz
      · have h4 := ((hRR y y1 y2).2.2.2.1 hk2).2.2.1
        rw [hz, hk] at h4; exact absurd h4 (by decide)
      · exact hnc y y1 y2 hy1 hk2 hz
    · intro y y1 y2 hy hk2 p hpp
      have hk22 := ((hRR y y1 y2).2.2.2.2.2.1 hk2).2.1 p hpp
      rw [hnx2]
      exact ⟨hkd2 p hk22, rfl⟩
    · intro z _ _ hz hzx _
      rw [(hcc z).1, if_pos (hz.resolve_left hzx)]
    · obtain ⟨c1, c2, c3, c4⟩ := hcc x
      obtain ⟨m0, m1, m2, m3, m4⟩ := mKeep_d (u := mTake (mPut w (x / 32) (x % 32) (cellB 1 q) x) (c / 32) (c % 32)) (c := x) (n := q) (sd := sd) (f := f) hx x hx
      rw [if_pos rfl] at c1 c2 c3 c4 m1 m2 m3 m4
      rw [if_neg (fun e => hcx e.symm)] at c1
      refine Or.inr ⟨Or.inl ⟨c1, rfl⟩, by rw [m0, d5' _ (by omega), d5 _ hx.1 hx.2, if_pos rfl], m1, by rw [m2, c2], by rw [m3, c3], by rw [m4, c4], ?_, ?_, ?_, by rw [c3]; exact hsd, ?_⟩
      · rw [hnx2, c4, if_pos rfl]; exact L1
      · rw [if_pos rfl]; intro p hpp; exact hkd2 p (L2 p hpp).2
      · rw [if_pos rfl]; exact L3
      · intro y y1 y2 hy hk2 p hpp
        rw [if_pos rfl] at hpp
        exact L4 y y1 y2 hk2 p hpp
  · rw [hV', awN_setp hpc, stN_setp hpc, awf_upd hsc g1', f3', haw1, hst1, hN, hkc]
    rw [if_pos rfl, if_neg (by decide), if_neg (by decide)]
    omega
  · intro y y1 y2 hy hv
    obtain ⟨c1, -⟩ := hcc y
    by_cases hyc : y = c
    · rw [c1, if_pos hyc] at hv; omega
    · rw [c1, if_neg hyc, if_neg hy] at hv; exact ⟨hv, hyc⟩
/-- x's value changes where it is away -/
theorem sim_awayB {V : VT} {b : Int} {w : Int → Int → Int} {ch : Int → List Int} {L : List Int} {f q sd x c : Int} (h : Rel V b (w 1) ch) (hq : 0 ≤ q ∧ q ≤ 1200) (hsd : 0 ≤ sd ∧ sd ≤ 255) (hL : newCh V b ch L f) (hx : 0 ≤ x ∧ x < 3072) (hk : cK V b x = 2) (hc : cN V b x = c) (hroom : cellB 3 q ≤ pRoom (V (b + c / 32)) + pBytes (V (b + c / 32)) (c % 32))
    {V' : VT} (hV' : V' = setp V (b + c / 32) (pChange (V (b + c / 32)) (c % 32) 3 q sd f)) {u : Int → Int → Int} (hu : u = mKeep (mPut w (c / 32) (c % 32) (cellB 3 q) x) x c q sd f) :
    ∃ ch', Rel V' b (u 1) ch' ∧ (∀ y, 0 ≤ y → y < 3072 → (cK V' b y = 1 ∨ cK V' b y = 3) → ch' y = if y = c then L else ch y) ∧ (∀ y, cK V' b y = cK V b y) ∧ (∀ i, kd V b i = 2 → kd V' b i = 2) ∧ ∃ δ, sumC V' b = sumC V b + δ ∧ u 0 4 = w 0 4 + if w 0 6 = 0 then δ else 0 := by
  obtain ⟨hI, hP, hRR, hN⟩ := h
  obtain ⟨L1, L2, L3, L4⟩ := hL
  obtain ⟨hc1, hc2, hc3, hc4⟩ := (hRR x hx.1 hx.2).2.2.2.1 hk
  have hxo := (hRR x hx.1 hx.2).1 (Or.inr hk)
  rw [hc] at hc1 hc2 hc3 hc4
  have hpc : 0 ≤ c / 32 ∧ c / 32 < 96 := by omega
  have hsc : 0 ≤ c % 32 ∧ c % 32 < 32 := by omega
  have hce : 32 * (c / 32) + c % 32 = c := by omega
  have hcx : c ≠ x := fun e => hc2 (by rw [e])
  have hkc : V (b + c / 32) 1 (c % 32) = 3 := hc3
  have hA := hI (c / 32) hpc.1 hpc.2
  have h0 : V (b + c / 32) 1 (c % 32) ≠ 0 := by omega
  obtain ⟨hPR, δ, hδ1, hδ2⟩ := PRel_change (k := 3) (n := q) (sd := sd) (lk := f) (ow := x) hI hP hpc hsc h0 (by omega)
  have hSI1 : SI V' b := by rw [hV']; exact SI_setp hI (PI_change hA hsc h0 (by omega) ⟨by omega, by omega⟩ hroom)
  have hwr := wrc_change (V := V) (b := b) (p := c / 32) (t := c % 32) (k := 3) (n := q) (sd := sd) (lk := f) hsc
  rw [hce, ← hV'] at hwr
  obtain ⟨d1, d2, d3, d4, d5, d6⟩ := mPut_d (w := w) (z := cellB 3 q) (ow := x) hpc hsc
  rw [hce] at d5
  obtain ⟨f0, f1, f2, f3, f4, f5, f6, f7, f8, g1, g2, g3, g4⟩ := pChange_f (V (b + c / 32)) (c % 32) 3 q sd f
  have hnx1 : nx V' b = nx V b := by rw [hV']; exact nx_setp f6
  have hkd1 : ∀ i, kd V' b i = kd V b i := by
    intro i
    rw [hV']
    by_cases hi : i = c / 32
    · subst hi; simp only [kd]; rw [setp_at]; exact f0
    · exact kd_setp hi
  have hKs : ∀ y, cK V' b y = cK V b y := by
    intro y
    rw [(hwr y).1]
    by_cases hy : y = c
    · rw [if_pos hy, hy, hc3]
    · rw [if_neg hy]
  have hnc : ∀ y, 0 ≤ y → y < 3072 → y ≠ x → cK V b y = 2 → cN V b y ≠ c := fun y y1 y2 hy hk2 => by
    have := RR_away hRR hx hk y y1 y2 hy hk2
    rwa [hc] at this
  refine ⟨fun y => if y = c then L else ch y, ⟨hSI1, ?_, ?_, ?_⟩, fun _ _ _ _ => rfl, hKs, fun i hi => by rw [hkd1]; exact hi, δ, by rw [hV']; exact hδ1, by rw [hu, mKeep_0 (by decide)]; exact hδ2⟩
  · rw [hu, hV']; exact PRel_keep hx hPR
  · subst hu
    refine RR_upd (x := x) (v := c) (Z := fun y => y = x ∨ y = c) hRR hx hc1 (Or.inl rfl) (Or.inr rfl) ?_ ?_ ?_ ?_ ?_ ?_ ?_
    · intro y y1 y2 hy
      have hy1 : y ≠ x := fun e => hy (Or.inl e)
      have hy2 : y ≠ c := fun e => hy (Or.inr e)
      obtain ⟨c1, c2, c3, c4⟩ := hwr y
      obtain ⟨m0, m1, m2, m3, m4⟩ := mKeep_d (u := mPut w (c / 32) (c % 32) (cellB 3 q) x) (c := c) (n := q) (sd := sd) (f := f) hx y ⟨y1, y2⟩
      rw [if_neg hy2] at c1 c2 c3 c4
      exact ⟨c1, c2, c3, c4, by rw [m0, d5 y y1 y2, if_neg hy2], if_neg hy2⟩
    · intro y y1 y2 hy
      obtain ⟨m0, m1, m2, m3, m4⟩ := mKeep_d (u := mPut w (c / 32) (c % 32) (cellB 3 q) x) (c := c) (n := q) (sd := sd) (f := f) hx y ⟨y1, y2⟩
      rw [m1, m2, m3, m4, if_neg hy, if_neg hy, if_neg hy, if_neg hy]
      exact ⟨d6 _ (by omega), d6 _ (by omega), d6 _ (by omega), d6 _ (by omega)⟩
    · intro y _ _ hz hy
      have : y = c := hz.resolve_left hy
      rw [this, hc3]; decide
    · intro y y1 y2 hy hk2 hz
      have hy1 : y ≠ x := fun e => hy (Or.inl e)
      rcases hz with hz | hz
      · have h4 := ((hRR y y1 y2).2.2.2.1 hk2).2.2.1
        rw [hz, hk] at h4; exact absurd h4 (by decide)
      · exact hnc y y1 y2 hy1 hk2 hz
    · intro y y1 y2 hy hk2 p hpp
      have hk22 := ((hRR y y1 y2).2.2.2.2.2.1 hk2).2.1 p hpp
      rw [hnx1, hkd1]
      exact ⟨hk22, rfl⟩
    · intro z _ _ hz hzx hzv; exact absurd (hz.resolve_left hzx) hzv
    · obtain ⟨c1, c2, c3, c4⟩ := hwr x
      obtain ⟨v1, v2, v3, v4⟩ := hwr c
      obtain ⟨m0, m1, m2, m3, m4⟩ := mKeep_d (u := mPut w (c / 32) (c % 32) (cellB 3 q) x) (c := c) (n := q) (sd := sd) (f := f) hx x hx
      obtain ⟨n0, n1, n2, n3, n4⟩ := mKeep_d (u := mPut w (c / 32) (c % 32) (cellB 3 q) x) (c := c) (n := q) (sd := sd) (f := f) hx c hc1
      rw [if_neg (fun e => hcx e.symm)] at c1 c2 c3 c4
      rw [if_pos rfl] at v1 v2 v3 v4 m1 m2 m3 m4
      refine Or.inr ⟨Or.inr ⟨by rw [c1]; exact hk, hcx, v1, by rw [c4]; exact hc, hc2, by rw [n0, d5 _ hc1.1 hc1.2, if_pos rfl]⟩, by rw [m0, d5 _ hx.1 hx.2, if_neg (fun e => hcx e.symm)]; exact hxo, m1, by rw [m2, v2], by rw [m3, v3], by rw [m4, v4], ?_, ?_, ?_, by rw [v3]; exact hsd, ?_⟩
      · rw [hnx1, v4, if_pos rfl]; exact L1
      · rw [if_pos rfl]; intro p hpp; rw [hkd1]; exact (L2 p hpp).2
      · rw [if_pos rfl]; exact L3
      · intro y y1 y2 hy hk2 p hpp
        rw [if_pos rfl] at hpp
        exact L4 y y1 y2 hk2 p hpp
  · rw [hV', awN_setp hpc, stN_setp hpc, awf_upd hsc g1, f3, hN, hkc]
    rw [if_pos rfl, if_neg (by decide)]
    omega
