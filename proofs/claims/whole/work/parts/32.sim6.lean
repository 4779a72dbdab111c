/-- x's value goes to another place away -/
theorem sim_awayC {V : VT} {b : Int} {w : Int → Int → Int} {ch : Int → List Int} {L : List Int} {f q sd x c n9 pl t : Int} (h : Rel V b (w 1) ch) (hq : 0 ≤ q ∧ q ≤ 1200) (hsd : 0 ≤ sd ∧ sd ≤ 255) (hL : newCh V b ch L f) (hx : 0 ≤ x ∧ x < 3072) (hk : cK V b x = 2) (hc : cN V b x = c) (hpl : 0 ≤ pl ∧ pl < 96) (hkd : V (b + pl) 0 0 = 0 ∨ V (b + pl) 0 0 = 1) (hroom : cellB 3 q + 4 ≤ pRoom (V (b + pl))) (ht : pEmpty (V (b + pl)) t) (hne : pl ≠ x / 32 ∧ pl ≠ c / 32) (hn9 : rm9 (V (b + c / 32)) (c % 32) n9)
    {V' : VT} (hV' : V' = setp (setp (setp V (b + pl) (pPut (V (b + pl)) t 3 q sd f)) (b + c / 32) (pRem (V (b + c / 32)) (c % 32) n9)) (b + x / 32) (pChange (V (b + x / 32)) (x % 32) 2 (-1) (-1) (pl * 32 + t))) {u : Int → Int → Int} (hu : u = mKeep (mTake (mPut w pl t (cellB 3 q) x) (c / 32) (c % 32)) x (32 * pl + t) q sd f) :
    ∃ ch', Rel V' b (u 1) ch' ∧ (∀ y, 0 ≤ y → y < 3072 → (cK V' b y = 1 ∨ cK V' b y = 3) → ch' y = if y = 32 * pl + t then L else ch y) ∧ (∀ y, 0 ≤ y → y < 3072 → y ≠ 32 * pl + t → (cK V' b y = 1 ∨ cK V' b y = 3) → (cK V b y = 1 ∨ cK V b y = 3) ∧ y ≠ c) ∧ (∀ i, kd V b i = 2 → kd V' b i = 2) ∧ ∃ δ, sumC V' b = sumC V b + δ ∧ u 0 4 = w 0 4 + if w 0 6 = 0 then δ else 0 := by
  obtain ⟨hI, hP, hRR, hN⟩ := h
  obtain ⟨L1, L2, L3, L4⟩ := hL
  have hp : 0 ≤ x / 32 ∧ x / 32 < 96 := by omega
  have hs : 0 ≤ x % 32 ∧ x % 32 < 32 := by omega
  have hxe : 32 * (x / 32) + x % 32 = x := by omega
  obtain ⟨hc1, hc2, hc3, hc4⟩ := (hRR x hx.1 hx.2).2.2.2.1 hk
  have hxo := (hRR x hx.1 hx.2).1 (Or.inr hk)
  rw [hc] at hc1 hc2 hc3 hc4
  have hpc : 0 ≤ c / 32 ∧ c / 32 < 96 := by omega
  have hsc : 0 ≤ c % 32 ∧ c % 32 < 32 := by omega
  have hce : 32 * (c / 32) + c % 32 = c := by omega
  have hcx : c ≠ x := fun e => hc2 (by rw [e])
  have hkx : V (b + x / 32) 1 (x % 32) = 2 := hk
  have hkc : V (b + c / 32) 1 (c % 32) = 3 := hc3
  have hPI := hI pl hpl.1 hpl.2
  have ht9 := PI_slot hPI ht
  have h00 := pEmpty_0 hPI ht
  have ht0 := ht.1.1
  have hr : 0 ≤ 32 * pl + t ∧ 32 * pl + t < 3072 := by omega
  have hK0 : cK V b (32 * pl + t) = 0 := by
    show V (b + (32 * pl + t) / 32) 1 ((32 * pl + t) % 32) = 0
    rw [show (32 * pl + t) / 32 = pl by omega, show (32 * pl + t) % 32 = t by omega]; exact h00
  have hvx : 32 * pl + t ≠ x := by omega
  have hvc : 32 * pl + t ≠ c := by omega
  have hHx := hI (x / 32) hp.1 hp.2
  have hHc := hI (c / 32) hpc.1 hpc.2
  -- the put
  obtain ⟨hPR, δ, hδ1, hδ2⟩ := PRel_put (k := 3) (n := q) (sd := sd) (lk := f) (ow := x) hI hP hpl ht hkd (Or.inr rfl)
  have hSI1 : SI (setp V (b + pl) (pPut (V (b + pl)) t 3 q sd f)) b := SI_setp hI (PI_put hPI ht (Or.inr rfl) hq hroom (by omega))
  have hwr := wrc_put (k := 3) (n := q) (sd := sd) (lk := f) ⟨ht0, ht9⟩ ht
  obtain ⟨d1, d2, d3, d4, d5, d6⟩ := mPut_d (w := w) (z := cellB 3 q) (ow := x) hpl ⟨ht0, ht9⟩
  obtain ⟨f0, f1, f2, f3, f4, f5, f6, f7, f8, g1, g2, g3, g4⟩ := pPut_f (V (b + pl)) t 3 q sd f ht.1
  have e1 : setp V (b + pl) (pPut (V (b + pl)) t 3 q sd f) (b + c / 32) = V (b + c / 32) := setp_ne (by omega)
  have e1x : setp V (b + pl) (pPut (V (b + pl)) t 3 q sd f) (b + x / 32) = V (b + x / 32) := setp_ne (by omega)
  have haw1 : awN (setp V (b + pl) (pPut (V (b + pl)) t 3 q sd f)) b = awN V b + 1 := by
    rw [awN_setp hpl, awf_upd ⟨ht0, ht9⟩ g1, h00, if_neg (by decide), if_pos rfl]; omega
  have hst1 : stN (setp V (b + pl) (pPut (V (b + pl)) t 3 q sd f)) b = stN V b := by
    rw [stN_setp hpl, f3, if_neg (by decide)]; omega
  have hkd1 : ∀ i, kd V b i = 2 → kd (setp V (b + pl) (pPut (V (b + pl)) t 3 q sd f)) b i = 2 := by
    intro i hi
    rw [kd_setp (fun e => by rw [e] at hi; simp only [kd] at hi; omega)]; exact hi
  have hnx1 : nx (setp V (b + pl) (pPut (V (b + pl)) t 3 q sd f)) b = nx V b := nx_setp f6
  generalize setp V (b + pl) (pPut (V (b + pl)) t 3 q sd f) = V1 at *
  rw [← e1] at hV' hn9 hkc hHc
  -- the old one goes
  have hSI2 : SI (setp V1 (b + c / 32) (pRem (V1 (b + c / 32)) (c % 32) n9)) b := SI_setp hSI1 (PI_rem (hSI1 _ hpc.1 hpc.2) hsc (by omega) hn9)
  obtain ⟨hPR2, hδ3⟩ := PRel_rem (n := n9) hSI1 hPR hpc hsc (by omega)
  have hrm := rmc (V := V1) (b := b) (p := c / 32) (t := c % 32) (n := n9) hsc
  rw [hce] at hrm
  obtain ⟨d1', d2', d3', d4', d5'⟩ := mTake_d (w := mPut w pl t (cellB 3 q) x) hpc hsc
  obtain ⟨f0', f1', f2', f3', f4', f5', f6', f7', f8', g1', g2', g3', g4'⟩ := pRem_f (V1 (b + c / 32)) (c % 32) n9
  have e2x : setp V1 (b + c / 32) (pRem (V1 (b + c / 32)) (c % 32) n9) (b + x / 32) = V (b + x / 32) := by rw [setp_ne (by omega)]; exact e1x
  have haw2 : awN (setp V1 (b + c / 32) (pRem (V1 (b + c / 32)) (c % 32) n9)) b = awN V b := by
    rw [awN_setp hpc, awf_upd hsc g1', haw1, hkc, if_pos rfl, if_neg (by decide)]; omega
  have hst2 : stN (setp V1 (b + c / 32) (pRem (V1 (b + c / 32)) (c % 32) n9)) b = stN V b := by
    rw [stN_setp hpc, f3', hst1, hkc, if_neg (by decide)]; omega
  have hkd2 : ∀ i, kd V b i = 2 → kd (setp V1 (b + c / 32) (pRem (V1 (b + c / 32)) (c % 32) n9)) b i = 2 := by
    intro i hi
    have h1 := hkd1 i hi
    have hic : i ≠ c / 32 := by
      intro e
      rw [e] at h1
      have h8 := (hHc.2.2.2.2.2.1.2.2 (by simp only [kd] at h1; omega)).1
      have hz := sumF_zero (F := cef (V1 (b + c / 32))) (n := 32) (fun i _ _ => by unfold cef; split <;> omega) (by have := hHc.2.2.1; omega) (c % 32) hsc.1 (by omega)
      unfold cef at hz
      rw [if_neg (by omega)] at hz
      exact absurd hz (by decide)
    rw [kd_setp hic]; exact h1
  have hnx2 : nx (setp V1 (b + c / 32) (pRem (V1 (b + c / 32)) (c % 32) n9)) b = nx V b := by rw [nx_setp f6', hnx1]
  generalize setp V1 (b + c / 32) (pRem (V1 (b + c / 32)) (c % 32) n9) = V2 at *
  rw [← e2x] at hV' hkx hHx
  -- the stub is led on
  have hPR2' : PRel V2 b (mTake (mPut w pl t (cellB 3 q) x) (c / 32) (c % 32) 1) := hPR2
  obtain ⟨f0'', f1'', f2'', f3'', f4'', f5'', f6'', f7'', f8'', g1'', g2'', g3'', g4''⟩ := pChange_f (V2 (b + x / 32)) (x % 32) 2 (-1) (-1) (pl * 32 + t)
  have h25 : cellB 2 (-1) = 5 := by decide
  have hpb : pBytes (V2 (b + x / 32)) (x % 32) = 5 := by unfold pBytes cellB; rw [if_pos hkx]
  have hSI3 : SI V' b := by
    rw [hV']
    refine SI_setp hSI2 (PI_change (hSI2 _ hp.1 hp.2) hs (by omega) (by omega) ⟨by omega, by omega⟩ ?_)
    rw [h25, hpb]
    have := PI_room (hSI2 _ hp.1 hp.2)
    omega
  have hwr3 := wrc_change (V := V2) (b := b) (p := x / 32) (t := x % 32) (k := 2) (n := -1) (sd := -1) (lk := pl * 32 + t) hs
  rw [hxe, ← hV'] at hwr3
  have hnx3 : nx V' b = nx V b := by rw [hV', nx_setp f6'', hnx2]
  have hkd3 : ∀ i, kd V b i = 2 → kd V' b i = 2 := by
    intro i hi
    have h1 := hkd2 i hi
    rw [hV']
    by_cases hix : i = x / 32
    · subst hix; simp only [kd] at h1 ⊢; rw [setp_at, f0'']; exact h1
    · rw [kd_setp hix]; exact h1
  have hPR3 : PRel V' b (mTake (mPut w pl t (cellB 3 q) x) (c / 32) (c % 32) 1) := by
    intro i i1 i2
    rw [hV']
    by_cases hi : i = x / 32
    · subst hi
      rw [setp_at]
      obtain ⟨⟨q0, q5, q6, q7⟩, qs⟩ := hPR2' (x / 32) i1 i2
      refine ⟨⟨by rw [f0'']; exact q0, by rw [f5'', h25, hpb, if_pos (by omega)]; exact q5, by rw [f0'', f6'']; exact q6, by rw [f0'', f7'']; exact q7⟩, fun s s1 s2 => ?_⟩
      rw [qs s s1 s2]
      unfold szf
      rw [g1'', g2'']
      by_cases hsx : s = x % 32
      · subst hsx; rw [if_neg (by omega), if_pos rfl, if_pos rfl, if_neg (by decide), h25]; exact hpb
      · rw [if_neg hsx, if_neg hsx]
    · rw [setp_ne (by omega)]; exact hPR2' i i1 i2
  have hcc : ∀ y, cK V' b y = (if y = x then 2 else if y = c then 0 else if y = 32 * pl + t then 3 else cK V b y) ∧ cL V' b y = (if y = x then -1 else if y = 32 * pl + t then q else cL V b y) ∧ cS V' b y = (if y = x then -1 else if y = 32 * pl + t then sd else cS V b y) ∧ cN V' b y = (if y = x then pl * 32 + t else if y = 32 * pl + t then f else cN V b y) := by
    intro y
    obtain ⟨a1, a2, a3, a4⟩ := hwr3 y
    obtain ⟨r1, r2, r3, r4⟩ := hrm y
    obtain ⟨b1, b2, b3, b4⟩ := hwr y
    rw [a1, a2, a3, a4, r1, r2, r3, r4, b1, b2, b3, b4]
    exact ⟨rfl, rfl, rfl, rfl⟩
  have hnc : ∀ y, 0 ≤ y → y < 3072 → y ≠ x → cK V b y = 2 → cN V b y ≠ c := fun y y1 y2 hy hk2 => by
    have := RR_away hRR hx hk y y1 y2 hy hk2
    rwa [hc] at this
  have hsC : sumC V' b = sumC V2 b := by
    rw [hV', sumC_setp hp, f8'', h25, hpb, if_pos (by omega)]; omega
  refine ⟨fun y => if y = 32 * pl + t then L else ch y, ⟨hSI3, ?_, ?_, ?_⟩, fun _ _ _ _ => rfl, ?_, hkd3, δ, by rw [hsC, hδ3, hδ1], by rw [hu, mKeep_0 (by decide), mTake_0 (by decide)]; exact hδ2⟩
  · rw [hu]; exact PRel_keep hx hPR3
  · subst hu
    refine RR_upd (x := x) (v := 32 * pl + t) (Z := fun y => y = x ∨ y = c ∨ y = 32 * pl + t) hRR hx hr (Or.inl rfl) (Or.inr (Or.inr rfl)) ?_ ?_ ?_ ?_ ?_ ?_ ?_
    · intro y y1 y2 hy
      have hy1 : y ≠ x := fun e => hy (Or.inl e)
      have hy2 : y ≠ c := fun e => hy (Or.inr (Or.inl e))
      have hy3 : y ≠ 32 * pl + t := fun e => hy (Or.inr (Or.inr e))
      obtain ⟨c1, c2, c3, c4⟩ := hcc y
      obtain ⟨m0, m1, m2, m3, m4⟩ := mKeep_d (u := mTake (mPut w pl t (cellB 3 q) x) (c / 32) (c % 32)) (c := 32 * pl + t) (n := q) (sd := sd) (f := f) hx y ⟨y1, y2⟩
      rw [if_neg hy1, if_neg hy3] at c2 c3 c4
      rw [if_neg hy1, if_neg hy2, if_neg hy3] at c1
      exact ⟨c1, c2, c3, c4, by rw [m0, d5' _ (by omega), d5 y y1 y2, if_neg hy3], if_neg hy3⟩
    · intro y y1 y2 hy
      obtain ⟨m0, m1, m2, m3, m4⟩ := mKeep_d (u := mTake (mPut w pl t (cellB 3 q) x) (c / 32) (c % 32)) (c := 32 * pl + t) (n := q) (sd := sd) (f := f) hx y ⟨y1, y2⟩
      rw [m1, m2, m3, m4, if_neg hy, if_neg hy, if_neg hy, if_neg hy, d5' _ (by omega), d5' _ (by omega), d5' _ (by omega), d5' _ (by omega)]
      exact ⟨d6 _ (by omega), d6 _ (by omega), d6 _ (by omega), d6 _ (by omega)⟩
    · intro y _ _ hz hy
      rcases hz.resolve_left hy with e | e
      · rw [e, hc3]; decide
      · rw [e, hK0]; decide
    · intro y y1 y2 hy hk2 hz
      have hy1 : y ≠ x := fun e => hy (Or.inl e)
      have h4 := ((hRR y y1 y2).2.2.2.1 hk2).2.2.1
      rcases hz with hz | hz | hz
      · rw [hz, hk] at h4; exact absurd h4 (by decide)
      · exact hnc y y1 y2 hy1 hk2 hz
      · rw [hz, hK0] at h4; exact absurd h4 (by decide)
    · intro y y1 y2 hy hk2 p hpp
      have hk22 := ((hRR y y1 y2).2.2.2.2.2.1 hk2).2.1 p hpp
      rw [hnx3]
      exact ⟨hkd3 p hk22, rfl⟩
    · intro z _ _ hz hzx hzv
      rw [(hcc z).1, if_neg hzx, if_pos ((hz.resolve_left hzx).resolve_right hzv)]
    · obtain ⟨c1, c2, c3, c4⟩ := hcc x
      obtain ⟨v1, v2, v3, v4⟩ := hcc (32 * pl + t)
      obtain ⟨m0, m1, m2, m3, m4⟩ := mKeep_d (u := mTake (mPut w pl t (cellB 3 q) x) (c / 32) (c % 32)) (c := 32 * pl + t) (n := q) (sd := sd) (f := f) hx x hx
      obtain ⟨n0, n1, n2, n3, n4⟩ := mKeep_d (u := mTake (mPut w pl t (cellB 3 q) x) (c / 32) (c % 32)) (c := 32 * pl + t) (n := q) (sd := sd) (f := f) hx (32 * pl + t) hr
      rw [if_pos rfl] at c1 c2 c3 c4 m1 m2 m3 m4
      rw [if_neg hvx, if_pos rfl] at v2 v3 v4
      rw [if_neg hvx, if_neg hvc, if_pos rfl] at v1
      refine Or.inr ⟨Or.inr ⟨c1, hvx, v1, by rw [c4]; omega, by omega, by rw [n0, d5' _ (by omega), d5 _ hr.1 hr.2, if_pos rfl]⟩, by rw [m0, d5' _ (by omega), d5 _ hx.1 hx.2, if_neg (fun e => hvx e.symm)]; exact hxo, m1, by rw [m2, v2], by rw [m3, v3], by rw [m4, v4], ?_, ?_, ?_, by rw [v3]; exact hsd, ?_⟩
      · rw [hnx3, v4, if_pos rfl]; exact L1
      · rw [if_pos rfl]; intro p hpp; exact hkd3 p (L2 p hpp).2
      · rw [if_pos rfl]; exact L3
      · intro y y1 y2 hy hk2 p hpp
        rw [if_pos rfl] at hpp
        exact L4 y y1 y2 hk2 p hpp
  · rw [hV', awN_setp hp, stN_setp hp, awf_upd hs g1'', f3'', haw2, hst2, hN, hkx]
    rw [if_neg (by decide), if_pos rfl]
    omega
  · intro y y1 y2 hy hv
    obtain ⟨c1, -⟩ := hcc y
    by_cases hyx : y = x
    · rw [c1, if_pos hyx] at hv; omega
    · by_cases hyc : y = c
      · rw [c1, if_neg hyx, if_pos hyc] at hv; omega
      · rw [c1, if_neg hyx, if_neg hyc, if_neg hy] at hv; exact ⟨hv, hyc⟩
/-- the cells of x go; the chain goes before or behind -/
theorem sim_rem1 {V : VT} {b : Int} {w : Int → Int → Int} {ch : Int → List Int} {x n9 : Int} (h : Rel V b (w 1) ch) (hx : 0 ≤ x ∧ x < 3072) (hk : cK V b x = 1) (hn9 : rm9 (V (b + x / 32)) (x % 32) n9)
    {V' : VT} (hV' : V' = setp V (b + x / 32) (pRem (V (b + x / 32)) (x % 32) n9)) {u : Int → Int → Int} (hu1 : ∀ j, j < 3456 → u 1 j = mTake w (x / 32) (x % 32) 1 j) (hu2 : ∀ y, 0 ≤ y → y < 3072 → u 1 (3456 + y) = w 1 (3456 + y) ∧ u 1 (6528 + y) = (if y = x then -1 else w 1 (6528 + y)) ∧ u 1 (9600 + y) = w 1 (9600 + y) ∧ u 1 (12672 + y) = w 1 (12672 + y) ∧ (y ≠ x → u 1 (15744 + y) = w 1 (15744 + y))) :
    Rel V' b (u 1) ch ∧ sumC V' b = sumC V b ∧ (∀ i, kd V b i = 2 → kd V' b i = 2) ∧ (∀ y, cK V' b y = if y = x then 0 else cK V b y) := by
  obtain ⟨hI, hP, hRR, hN⟩ := h
  have hp : 0 ≤ x / 32 ∧ x / 32 < 96 := by omega
  have hs : 0 ≤ x % 32 ∧ x % 32 < 32 := by omega
  have hxe : 32 * (x / 32) + x % 32 = x := by omega
  have hkx : V (b + x / 32) 1 (x % 32) = 1 := hk
  have hH := hI (x / 32) hp.1 hp.2
  obtain ⟨hPR, hδ⟩ := PRel_rem (n := n9) hI hP hp hs (by omega)
  have hSI1 : SI V' b := by rw [hV']; exact SI_setp hI (PI_rem hH hs (by omega) hn9)
  have hrm := rmc (V := V) (b := b) (p := x / 32) (t := x % 32) (n := n9) hs
  rw [hxe, ← hV'] at hrm
  obtain ⟨f0, f1, f2, f3, f4, f5, f6, f7, f8, g1, g2, g3, g4⟩ := pRem_f (V (b + x / 32)) (x % 32) n9
  have hnx1 : nx V' b = nx V b := by rw [hV']; exact nx_setp f6
  have hkd1 : ∀ i, kd V b i = 2 → kd V' b i = 2 := by
    intro i hi
    have hic : i ≠ x / 32 := by
      intro e
      rw [e] at hi
      have h8 := (hH.2.2.2.2.2.1.2.2 (by simp only [kd] at hi; omega)).1
      have hz := sumF_zero (F := cef (V (b + x / 32))) (n := 32) (fun i _ _ => by unfold cef; split <;> omega) (by have := hH.2.2.1; omega) (x % 32) hs.1 (by omega)
      unfold cef at hz
      rw [if_neg (by omega)] at hz
      exact absurd hz (by decide)
    rw [hV', kd_setp hic]; exact hi
  refine ⟨⟨hSI1, ?_, ?_, ?_⟩, by rw [hV']; exact hδ, hkd1, fun y => (hrm y).1⟩
  · intro i i1 i2
    have h := hPR i i1 i2
    rw [← hV'] at h
    obtain ⟨⟨q0, q5, q6, q7⟩, qs⟩ := h
    exact ⟨⟨by rw [hu1 _ (by omega)]; exact q0, by rw [hu1 _ (by omega)]; exact q5, by rw [hu1 _ (by omega)]; exact q6, by rw [hu1 _ (by omega)]; exact q7⟩, fun s s1 s2 => by rw [hu1 _ (by omega)]; exact qs s s1 s2⟩
  · refine RR_upd (x := x) (v := x) (Z := fun y => y = x) hRR hx hx rfl rfl ?_ ?_ ?_ ?_ ?_ ?_ ?_
    · intro y y1 y2 hy
      obtain ⟨c1, c2, c3, c4⟩ := hrm y
      rw [if_neg hy] at c1
      exact ⟨c1, c2, c3, c4, (hu2 y y1 y2).1, rfl⟩
    · intro y y1 y2 hy
      obtain ⟨m0, m1, m2, m3, m4⟩ := hu2 y y1 y2
      rw [if_neg hy] at m1
      exact ⟨m1, m2, m3, m4 hy⟩
    · intro y _ _ hz hy; exact absurd hz hy
    · intro y y1 y2 hy hk2 hz
      have h4 := ((hRR y y1 y2).2.2.2.1 hk2).2.2.1
      rw [hz, hk] at h4
      exact absurd h4 (by decide)
    · intro y y1 y2 hy hk2 p hpp
      rw [hnx1]
      exact ⟨hkd1 p (((hRR y y1 y2).2.2.2.2.2.1 hk2).2.1 p hpp), rfl⟩
    · intro z _ _ hz hzx; exact absurd hz hzx
    · have e := (hrm x).1
      rw [if_pos rfl] at e
      have e2 := (hu2 x hx.1 hx.2).2.1
      rw [if_pos rfl] at e2
      exact Or.inl ⟨e, e, e2⟩
  · rw [hV', awN_setp hp, stN_setp hp, awf_upd hs g1, f3, hN, hkx]
    rw [if_neg (by decide), if_neg (by decide), if_neg (by decide)]
    omega
theorem sim_rem2 {V : VT} {b : Int} {w : Int → Int → Int} {ch : Int → List Int} {x c n8 n9 : Int} (h : Rel V b (w 1) ch) (hx : 0 ≤ x ∧ x < 3072) (hk : cK V b x = 2) (hc : cN V b x = c) (hn8 : rm9 (V (b + c / 32)) (c % 32) n8) (hn9 : rm9 (V (b + x / 32)) (x % 32) n9)
    {V' : VT} (hV' : V' = setp (setp V (b + c / 32) (pRem (V (b + c / 32)) (c % 32) n8)) (b + x / 32) (pRem (V (b + x / 32)) (x % 32) n9)) {u : Int → Int → Int} (hu1 : ∀ j, j < 3456 → u 1 j = mTake (mTake w (c / 32) (c % 32)) (x / 32) (x % 32) 1 j) (hu2 : ∀ y, 0 ≤ y → y < 3072 → u 1 (3456 + y) = w 1 (3456 + y) ∧ u 1 (6528 + y) = (if y = x then -1 else w 1 (6528 + y)) ∧ u 1 (9600 + y) = w 1 (9600 + y) ∧ u 1 (12672 + y) = w 1 (12672 + y) ∧ (y ≠ x → u 1 (15744 + y) = w 1 (15744 + y))) :
    Rel V' b (u 1) ch ∧ sumC V' b = sumC V b ∧ (∀ i, kd V b i = 2 → kd V' b i = 2) ∧ (∀ y, cK V' b y = if y = x then 0 else if y = c then 0 else cK V b y) := by
  obtain ⟨hI, hP, hRR, hN⟩ := h
  have hp : 0 ≤ x / 32 ∧ x / 32 < 96 := by omega
  have hs : 0 ≤ x % 32 ∧ x % 32 < 32 := by omega
  have hxe : 32 * (x / 32) + x % 32 = x := by omega
  obtain ⟨hc1, hc2, hc3, hc4⟩ := (hRR x hx.1 hx.2).2.2.2.1 hk
  rw [hc] at hc1 hc2 hc3 hc4
  have hpc : 0 ≤ c / 32 ∧ c / 32 < 96 := by omega
  have hsc : 0 ≤ c % 32 ∧ c % 32 < 32 := by omega
  have hce : 32 * (c / 32) + c % 32 = c := by omega
  have hcx : c ≠ x := fun e => hc2 (by rw [e])
  have hkx : V (b + x / 32) 1 (x % 32) = 2 := hk
  have hkc : V (b + c / 32) 1 (c % 32) = 3 := hc3
  have hcel : ∀ (U : VT) p s, SI U b → 0 ≤ p ∧ p < 96 → 0 ≤ s ∧ s < 32 → U (b + p) 1 s ≠ 0 → kd U b p = 1 := by
    intro U p s hU hp hs h0
    have hH := hU p hp.1 hp.2
    by_cases hq : kd U b p = 1
    · exact hq
    · exfalso
      have h8 := (hH.2.2.2.2.2.1.2.2 hq).1
      have hz := sumF_zero (F := cef (U (b + p))) (n := 32) (fun i _ _ => by unfold cef; split <;> omega) (by have := hH.2.2.1; omega) s hs.1 (by omega)
      unfold cef at hz
      rw [if_neg h0] at hz
      exact absurd hz (by decide)
  obtain ⟨hPR, hδ⟩ := PRel_rem (n := n8) hI hP hpc hsc (by omega)
  have hSI1 : SI (setp V (b + c / 32) (pRem (V (b + c / 32)) (c % 32) n8)) b := SI_setp hI (PI_rem (hI _ hpc.1 hpc.2) hsc (by omega) hn8)
  have hrm := rmc (V := V) (b := b) (p := c / 32) (t := c % 32) (n := n8) hsc
  rw [hce] at hrm
  obtain ⟨f0, f1, f2, f3, f4, f5, f6, f7, f8, g1, g2, g3, g4⟩ := pRem_f (V (b + c / 32)) (c % 32) n8
  have e1 : setp V (b + c / 32) (pRem (V (b + c / 32)) (c % 32) n8) (b + x / 32) = V (b + x / 32) := setp_ne (by omega)
  have haw1 : awN (setp V (b + c / 32) (pRem (V (b + c / 32)) (c % 32) n8)) b = awN V b - 1 := by
    rw [awN_setp hpc, awf_upd hsc g1, hkc, if_pos rfl, if_neg (by decide)]; omega
  have hst1 : stN (setp V (b + c / 32) (pRem (V (b + c / 32)) (c % 32) n8)) b = stN V b := by
    rw [stN_setp hpc, f3, hkc, if_neg (by decide)]; omega
  have hkd1 : ∀ i, kd V b i = 2 → kd (setp V (b + c / 32) (pRem (V (b + c / 32)) (c % 32) n8)) b i = 2 := by
    intro i hi
    have := hcel V (c / 32) (c % 32) hI hpc hsc (by omega)
    rw [kd_setp (fun e => by rw [e] at hi; omega)]; exact hi
  have hnx1 : nx (setp V (b + c / 32) (pRem (V (b + c / 32)) (c % 32) n8)) b = nx V b := nx_setp f6
  generalize setp V (b + c / 32) (pRem (V (b + c / 32)) (c % 32) n8) = V1 at *
  rw [← e1] at hV' hn9 hkx
  obtain ⟨hPR2, hδ2⟩ := PRel_rem (n := n9) hSI1 hPR hp hs (by omega)
  have hSI2 : SI V' b := by rw [hV']; exact SI_setp hSI1 (PI_rem (hSI1 _ hp.1 hp.2) hs (by omega) hn9)
  have hrm2 := rmc (V := V1) (b := b) (p := x / 32) (t := x % 32) (n := n9) hs
  rw [hxe, ← hV'] at hrm2
  obtain ⟨f0', f1', f2', f3', f4', f5', f6', f7', f8', g1', g2', g3', g4'⟩ := pRem_f (V1 (b + x / 32)) (x % 32) n9
  have hnx2 : nx V' b = nx V b := by rw [hV', nx_setp f6', hnx1]
  have hkd2 : ∀ i, kd V b i = 2 → kd V' b i = 2 := by
    intro i hi
    have h1 := hkd1 i hi
    have := hcel V1 (x / 32) (x % 32) hSI1 hp hs (by omega)
    rw [hV', kd_setp (fun e => by rw [e] at h1; omega)]; exact h1
  have hcc : ∀ y, cK V' b y = (if y = x then 0 else if y = c then 0 else cK V b y) ∧ cL V' b y = cL V b y ∧ cS V' b y = cS V b y ∧ cN V' b y = cN V b y := by
    intro y
    obtain ⟨a1, a2, a3, a4⟩ := hrm2 y
    obtain ⟨b1, b2, b3, b4⟩ := hrm y
    rw [a1, a2, a3, a4, b1, b2, b3, b4]
    exact ⟨rfl, rfl, rfl, rfl⟩
  have hnc : ∀ y, 0 ≤ y → y < 3072 → y ≠ x → cK V b y = 2 → cN V b y ≠ c := fun y y1 y2 hy hk2 => by
    have := RR_away hRR hx hk y y1 y2 hy hk2
    rwa [hc] at this
  refine ⟨⟨hSI2, ?_, ?_, ?_⟩, by rw [hV', hδ2, hδ], hkd2, fun y => (hcc y).1⟩
  · intro i i1 i2
    have h := hPR2 i i1 i2
    rw [← hV'] at h
    obtain ⟨⟨q0, q5, q6, q7⟩, qs⟩ := h
    exact ⟨⟨by rw [hu1 _ (by omega)]; exact q0, by rw [hu1 _ (by omega)]; exact q5, by rw [hu1 _ (by omega)]; exact q6, by rw [hu1 _ (by omega)]; exact q7⟩, fun s s1 s2 => by rw [hu1 _ (by omega)]; exact qs s s1 s2⟩
  · refine RR_upd (x := x) (v := x) (Z := fun y => y = x ∨ y = c) hRR hx hx (Or.inl rfl) (Or.inl rfl) ?_ ?_ ?_ ?_ ?_ ?_ ?_
    · intro y y1 y2 hy
      obtain ⟨c1, c2, c3, c4⟩ := hcc y
      rw [if_neg (fun e => hy (Or.inl e)), if_neg (fun e => hy (Or.inr e))] at c1
      exact ⟨c1, c2, c3, c4, (hu2 y y1 y2).1, rfl⟩
    · intro y y1 y2 hy
      obtain ⟨m0, m1, m2, m3, m4⟩ := hu2 y y1 y2
      rw [if_neg hy] at m1
      exact ⟨m1, m2, m3, m4 hy⟩
    · intro y _ _ hz hy
      rw [hz.resolve_left hy, hc3]; decide
    · intro y y1 y2 hy hk2 hz
      rcases hz with hz | hz
      · have h4 := ((hRR y y1 y2).2.2.2.1 hk2).2.2.1
        rw [hz, hk] at h4; exact absurd h4 (by decide)
      · exact hnc y y1 y2 (fun e => hy (Or.inl e)) hk2 hz
    · intro y y1 y2 hy hk2 p hpp
      rw [hnx2]
      exact ⟨hkd2 p (((hRR y y1 y2).2.2.2.2.2.1 hk2).2.1 p hpp), rfl⟩
    · intro z _ _ hz hzx _
      rw [(hcc z).1, if_neg hzx, if_pos (hz.resolve_left hzx)]
    · have e := (hcc x).1
      rw [if_pos rfl] at e
      have e2 := (hu2 x hx.1 hx.2).2.1
      rw [if_pos rfl] at e2
      exact Or.inl ⟨e, e, e2⟩
  · rw [hV', awN_setp hp, stN_setp hp, awf_upd hs g1', f3', haw1, hst1, hN, hkx]
    rw [if_neg (by decide), if_neg (by decide), if_pos rfl]
    omega
