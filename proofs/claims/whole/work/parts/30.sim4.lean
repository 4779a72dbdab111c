theorem PRel_keep {V : VT} {b : Int} {u : Int → Int → Int} {x c n sd f : Int} (hx : 0 ≤ x ∧ x < 3072) (h : PRel V b (u 1)) : PRel V b (mKeep u x c n sd f 1) := by
  intro p p1 p2
  obtain ⟨⟨q0, q5, q6, q7⟩, qs⟩ := h p p1 p2
  exact ⟨⟨by rw [mKeep_far hx (by omega)]; exact q0, by rw [mKeep_far hx (by omega)]; exact q5, by rw [mKeep_far hx (by omega)]; exact q6, by rw [mKeep_far hx (by omega)]; exact q7⟩, fun s s1 s2 => by rw [mKeep_far hx (by omega)]; exact qs s s1 s2⟩
theorem mKeep_d {u : Int → Int → Int} {x c n sd f : Int} (hx : 0 ≤ x ∧ x < 3072) (y : Int) (hy : 0 ≤ y ∧ y < 3072) : mKeep u x c n sd f 1 (3456 + y) = u 1 (3456 + y) ∧ mKeep u x c n sd f 1 (6528 + y) = (if y = x then c else u 1 (6528 + y)) ∧ mKeep u x c n sd f 1 (9600 + y) = (if y = x then n else u 1 (9600 + y)) ∧ mKeep u x c n sd f 1 (12672 + y) = (if y = x then sd else u 1 (12672 + y)) ∧ mKeep u x c n sd f 1 (15744 + y) = (if y = x then f else u 1 (15744 + y)) := by
  unfold mKeep
  by_cases h : y = x
  · subst h
    exact ⟨by rw [upw_j (by omega), upw_j (by omega), upw_j (by omega), upw_j (by omega)], by rw [upw_j (by omega), upw_j (by omega), upw_j (by omega), upw_at, if_pos rfl], by rw [upw_j (by omega), upw_j (by omega), upw_at, if_pos rfl], by rw [upw_j (by omega), upw_at, if_pos rfl], by rw [upw_at, if_pos rfl]⟩
  · simp only [if_neg h]
    exact ⟨by rw [upw_j (by omega), upw_j (by omega), upw_j (by omega), upw_j (by omega)], by rw [upw_j (by omega), upw_j (by omega), upw_j (by omega), upw_j (by omega)], by rw [upw_j (by omega), upw_j (by omega), upw_j (by omega), upw_j (by omega)], by rw [upw_j (by omega), upw_j (by omega), upw_j (by omega), upw_j (by omega)], by rw [upw_j (by omega), upw_j (by omega), upw_j (by omega), upw_j (by omega)]⟩
/-- a cell is written in page p -/
def wrc (V V' : VT) (b c0 k n sd lk : Int) : Prop := ∀ c, cK V' b c = (if c = c0 then k else cK V b c) ∧ cL V' b c = (if c = c0 then n else cL V b c) ∧ cS V' b c = (if c = c0 then sd else cS V b c) ∧ cN V' b c = (if c = c0 then lk else cN V b c)
theorem wrc_put {V : VT} {b p t k n sd lk : Int} (ht : 0 ≤ t ∧ t < 32) (h : pEmpty (V (b + p)) t) : wrc V (setp V (b + p) (pPut (V (b + p)) t k n sd lk)) b (32 * p + t) k n sd lk := by
  obtain ⟨f0, f1, f2, f3, f4, f5, f6, f7, f8, g1, g2, g3, g4⟩ := pPut_f (V (b + p)) t k n sd lk h.1
  exact fun c => ⟨cell_setp ht g1 c, cell_setp ht g2 c, cell_setp ht g3 c, cell_setp ht g4 c⟩
theorem wrc_change {V : VT} {b p t k n sd lk : Int} (ht : 0 ≤ t ∧ t < 32) : wrc V (setp V (b + p) (pChange (V (b + p)) t k n sd lk)) b (32 * p + t) k n sd lk := by
  obtain ⟨f0, f1, f2, f3, f4, f5, f6, f7, f8, g1, g2, g3, g4⟩ := pChange_f (V (b + p)) t k n sd lk
  exact fun c => ⟨cell_setp ht g1 c, cell_setp ht g2 c, cell_setp ht g3 c, cell_setp ht g4 c⟩
theorem rmc {V : VT} {b p t n : Int} (ht : 0 ≤ t ∧ t < 32) (c : Int) : cK (setp V (b + p) (pRem (V (b + p)) t n)) b c = (if c = 32 * p + t then 0 else cK V b c) ∧ cL (setp V (b + p) (pRem (V (b + p)) t n)) b c = cL V b c ∧ cS (setp V (b + p) (pRem (V (b + p)) t n)) b c = cS V b c ∧ cN (setp V (b + p) (pRem (V (b + p)) t n)) b c = cN V b c := by
  obtain ⟨f0, f1, f2, f3, f4, f5, f6, f7, f8, g1, g2, g3, g4⟩ := pRem_f (V (b + p)) t n
  exact ⟨cell_setp ht g1 c, cell_same g2 c, cell_same g3 c, cell_same g4 c⟩
/-- the chain of a new value, out of everybody's way -/
def newCh (V : VT) (b : Int) (ch : Int → List Int) (L : List Int) (f : Int) : Prop := isCh (nx V b) L f ∧ (∀ p ∈ L, (0 ≤ p ∧ p < 96) ∧ kd V b p = 2) ∧ L.length ≤ 96 ∧ ∀ y, 0 ≤ y → y < 3072 → (cK V b y = 1 ∨ cK V b y = 3) → ∀ p ∈ L, p ∉ ch y
theorem kd_setp {V : VT} {b p i : Int} {w : Int → Int → Int} (h : i ≠ p) : kd (setp V (b + p) w) b i = kd V b i := by simp only [kd]; rw [setp_ne (by omega)]
theorem sim_ins {V : VT} {b : Int} {w : Int → Int → Int} {ch : Int → List Int} {L : List Int} {f q sd pl t : Int} (h : Rel V b (w 1) ch) (hq : 0 ≤ q ∧ q ≤ 1200) (hsd : 0 ≤ sd ∧ sd ≤ 255) (hL : newCh V b ch L f) (hpl : 0 ≤ pl ∧ pl < 96) (hkd : V (b + pl) 0 0 = 0 ∨ V (b + pl) 0 0 = 1) (hroom : cellB 1 q + 4 ≤ pRoom (V (b + pl))) (ht : pEmpty (V (b + pl)) t) :
    ∃ ch', Rel (setp V (b + pl) (pPut (V (b + pl)) t 1 q sd f)) b (mKeep (mPut w pl t (cellB 1 q) (32 * pl + t)) (32 * pl + t) (32 * pl + t) q sd f 1) ch' ∧ ∃ δ, sumC (setp V (b + pl) (pPut (V (b + pl)) t 1 q sd f)) b = sumC V b + δ ∧ mKeep (mPut w pl t (cellB 1 q) (32 * pl + t)) (32 * pl + t) (32 * pl + t) q sd f 0 4 = w 0 4 + if w 0 6 = 0 then δ else 0 := by
  obtain ⟨hI, hP, hRR, hN⟩ := h
  obtain ⟨L1, L2, L3, L4⟩ := hL
  have hPI := hI pl hpl.1 hpl.2
  have ht9 := PI_slot hPI ht
  have h00 := pEmpty_0 hPI ht
  have ht0 := ht.1.1
  have hr : 0 ≤ 32 * pl + t ∧ 32 * pl + t < 3072 := by omega
  have hK0 : cK V b (32 * pl + t) = 0 := by
    show V (b + (32 * pl + t) / 32) 1 ((32 * pl + t) % 32) = 0
    rw [show (32 * pl + t) / 32 = pl by omega, show (32 * pl + t) % 32 = t by omega]; exact h00
  obtain ⟨hPR, δ, hδ1, hδ2⟩ := PRel_put (k := 1) (n := q) (sd := sd) (lk := f) (ow := 32 * pl + t) hI hP hpl ht hkd (Or.inl rfl)
  have hwr := wrc_put (k := 1) (n := q) (sd := sd) (lk := f) ⟨ht0, ht9⟩ ht
  obtain ⟨d1, d2, d3, d4, d5, d6⟩ := mPut_d (w := w) (z := cellB 1 q) (ow := 32 * pl + t) hpl ⟨ht0, ht9⟩
  obtain ⟨f0, f1, f2, f3, f4, f5, f6, f7, f8, g1, g2, g3, g4⟩ := pPut_f (V (b + pl)) t 1 q sd f ht.1
  have hnx : nx (setp V (b + pl) (pPut (V (b + pl)) t 1 q sd f)) b = nx V b := nx_setp f6
  have hnp : ∀ p, kd V b p = 2 → p ≠ pl := fun p hp e => by rw [e] at hp; simp only [kd] at hp; omega
  refine ⟨fun c => if c = 32 * pl + t then L else ch c, ⟨SI_setp hI (PI_put hPI ht (Or.inl rfl) hq hroom (by omega)), PRel_keep hr hPR, ?_, ?_⟩, δ, hδ1, by rw [mKeep_0 (by decide)]; exact hδ2⟩
  · refine RR_upd (x := 32 * pl + t) (v := 32 * pl + t) (Z := fun y => y = 32 * pl + t) hRR hr hr rfl rfl ?_ ?_ ?_ ?_ ?_ ?_ ?_
    · intro y y1 y2 hy
      obtain ⟨c1, c2, c3, c4⟩ := hwr y
      obtain ⟨m0, m1, m2, m3, m4⟩ := mKeep_d (u := mPut w pl t (cellB 1 q) (32 * pl + t)) (c := 32 * pl + t) (n := q) (sd := sd) (f := f) hr y ⟨y1, y2⟩
      rw [if_neg hy] at c1 c2 c3 c4
      exact ⟨c1, c2, c3, c4, by rw [m0, d5 y y1 y2, if_neg hy], if_neg hy⟩
    · intro y y1 y2 hy
      obtain ⟨m0, m1, m2, m3, m4⟩ := mKeep_d (u := mPut w pl t (cellB 1 q) (32 * pl + t)) (c := 32 * pl + t) (n := q) (sd := sd) (f := f) hr y ⟨y1, y2⟩
      rw [m1, m2, m3, m4, if_neg hy, if_neg hy, if_neg hy, if_neg hy]
      exact ⟨d6 _ (by omega), d6 _ (by omega), d6 _ (by omega), d6 _ (by omega)⟩
    · intro y _ _ hz hy; exact absurd hz hy
    · intro y y1 y2 hy hk hz
      have h4 := ((hRR y y1 y2).2.2.2.1 hk).2.2.1
      rw [hz, hK0] at h4
      exact absurd h4 (by decide)
    · intro y y1 y2 hy hk p hp
      have hk2 := ((hRR y y1 y2).2.2.2.2.2.1 hk).2.1 p hp
      rw [hnx, kd_setp (hnp p hk2)]
      exact ⟨hk2, rfl⟩
    · intro z _ _ hz hzx; exact absurd hz hzx
    · obtain ⟨c1, c2, c3, c4⟩ := hwr (32 * pl + t)
      obtain ⟨m0, m1, m2, m3, m4⟩ := mKeep_d (u := mPut w pl t (cellB 1 q) (32 * pl + t)) (c := 32 * pl + t) (n := q) (sd := sd) (f := f) hr (32 * pl + t) hr
      rw [if_pos rfl] at c1 c2 c3 c4 m1 m2 m3 m4
      refine Or.inr ⟨Or.inl ⟨c1, rfl⟩, by rw [m0, d5 _ hr.1 hr.2, if_pos rfl], m1, by rw [m2, c2], by rw [m3, c3], by rw [m4, c4], ?_, ?_, ?_, by rw [c3]; exact hsd, ?_⟩
      · rw [hnx, c4, if_pos rfl]; exact L1
      · rw [if_pos rfl]; intro p hp; rw [kd_setp (hnp p (L2 p hp).2)]; exact (L2 p hp).2
      · rw [if_pos rfl]; exact L3
      · intro y y1 y2 hy hk p hp
        rw [if_pos rfl] at hp
        exact L4 y y1 y2 hk p hp
  · rw [awN_setp hpl, stN_setp hpl, awf_upd ⟨ht0, ht9⟩ g1, f3, hN, h00]
    rw [if_neg (by decide), if_neg (by decide), if_neg (by decide)]
    omega
/-- a change of x at home, from x at home -/
theorem sim_homeA {V : VT} {b : Int} {w : Int → Int → Int} {ch : Int → List Int} {L : List Int} {f q sd x : Int} (h : Rel V b (w 1) ch) (hq : 0 ≤ q ∧ q ≤ 1200) (hsd : 0 ≤ sd ∧ sd ≤ 255) (hL : newCh V b ch L f) (hx : 0 ≤ x ∧ x < 3072) (hk : cK V b x = 1) (hroom : cellB 1 q ≤ pRoom (V (b + x / 32)) + pBytes (V (b + x / 32)) (x % 32)) :
    ∃ ch', Rel (setp V (b + x / 32) (pChange (V (b + x / 32)) (x % 32) 1 q sd f)) b (mKeep (mPut w (x / 32) (x % 32) (cellB 1 q) x) x x q sd f 1) ch' ∧ (∀ y, ch' y = if y = x then L else ch y) ∧ ∃ δ, sumC (setp V (b + x / 32) (pChange (V (b + x / 32)) (x % 32) 1 q sd f)) b = sumC V b + δ ∧ mKeep (mPut w (x / 32) (x % 32) (cellB 1 q) x) x x q sd f 0 4 = w 0 4 + if w 0 6 = 0 then δ else 0 := by
  obtain ⟨hI, hP, hRR, hN⟩ := h
  obtain ⟨L1, L2, L3, L4⟩ := hL
  have hp : 0 ≤ x / 32 ∧ x / 32 < 96 := by omega
  have hs : 0 ≤ x % 32 ∧ x % 32 < 32 := by omega
  have hxe : 32 * (x / 32) + x % 32 = x := by omega
  have hH := hI (x / 32) hp.1 hp.2
  have h0 : V (b + x / 32) 1 (x % 32) ≠ 0 := by have : V (b + x / 32) 1 (x % 32) = 1 := hk; omega
  obtain ⟨hPR, δ, hδ1, hδ2⟩ := PRel_change (k := 1) (n := q) (sd := sd) (lk := f) (ow := x) hI hP hp hs h0 (by omega)
  have hwr := wrc_change (V := V) (b := b) (p := x / 32) (t := x % 32) (k := 1) (n := q) (sd := sd) (lk := f) hs
  rw [hxe] at hwr
  obtain ⟨d1, d2, d3, d4, d5, d6⟩ := mPut_d (w := w) (z := cellB 1 q) (ow := x) hp hs
  rw [hxe] at d5
  obtain ⟨f0, f1, f2, f3, f4, f5, f6, f7, f8, g1, g2, g3, g4⟩ := pChange_f (V (b + x / 32)) (x % 32) 1 q sd f
  have hnx : nx (setp V (b + x / 32) (pChange (V (b + x / 32)) (x % 32) 1 q sd f)) b = nx V b := nx_setp f6
  have hkk : ∀ i, kd (setp V (b + x / 32) (pChange (V (b + x / 32)) (x % 32) 1 q sd f)) b i = kd V b i := by
    intro i
    by_cases hi : i = x / 32
    · subst hi; simp only [kd]; rw [setp_at]; exact f0
    · exact kd_setp hi
  refine ⟨fun c => if c = x then L else ch c, ⟨SI_setp hI (PI_change hH hs h0 (by omega) ⟨by omega, by omega⟩ hroom), PRel_keep hx hPR, ?_, ?_⟩, fun _ => rfl, δ, hδ1, by rw [mKeep_0 (by decide)]; exact hδ2⟩
  · refine RR_upd (x := x) (v := x) (Z := fun y => y = x) hRR hx hx rfl rfl ?_ ?_ ?_ ?_ ?_ ?_ ?_
    · intro y y1 y2 hy
      obtain ⟨c1, c2, c3, c4⟩ := hwr y
      obtain ⟨m0, m1, m2, m3, m4⟩ := mKeep_d (u := mPut w (x / 32) (x % 32) (cellB 1 q) x) (c := x) (n := q) (sd := sd) (f := f) hx y ⟨y1, y2⟩
      rw [if_neg hy] at c1 c2 c3 c4
      exact ⟨c1, c2, c3, c4, by rw [m0, d5 y y1 y2, if_neg hy], if_neg hy⟩
    · intro y y1 y2 hy
      obtain ⟨m0, m1, m2, m3, m4⟩ := mKeep_d (u := mPut w (x / 32) (x % 32) (cellB 1 q) x) (c := x) (n := q) (sd := sd) (f := f) hx y ⟨y1, y2⟩
      rw [m1, m2, m3, m4, if_neg hy, if_neg hy, if_neg hy, if_neg hy]
      exact ⟨d6 _ (by omega), d6 _ (by omega), d6 _ (by omega), d6 _ (by omega)⟩
    · intro y _ _ hz hy; exact absurd hz hy
    · intro y y1 y2 hy hk2 hz
      have h4 := ((hRR y y1 y2).2.2.2.1 hk2).2.2.1
      rw [hz, hk] at h4
      exact absurd h4 (by decide)
    · intro y y1 y2 hy hk2 p hpp
      rw [hnx, hkk]
      exact ⟨((hRR y y1 y2).2.2.2.2.2.1 hk2).2.1 p hpp, rfl⟩
    · intro z _ _ hz hzx; exact absurd hz hzx
    · obtain ⟨c1, c2, c3, c4⟩ := hwr x
      obtain ⟨m0, m1, m2, m3, m4⟩ := mKeep_d (u := mPut w (x / 32) (x % 32) (cellB 1 q) x) (c := x) (n := q) (sd := sd) (f := f) hx x hx
      rw [if_pos rfl] at c1 c2 c3 c4 m1 m2 m3 m4
      refine Or.inr ⟨Or.inl ⟨c1, rfl⟩, by rw [m0, d5 _ hx.1 hx.2, if_pos rfl], m1, by rw [m2, c2], by rw [m3, c3], by rw [m4, c4], ?_, ?_, ?_, by rw [c3]; exact hsd, ?_⟩
      · rw [hnx, c4, if_pos rfl]; exact L1
      · rw [if_pos rfl]; intro p hpp; rw [hkk]; exact (L2 p hpp).2
      · rw [if_pos rfl]; exact L3
      · intro y y1 y2 hy hk2 p hpp
        rw [if_pos rfl] at hpp
        exact L4 y y1 y2 hk2 p hpp
  · rw [awN_setp hp, stN_setp hp, awf_upd hs g1, f3, hN, show V (b + x / 32) 1 (x % 32) = 1 from hk]
    rw [if_neg (by decide), if_neg (by decide)]
    omega
/-- x goes away from its home -/
theorem sim_homeB {V : VT} {b : Int} {w : Int → Int → Int} {ch : Int → List Int} {L : List Int} {f q sd x pl t : Int} (h : Rel V b (w 1) ch) (hq : 0 ≤ q ∧ q ≤ 1200) (hsd : 0 ≤ sd ∧ sd ≤ 255) (hL : newCh V b ch L f) (hx : 0 ≤ x ∧ x < 3072) (hk : cK V b x = 1) (hpl : 0 ≤ pl ∧ pl < 96) (hkd : V (b + pl) 0 0 = 0 ∨ V (b + pl) 0 0 = 1) (hroom : cellB 3 q + 4 ≤ pRoom (V (b + pl))) (ht : pEmpty (V (b + pl)) t) (hne : pl ≠ x / 32) :
    ∃ ch', Rel (setp (setp V (b + pl) (pPut (V (b + pl)) t 3 q sd f)) (b + x / 32) (pChange (V (b + x / 32)) (x % 32) 2 (-1) (-1) (pl * 32 + t))) b (mKeep (mPut (mPut w pl t (cellB 3 q) x) (x / 32) (x % 32) 5 x) x (32 * pl + t) q sd f 1) ch' ∧ (∀ y, ch' y = if y = 32 * pl + t then L else ch y) ∧ (∀ i, kd (setp (setp V (b + pl) (pPut (V (b + pl)) t 3 q sd f)) (b + x / 32) (pChange (V (b + x / 32)) (x % 32) 2 (-1) (-1) (pl * 32 + t))) b i = if i = pl then 1 else kd V b i) ∧ cK (setp (setp V (b + pl) (pPut (V (b + pl)) t 3 q sd f)) (b + x / 32) (pChange (V (b + x / 32)) (x % 32) 2 (-1) (-1) (pl * 32 + t))) b x = 2 ∧ (∀ y, y ≠ x → y ≠ 32 * pl + t → cK (setp (setp V (b + pl) (pPut (V (b + pl)) t 3 q sd f)) (b + x / 32) (pChange (V (b + x / 32)) (x % 32) 2 (-1) (-1) (pl * 32 + t))) b y = cK V b y) ∧ ∃ δ, sumC (setp (setp V (b + pl) (pPut (V (b + pl)) t 3 q sd f)) (b + x / 32) (pChange (V (b + x / 32)) (x % 32) 2 (-1) (-1) (pl * 32 + t))) b = sumC V b + δ ∧ mKeep (mPut (mPut w pl t (cellB 3 q) x) (x / 32) (x % 32) 5 x) x (32 * pl + t) q sd f 0 4 = w 0 4 + if w 0 6 = 0 then δ else 0 := by
  obtain ⟨hI, hP, hRR, hN⟩ := h
  obtain ⟨L1, L2, L3, L4⟩ := hL
  have hp : 0 ≤ x / 32 ∧ x / 32 < 96 := by omega
  have hs : 0 ≤ x % 32 ∧ x % 32 < 32 := by omega
  have hxe : 32 * (x / 32) + x % 32 = x := by omega
  have hH := hI (x / 32) hp.1 hp.2
  have hkx : V (b + x / 32) 1 (x % 32) = 1 := hk
  have h0 : V (b + x / 32) 1 (x % 32) ≠ 0 := by omega
  have hPI := hI pl hpl.1 hpl.2
  have ht9 := PI_slot hPI ht
  have h00 := pEmpty_0 hPI ht
  have ht0 := ht.1.1
  have hr : 0 ≤ 32 * pl + t ∧ 32 * pl + t < 3072 := by omega
  have hK0 : cK V b (32 * pl + t) = 0 := by
    show V (b + (32 * pl + t) / 32) 1 ((32 * pl + t) % 32) = 0
    rw [show (32 * pl + t) / 32 = pl by omega, show (32 * pl + t) % 32 = t by omega]; exact h00
  have hcx : 32 * pl + t ≠ x := by omega
  obtain ⟨hPR, δ, hδ1, hδ2⟩ := PRel_put (k := 3) (n := q) (sd := sd) (lk := f) (ow := x) hI hP hpl ht hkd (Or.inr rfl)
  have hSI1 : SI (setp V (b + pl) (pPut (V (b + pl)) t 3 q sd f)) b := SI_setp hI (PI_put hPI ht (Or.inr rfl) hq hroom (by omega))
  have hwr := wrc_put (k := 3) (n := q) (sd := sd) (lk := f) ⟨ht0, ht9⟩ ht
  obtain ⟨d1, d2, d3, d4, d5, d6⟩ := mPut_d (w := w) (z := cellB 3 q) (ow := x) hpl ⟨ht0, ht9⟩
  obtain ⟨f0, f1, f2, f3, f4, f5, f6, f7, f8, g1, g2, g3, g4⟩ := pPut_f (V (b + pl)) t 3 q sd f ht.1
  have e1 : setp V (b + pl) (pPut (V (b + pl)) t 3 q sd f) (b + x / 32) = V (b + x / 32) := setp_ne (by omega)
  have haw1 : awN (setp V (b + pl) (pPut (V (b + pl)) t 3 q sd f)) b = awN V b + 1 := by
    rw [awN_setp hpl, awf_upd ⟨ht0, ht9⟩ g1, h00, if_neg (by decide), if_pos rfl]; omega
  have hst1 : stN (setp V (b + pl) (pPut (V (b + pl)) t 3 q sd f)) b = stN V b := by
    rw [stN_setp hpl, f3, if_neg (by decide)]; omega
  have hkd1 : ∀ i, kd (setp V (b + pl) (pPut (V (b + pl)) t 3 q sd f)) b i = if i = pl then 1 else kd V b i := by
    intro i
    by_cases hi : i = pl
    · subst hi; rw [if_pos rfl]; simp only [kd]; rw [setp_at]; exact f0
    · rw [if_neg hi]; exact kd_setp hi
  have hnx1 : nx (setp V (b + pl) (pPut (V (b + pl)) t 3 q sd f)) b = nx V b := nx_setp f6
  generalize setp V (b + pl) (pPut (V (b + pl)) t 3 q sd f) = V1 at *
  obtain ⟨hPR2, δ2, hδ3, hδ4⟩ := PRel_change (k := 2) (n := -1) (sd := -1) (lk := pl * 32 + t) (ow := x) hSI1 hPR hp hs (by rw [e1]; exact h0) (by omega)
  have hwr2 := wrc_change (V := V1) (b := b) (p := x / 32) (t := x % 32) (k := 2) (n := -1) (sd := -1) (lk := pl * 32 + t) hs
  rw [hxe] at hwr2
  have hSI2 : SI (setp V1 (b + x / 32) (pChange (V1 (b + x / 32)) (x % 32) 2 (-1) (-1) (pl * 32 + t))) b := by
    refine SI_setp hSI1 (PI_change (hSI1 _ hp.1 hp.2) hs (by rw [e1]; exact h0) (by omega) ⟨by omega, by omega⟩ ?_)
    rw [e1, show cellB 2 (-1) = 5 by decide]
    have := (cellB_bd (k := V (b + x / 32) 1 (x % 32)) (hH.1 (x % 32) hs.1 hs.2).2.1).1
    have h5 : 5 ≤ pBytes (V (b + x / 32)) (x % 32) := this
    have := PI_room hH
    omega
  obtain ⟨d1', d2', d3', d4', d5', d6'⟩ := mPut_d (w := mPut w pl t (cellB 3 q) x) (z := 5) (ow := x) hp hs
  rw [hxe] at d5'
  obtain ⟨f0', f1', f2', f3', f4', f5', f6', f7', f8', g1', g2', g3', g4'⟩ := pChange_f (V1 (b + x / 32)) (x % 32) 2 (-1) (-1) (pl * 32 + t)
  rw [show cellB 2 (-1) = 5 by decide] at hPR2 hδ4
  rw [← e1]
  have hnx2 : nx (setp V1 (b + x / 32) (pChange (V1 (b + x / 32)) (x % 32) 2 (-1) (-1) (pl * 32 + t))) b = nx V b := by rw [nx_setp f6', hnx1]
  have hkd2 : ∀ i, kd (setp V1 (b + x / 32) (pChange (V1 (b + x / 32)) (x % 32) 2 (-1) (-1) (pl * 32 + t))) b i = if i = pl then 1 else kd V b i := by
    intro i
    by_cases hi : i = x / 32
    · subst hi
      rw [if_neg (fun e => hne e.symm)]
      simp only [kd]
      rw [setp_at, f0', e1]
    · rw [kd_setp hi, hkd1]
  have hnp : ∀ p, kd V b p = 2 → p ≠ pl := fun p hp2 e => by rw [e] at hp2; simp only [kd] at hp2; omega
  have hcc : ∀ c, cK (setp V1 (b + x / 32) (pChange (V1 (b + x / 32)) (x % 32) 2 (-1) (-1) (pl * 32 + t))) b c = (if c = x then 2 else if c = 32 * pl + t then 3 else cK V b c) ∧ cL (setp V1 (b + x / 32) (pChange (V1 (b + x / 32)) (x % 32) 2 (-1) (-1) (pl * 32 + t))) b c = (if c = x then -1 else if c = 32 * pl + t then q else cL V b c) ∧ cS (setp V1 (b + x / 32) (pChange (V1 (b + x / 32)) (x % 32) 2 (-1) (-1) (pl * 32 + t))) b c = (if c = x then -1 else if c = 32 * pl + t then sd else cS V b c) ∧ cN (setp V1 (b + x / 32) (pChange (V1 (b + x / 32)) (x % 32) 2 (-1) (-1) (pl * 32 + t))) b c = (if c = x then pl * 32 + t else if c = 32 * pl + t then f else cN V b c) := by
    intro c
    obtain ⟨a1, a2, a3, a4⟩ := hwr2 c
    obtain ⟨b1, b2, b3, b4⟩ := hwr c
    rw [a1, a2, a3, a4, b1, b2, b3, b4]
    exact ⟨rfl, rfl, rfl, rfl⟩
  refine ⟨fun c => if c = 32 * pl + t then L else ch c, ⟨hSI2, PRel_keep hx hPR2, ?_, ?_⟩, fun _ => rfl, hkd2, by rw [(hcc x).1, if_pos rfl], fun y y1 y2 => by rw [(hcc y).1, if_neg y1, if_neg y2], δ + δ2, by rw [hδ3, hδ1]; omega, ?_⟩
  · refine RR_upd (x := x) (v := 32 * pl + t) (Z := fun y => y = x ∨ y = 32 * pl + t) hRR hx hr (Or.inl rfl) (Or.inr rfl) ?_ ?_ ?_ ?_ ?_ ?_ ?_
    · intro y y1 y2 hy
      have hy1 : y ≠ x := fun e => hy (Or.inl e)
      have hy2 : y ≠ 32 * pl + t := fun e => hy (Or.inr e)
      obtain ⟨c1, c2, c3, c4⟩ := hcc y
      obtain ⟨m0, m1, m2, m3, m4⟩ := mKeep_d (u := mPut (mPut w pl t (cellB 3 q) x) (x / 32) (x % 32) 5 x) (c := 32 * pl + t) (n := q) (sd := sd) (f := f) hx y ⟨y1, y2⟩
      rw [if_neg hy1, if_neg hy2] at c1 c2 c3 c4
      exact ⟨c1, c2, c3, c4, by rw [m0, d5' y y1 y2, if_neg hy1, d5 y y1 y2, if_neg hy2], if_neg hy2⟩
    · intro y y1 y2 hy
      obtain ⟨m0, m1, m2, m3, m4⟩ := mKeep_d (u := mPut (mPut w pl t (cellB 3 q) x) (x / 32) (x % 32) 5 x) (c := 32 * pl + t) (n := q) (sd := sd) (f := f) hx y ⟨y1, y2⟩
      rw [m1, m2, m3, m4, if_neg hy, if_neg hy, if_neg hy, if_neg hy, d6' _ (by omega), d6' _ (by omega), d6' _ (by omega), d6' _ (by omega)]
      exact ⟨d6 _ (by omega), d6 _ (by omega), d6 _ (by omega), d6 _ (by omega)⟩
    · intro y _ _ hz hy
      have : y = 32 * pl + t := hz.resolve_left hy
      rw [this, hK0]; decide
    · intro y y1 y2 hy hk2 hz
      have h4 := ((hRR y y1 y2).2.2.2.1 hk2).2.2.1
      rcases hz with hz | hz
      · rw [hz, hk] at h4; exact absurd h4 (by decide)
      · rw [hz, hK0] at h4; exact absurd h4 (by decide)
    · intro y y1 y2 hy hk2 p hpp
      have hk22 := ((hRR y y1 y2).2.2.2.2.2.1 hk2).2.1 p hpp
      rw [hnx2, hkd2, if_neg (hnp p hk22)]
      exact ⟨hk22, rfl⟩
    · intro z _ _ hz hzx hzv; exact absurd (hz.resolve_left hzx) hzv
    · obtain ⟨c1, c2, c3, c4⟩ := hcc x
      obtain ⟨v1, v2, v3, v4⟩ := hcc (32 * pl + t)
      obtain ⟨m0, m1, m2, m3, m4⟩ := mKeep_d (u := mPut (mPut w pl t (cellB 3 q) x) (x / 32) (x % 32) 5 x) (c := 32 * pl + t) (n := q) (sd := sd) (f := f) hx x hx
      obtain ⟨n0, n1, n2, n3, n4⟩ := mKeep_d (u := mPut (mPut w pl t (cellB 3 q) x) (x / 32) (x % 32) 5 x) (c := 32 * pl + t) (n := q) (sd := sd) (f := f) hx (32 * pl + t) hr
      rw [if_pos rfl] at c1 c2 c3 c4 m1 m2 m3 m4
      rw [if_neg hcx, if_pos rfl] at v1 v2 v3 v4
      refine Or.inr ⟨Or.inr ⟨c1, hcx, v1, by rw [c4]; omega, by omega, by rw [n0, d5' _ hr.1 hr.2, if_neg hcx, d5 _ hr.1 hr.2, if_pos rfl]⟩, by rw [m0, d5' _ hx.1 hx.2, if_pos rfl], m1, by rw [m2, v2], by rw [m3, v3], by rw [m4, v4], ?_, ?_, ?_, by rw [v3]; exact hsd, ?_⟩
      · rw [hnx2, v4, if_pos rfl]; exact L1
      · rw [if_pos rfl]; intro p hpp; rw [hkd2, if_neg (hnp p (L2 p hpp).2)]; exact (L2 p hpp).2
      · rw [if_pos rfl]; exact L3
      · intro y y1 y2 hy hk2 p hpp
        rw [if_pos rfl] at hpp
        exact L4 y y1 y2 hk2 p hpp
  · rw [awN_setp hp, stN_setp hp, awf_upd hs g1', f3', haw1, hst1, hN, e1, hkx]
    rw [if_neg (by decide), if_neg (by decide), if_neg (by decide), if_pos rfl]
    omega
  · rw [mKeep_0 (by decide), hδ4, hδ2, mPut_0 (by decide) (Or.inr (by decide))]
    split <;> omega
