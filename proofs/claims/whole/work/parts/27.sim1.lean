/-! the model's pages as the class has them -/
def PRel (V : VT) (b : Int) (d : Int → Int) : Prop := ∀ p, 0 ≤ p → p < 96 → (V (b + p) 0 0 = d p ∧ V (b + p) 0 5 = d (96 + p) ∧ (V (b + p) 0 0 = 2 → V (b + p) 0 6 = d (192 + p)) ∧ (V (b + p) 0 0 = 2 → V (b + p) 0 7 = d (288 + p))) ∧ ∀ s, 0 ≤ s → s < 32 → d (384 + 32 * p + s) = szf (V (b + p)) s
theorem PI_cel {w : Int → Int → Int} {s : Int} (h : PI w) (hs : 0 ≤ s ∧ s < 32) (h0 : w 1 s ≠ 0) : w 0 0 = 1 := by
  by_cases hz : w 0 0 = 1
  · exact hz
  · exfalso
    have h8 := (h.2.2.2.2.2.1.2.2 hz).1
    have hz9 := sumF_zero (F := cef w) (n := 32) (fun i _ _ => by unfold cef; split <;> omega) (by have := h.2.2.1; omega) s hs.1 (by omega)
    unfold cef at hz9
    rw [if_neg h0] at hz9
    exact absurd hz9 (by decide)
theorem szf_pos {w : Int → Int → Int} {s : Int} (h : okc w s) : (0 < szf w s ↔ w 1 s ≠ 0) ∧ 0 ≤ szf w s ∧ szf w s ≤ 105 := by
  unfold szf
  have := cellB_bd (k := w 1 s) h.2.1
  split <;> omega
theorem mSl_char {w : Int → Int → Int} {p n : Int} {N : Nat} (h0 : 0 ≤ n ∧ n ≤ N) (h1 : ∀ s : Int, n ≤ s → s < N → ¬ 0 < mSz w p s) (h2 : 0 < n → 0 < mSz w p (n - 1)) : mSl w p N = n := by
  induction N with
  | zero => show (0 : Int) = n; omega
  | succ N ih =>
    unfold mSl
    by_cases hn : n = N + 1
    · rw [if_pos (by have := h2 (by omega); rwa [show n - 1 = N by omega] at this)]; omega
    · rw [if_neg (h1 N (by omega) (by omega))]
      exact ih ⟨h0.1, by omega⟩ (fun s q1 q2 => h1 s q1 (by omega))
theorem page_sim {V : VT} {b : Int} {w : Int → Int → Int} {p : Int} (hI : SI V b) (hR : PRel V b (w 1)) (hp : 0 ≤ p ∧ p < 96) : mSl w p 32 = V (b + p) 0 1 ∧ mTk w p = V (b + p) 0 4 ∧ mCe w p = V (b + p) 0 2 ∧ mRoom w p = pRoom (V (b + p)) := by
  have hP := hI p hp.1 hp.2
  have hz := (hR p hp.1 hp.2).2
  obtain ⟨h1, ⟨h2, h3, h4⟩, h5, h6, h7, h8, h9⟩ := hP
  have e1 : mSl w p 32 = V (b + p) 0 1 := mSl_char (N := 32) ⟨h2.1, h2.2⟩ (fun s q1 q2 => by
    unfold mSz
    rw [hz s (by omega) (by omega)]
    intro h
    exact ((szf_pos (h1 s (by omega) (by omega))).1.mp h) (h3 s q1 (by omega))) (fun q => by
    unfold mSz
    rw [hz _ (by omega) (by omega)]
    exact (szf_pos (h1 _ (by omega) (by omega))).1.mpr (h4 q))
  have e2 : mTk w p = V (b + p) 0 4 := by rw [h7]; exact sumF_congr (fun s q1 q2 => hz s q1 (by omega))
  have e3 : mCe w p = V (b + p) 0 2 := by
    rw [h5]
    refine sumF_congr (fun s q1 q2 => ?_)
    unfold mCf cef mSz
    rw [hz s q1 (by omega)]
    have := (szf_pos (h1 s q1 (by omega))).1
    by_cases hk : V (b + p) 1 s = 0
    · rw [if_neg (fun h => this.mp h hk), if_pos hk]
    · rw [if_pos (this.mpr hk), if_neg hk]
  exact ⟨e1, e2, e3, by unfold mRoom pRoom; rw [e1, e2]⟩
theorem MB_of {V : VT} {b : Int} {w : Int → Int → Int} (hI : SI V b) (hR : PRel V b (w 1)) : MB w := by
  intro p p1 p2
  obtain ⟨e1, e2, e3, e4⟩ := page_sim hI hR ⟨p1, p2⟩
  have hP := hI p p1 p2
  have hb := PI_bd hP
  have hr := PI_room hP
  have hq := hR p p1 p2
  rw [e2, e4, ← hq.1.2.1]
  exact ⟨by omega, ⟨by have := hP.2.2.2.2.2.2; omega, by have := hP.2.2.2.2.2.2; omega⟩, fun _ => hr, fun s s1 s2 => by unfold mSz; rw [hq.2 s s1 s2]; exact (szf_pos (hP.1 s s1 s2)).2.1⟩
/-- places are the same -/
theorem place_sim {V : VT} {b : Int} {w : Int → Int → Int} {n x y y' r r' : Int} (hI : SI V b) (hR : PRel V b (w 1)) (hy : ∀ i, 0 ≤ i → i < 96 → (i ≠ x ∧ i ≠ y ↔ i ≠ x ∧ i ≠ y')) (h : isPl V b n x y r) (h' : isPlM w n x y' r') : r = r' := by
  have hok : ∀ i, 0 ≤ i → i < 96 → (okp V b x y i ↔ okm w x y' i) := by
    intro i i1 i2
    have e := (hR i i1 i2).1.1
    have e3 := (page_sim hI hR ⟨i1, i2⟩).2.2.1
    have hb := PI_bd (hI i i1 i2)
    have hyi := hy i i1 i2
    unfold okp okm
    rw [e3]
    constructor
    · rintro ⟨a1, a2, a3, a4⟩
      have := hyi.mp ⟨a1, a2⟩
      exact ⟨by omega, this.1, this.2, by omega⟩
    · rintro ⟨a1, a2, a3, a4⟩
      have := hyi.mpr ⟨a2, a3⟩
      exact ⟨this.1, this.2, by omega, by omega⟩
  have hrm : ∀ i, 0 ≤ i → i < 96 → mRoom w i = pRoom (V (b + i)) := fun i i1 i2 => (page_sim hI hR ⟨i1, i2⟩).2.2.2
  have hcl : ∀ i, 0 ≤ i → i < 96 → mCl w i = pCls (V (b + i)) := fun i i1 i2 => by unfold mCl; rw [hrm i i1 i2]
  have hkd : ∀ i, 0 ≤ i → i < 96 → kd V b i = w 1 i := fun i i1 i2 => (hR i i1 i2).1.1
  -- the searches by classes
  have LC : ∀ r c r', isLC V b n x y 96 r c → isLCd (okm w x y') (mCl w) n 0 r' → r = r' := by
    intro r c r' h h'
    rcases h with ⟨e, -, k⟩ | ⟨k1, k2, k3, k4, k5, k6, k7⟩ <;> rcases h' with ⟨e', k'⟩ | ⟨k1', k2', k3', k5', k6', k7'⟩
    · omega
    · have := k r' k1' k2' ((hok r' k1' k2').mpr k3')
      rw [hcl r' k1' k2'] at k5'
      omega
    · have := k' r k1 k2 ((hok r k1 k2).mp k3)
      rw [hcl r k1 k2] at this
      omega
    · have a1 := k6 r' k1' k2' ((hok r' k1' k2').mpr k3') (by rw [hcl r' k1' k2'] at k5'; omega)
      have a2 := k6' r k1 k2 ((hok r k1 k2).mp k3) (by rw [hcl r k1 k2]; omega)
      rw [hcl r k1 k2, hcl r' k1' k2'] at a2
      rcases Int.lt_trichotomy r r' with q | q | q
      · have := k7' r k1 q ((hok r k1 k2).mp k3) (by rw [hcl r k1 k2]; omega)
        rw [hcl r k1 k2, hcl r' k1' k2'] at this
        omega
      · exact q
      · have := k7 r' k1' q ((hok r' k1' k2').mpr k3') (by rw [hcl r' k1' k2'] at k5'; omega)
        omega
  have FR : ∀ r r', isFR V b n x y r → isFRd (okm w x y') (mRoom w) n 0 r' → r = r' := by
    intro r r' h h'
    rcases h with ⟨e, k⟩ | ⟨k1, k2, k3, k4, k5⟩ <;> rcases h' with ⟨e', k'⟩ | ⟨k1', k2', k3', k4', k5'⟩
    · omega
    · have := k r' k1' k2' ((hok r' k1' k2').mpr k3')
      rw [hrm r' k1' k2'] at k4'
      omega
    · have := k' r k1 k2 ((hok r k1 k2).mp k3)
      rw [hrm r k1 k2] at this
      omega
    · rcases Int.lt_trichotomy r r' with q | q | q
      · have := k5' r k1 q ((hok r k1 k2).mp k3)
        rw [hrm r k1 k2] at this
        omega
      · exact q
      · have := k5 r' k1' q ((hok r' k1' k2').mpr k3')
        rw [hrm r' k1' k2'] at k4'
        omega
  have LF : ∀ r r', isLF (kd V b) 0 r → isLF (w 1) 0 r' → r = r' := by
    intro r r' h h'
    refine isLF_uniq (by decide) h ?_
    rcases h' with ⟨e, k⟩ | ⟨k1, k2, k3, k4⟩
    · exact Or.inl ⟨e, fun i q1 q2 => by rw [hkd i q1 q2]; exact k i q1 q2⟩
    · exact Or.inr ⟨k1, k2, by rw [hkd r' k1 k2]; exact k3, fun i q1 q2 => by rw [hkd i q1 (by omega)]; exact k4 i q1 q2⟩
  rcases h with ⟨c, h1, h2⟩ | ⟨⟨c, h2⟩, h3⟩ <;> rcases h' with ⟨h1', h2'⟩ | ⟨h2', h3'⟩
  · exact LC _ _ _ h2 h2'
  · exact absurd (LC _ _ _ h2 h2') h1
  · exact absurd (LC _ _ _ h2 h2').symm h1'
  · rcases h3 with ⟨h4, h5⟩ | ⟨h5, h6⟩ <;> rcases h3' with ⟨h4', h5'⟩ | ⟨h5', h6'⟩
    · exact FR _ _ h5 h5'
    · exact absurd (FR _ _ h5 h5') h4
    · exact absurd (FR _ _ h5 h5').symm h4'
    · exact LF _ _ h6 h6'
/-- the slot is the same -/
theorem slot_sim {V : VT} {b : Int} {w : Int → Int → Int} {p t t' : Int} (hI : SI V b) (hR : PRel V b (w 1)) (hp : 0 ≤ p ∧ p < 96) (h : pEmpty (V (b + p)) t) (h' : mSlot w p t') (hk : V (b + p) 0 0 = 0 ∨ V (b + p) 0 0 = 1) : t = t' := by
  have hP := hI p hp.1 hp.2
  have hlt := PI_slot hP h
  have h0 := pEmpty_0 hP h
  have hz := (hR p hp.1 hp.2).2
  have hkd := (hR p hp.1 hp.2).1.1
  obtain ⟨k1, k2, k3⟩ := h
  rcases h' with ⟨e1, rfl⟩ | ⟨e1, ⟨m1, m2, m3⟩⟩
  · obtain ⟨q1, ⟨g2, g3, g4⟩, q5, q6, q7, q8, q9⟩ := hP
    have h80 := q8.2.2 (by omega)
    have hs0 : V (b + p) 0 1 = 0 := by
      by_cases hq : 0 < V (b + p) 0 1
      · exfalso
        have h10 := sumF_zero (F := cef (V (b + p))) (n := 32) (fun i _ _ => by unfold cef; split <;> omega) (by omega) (V (b + p) 0 1 - 1) (by omega) (by omega)
        unfold cef at h10
        rw [if_neg (g4 hq)] at h10
        exact absurd h10 (by decide)
      · omega
    omega
  · unfold mSz at m2 m3
    rcases Int.lt_trichotomy t t' with q | q | q
    · have := m3 t k1.1 q
      rw [hz t k1.1 (by omega)] at this
      exact absurd h0 ((szf_pos (hP.1 t k1.1 (by omega))).1.mp this)
    · exact q
    · have h1 := k2 t' m1.1 q
      have := (szf_pos (hP.1 t' m1.1 m1.2)).1.mpr h1
      rw [hz t' m1.1 m1.2] at m2
      omega
/-- a put, and a change: the model's putCell -/
theorem mPut_d {w : Int → Int → Int} {p s z ow : Int} (hp : 0 ≤ p ∧ p < 96) (hs : 0 ≤ s ∧ s < 32) :
    (∀ i, 0 ≤ i → i < 96 → mPut w p s z ow 1 i = if i = p then 1 else w 1 i) ∧ (∀ i, 0 ≤ i → i < 96 → mPut w p s z ow 1 (96 + i) = if i = p then mPutE w p s z else w 1 (96 + i)) ∧ (∀ i, 0 ≤ i → i < 192 → mPut w p s z ow 1 (192 + i) = w 1 (192 + i)) ∧
    (∀ c, 0 ≤ c → c < 3072 → mPut w p s z ow 1 (384 + c) = if c = 32 * p + s then z else w 1 (384 + c)) ∧ (∀ c, 0 ≤ c → c < 3072 → mPut w p s z ow 1 (3456 + c) = if c = 32 * p + s then ow else w 1 (3456 + c)) ∧ (∀ j, 6528 ≤ j → mPut w p s z ow 1 j = w 1 j) := by
  unfold mPut
  refine ⟨fun i i1 i2 => ?_, fun i i1 i2 => ?_, fun i i1 i2 => ?_, fun c c1 c2 => ?_, fun c c1 c2 => ?_, fun j j1 => ?_⟩
  · rw [upw_j (by omega), upw_j (by omega), upw_j (by omega), upw_t (by decide)]
    unfold upw
    by_cases h : i = p
    · rw [if_pos ⟨rfl, h⟩, if_pos h]
    · rw [if_neg (fun q => h q.2), if_neg h]
  · rw [upw_j (by omega), upw_j (by omega)]
    by_cases h : i = p
    · subst h; rw [upw_at, if_pos rfl]
    · rw [upw_j (by omega), upw_t (by decide), upw_j (by omega), if_neg h]
  · rw [upw_j (by omega), upw_j (by omega), upw_j (by omega), upw_t (by decide), upw_j (by omega)]
  · rw [upw_j (by omega)]
    by_cases h : c = 32 * p + s
    · rw [show 384 + c = 384 + 32 * p + s by omega, upw_at, if_pos h]
    · rw [upw_j (by omega), upw_j (by omega), upw_t (by decide), upw_j (by omega), if_neg h]
  · by_cases h : c = 32 * p + s
    · rw [show 3456 + c = 3456 + 32 * p + s by omega, upw_at, if_pos h]
    · rw [upw_j (by omega), upw_j (by omega), upw_j (by omega), upw_t (by decide), upw_j (by omega), if_neg h]
  · rw [upw_j (by omega), upw_j (by omega), upw_j (by omega), upw_t (by decide), upw_j (by omega)]
theorem mPut_4 (w : Int → Int → Int) (p s z ow : Int) : mPut w p s z ow 0 4 = w 0 4 + mPutC w p s z := by
  unfold mPut
  rw [upw_t (by decide), upw_t (by decide), upw_t (by decide), upw_at]
theorem mTake_d {w : Int → Int → Int} {p s : Int} (hp : 0 ≤ p ∧ p < 96) (hs : 0 ≤ s ∧ s < 32) :
    (∀ i, 0 ≤ i → i < 96 → mTake w p s 1 i = if i = p ∧ mCe (upw w 1 (384 + 32 * p + s) 0) p = 0 then 0 else w 1 i) ∧ (∀ i, 0 ≤ i → i < 96 → mTake w p s 1 (96 + i) = if i = p ∧ mCe (upw w 1 (384 + 32 * p + s) 0) p = 0 then 0 else w 1 (96 + i)) ∧ (∀ i, 0 ≤ i → i < 192 → mTake w p s 1 (192 + i) = w 1 (192 + i)) ∧
    (∀ c, 0 ≤ c → c < 3072 → mTake w p s 1 (384 + c) = if c = 32 * p + s then 0 else w 1 (384 + c)) ∧ (∀ j, 3456 ≤ j → mTake w p s 1 j = w 1 j) := by
  unfold mTake
  by_cases hc : mCe (upw w 1 (384 + 32 * p + s) 0) p = 0
  · simp only [if_pos hc]
    refine ⟨fun i i1 i2 => ?_, fun i i1 i2 => ?_, fun i i1 i2 => ?_, fun c c1 c2 => ?_, fun j j1 => ?_⟩
    · rw [upw_j (by omega)]
      by_cases h : i = p
      · subst h; rw [upw_at, if_pos ⟨rfl, hc⟩]
      · rw [upw_j h, upw_j (by omega), if_neg (fun q => h q.1)]
    · by_cases h : i = p
      · subst h; rw [upw_at, if_pos ⟨rfl, hc⟩]
      · rw [upw_j (by omega), upw_j (by omega), upw_j (by omega), if_neg (fun q => h q.1)]
    · rw [upw_j (by omega), upw_j (by omega), upw_j (by omega)]
    · rw [upw_j (by omega), upw_j (by omega)]
      by_cases h : c = 32 * p + s
      · rw [show 384 + c = 384 + 32 * p + s by omega, upw_at, if_pos h]
      · rw [upw_j (by omega), if_neg h]
    · rw [upw_j (by omega), upw_j (by omega), upw_j (by omega)]
  · simp only [if_neg hc]
    refine ⟨fun i i1 i2 => ?_, fun i i1 i2 => ?_, fun i i1 i2 => ?_, fun c c1 c2 => ?_, fun j j1 => ?_⟩
    · rw [upw_j (by omega), if_neg (fun q => hc q.2)]
    · rw [upw_j (by omega), if_neg (fun q => hc q.2)]
    · rw [upw_j (by omega)]
    · by_cases h : c = 32 * p + s
      · rw [show 384 + c = 384 + 32 * p + s by omega, upw_at, if_pos h]
      · rw [upw_j (by omega), if_neg h]
    · rw [upw_j (by omega)]
def sumC (V : VT) (b : Int) : Int := sumF (fun i => V (b + i) 0 8) 96
theorem sumC_setp {V : VT} {b p : Int} {w : Int → Int → Int} (hp : 0 ≤ p ∧ p < 96) : sumC (setp V (b + p) w) b = sumC V b - V (b + p) 0 8 + w 0 8 := by
  unfold sumC
  rw [sumF_upd (F := fun i => V (b + i) 0 8) (F' := fun i => setp V (b + p) w (b + i) 0 8) (r := p) (n := 96) ⟨hp.1, by omega⟩ (fun i _ _ hi => by rw [setp_ne (by omega)]), setp_at]
theorem PRel_put {V : VT} {b : Int} {w : Int → Int → Int} {p t k n sd lk ow : Int} (hI : SI V b) (hR : PRel V b (w 1)) (hp : 0 ≤ p ∧ p < 96) (ht : pEmpty (V (b + p)) t) (hkd : V (b + p) 0 0 = 0 ∨ V (b + p) 0 0 = 1) (hk : k = 1 ∨ k = 3) :
    PRel (setp V (b + p) (pPut (V (b + p)) t k n sd lk)) b (mPut w p t (cellB k n) ow 1) ∧ (∃ δ, sumC (setp V (b + p) (pPut (V (b + p)) t k n sd lk)) b = sumC V b + δ ∧ mPut w p t (cellB k n) ow 0 4 = w 0 4 + if w 0 6 = 0 then δ else 0) := by
  have hP := hI p hp.1 hp.2
  have ht9 := PI_slot hP ht
  have ht0 := ht.1.1
  have h0 := pEmpty_0 hP ht
  obtain ⟨e1, e2, e3, e4⟩ := page_sim hI hR hp
  obtain ⟨f0, f1, f2, f3, f4, f5, f6, f7, f8, g1, g2, g3, g4⟩ := pPut_f (V (b + p)) t k n sd lk ht.1
  obtain ⟨d1, d2, d3, d4, d5, d6⟩ := mPut_d (w := w) (z := cellB k n) (ow := ow) hp ⟨ht.1.1, ht9⟩
  have hz : mSz w p t = 0 := by unfold mSz; rw [(hR p hp.1 hp.2).2 t ht.1.1 ht9]; unfold szf; rw [if_pos h0]
  have hall : mAll w p t = if t < V (b + p) 0 1 then V (b + p) 0 1 else t + 1 := by unfold mAll; rw [e1]
  have hE0 : mE0 w p = V (b + p) 0 5 := by
    unfold mE0
    obtain ⟨⟨q0, q5, -⟩, -⟩ := hR p hp.1 hp.2
    rw [← q0, ← q5]
    rcases hkd with h | h
    · rw [if_neg (by omega)]; have := (hP.2.2.2.2.2.1.2.2 (by omega)).2; omega
    · rw [if_pos h]
  have hE : mPutE w p t (cellB k n) = pPut (V (b + p)) t k n sd lk 0 5 := by
    unfold mPutE
    rw [if_pos (Or.inl hz), hall, hE0, e2, hz, f5]
    unfold nEnd
    split <;> omega
  have hC : mPutC w p t (cellB k n) = if w 0 6 = 0 then nCmp (V (b + p) 0 5) (if t < V (b + p) 0 1 then V (b + p) 0 1 else t + 1) (cellB k n) else 0 := by
    unfold mPutC
    rw [if_pos (Or.inl hz), hall, hE0]
    unfold nCmp
    generalize (if t < V (b + p) 0 1 then V (b + p) 0 1 else t + 1) = al
    repeat' split
    all_goals first | rfl | omega
  refine ⟨fun i i1 i2 => ?_, nCmp (V (b + p) 0 5) (if t < V (b + p) 0 1 then V (b + p) 0 1 else t + 1) (cellB k n), ?_, ?_⟩
  · by_cases hi : i = p
    · subst hi
      rw [setp_at]
      obtain ⟨⟨q0, q5, q6, q7⟩, qs⟩ := hR i i1 i2
      refine ⟨⟨by rw [f0, d1 i i1 i2, if_pos rfl], by rw [d2 i i1 i2, if_pos rfl, hE], fun z => absurd (f0.symm.trans z) (by decide), fun z => absurd (f0.symm.trans z) (by decide)⟩, fun s s1 s2 => ?_⟩
      rw [show 384 + 32 * i + s = 384 + (32 * i + s) by omega, d4 _ (by omega) (by omega)]
      unfold szf
      rw [g1, g2]
      by_cases hs : s = t
      · subst hs; rw [if_pos rfl, if_pos rfl, if_pos rfl, if_neg (by omega)]
      · rw [if_neg (by omega), if_neg hs, if_neg hs, show 384 + (32 * i + s) = 384 + 32 * i + s by omega]; exact qs s s1 s2
    · rw [setp_ne (by omega)]
      obtain ⟨⟨q0, q5, q6, q7⟩, qs⟩ := hR i i1 i2
      refine ⟨⟨by rw [d1 i i1 i2, if_neg hi]; exact q0, by rw [d2 i i1 i2, if_neg hi]; exact q5, by rw [d3 i i1 (by omega)]; exact q6, by rw [show 288 + i = 192 + (96 + i) by omega, d3 (96 + i) (by omega) (by omega), show 192 + (96 + i) = 288 + i by omega]; exact q7⟩, fun s s1 s2 => ?_⟩
      rw [show 384 + 32 * i + s = 384 + (32 * i + s) by omega, d4 _ (by omega) (by omega), if_neg (by omega), show 384 + (32 * i + s) = 384 + 32 * i + s by omega]
      exact qs s s1 s2
  · rw [sumC_setp hp, f8]
    generalize nCmp (V (b + p) 0 5) (if t < V (b + p) 0 1 then V (b + p) 0 1 else t + 1) (cellB k n) = δ
    omega
  · rw [mPut_4, hC]
theorem PRel_change {V : VT} {b : Int} {w : Int → Int → Int} {p t k n sd lk ow : Int} (hI : SI V b) (hR : PRel V b (w 1)) (hp : 0 ≤ p ∧ p < 96) (ht : 0 ≤ t ∧ t < 32) (h0 : V (b + p) 1 t ≠ 0) (hk : 1 ≤ k ∧ k ≤ 3) :
    PRel (setp V (b + p) (pChange (V (b + p)) t k n sd lk)) b (mPut w p t (cellB k n) ow 1) ∧ (∃ δ, sumC (setp V (b + p) (pChange (V (b + p)) t k n sd lk)) b = sumC V b + δ ∧ mPut w p t (cellB k n) ow 0 4 = w 0 4 + if w 0 6 = 0 then δ else 0) := by
  have hP := hI p hp.1 hp.2
  obtain ⟨e1, e2, e3, e4⟩ := page_sim hI hR hp
  obtain ⟨f0, f1, f2, f3, f4, f5, f6, f7, f8, g1, g2, g3, g4⟩ := pChange_f (V (b + p)) t k n sd lk
  obtain ⟨d1, d2, d3, d4, d5, d6⟩ := mPut_d (w := w) (z := cellB k n) (ow := ow) hp ht
  have hz : mSz w p t = pBytes (V (b + p)) t := by unfold mSz; rw [(hR p hp.1 hp.2).2 t ht.1 ht.2]; unfold szf pBytes; rw [if_neg h0]
  have hpb := (cellB_bd (k := V (b + p) 1 t) (hP.1 t ht.1 ht.2).2.1)
  have hpb' : 5 ≤ pBytes (V (b + p)) t := hpb.1
  have hsl : t < V (b + p) 0 1 := by
    by_cases hq : t < V (b + p) 0 1
    · exact hq
    · exact absurd (hP.2.1.2.1 t (by omega) ht.2) h0
  have hkd : V (b + p) 0 0 = 1 := by
    by_cases hq : V (b + p) 0 0 = 1
    · exact hq
    · exfalso
      have hc0 := (hP.2.2.2.2.2.1.2.2 hq).1
      have hz0 := sumF_zero (F := cef (V (b + p))) (n := 32) (fun i _ _ => by unfold cef; split <;> omega) (by have := hP.2.2.1; omega) t ht.1 (by omega)
      unfold cef at hz0
      rw [if_neg h0] at hz0
      exact absurd hz0 (by decide)
  have hall : mAll w p t = V (b + p) 0 1 := by unfold mAll; rw [e1, if_pos hsl]
  have hE0 : mE0 w p = V (b + p) 0 5 := by
    unfold mE0
    obtain ⟨⟨q0, q5, -⟩, -⟩ := hR p hp.1 hp.2
    rw [← q0, ← q5, if_pos hkd]
  have hE : mPutE w p t (cellB k n) = pChange (V (b + p)) t k n sd lk 0 5 := by
    unfold mPutE
    rw [hall, hE0, e2, hz, f5]
    unfold nEnd
    repeat' split
    all_goals omega
  have hC : mPutC w p t (cellB k n) = if w 0 6 = 0 then (if cellB k n ≤ pBytes (V (b + p)) t then 0 else nCmp (V (b + p) 0 5) (V (b + p) 0 1) (cellB k n)) else 0 := by
    unfold mPutC
    rw [hall, hE0, hz]
    unfold nCmp
    repeat' split
    all_goals first | rfl | omega
  refine ⟨fun i i1 i2 => ?_, (if cellB k n ≤ pBytes (V (b + p)) t then 0 else nCmp (V (b + p) 0 5) (V (b + p) 0 1) (cellB k n)), ?_, ?_⟩
  · by_cases hi : i = p
    · subst hi
      rw [setp_at]
      obtain ⟨⟨q0, q5, q6, q7⟩, qs⟩ := hR i i1 i2
      refine ⟨⟨by rw [f0, d1 i i1 i2, if_pos rfl]; exact hkd, by rw [d2 i i1 i2, if_pos rfl, hE], by rw [f0, f6, d3 i i1 (by omega)]; exact q6, by rw [f0, f7, show 288 + i = 192 + (96 + i) by omega, d3 (96 + i) (by omega) (by omega), show 192 + (96 + i) = 288 + i by omega]; exact q7⟩, fun s s1 s2 => ?_⟩
      rw [show 384 + 32 * i + s = 384 + (32 * i + s) by omega, d4 _ (by omega) (by omega)]
      unfold szf
      rw [g1, g2]
      by_cases hs : s = t
      · subst hs; rw [if_pos rfl, if_pos rfl, if_pos rfl, if_neg (by omega)]
      · rw [if_neg (by omega), if_neg hs, if_neg hs, show 384 + (32 * i + s) = 384 + 32 * i + s by omega]; exact qs s s1 s2
    · rw [setp_ne (by omega)]
      obtain ⟨⟨q0, q5, q6, q7⟩, qs⟩ := hR i i1 i2
      refine ⟨⟨by rw [d1 i i1 i2, if_neg hi]; exact q0, by rw [d2 i i1 i2, if_neg hi]; exact q5, by rw [d3 i i1 (by omega)]; exact q6, by rw [show 288 + i = 192 + (96 + i) by omega, d3 (96 + i) (by omega) (by omega), show 192 + (96 + i) = 288 + i by omega]; exact q7⟩, fun s s1 s2 => ?_⟩
      rw [show 384 + 32 * i + s = 384 + (32 * i + s) by omega, d4 _ (by omega) (by omega), if_neg (by omega), show 384 + (32 * i + s) = 384 + 32 * i + s by omega]
      exact qs s s1 s2
  · rw [sumC_setp hp, f8]
    generalize (if cellB k n ≤ pBytes (V (b + p)) t then 0 else nCmp (V (b + p) 0 5) (V (b + p) 0 1) (cellB k n)) = δ
    omega
  · rw [mPut_4, hC]
theorem PRel_rem {V : VT} {b : Int} {w : Int → Int → Int} {p t n : Int} (hI : SI V b) (hR : PRel V b (w 1)) (hp : 0 ≤ p ∧ p < 96) (ht : 0 ≤ t ∧ t < 32) (h0 : V (b + p) 1 t ≠ 0) :
    PRel (setp V (b + p) (pRem (V (b + p)) t n)) b (mTake w p t 1) ∧ sumC (setp V (b + p) (pRem (V (b + p)) t n)) b = sumC V b := by
  have hP := hI p hp.1 hp.2
  have hk9 := PI_cel hP ht h0
  obtain ⟨e1, e2, e3, e4⟩ := page_sim hI hR hp
  obtain ⟨f0, f1, f2, f3, f4, f5, f6, f7, f8, g1, g2, g3, g4⟩ := pRem_f (V (b + p)) t n
  obtain ⟨d1, d2, d3, d4, d5⟩ := mTake_d (w := w) hp ht
  have hce : mCe (upw w 1 (384 + 32 * p + t) 0) p = V (b + p) 0 2 - 1 := by
    rw [← e3]
    show sumF (mCf (upw w 1 (384 + 32 * p + t) 0) p) 32 = sumF (mCf w p) 32 - 1
    rw [sumF_upd (F := mCf w p) (r := t) (n := 32) ⟨ht.1, by omega⟩ (fun i _ _ hi => by unfold mCf mSz; rw [upw_j (by omega)])]
    have a1 : mCf w p t = 1 := by
      unfold mCf mSz
      rw [(hR p hp.1 hp.2).2 t ht.1 ht.2, if_pos ((szf_pos (hP.1 t ht.1 ht.2)).1.mpr h0)]
    have a2 : mCf (upw w 1 (384 + 32 * p + t) 0) p t = 0 := by unfold mCf mSz; rw [upw_at, if_neg (by decide)]
    omega
  have hiff : (mCe (upw w 1 (384 + 32 * p + t) 0) p = 0) ↔ V (b + p) 0 2 = 1 := by rw [hce]; omega
  refine ⟨fun i i1 i2 => ?_, by rw [sumC_setp hp, f8]; omega⟩
  by_cases hi : i = p
  · subst hi
    rw [setp_at]
    obtain ⟨⟨q0, q5, q6, q7⟩, qs⟩ := hR i i1 i2
    refine ⟨⟨?_, ?_, fun z => absurd z (by rw [f0]; split <;> omega), fun z => absurd z (by rw [f0]; split <;> omega)⟩, fun s s1 s2 => ?_⟩
    · rw [f0, d1 i i1 i2]
      by_cases hc : V (b + i) 0 2 = 1
      · rw [if_pos hc, if_pos ⟨rfl, hiff.mpr hc⟩]
      · rw [if_neg hc, if_neg (fun z => hc (hiff.mp z.2))]; exact q0
    · rw [f5, d2 i i1 i2]
      by_cases hc : V (b + i) 0 2 = 1
      · rw [if_pos hc, if_pos ⟨rfl, hiff.mpr hc⟩]
      · rw [if_neg hc, if_neg (fun z => hc (hiff.mp z.2))]; exact q5
    · rw [show 384 + 32 * i + s = 384 + (32 * i + s) by omega, d4 _ (by omega) (by omega)]
      unfold szf
      rw [g1, g2]
      by_cases hs : s = t
      · subst hs; rw [if_pos rfl, if_pos rfl, if_pos rfl]
      · rw [if_neg (by omega), if_neg hs, show 384 + (32 * i + s) = 384 + 32 * i + s by omega]; exact qs s s1 s2
  · rw [setp_ne (by omega)]
    obtain ⟨⟨q0, q5, q6, q7⟩, qs⟩ := hR i i1 i2
    refine ⟨⟨by rw [d1 i i1 i2, if_neg (fun z => hi z.1)]; exact q0, by rw [d2 i i1 i2, if_neg (fun z => hi z.1)]; exact q5, by rw [d3 i i1 (by omega)]; exact q6, by rw [show 288 + i = 192 + (96 + i) by omega, d3 (96 + i) (by omega) (by omega), show 192 + (96 + i) = 288 + i by omega]; exact q7⟩, fun s s1 s2 => ?_⟩
    rw [show 384 + 32 * i + s = 384 + (32 * i + s) by omega, d4 _ (by omega) (by omega), if_neg (by omega), show 384 + (32 * i + s) = 384 + 32 * i + s by omega]
    exact qs s s1 s2
