theorem u7 (w : Int → Int → Int) (v : Int) : (upw w 0 7 v) 1 = w 1 := funext fun j => upw_t (by decide)
theorem u7t (w : Int → Int → Int) (v t : Int) (h : t ≠ 0) : (upw w 0 7 v) t = w t := funext fun j => upw_t h
theorem isR_iff {V : VT} {b : Int} {d : Int → Int} {ch : Int → List Int} {x : Int} (h : Rel V b d ch) (hx : 0 ≤ x ∧ x < 3072) : d (6528 + x) ≠ -1 ↔ (cK V b x = 1 ∨ cK V b x = 2) := by
  obtain ⟨r1, r2, r3, r4, -⟩ := h.2.2.1 x hx.1 hx.2
  constructor
  · intro q
    by_cases h1 : cK V b x = 1
    · exact Or.inl h1
    · by_cases h2 : cK V b x = 2
      · exact Or.inr h2
      · rw [if_neg h1, if_neg h2] at r3; exact absurd r3 q
  · rintro (q | q)
    · rw [if_pos q] at r3; omega
    · rw [if_neg (by omega), if_pos q] at r3; have := (r4 q).1; omega
theorem cel_kd {V : VT} {b p s : Int} (h : SI V b) (hp : 0 ≤ p ∧ p < 96) (hs : 0 ≤ s ∧ s < 32) (h0 : V (b + p) 1 s ≠ 0) : V (b + p) 0 0 = 1 := by
  by_cases hz : V (b + p) 0 0 = 1
  · exact hz
  · exfalso
    have hH := h p hp.1 hp.2
    have h8 := (hH.2.2.2.2.2.1.2.2 hz).1
    have hz9 := sumF_zero (F := cef (V (b + p))) (n := 32) (fun i _ _ => by unfold cef; split <;> omega) (by have := hH.2.2.1; omega) s hs.1 (by omega)
    unfold cef at hz9
    rw [if_neg h0] at hz9
    exact absurd hz9 (by decide)
theorem recOK_of {V : VT} {b : Int} {d : Int → Int} {ch : Int → List Int} {x : Int} (h : Rel V b d ch) (hx : 0 ≤ x ∧ x < 3072) (hk : cK V b x = 1 ∨ cK V b x = 2) : recOK V b x (ch (vcel V b x)) := by
  obtain ⟨c1, c2, c3, c4, -, -, c5, c6⟩ := rec_cell h hx hk
  obtain ⟨r1, r2, r3, r4, -⟩ := h.2.2.1 x hx.1 hx.2
  have h6 := (h.2.2.1 _ c1.1 c1.2).2.2.2.2.2.1 c3
  have hkx : V (b + x / 32) 1 (x % 32) = 1 ∨ V (b + x / 32) 1 (x % 32) = 2 := hk
  refine ⟨hx, cel_kd (s := x % 32) h.1 (by omega) (by omega) (by omega), hk, fun q => ?_, c5, h6.2.1, h6.2.2.1⟩
  obtain ⟨s1, s2, s3, s4⟩ := r4 q
  have s3' : V (b + cN V b x / 32) 1 (cN V b x % 32) = 3 := s3
  exact ⟨s1, s2, cel_kd (s := cN V b x % 32) h.1 (show 0 ≤ cN V b x / 32 ∧ cN V b x / 32 < 96 by omega) (show 0 ≤ cN V b x % 32 ∧ cN V b x % 32 < 32 by omega) (by rw [s3']; decide), by rw [s3']; decide⟩
theorem val_bd {V : VT} {b : Int} {d : Int → Int} {ch : Int → List Int} {x : Int} (h : Rel V b d ch) (hx : 0 ≤ x ∧ x < 3072) (hk : cK V b x = 1 ∨ cK V b x = 2) : (0 ≤ cL V b (vcel V b x) ∧ cL V b (vcel V b x) ≤ 1200) ∧ (0 ≤ cS V b (vcel V b x) ∧ cS V b (vcel V b x) ≤ 255) ∧ (-1 ≤ cN V b (vcel V b x) ∧ cN V b (vcel V b x) < 96) := by
  obtain ⟨c1, c2, c3, c4, -, -, c5, c6⟩ := rec_cell h hx hk
  have h6 := (h.2.2.1 _ c1.1 c1.2).2.2.2.2.2.1 c3
  have hok := (h.1 (vcel V b x / 32) (by omega) (by omega)).1 (vcel V b x % 32) (by omega) (by omega)
  exact ⟨⟨hok.2.2.2 c3, hok.2.1.2⟩, h6.2.2.2, (isCh_rng c5).2⟩
theorem mod_ch {V : VT} {b : Int} {w : Int → Int → Int} {ch : Int → List Int} {q : Int} (h : Rel V b (w 1) ch) (hw : mwf w) (hq : 0 ≤ q ∧ q ≤ 1200) : chP q ≤ cntK (w 1) 0 96 → ∃ L, isCh (mNx (mtN w q (chP q).toNat).1) L (mtN w q (chP q).toNat).2.1 := by
  intro hf
  rw [cnt_sim h.2.1] at hf
  obtain ⟨-, -, -, -, -, -, -, -, -, -, L, -, l2⟩ := tc_pack h hw hq hf
  exact ⟨L, l2⟩
theorem mod_pre {V : VT} {b : Int} {w : Int → Int → Int} {ch : Int → List Int} {x : Int} (h : Rel V b (w 1) ch) (hx : 0 ≤ x ∧ x < 3072) (hk : cK V b x = 1 ∨ cK V b x = 2) : (0 ≤ w 1 (6528 + x) ∧ w 1 (6528 + x) < 3072) ∧ w 1 (x / 32) = 1 ∧ w 1 (w 1 (6528 + x) / 32) = 1 ∧ (w 1 (6528 + x) = x ∨ w 1 (6528 + x) / 32 ≠ x / 32) ∧ isCh (mNx w) (ch (vcel V b x)) (w 1 (15744 + x)) ∧ (∀ p ∈ ch (vcel V b x), w 1 p = 2) := by
  obtain ⟨c1, c2, c3, c4, -, -, c5, c6⟩ := rec_cell h hx hk
  have h6 := (h.2.2.1 _ c1.1 c1.2).2.2.2.2.2.1 c3
  have hrg := (isCh_rng c5).1
  have hkx : V (b + x / 32) 1 (x % 32) = 1 ∨ V (b + x / 32) 1 (x % 32) = 2 := hk
  have hkc : V (b + vcel V b x / 32) 1 (vcel V b x % 32) = 1 ∨ V (b + vcel V b x / 32) 1 (vcel V b x % 32) = 3 := c3
  rw [c2, c4]
  refine ⟨c1, ?_, ?_, ?_, ch_sim' h.2.1 c5 h6.2.1, fun p hp => ?_⟩
  · rw [← (h.2.1 (x / 32) (by omega) (by omega)).1.1]; exact cel_kd (s := x % 32) h.1 (by omega) (by omega) (by omega)
  · rw [← (h.2.1 (vcel V b x / 32) (by omega) (by omega)).1.1]; exact cel_kd (s := vcel V b x % 32) h.1 (by omega) (by omega) (by omega)
  · exact c6.imp (fun z => z.2) (fun z => z.2.2)
  · rw [← (h.2.1 p (hrg p hp).1 (hrg p hp).2).1.1]; exact h6.2.1 p hp
/-! steps -/
def vOK (n s : Int) : Prop := (0 ≤ n ∧ n ≤ 1200) ∧ (0 ≤ s ∧ s ≤ 255)
def CSt (b x n s r : Int) (U U' : VT) : Prop := (x = -1 ∧ AddP U b n s r U') ∨ (x ≠ -1 ∧ n = -1 ∧ r = 0 ∧ ∃ L0, recOK U b x L0 ∧ RemP U b x L0 U') ∨ (x ≠ -1 ∧ n ≠ -1 ∧ ∃ L0, recOK U b x L0 ∧ ChgP U b x n s L0 r U')
def MSt (x n s r : Int) (u u' : Int → Int → Int) : Prop := (x = -1 ∧ vOK n s ∧ InsM u n s r u') ∨ (x ≠ -1 ∧ n = -1 ∧ r = 0 ∧ mIsR u x ∧ ∃ L0, isCh (mNx u) L0 (u 1 (15744 + x)) ∧ u' = mDel u x L0) ∨ (x ≠ -1 ∧ vOK n s ∧ mIsR u x ∧ ∃ L0, isCh (mNx u) L0 (u 1 (15744 + x)) ∧ UpdM u x n s L0 r u')
theorem sim_step {U U' : VT} {b x n s r r' : Int} {u u' : Int → Int → Int} {ch : Int → List Int} (h : Rel U b (u 1) ch) (hw : mwf u) (hC : CSt b x n s r U U') (hM : MSt x n s r' u u') : r = r' ∧ SimC U U' b u u' := by
  rcases hM with ⟨m1, m2, m3⟩ | ⟨m1, m2, m3, m4, L', m5, rfl⟩ | ⟨m1, m2, m3, L', m4, m5⟩
  · rcases hC with ⟨-, c2⟩ | ⟨c1, -⟩ | ⟨c1, -⟩
    · exact sim_add h hw m2.1 m2.2 c2 m3
    · exact absurd m1 c1
    · exact absurd m1 c1
  · rcases hC with ⟨c1, -⟩ | ⟨-, -, c3, L, c4, c5⟩ | ⟨-, c1, -⟩
    · exact absurd c1 m1
    · exact ⟨by omega, sim_rem h hw m4.1 ((isR_iff h m4.1).mp m4.2) c4.2.2.2.2.1 m5 c5⟩
    · exact absurd m2 c1
  · rcases hC with ⟨c1, -⟩ | ⟨-, c2, -⟩ | ⟨-, -, L, c4, c5⟩
    · exact absurd c1 m1
    · have := m2.1.1; omega
    · exact sim_chg h hw m2.1 m2.2 m3.1 ((isR_iff h m3.1).mp m3.2) c4.2.2.2.2.1 m4 c5 m5
/-! a copy of the pages -/
theorem PI_ext {w w' : Int → Int → Int} (h0 : ∀ j, 0 ≤ j → j ≤ 7 → w' 0 j = w 0 j) (h1 : w' 1 = w 1) (h2 : w' 2 = w 2) (h : PI w) : PI w' := by
  have e1 : cef w' = cef w := by funext s; unfold cef; rw [h1]
  have e2 : stf w' = stf w := by funext s; unfold stf; rw [h1]
  have e3 : szf w' = szf w := by funext s; unfold szf; rw [h1, h2]
  have e4 : ∀ s, okc w' s ↔ okc w s := by intro s; unfold okc; rw [h1, h2]
  unfold PI
  rw [e1, e2, e3, h1, h0 0 (by decide) (by decide), h0 1 (by decide) (by decide), h0 2 (by decide) (by decide), h0 3 (by decide) (by decide), h0 4 (by decide) (by decide), h0 5 (by decide) (by decide)]
  exact ⟨fun s s1 s2 => (e4 s).mpr (h.1 s s1 s2), h.2⟩
theorem Rel_ext {V V' : VT} {b b' : Int} {d : Int → Int} {ch : Int → List Int} (he : ∀ p, 0 ≤ p → p < 96 → ∀ t j, ((t = 0 ∧ 0 ≤ j ∧ j ≤ 7) ∨ (1 ≤ t ∧ t ≤ 4)) → V' (b' + p) t j = V (b + p) t j) (h : Rel V b d ch) : Rel V' b' d ch := by
  obtain ⟨hI, hP, hRR, hN⟩ := h
  have ht : ∀ p, 0 ≤ p → p < 96 → ∀ t, 1 ≤ t → t ≤ 4 → V' (b' + p) t = V (b + p) t := fun p p1 p2 t t1 t2 => funext fun j => he p p1 p2 t j (Or.inr ⟨t1, t2⟩)
  have h0 : ∀ p, 0 ≤ p → p < 96 → ∀ j, 0 ≤ j → j ≤ 7 → V' (b' + p) 0 j = V (b + p) 0 j := fun p p1 p2 j j1 j2 => he p p1 p2 0 j (Or.inl ⟨rfl, j1, j2⟩)
  have c1 : ∀ c, 0 ≤ c → c < 3072 → cK V' b' c = cK V b c := fun c z1 z2 => he (c / 32) (by omega) (by omega) 1 _ (Or.inr ⟨by decide, by decide⟩)
  have c2 : ∀ c, 0 ≤ c → c < 3072 → cL V' b' c = cL V b c := fun c z1 z2 => he (c / 32) (by omega) (by omega) 2 _ (Or.inr ⟨by decide, by decide⟩)
  have c3 : ∀ c, 0 ≤ c → c < 3072 → cS V' b' c = cS V b c := fun c z1 z2 => he (c / 32) (by omega) (by omega) 3 _ (Or.inr ⟨by decide, by decide⟩)
  have c4 : ∀ c, 0 ≤ c → c < 3072 → cN V' b' c = cN V b c := fun c z1 z2 => he (c / 32) (by omega) (by omega) 4 _ (Or.inr ⟨by decide, by decide⟩)
  refine ⟨fun p p1 p2 => PI_ext (h0 p p1 p2) (ht p p1 p2 1 (by decide) (by decide)) (ht p p1 p2 2 (by decide) (by decide)) (hI p p1 p2), fun p p1 p2 => ?_, fun x x1 x2 => ?_, ?_⟩
  · obtain ⟨⟨q0, q5, q6, q7⟩, qs⟩ := hP p p1 p2
    refine ⟨⟨by rw [h0 p p1 p2 0 (by decide) (by decide)]; exact q0, by rw [h0 p p1 p2 5 (by decide) (by decide)]; exact q5, by rw [h0 p p1 p2 0 (by decide) (by decide), h0 p p1 p2 6 (by decide) (by decide)]; exact q6, by rw [h0 p p1 p2 0 (by decide) (by decide), h0 p p1 p2 7 (by decide) (by decide)]; exact q7⟩, fun s s1 s2 => ?_⟩
    rw [qs s s1 s2]
    unfold szf
    rw [ht p p1 p2 1 (by decide) (by decide), ht p p1 p2 2 (by decide) (by decide)]
  · obtain ⟨r1, r2, r3, r4, r5, r6, r7⟩ := hRR x x1 x2
    rw [c1 x x1 x2, c4 x x1 x2, c3 x x1 x2]
    refine ⟨r1, r2, r3, fun q => ?_, fun q => ?_, fun q => ?_, fun y y1 y2 => ?_⟩
    · obtain ⟨s1, s2, s3, s4⟩ := r4 q
      rw [c1 _ s1.1 s1.2]
      exact ⟨s1, s2, s3, s4⟩
    · have hv : 0 ≤ d (6528 + x) ∧ d (6528 + x) < 3072 := by
        rw [r3]
        rcases q with z | z
        · rw [if_pos z]; omega
        · rw [if_neg (by omega), if_pos z]; exact (r4 z).1
      rw [c2 _ hv.1 hv.2, c3 _ hv.1 hv.2, c4 _ hv.1 hv.2]
      exact r5 q
    · obtain ⟨s1, s2, s3, s4⟩ := r6 q
      have hrg := (isCh_rng s1).1
      exact ⟨isCh_congr (fun p hp => h0 p (hrg p hp).1 (hrg p hp).2 6 (by decide) (by decide)) s1, fun p hp => (h0 p (hrg p hp).1 (hrg p hp).2 0 (by decide) (by decide)).trans (s2 p hp), s3, s4⟩
    · rw [c1 y y1 y2]; exact r7 y y1 y2
  · have n1 : awN V' b' = awN V b := sumF_congr (fun p p1 p2 => sumF_congr (fun s _ _ => by unfold awf; rw [ht p p1 (by omega) 1 (by decide) (by decide)]))
    have n2 : stN V' b' = stN V b := sumF_congr (fun p p1 p2 => h0 p p1 (by omega) 3 (by decide) (by decide))
    rw [n1, n2]; exact hN
theorem Rel_cp {V : VT} {b b2 : Int} {d : Int → Int} {ch : Int → List Int} (h : Rel V b2 d ch) : Rel (cpS V b b2 96) b d ch := by
  refine Rel_ext (fun p p1 p2 t j q => ?_) h
  unfold cpS
  rw [if_pos (by omega), show b + p - b + b2 = b2 + p by omega]
  unfold pCp
  rw [if_pos q]
theorem Rel_out {V V' : VT} {b : Int} {d : Int → Int} {ch : Int → List Int} (he : ∀ o, b ≤ o → o < b + 96 → V' o = V o) (h : Rel V b d ch) : Rel V' b d ch := Rel_ext (fun p p1 p2 t j _ => by rw [he (b + p) (by omega) (by omega)]) h
theorem sumC_cp {V : VT} {b b2 b3 : Int} : sumC (cpS V b b2 96) b3 = sumC V b3 := by
  refine sumF_congr (fun i _ _ => ?_)
  unfold cpS
  split
  · unfold pCp; rw [if_neg (by omega)]
  · rfl
/-! answers that are sums -/
theorem sumF_add (F : Int → Int) (a : Nat) (n : Nat) : sumF F (a + n) = sumF F a + sumF (fun s => F (a + s)) n := by
  induction n with
  | zero => show sumF F a = sumF F a + 0; omega
  | succ n ih =>
    show sumF F (a + n) + F ((a + n : Nat) : Int) = sumF F a + (sumF (fun s => F (a + s)) n + F (a + n))
    rw [ih, Int.natCast_add]
    omega
theorem sumF_split (F : Int → Int) (n : Nat) : sumF F (32 * n) = sumF (fun p => sumF (fun s => F (32 * p + s)) 32) n := by
  induction n with
  | zero => rfl
  | succ n ih =>
    rw [show 32 * (n + 1) = 32 * n + 32 from rfl, sumF_add, ih]
    show _ = sumF (fun p => sumF (fun s => F (32 * p + s)) 32) n + sumF (fun s => F (32 * (n : Int) + s)) 32
    rw [Int.natCast_mul]
    rfl
theorem sumF_plus (F G : Int → Int) (n : Nat) : sumF (fun i => F i + G i) n = sumF F n + sumF G n := by
  induction n with
  | zero => rfl
  | succ n ih => unfold sumF; rw [ih]; omega
theorem rec_sum {V : VT} {b : Int} {w : Int → Int → Int} {ch : Int → List Int} (h : Rel V b (w 1) ch) (N : Nat) (hN : N = 32 * 96) : sumF (mRc w 0) N = sumF (fun i => V (b + i) 0 2) 96 - sumF (fun i => V (b + i) 0 3) 96 := by
  have e : sumF (fun i => V (b + i) 0 2) 96 = sumF (fun p => sumF (fun s => mRc w 0 (32 * p + s)) 32 + sumF (awf (V (b + p))) 32) 96 := by
    refine sumF_congr (fun p p1 p2 => ?_)
    rw [(h.1 p p1 (by omega)).2.2.1, ← sumF_plus]
    refine sumF_congr (fun s s1 s2 => ?_)
    have hx : 0 ≤ 32 * p + s ∧ 32 * p + s < 3072 := by omega
    have hi := isR_iff h hx
    have hk : cK V b (32 * p + s) = V (b + p) 1 s := by
      show V (b + (32 * p + s) / 32) 1 ((32 * p + s) % 32) = _
      rw [show (32 * p + s) / 32 = p by omega, show (32 * p + s) % 32 = s by omega]
    rw [hk] at hi
    have hok := ((h.1 p p1 (by omega)).1 s s1 (by omega)).1
    by_cases q : w 1 (6528 + (32 * p + s)) ≠ -1
    · have := hi.mp q
      have a1 : mRc w 0 (32 * p + s) = 1 := if_pos ⟨q, Or.inl rfl⟩
      have a2 : cef (V (b + p)) s = 1 := if_neg (by omega)
      have a3 : awf (V (b + p)) s = 0 := if_neg (by omega)
      rw [a1, a2, a3]; rfl
    · have : ¬ (V (b + p) 1 s = 1 ∨ V (b + p) 1 s = 2) := fun z => q (hi.mpr z)
      have a1 : mRc w 0 (32 * p + s) = 0 := if_neg (fun z => q z.1)
      rw [a1]
      unfold cef awf
      by_cases h3 : V (b + p) 1 s = 3
      · rw [if_pos h3, if_neg (by omega)]; rfl
      · rw [if_neg h3, if_pos (by omega)]; rfl
  have e2 : awN V b = stN V b := h.2.2.2
  unfold awN stN at e2
  rw [e, sumF_plus, ← e2, hN, sumF_split]
  omega
theorem stub_sum {V : VT} {b : Int} {w : Int → Int → Int} {ch : Int → List Int} (h : Rel V b (w 1) ch) (N : Nat) (hN : N = 32 * 96) : sumF (mRc w 1) N = sumF (fun i => V (b + i) 0 3) 96 := by
  rw [hN, sumF_split]
  refine sumF_congr (fun p p1 p2 => ?_)
  rw [(h.1 p p1 (by omega)).2.2.2.1]
  refine sumF_congr (fun s s1 s2 => ?_)
  have hx : 0 ≤ 32 * p + s ∧ 32 * p + s < 3072 := by omega
  obtain ⟨r1, r2, r3, r4, -⟩ := h.2.2.1 _ hx.1 hx.2
  have hk : cK V b (32 * p + s) = V (b + p) 1 s := by
    show V (b + (32 * p + s) / 32) 1 ((32 * p + s) % 32) = _
    rw [show (32 * p + s) / 32 = p by omega, show (32 * p + s) % 32 = s by omega]
  rw [hk] at r3 r4
  unfold mRc stf
  by_cases h2 : V (b + p) 1 s = 2
  · obtain ⟨s1, s2, -⟩ := r4 h2
    rw [if_neg (by omega), if_pos h2] at r3
    rw [if_pos h2, if_pos]
    rw [r3]
    exact ⟨by omega, Or.inr (fun e => s2 (by rw [e]))⟩
  · rw [if_neg h2, if_neg]
    rintro ⟨z1, z2⟩
    by_cases h1 : V (b + p) 1 s = 1
    · rw [if_pos h1] at r3; exact (z2.resolve_left (by decide)) r3
    · rw [if_neg h1, if_neg h2] at r3; exact z1 r3
theorem kd_sim {V : VT} {b : Int} {w : Int → Int → Int} {ch : Int → List Int} {p s : Int} (h : Rel V b (w 1) ch) (hp : 0 ≤ p ∧ p < 96) (hs : 0 ≤ s ∧ s < 32) : mKd w p s = V (b + p) 1 s := by
  have hx : 0 ≤ 32 * p + s ∧ 32 * p + s < 3072 := by omega
  obtain ⟨r1, r2, r3, r4, -⟩ := h.2.2.1 _ hx.1 hx.2
  have hk : cK V b (32 * p + s) = V (b + p) 1 s := by
    show V (b + (32 * p + s) / 32) 1 ((32 * p + s) % 32) = _
    rw [show (32 * p + s) / 32 = p by omega, show (32 * p + s) % 32 = s by omega]
  rw [hk] at r1 r2 r3 r4
  have hok := (h.1 p hp.1 hp.2).1 s hs.1 hs.2
  have hz := szf_pos hok
  have hq := (h.2.1 p hp.1 hp.2).2 s hs.1 hs.2
  unfold mKd mSz
  rw [hq, show 3456 + 32 * p + s = 3456 + (32 * p + s) by omega]
  by_cases h0 : V (b + p) 1 s = 0
  · rw [if_pos (by unfold szf; rw [if_pos h0]), h0]
  · have : 0 < szf (V (b + p)) s := hz.1.mpr h0
    rw [if_neg (by omega)]
    have hk3 := hok.1
    by_cases h3 : V (b + p) 1 s = 3
    · rw [if_neg (r2 h3), h3]
    · rw [if_pos (r1 (by omega))]
      by_cases h1 : V (b + p) 1 s = 1
      · rw [if_pos h1] at r3; rw [if_pos r3, h1]
      · have h2 : V (b + p) 1 s = 2 := by omega
        obtain ⟨s1, s2, -⟩ := r4 h2
        rw [if_neg h1, if_pos h2] at r3
        rw [r3, if_neg (fun e => s2 (by rw [e])), h2]
theorem st_sim {V : VT} {b : Int} {w : Int → Int → Int} {ch : Int → List Int} {p : Int} (h : Rel V b (w 1) ch) (hp : 0 ≤ p ∧ p < 96) : sumF (mSt w p) 32 = V (b + p) 0 3 := by
  rw [(h.1 p hp.1 hp.2).2.2.2.1]
  exact sumF_congr (fun s s1 s2 => by unfold mSt stf; rw [kd_sim h hp ⟨s1, by omega⟩])
def cPage (V : VT) (p k : Int) : Int :=
  if k = 0 then V p 0 0 else if ¬ V p 0 0 = (if k < 7 then 1 else 2) then -1 else if k = 1 then V p 0 1 else if k = 2 then V p 0 2 else if k = 3 then pRoom (V p) else if k = 4 then V p 0 5 else if k = 5 then pRoom (V p) / 31 else if k = 6 then V p 0 3 else if k = 7 then V p 0 6 else V p 0 7
theorem page_ans {V : VT} {w : Int → Int → Int} {ch : Int → List Int} {p k : Int} (h : Rel V 0 (w 1) ch) (hp : 0 ≤ p ∧ p < 96) (hk9 : 0 ≤ k ∧ k ≤ 8) : cPage V p k = mPage w p k := by
  obtain ⟨e1, e2, e3, e4⟩ := page_sim h.1 h.2.1 hp
  obtain ⟨⟨q0, q5, q6, q7⟩, -⟩ := h.2.1 p hp.1 hp.2
  have e5 := st_sim h hp
  rw [Int.zero_add] at e1 e3 e4 e5 q0 q5 q6 q7
  unfold cPage mPage
  rw [e1, e3, e4, e5, ← q0, ← q5]
  by_cases hk : V p 0 0 = 2
  · rw [← q6 hk, ← q7 hk]
  · by_cases h0 : k = 0
    · rw [if_pos h0, if_pos h0]
    · rw [if_neg h0, if_neg h0]
      by_cases h7 : k < 7
      · rw [if_pos h7]
        by_cases h1 : ¬ V p 0 0 = 1
        · rw [if_pos h1, if_pos h1]
        · rw [if_neg h1, if_neg h1]
          repeat' split
          all_goals first | rfl | omega
      · rw [if_neg h7, if_pos hk, if_pos hk]
def cSlotA (V : VT) (p s : Int) : Int := if s < V p 0 1 then V p 1 s else -1
theorem slot_ans {V : VT} {w : Int → Int → Int} {ch : Int → List Int} {p s : Int} (h : Rel V 0 (w 1) ch) (hp : 0 ≤ p ∧ p < 96) (hs : 0 ≤ s) : cSlotA V p s = mSlotA w p s := by
  obtain ⟨e1, e2, e3, e4⟩ := page_sim h.1 h.2.1 hp
  obtain ⟨⟨q0, q5, q6, q7⟩, -⟩ := h.2.1 p hp.1 hp.2
  have hP := h.1 p hp.1 hp.2
  have hk : s < 32 → mKd w p s = V (0 + p) 1 s := fun z => kd_sim h hp ⟨hs, z⟩
  have hcl := fun z => cel_kd (s := s) h.1 hp ⟨hs, z⟩
  have hpos : 0 < V (0 + p) 0 1 → V (0 + p) 0 0 = 1 := fun z => cel_kd h.1 hp ⟨by omega, by have := hP.2.1.1.2; omega⟩ (hP.2.1.2.2 z)
  have hsl := hP.2.1.1
  rw [Int.zero_add] at *
  unfold cSlotA mSlotA
  rw [e1, ← q0]
  by_cases hl : s < V p 0 1
  · rw [if_pos hl, if_neg (by have := hpos (by omega); omega), hk (by omega)]
  · rw [if_neg hl, if_pos (Or.inr (by omega))]
