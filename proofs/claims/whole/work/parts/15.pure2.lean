theorem pEmpty_0 {w : Int → Int → Int} {r : Int} (h : PI w) (hr : pEmpty w r) : w 1 r = 0 := by
  have hlt := PI_slot h hr
  obtain ⟨r1, r2, r3⟩ := hr
  by_cases hq : r < w 0 1
  · exact r3 hq
  · exact h.2.1.2.1 r (by omega) hlt
theorem PI_put {w : Int → Int → Int} {r k n sd lk : Int} (h : PI w) (hr : pEmpty w r) (hk : k = 1 ∨ k = 3) (hn : 0 ≤ n ∧ n ≤ 1200) (hroom : cellB k n + 4 ≤ pRoom w) (hkd : w 0 0 = 0 ∨ w 0 0 = 1) : PI (pPut w r k n sd lk) := by
  have b := PI_bd h
  have hlt := PI_slot h hr
  have h0 := pEmpty_0 h hr
  obtain ⟨r1, r2, r3⟩ := hr
  obtain ⟨f0, f1, f2, f3, f4, f5, f6, f7, f8, g1, g2, g3, g4⟩ := pPut_f w r k n sd lk r1
  obtain ⟨h1, ⟨h2, h3, h4⟩, h5, h6, h7, h8, h9⟩ := h
  have hcb := cellB_bd (k := k) (len := n) ⟨by omega, hn.2⟩
  unfold pRoom at hroom
  refine ⟨fun s q1 q2 => ?_, ⟨?_, ?_, ?_⟩, ?_, ?_, ?_, ⟨by omega, by omega, by omega⟩, ?_⟩
  · unfold okc
    rw [g1, g2]
    by_cases hs : s = r
    · simp only [if_pos hs]; omega
    · simp only [if_neg hs]; exact h1 s q1 q2
  · rw [f1]; split <;> omega
  · intro s q1 q2
    rw [f1] at q1
    rw [g1]
    by_cases hq : r < w 0 1
    · rw [if_pos hq] at q1
      rw [if_neg (by omega)]; exact h3 s q1 q2
    · rw [if_neg hq] at q1
      rw [if_neg (by omega)]; exact h3 s (by omega) q2
  · intro q1
    rw [g1, f1]
    by_cases hq : r < w 0 1
    · rw [if_pos hq]
      split
      · omega
      · exact h4 (by omega)
    · rw [if_neg hq, if_pos (by omega)]; omega
  · rw [f2, sumF_upd (F := cef w) (r := r) (n := 32) ⟨r1.1, by omega⟩ (fun i _ _ hi => by unfold cef; rw [g1, if_neg hi])]
    have e1 : cef w r = 0 := by unfold cef; rw [if_pos h0]
    have e2 : cef (pPut w r k n sd lk) r = 1 := by unfold cef; rw [g1, if_pos rfl, if_neg (by omega)]
    omega
  · rw [f3, sumF_upd (F := stf w) (r := r) (n := 32) ⟨r1.1, by omega⟩ (fun i _ _ hi => by unfold stf; rw [g1, if_neg hi])]
    have e1 : stf w r = 0 := by unfold stf; rw [if_neg (by omega)]
    have e2 : stf (pPut w r k n sd lk) r = 0 := by unfold stf; rw [g1, if_pos rfl, if_neg (by omega)]
    rw [if_neg (by omega)]
    omega
  · rw [f4, sumF_upd (F := szf w) (r := r) (n := 32) ⟨r1.1, by omega⟩ (fun i _ _ hi => by unfold szf; rw [g1, g2, if_neg hi, if_neg hi])]
    have e1 : szf w r = 0 := by unfold szf; rw [if_pos h0]
    have e2 : szf (pPut w r k n sd lk) r = cellB k n := by unfold szf; rw [g1, g2, if_pos rfl, if_pos rfl, if_neg (by omega)]
    omega
  · rw [f4, f5, f1]
    unfold nEnd
    split <;> split <;> omega
theorem PI_change {w : Int → Int → Int} {s k n sd lk : Int} (h : PI w) (hs : 0 ≤ s ∧ s < 32) (h0 : w 1 s ≠ 0) (hk : 1 ≤ k ∧ k ≤ 3) (hn : (k = 2 → n = -1) ∧ (k ≠ 2 → 0 ≤ n ∧ n ≤ 1200)) (hroom : cellB k n ≤ pRoom w + pBytes w s) : PI (pChange w s k n sd lk) := by
  have b := PI_bd h
  obtain ⟨f0, f1, f2, f3, f4, f5, f6, f7, f8, g1, g2, g3, g4⟩ := pChange_f w s k n sd lk
  obtain ⟨h1, ⟨h2, h3, h4⟩, h5, h6, h7, h8, h9⟩ := h
  have hcb := cellB_bd (k := k) (len := n) ⟨by omega, by omega⟩
  have hsl : s < w 0 1 := by
    by_cases hq : s < w 0 1
    · exact hq
    · exact absurd (h3 s (by omega) hs.2) h0
  unfold pRoom at hroom
  have hz : szf w s = pBytes w s := by unfold szf pBytes; rw [if_neg h0]
  refine ⟨fun j q1 q2 => ?_, ⟨?_, ?_, ?_⟩, ?_, ?_, ?_, ⟨by omega, by omega, ?_⟩, ?_⟩
  · unfold okc
    rw [g1, g2]
    by_cases hj : j = s
    · simp only [if_pos hj]; omega
    · simp only [if_neg hj]; exact h1 j q1 q2
  · rw [f1]; exact h2
  · intro j q1 q2
    rw [f1] at q1
    rw [g1, if_neg (by omega)]; exact h3 j q1 q2
  · intro q1
    rw [g1, f1]
    split
    · omega
    · exact h4 (by omega)
  · rw [f2, h5]
    refine sumF_congr (fun i q1 q2 => ?_)
    unfold cef
    rw [g1]
    by_cases hi : i = s
    · subst hi; rw [if_pos rfl, if_neg h0, if_neg (by omega)]
    · rw [if_neg hi]
  · rw [f3, sumF_upd (F := stf w) (r := s) (n := 32) ⟨hs.1, by omega⟩ (fun i _ _ hi => by unfold stf; rw [g1, if_neg hi])]
    have e2 : stf (pChange w s k n sd lk) s = if k = 2 then 1 else 0 := by unfold stf; rw [g1, if_pos rfl]
    have e1 : stf w s = if w 1 s = 2 then 1 else 0 := rfl
    omega
  · rw [f4, sumF_upd (F := szf w) (r := s) (n := 32) ⟨hs.1, by omega⟩ (fun i _ _ hi => by unfold szf; rw [g1, g2, if_neg hi, if_neg hi])]
    have e2 : szf (pChange w s k n sd lk) s = cellB k n := by unfold szf; rw [g1, g2, if_pos rfl, if_pos rfl, if_neg (by omega)]
    omega
  · intro q
    rw [f0] at q
    have hc0 := (h8.2.2 q).1
    have hz0 := sumF_zero (F := cef w) (n := 32) (fun i _ _ => by unfold cef; split <;> omega) (by omega) s hs.1 (by omega)
    unfold cef at hz0
    rw [if_neg h0] at hz0
    exact absurd hz0 (by decide)
  · rw [f4, f5, f1]
    have hzb : 0 ≤ pBytes w s := by have := cellB_bd (k := w 1 s) (h1 s hs.1 hs.2).2.1; unfold pBytes; omega
    unfold nEnd
    split
    · omega
    · split <;> omega
theorem PI_rem {w : Int → Int → Int} {s n : Int} (h : PI w) (hs : 0 ≤ s ∧ s < 32) (h0 : w 1 s ≠ 0) (hn : (0 ≤ n ∧ n ≤ w 0 1) ∧ (∀ i, n ≤ i → i < w 0 1 → pErase w s 1 i = 0) ∧ (0 < n → pErase w s 1 (n - 1) ≠ 0)) : PI (pRem w s n) := by
  have b := PI_bd h
  obtain ⟨f0, f1, f2, f3, f4, f5, f6, f7, f8, g1, g2, g3, g4⟩ := pRem_f w s n
  obtain ⟨h1, ⟨h2, h3, h4⟩, h5, h6, h7, h8, h9⟩ := h
  obtain ⟨n1, n2, n3⟩ := hn
  have hk : w 0 0 = 1 := by
    by_cases hq : w 0 0 = 1
    · exact hq
    · exfalso
      have hc0 := (h8.2.2 hq).1
      have hz0 := sumF_zero (F := cef w) (n := 32) (fun i _ _ => by unfold cef; split <;> omega) (by omega) s hs.1 (by omega)
      unfold cef at hz0
      rw [if_neg h0] at hz0
      exact absurd hz0 (by decide)
  have hz : szf w s = pBytes w s := by unfold szf pBytes; rw [if_neg h0]
  have hzb : 0 ≤ pBytes w s := by have := cellB_bd (k := w 1 s) (h1 s hs.1 hs.2).2.1; unfold pBytes; omega
  have hce : sumF (cef (pRem w s n)) 32 = sumF (cef w) 32 - 1 := by
    rw [sumF_upd (F := cef w) (r := s) (n := 32) ⟨hs.1, by omega⟩ (fun i _ _ hi => by unfold cef; rw [g1, if_neg hi])]
    have e1 : cef w s = 1 := by unfold cef; rw [if_neg h0]
    have e2 : cef (pRem w s n) s = 0 := by unfold cef; rw [g1, if_pos rfl, if_pos rfl]
    omega
  have hsz : sumF (szf (pRem w s n)) 32 = sumF (szf w) 32 - pBytes w s := by
    rw [sumF_upd (F := szf w) (r := s) (n := 32) ⟨hs.1, by omega⟩ (fun i _ _ hi => by unfold szf; rw [g1, g2, if_neg hi])]
    have e2 : szf (pRem w s n) s = 0 := by unfold szf; rw [g1, if_pos rfl, if_pos rfl]
    omega
  have hzero : ∀ i, n ≤ i → i < 32 → pRem w s n 1 i = 0 := by
    intro i q1 q2
    rw [g1]
    by_cases hi : i < w 0 1
    · have := n2 i q1 hi; rwa [pErase_1] at this
    · split
      · rfl
      · exact h3 i (by omega) q2
  have hused : w 0 2 = 1 → w 0 4 - pBytes w s = 0 := by
    intro q
    have hz1 := sumF_zero (F := cef (pRem w s n)) (n := 32) (fun i _ _ => by unfold cef; split <;> omega) (by omega)
    have : sumF (szf (pRem w s n)) 32 = sumF (fun _ => 0) 32 := sumF_congr (fun i q1 q2 => by
      have := hz1 i q1 q2
      unfold cef at this
      unfold szf
      split
      · rfl
      · rename_i hh; rw [if_neg hh] at this; exact absurd this (by decide))
    have h00 : sumF (fun _ => 0) 32 = 0 := by decide
    omega
  refine ⟨fun j q1 q2 => ?_, ⟨?_, ?_, ?_⟩, ?_, ?_, ?_, ⟨?_, ?_, ?_⟩, ?_⟩
  · unfold okc
    rw [g1, g2]
    have := h1 j q1 q2
    unfold okc at this
    split <;> omega
  · rw [f1]; omega
  · intro j q1 q2; rw [f1] at q1; exact hzero j q1 q2
  · intro q; rw [f1] at q ⊢; rw [g1]; have := n3 q; rwa [pErase_1] at this
  · rw [f2]; omega
  · rw [f3, sumF_upd (F := stf w) (r := s) (n := 32) ⟨hs.1, by omega⟩ (fun i _ _ hi => by unfold stf; rw [g1, if_neg hi])]
    have e2 : stf (pRem w s n) s = 0 := by unfold stf; rw [g1, if_pos rfl, if_neg (by decide)]
    have e1 : stf w s = if w 1 s = 2 then 1 else 0 := rfl
    omega
  · rw [f4]; omega
  · rw [f0]; split <;> omega
  · intro q; rw [f0] at q; rw [f2]
    by_cases hq : w 0 2 = 1
    · rw [if_pos hq] at q; exact absurd q (by decide)
    · omega
  · intro q
    rw [f0] at q
    by_cases hq : w 0 2 = 1
    · rw [f2, f5, if_pos hq]; omega
    · rw [if_neg hq] at q; exact absurd hk q
  · rw [f4, f5, f1]
    by_cases hq : w 0 2 = 1
    · rw [if_pos hq]
      have := hused hq
      have hn0 : n = 0 := by
        by_cases hp : 0 < n
        · exfalso
          have hz1 := sumF_zero (F := cef (pRem w s n)) (n := 32) (fun i _ _ => by unfold cef; split <;> omega) (by omega) (n - 1) (by omega) (by omega)
          have h8' := n3 hp
          rw [pErase_1] at h8'
          unfold cef at hz1
          rw [g1] at hz1
          rw [if_neg h8'] at hz1
          exact absurd hz1 (by decide)
        · omega
      omega
    · rw [if_neg hq]; omega
theorem PI_same {w w' : Int → Int → Int} (h : PI w) (ht : ∀ t j, t ≠ 0 → w' t j = w t j) (h1 : w' 0 1 = w 0 1) (h2 : w' 0 2 = w 0 2) (h3 : w' 0 3 = w 0 3) (h4 : w' 0 4 = w 0 4) (h0 : (0 ≤ w' 0 0 ∧ w' 0 0 ≤ 2) ∧ (w' 0 0 = 1 ↔ w 0 0 = 1)) (h5 : w' 0 5 = if w 0 0 = 1 then w 0 5 else 0) : PI w' := by
  obtain ⟨k1, ⟨k2, k3, k4⟩, k5, k6, k7, k8, k9⟩ := h
  have e1 : cef w' = cef w := by funext s; unfold cef; rw [ht 1 s (by decide)]
  have e2 : stf w' = stf w := by funext s; unfold stf; rw [ht 1 s (by decide)]
  have e3 : szf w' = szf w := by funext s; unfold szf; rw [ht 1 s (by decide), ht 2 s (by decide)]
  refine ⟨fun s q1 q2 => by unfold okc; rw [ht 1 s (by decide), ht 2 s (by decide)]; exact k1 s q1 q2, ⟨by rw [h1]; exact k2, fun s q1 q2 => by rw [ht 1 s (by decide)]; exact k3 s (by omega) q2, fun q => by rw [h1, ht 1 _ (by decide)]; exact k4 (by omega)⟩, by rw [e1, h2]; exact k5, by rw [e2, h3]; exact k6, by rw [e3, h4]; exact k7, ⟨h0.1, fun q => by rw [h2]; exact k8.2.1 (h0.2.mp q), fun q => ?_⟩, ?_⟩
  · have hq : w 0 0 ≠ 1 := fun z => q (h0.2.mpr z)
    rw [h2, h5, if_neg hq]
    exact ⟨(k8.2.2 hq).1, rfl⟩
  · rw [h4, h5, h1]
    split
    · exact k9
    · rename_i hq
      have := k8.2.2 hq
      omega
theorem PI_chain {w : Int → Int → Int} (h : PI w) (h0 : w 0 0 = 0) (q : Int) : PI (pChain w q) :=
  PI_same h (fun t j ht => by simp [pChain, upw, ht]) (by simp [pChain, upw]) (by simp [pChain, upw]) (by simp [pChain, upw]) (by simp [pChain, upw]) ⟨by simp [pChain, upw], by simp [pChain, upw, h0]⟩ (by rw [if_neg (by omega)]; have := (h.2.2.2.2.2.1.2.2 (by omega)).2; simpa [pChain, upw] using this)
theorem PI_free {w : Int → Int → Int} (h : PI w) (h0 : w 0 0 ≠ 1) : PI (pFree w) :=
  PI_same h (fun t j ht => by simp [pFree, upw, ht]) (by simp [pFree, upw]) (by simp [pFree, upw]) (by simp [pFree, upw]) (by simp [pFree, upw]) ⟨by simp [pFree, upw], by simp [pFree, upw, h0]⟩ (by rw [if_neg h0]; simp [pFree, upw])
def SI (V : VT) (b : Int) : Prop := ∀ i, 0 ≤ i → i < 96 → PI (V (b + i))
theorem SI_swf {V : VT} {b : Int} (h : SI V b) : swf V b := fun i q1 q2 => PI_pwf (h i q1 q2)
theorem SI_room {V : VT} {b : Int} (h : SI V b) : ∀ i, 0 ≤ i → i < 96 → V (b + i) 0 0 = 1 → 0 ≤ pRoom (V (b + i)) ∧ pRoom (V (b + i)) ≤ 248 := fun i q1 q2 _ => PI_room (h i q1 q2)
theorem SI_setp {V : VT} {b i : Int} {w : Int → Int → Int} (h : SI V b) (hw : PI w) : SI (setp V (b + i) w) b := by
  intro j q1 q2
  by_cases hj : j = i
  · subst hj; rw [setp_at]; exact hw
  · rw [setp_ne (by omega)]; exact h j q1 q2
theorem SI_next {V : VT} {b o' v : Int} (h : SI V b) : SI (up V o' 0 6 v) b := by
  intro j q1 q2
  have h1 := h j q1 q2
  exact PI_same h1 (fun t i ht => by simp [up, ht]) (by simp [up]) (by simp [up]) (by simp [up]) (by simp [up]) ⟨by simpa [up] using h1.2.2.2.2.2.1.1, by simp [up]⟩ (by
    have : up V o' 0 6 v (b + j) 0 5 = V (b + j) 0 5 := by simp [up]
    rw [this]
    split
    · rfl
    · rename_i hq; exact (h1.2.2.2.2.2.1.2.2 hq).2)
/-- a chain is taken out of free pages: what stays, what comes -/
theorem tc_SI {b : Int} {V : VT} {len : Int} (h : SI V b) (m : Nat) (hm : (m : Int) ≤ cntK (kd V b) 0 96) : ∀ k : Nat, k ≤ m → SI (tcN b V len k).1 b := by
  intro k
  induction k with
  | zero => intro _; exact h
  | succ k ih =>
    intro hk
    have i0 := ih (by omega)
    obtain ⟨i1, i2, i3, i4, i5⟩ := tc_inv (len := len) (SI_swf h) m hm k (by omega)
    have hpos : 0 < cntK (kd (tcN b V len k).1 b) 0 96 := by rw [i4]; omega
    obtain ⟨f, f1, f2, f3⟩ := cntK_pos hpos
    have hl := lfr_LF (kd (tcN b V len k).1 b)
    show SI (tcStep b (tcN b V len k)).1 b
    generalize tcN b V len k = S at *
    generalize hr : lfr (kd S.1 b) = r at *
    rcases hl with ⟨-, kk⟩ | ⟨k1, k2, k3, k4⟩
    · exact absurd f3 (kk f f1 (by omega))
    · have hs : ∀ q, SI (setp S.1 (b + r) (pChain (S.1 (b + r)) q)) b := fun q => SI_setp i0 (PI_chain (i0 r k1 k2) k3 q)
      unfold tcStep
      rw [hr]
      split
      · exact hs _
      · exact SI_next (hs _)
