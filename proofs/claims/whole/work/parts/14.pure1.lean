/-! what a page keeps: PI -/
def szf (w : Int → Int → Int) (s : Int) : Int := if w 1 s = 0 then 0 else cellB (w 1 s) (w 2 s)
def cef (w : Int → Int → Int) (s : Int) : Int := if w 1 s = 0 then 0 else 1
def stf (w : Int → Int → Int) (s : Int) : Int := if w 1 s = 2 then 1 else 0
def okc (w : Int → Int → Int) (s : Int) : Prop := (0 ≤ w 1 s ∧ w 1 s ≤ 3) ∧ (-1 ≤ w 2 s ∧ w 2 s ≤ 1200) ∧ (w 1 s = 2 → w 2 s = -1) ∧ (w 1 s = 1 ∨ w 1 s = 3 → 0 ≤ w 2 s)
def PI (w : Int → Int → Int) : Prop :=
  (∀ s, 0 ≤ s → s < 32 → okc w s) ∧ ((0 ≤ w 0 1 ∧ w 0 1 ≤ 32) ∧ (∀ s, w 0 1 ≤ s → s < 32 → w 1 s = 0) ∧ (0 < w 0 1 → w 1 (w 0 1 - 1) ≠ 0)) ∧
  w 0 2 = sumF (cef w) 32 ∧ w 0 3 = sumF (stf w) 32 ∧ w 0 4 = sumF (szf w) 32 ∧
  ((0 ≤ w 0 0 ∧ w 0 0 ≤ 2) ∧ (w 0 0 = 1 → 0 < w 0 2) ∧ (w 0 0 ≠ 1 → w 0 2 = 0 ∧ w 0 5 = 0)) ∧ (w 0 4 ≤ w 0 5 ∧ w 0 5 ≤ 248 - 4 * w 0 1)
theorem sumF_congr {F F' : Int → Int} {n : Nat} (h : ∀ i : Int, 0 ≤ i → i < n → F i = F' i) : sumF F n = sumF F' n := by
  induction n with
  | zero => rfl
  | succ n ih => unfold sumF; rw [ih (fun i h1 h2 => h i h1 (by omega)), h n (by omega) (by omega)]
theorem sumF_upd {F F' : Int → Int} {r : Int} {n : Nat} (hr : 0 ≤ r ∧ r < n) (h : ∀ i : Int, 0 ≤ i → i < n → i ≠ r → F' i = F i) : sumF F' n = sumF F n - F r + F' r := by
  induction n with
  | zero => omega
  | succ n ih =>
    unfold sumF
    by_cases hn : r = n
    · subst hn
      rw [sumF_congr (fun i q1 q2 => h i q1 (by omega) (by omega))]
      omega
    · rw [ih ⟨hr.1, by omega⟩ (fun i q1 q2 q3 => h i q1 (by omega) q3), h n (by omega) (by omega) (fun q => hn q.symm)]
      omega
theorem sumF_nonneg {F : Int → Int} {n : Nat} (h : ∀ i : Int, 0 ≤ i → i < n → 0 ≤ F i) : 0 ≤ sumF F n := by
  induction n with
  | zero => exact Int.le_refl _
  | succ n ih => unfold sumF; have := ih (fun i h1 h2 => h i h1 (by omega)); have := h n (by omega) (by omega); omega
theorem sumF_zero {F : Int → Int} {n : Nat} (h : ∀ i : Int, 0 ≤ i → i < n → 0 ≤ F i) (h0 : sumF F n = 0) : ∀ i : Int, 0 ≤ i → i < n → F i = 0 := by
  induction n with
  | zero => intro i h1 h2; omega
  | succ n ih =>
    unfold sumF at h0
    have h1 := sumF_nonneg (n := n) (fun i q1 q2 => h i q1 (by omega))
    have h2 := h n (by omega) (by omega)
    intro i q1 q2
    by_cases hi : i = n
    · subst hi; omega
    · exact ih (fun i q1 q2 => h i q1 (by omega)) (by omega) i q1 (by omega)
theorem sumF_le {F F' : Int → Int} {n : Nat} (h : ∀ i : Int, 0 ≤ i → i < n → F i ≤ F' i) : sumF F n ≤ sumF F' n := by
  induction n with
  | zero => exact Int.le_refl _
  | succ n ih => unfold sumF; have := ih (fun i h1 h2 => h i h1 (by omega)); have := h n (by omega) (by omega); omega
theorem sumF_mul (F : Int → Int) (c : Int) (n : Nat) : sumF (fun i => c * F i) n = c * sumF F n := by
  induction n with
  | zero => simp [sumF]
  | succ n ih => unfold sumF; rw [ih, Int.mul_add]
theorem cef_le_slots {w : Int → Int → Int} {n : Nat} (m : Int) (hm : 0 ≤ m) (h : ∀ s, m ≤ s → s < n → w 1 s = 0) : sumF (cef w) n ≤ m := by
  induction n with
  | zero => exact hm
  | succ n ih =>
    unfold sumF
    by_cases hn : m ≤ n
    · have h1 := ih (fun s q1 q2 => h s q1 (by omega))
      have : cef w n = 0 := by unfold cef; rw [if_pos (h n hn (by omega))]
      omega
    · have : cef w n ≤ 1 := by unfold cef; split <;> omega
      have : sumF (cef w) n ≤ n := by
        clear ih h hn this hm
        induction n with
        | zero => exact Int.le_refl _
        | succ n ih =>
          unfold sumF
          have h9 : cef w n ≤ 1 := by unfold cef; split <;> omega
          omega
      omega
/-- bounds that follow -/
theorem PI_bd {w : Int → Int → Int} (h : PI w) : 0 ≤ w 0 2 ∧ 5 * w 0 2 ≤ w 0 4 ∧ w 0 2 ≤ w 0 1 ∧ 0 ≤ w 0 3 ∧ w 0 3 ≤ w 0 2 ∧ w 0 1 + w 0 2 ≤ 62 ∧ 4 * w 0 1 + w 0 4 ≤ 248 ∧ 0 ≤ w 0 4 ∧ w 0 2 < 32 := by
  obtain ⟨h1, ⟨h2, h3, h4⟩, h5, h6, h7, h8, h9⟩ := h
  have a1 : 0 ≤ sumF (cef w) 32 := sumF_nonneg (fun i _ _ => by unfold cef; split <;> omega)
  have a2 : 0 ≤ sumF (stf w) 32 := sumF_nonneg (fun i _ _ => by unfold stf; split <;> omega)
  have a3 : sumF (stf w) 32 ≤ sumF (cef w) 32 := sumF_le (fun i _ _ => by unfold stf cef; repeat' split; all_goals omega)
  have a4 : 5 * sumF (cef w) 32 ≤ sumF (szf w) 32 := by
    rw [← sumF_mul]
    refine sumF_le (fun i q1 q2 => ?_)
    have := h1 i q1 (by omega)
    unfold cef szf
    split
    · omega
    · have := cellB_bd (k := w 1 i) this.2.1; omega
  have a5 : sumF (cef w) 32 ≤ w 0 1 := cef_le_slots (n := 32) _ h2.1 (fun s q1 q2 => h3 s q1 (by omega))
  refine ⟨by omega, by omega, by omega, by omega, by omega, by omega, by omega, by omega, by omega⟩
theorem PI_pwf {w : Int → Int → Int} (h : PI w) : pwf w := by
  have b := PI_bd h
  obtain ⟨h1, ⟨h2, h3, h4⟩, h5, h6, h7, h8, h9⟩ := h
  refine ⟨by unfold sm; omega, h2, by unfold sm; omega, by unfold sm; omega, by unfold sm; omega, by unfold sm; omega, fun s q1 q2 => ⟨(h1 s q1 q2).1, (h1 s q1 q2).2.1⟩⟩
theorem PI_room {w : Int → Int → Int} (h : PI w) : 0 ≤ pRoom w ∧ pRoom w ≤ 248 := by
  have b := PI_bd h
  obtain ⟨h1, ⟨h2, h3, h4⟩, h5, h6, h7, h8, h9⟩ := h
  unfold pRoom
  omega
theorem PI_erase {w : Int → Int → Int} {s : Int} (h : PI w) (hs : 0 ≤ s ∧ s < 32) : pwf (pErase w s) := by
  have b := PI_bd h
  have hp := PI_pwf h
  obtain ⟨h1, ⟨h2, h3, h4⟩, h5, h6, h7, h8, h9⟩ := h
  have hc := cellB_bd (k := w 1 s) (h1 s hs.1 hs.2).2.1
  refine ⟨by rw [pErase_0 _ _ _ (by decide) (by decide)]; exact hp.1, by rw [pErase_0 _ _ _ (by decide) (by decide)]; exact h2, by rw [pErase_0 _ _ _ (by decide) (by decide)]; exact hp.2.2.1, by rw [pErase_3]; unfold sm; split <;> omega, by rw [pErase_4]; unfold sm; omega, by rw [pErase_0 _ _ _ (by decide) (by decide)]; exact hp.2.2.2.2.2.1, fun j q1 q2 => ⟨?_, ?_⟩⟩
  · rw [pErase_1]; have := (h1 j q1 q2).1; split <;> omega
  · rw [pErase_t _ _ _ _ (by decide) (by decide)]; exact (h1 j q1 q2).2.1
/-- an empty slot below 32, for a page with PI -/
theorem PI_slot {w : Int → Int → Int} {r : Int} (h : PI w) (hr : pEmpty w r) : r < 32 := by
  have b := PI_bd h
  obtain ⟨h1, ⟨h2, h3, h4⟩, h5, h6, h7, h8, h9⟩ := h
  obtain ⟨r1, r2, r3⟩ := hr
  by_cases hq : r < 32
  · exact hq
  · exfalso
    have h9 : sumF (cef w) 32 = sumF (fun _ => 1) 32 := sumF_congr (fun i q1 q2 => by unfold cef; rw [if_neg (r2 i q1 (by omega))])
    have h10 : sumF (fun _ => 1) 32 = 32 := by decide
    omega
def nEnd (e u sl q : Int) : Int := if 248 - 4 * sl - e < q then u + q else e + q
def nCmp (e sl q : Int) : Int := if 248 - 4 * sl - e < q then 1 else 0
theorem pWrite_0 (w : Int → Int → Int) (s k n sd lk j : Int) (h4 : j ≠ 4) (h3 : j ≠ 3) : pWrite w s k n sd lk 0 j = w 0 j := by unfold pWrite; split <;> simp [upw, h4, h3]
theorem pWrite_4 (w : Int → Int → Int) (s k n sd lk : Int) : pWrite w s k n sd lk 0 4 = w 0 4 + cellB k n := by unfold pWrite; split <;> simp [upw]
theorem pWrite_3 (w : Int → Int → Int) (s k n sd lk : Int) : pWrite w s k n sd lk 0 3 = w 0 3 + if k = 2 then 1 else 0 := by unfold pWrite; split <;> simp [upw]
theorem pWrite_t1 (w : Int → Int → Int) (s k n sd lk j : Int) : pWrite w s k n sd lk 1 j = if j = s then k else w 1 j := by unfold pWrite; split <;> simp [upw]
theorem pWrite_t2 (w : Int → Int → Int) (s k n sd lk j : Int) : pWrite w s k n sd lk 2 j = if j = s then n else w 2 j := by unfold pWrite; split <;> simp [upw]
theorem pWrite_t3 (w : Int → Int → Int) (s k n sd lk j : Int) : pWrite w s k n sd lk 3 j = if j = s then sd else w 3 j := by unfold pWrite; split <;> simp [upw]
theorem pWrite_t4 (w : Int → Int → Int) (s k n sd lk j : Int) : pWrite w s k n sd lk 4 j = if j = s then lk else w 4 j := by unfold pWrite; split <;> simp [upw]
theorem pClaim_5 (w : Int → Int → Int) (q sb : Int) : pClaim w q sb 0 5 = if 248 - 4 * w 0 1 < w 0 5 + q + sb then w 0 4 + q else w 0 5 + q := by unfold pClaim; split <;> simp [upw]
theorem pClaim_8 (w : Int → Int → Int) (q sb : Int) : pClaim w q sb 0 8 = w 0 8 + if 248 - 4 * w 0 1 < w 0 5 + q + sb then 1 else 0 := by unfold pClaim; split <;> simp [upw]
/-- what put leaves, field by field -/
theorem pPut_f (w : Int → Int → Int) (r k n sd lk : Int) (hr : 0 ≤ r ∧ r ≤ w 0 1) :
    pPut w r k n sd lk 0 0 = 1 ∧ pPut w r k n sd lk 0 1 = (if r < w 0 1 then w 0 1 else r + 1) ∧ pPut w r k n sd lk 0 2 = w 0 2 + 1 ∧ pPut w r k n sd lk 0 3 = w 0 3 + (if k = 2 then 1 else 0) ∧ pPut w r k n sd lk 0 4 = w 0 4 + cellB k n ∧
    pPut w r k n sd lk 0 5 = nEnd (w 0 5) (w 0 4) (if r < w 0 1 then w 0 1 else r + 1) (cellB k n) ∧ pPut w r k n sd lk 0 6 = w 0 6 ∧ pPut w r k n sd lk 0 7 = w 0 7 ∧ pPut w r k n sd lk 0 8 = w 0 8 + nCmp (w 0 5) (if r < w 0 1 then w 0 1 else r + 1) (cellB k n) ∧
    (∀ j, pPut w r k n sd lk 1 j = if j = r then k else w 1 j) ∧ (∀ j, pPut w r k n sd lk 2 j = if j = r then n else w 2 j) ∧ (∀ j, pPut w r k n sd lk 3 j = if j = r then sd else w 3 j) ∧ (∀ j, pPut w r k n sd lk 4 j = if j = r then lk else w 4 j) := by
  have u0 : ∀ j, j ≠ 0 → upw w 0 0 1 0 j = w 0 j := fun j h => by simp [upw, h]
  have ut : ∀ t j, t ≠ 0 → upw w 0 0 1 t j = w t j := fun t j h => by simp [upw, h]
  unfold pPut
  by_cases hr2 : r < w 0 1
  · simp only [if_pos hr2]
    refine ⟨?_, ?_, ?_, ?_, ?_, ?_, ?_, ?_, ?_, fun j => ?_, fun j => ?_, fun j => ?_, fun j => ?_⟩
    · rw [pWrite_0 _ _ _ _ _ _ _ (by decide) (by decide), upw_j (by decide), pClaim_0 _ _ _ _ (by decide) (by decide)]; simp [upw]
    · rw [pWrite_0 _ _ _ _ _ _ _ (by decide) (by decide), upw_j (by decide), pClaim_0 _ _ _ _ (by decide) (by decide), u0 _ (by decide)]
    · rw [pWrite_0 _ _ _ _ _ _ _ (by decide) (by decide), upw_at, pClaim_0 _ _ _ _ (by decide) (by decide), u0 _ (by decide)]
    · rw [pWrite_3, upw_j (by decide), pClaim_0 _ _ _ _ (by decide) (by decide), u0 _ (by decide)]
    · rw [pWrite_4, upw_j (by decide), pClaim_0 _ _ _ _ (by decide) (by decide), u0 _ (by decide)]
    · rw [pWrite_0 _ _ _ _ _ _ _ (by decide) (by decide), upw_j (by decide), pClaim_5, u0 _ (by decide), u0 _ (by decide), u0 _ (by decide)]; unfold nEnd; split <;> split <;> omega
    · rw [pWrite_0 _ _ _ _ _ _ _ (by decide) (by decide), upw_j (by decide), pClaim_0 _ _ _ _ (by decide) (by decide), u0 _ (by decide)]
    · rw [pWrite_0 _ _ _ _ _ _ _ (by decide) (by decide), upw_j (by decide), pClaim_0 _ _ _ _ (by decide) (by decide), u0 _ (by decide)]
    · rw [pWrite_0 _ _ _ _ _ _ _ (by decide) (by decide), upw_j (by decide), pClaim_8, u0 _ (by decide), u0 _ (by decide), u0 _ (by decide)]; unfold nCmp; split <;> split <;> omega
    · rw [pWrite_t1, upw_t (by decide), pClaim_t _ _ _ _ _ (by decide), ut _ _ (by decide)]
    · rw [pWrite_t2, upw_t (by decide), pClaim_t _ _ _ _ _ (by decide), ut _ _ (by decide)]
    · rw [pWrite_t3, upw_t (by decide), pClaim_t _ _ _ _ _ (by decide), ut _ _ (by decide)]
    · rw [pWrite_t4, upw_t (by decide), pClaim_t _ _ _ _ _ (by decide), ut _ _ (by decide)]
  · have hre : r = w 0 1 := by omega
    simp only [if_neg hr2]
    refine ⟨?_, ?_, ?_, ?_, ?_, ?_, ?_, ?_, ?_, fun j => ?_, fun j => ?_, fun j => ?_, fun j => ?_⟩
    · rw [pWrite_0 _ _ _ _ _ _ _ (by decide) (by decide), upw_j (by decide), upw_j (by decide), pClaim_0 _ _ _ _ (by decide) (by decide)]; simp [upw]
    · rw [pWrite_0 _ _ _ _ _ _ _ (by decide) (by decide), upw_j (by decide), upw_at]
    · rw [pWrite_0 _ _ _ _ _ _ _ (by decide) (by decide), upw_at, pClaim_0 _ _ _ _ (by decide) (by decide), u0 _ (by decide)]
    · rw [pWrite_3, upw_j (by decide), upw_j (by decide), pClaim_0 _ _ _ _ (by decide) (by decide), u0 _ (by decide)]
    · rw [pWrite_4, upw_j (by decide), upw_j (by decide), pClaim_0 _ _ _ _ (by decide) (by decide), u0 _ (by decide)]
    · rw [pWrite_0 _ _ _ _ _ _ _ (by decide) (by decide), upw_j (by decide), upw_j (by decide), pClaim_5, u0 _ (by decide), u0 _ (by decide), u0 _ (by decide)]; unfold nEnd; split <;> split <;> omega
    · rw [pWrite_0 _ _ _ _ _ _ _ (by decide) (by decide), upw_j (by decide), upw_j (by decide), pClaim_0 _ _ _ _ (by decide) (by decide), u0 _ (by decide)]
    · rw [pWrite_0 _ _ _ _ _ _ _ (by decide) (by decide), upw_j (by decide), upw_j (by decide), pClaim_0 _ _ _ _ (by decide) (by decide), u0 _ (by decide)]
    · rw [pWrite_0 _ _ _ _ _ _ _ (by decide) (by decide), upw_j (by decide), upw_j (by decide), pClaim_8, u0 _ (by decide), u0 _ (by decide), u0 _ (by decide)]; unfold nCmp; split <;> split <;> omega
    · rw [pWrite_t1, upw_t (by decide), upw_t (by decide), pClaim_t _ _ _ _ _ (by decide), ut _ _ (by decide)]
    · rw [pWrite_t2, upw_t (by decide), upw_t (by decide), pClaim_t _ _ _ _ _ (by decide), ut _ _ (by decide)]
    · rw [pWrite_t3, upw_t (by decide), upw_t (by decide), pClaim_t _ _ _ _ _ (by decide), ut _ _ (by decide)]
    · rw [pWrite_t4, upw_t (by decide), upw_t (by decide), pClaim_t _ _ _ _ _ (by decide), ut _ _ (by decide)]
theorem pChange_f (w : Int → Int → Int) (s k n sd lk : Int) :
    pChange w s k n sd lk 0 0 = w 0 0 ∧ pChange w s k n sd lk 0 1 = w 0 1 ∧ pChange w s k n sd lk 0 2 = w 0 2 ∧ pChange w s k n sd lk 0 3 = w 0 3 - (if w 1 s = 2 then 1 else 0) + (if k = 2 then 1 else 0) ∧ pChange w s k n sd lk 0 4 = w 0 4 - pBytes w s + cellB k n ∧
    pChange w s k n sd lk 0 5 = (if cellB k n ≤ pBytes w s then w 0 5 else nEnd (w 0 5) (w 0 4 - pBytes w s) (w 0 1) (cellB k n)) ∧ pChange w s k n sd lk 0 6 = w 0 6 ∧ pChange w s k n sd lk 0 7 = w 0 7 ∧ pChange w s k n sd lk 0 8 = w 0 8 + (if cellB k n ≤ pBytes w s then 0 else nCmp (w 0 5) (w 0 1) (cellB k n)) ∧
    (∀ j, pChange w s k n sd lk 1 j = if j = s then k else w 1 j) ∧ (∀ j, pChange w s k n sd lk 2 j = if j = s then n else w 2 j) ∧ (∀ j, pChange w s k n sd lk 3 j = if j = s then sd else w 3 j) ∧ (∀ j, pChange w s k n sd lk 4 j = if j = s then lk else w 4 j) := by
  have e0 := pErase_0 w s
  unfold pChange
  by_cases hq : cellB k n ≤ pBytes w s
  · simp only [if_pos hq]
    refine ⟨?_, ?_, ?_, ?_, ?_, ?_, ?_, ?_, ?_, fun j => ?_, fun j => ?_, fun j => ?_, fun j => ?_⟩
    · rw [pWrite_0 _ _ _ _ _ _ _ (by decide) (by decide), e0 _ (by decide) (by decide)]
    · rw [pWrite_0 _ _ _ _ _ _ _ (by decide) (by decide), e0 _ (by decide) (by decide)]
    · rw [pWrite_0 _ _ _ _ _ _ _ (by decide) (by decide), e0 _ (by decide) (by decide)]
    · rw [pWrite_3, pErase_3]; split <;> omega
    · rw [pWrite_4, pErase_4]; unfold pBytes; rfl
    · rw [pWrite_0 _ _ _ _ _ _ _ (by decide) (by decide), e0 _ (by decide) (by decide)]
    · rw [pWrite_0 _ _ _ _ _ _ _ (by decide) (by decide), e0 _ (by decide) (by decide)]
    · rw [pWrite_0 _ _ _ _ _ _ _ (by decide) (by decide), e0 _ (by decide) (by decide)]
    · rw [pWrite_0 _ _ _ _ _ _ _ (by decide) (by decide), e0 _ (by decide) (by decide)]; omega
    · rw [pWrite_t1, pErase_1]; split <;> rfl
    · rw [pWrite_t2, pErase_t _ _ _ _ (by decide) (by decide)]
    · rw [pWrite_t3, pErase_t _ _ _ _ (by decide) (by decide)]
    · rw [pWrite_t4, pErase_t _ _ _ _ (by decide) (by decide)]
  · simp only [if_neg hq]
    refine ⟨?_, ?_, ?_, ?_, ?_, ?_, ?_, ?_, ?_, fun j => ?_, fun j => ?_, fun j => ?_, fun j => ?_⟩
    · rw [pWrite_0 _ _ _ _ _ _ _ (by decide) (by decide), pClaim_0 _ _ _ _ (by decide) (by decide), e0 _ (by decide) (by decide)]
    · rw [pWrite_0 _ _ _ _ _ _ _ (by decide) (by decide), pClaim_0 _ _ _ _ (by decide) (by decide), e0 _ (by decide) (by decide)]
    · rw [pWrite_0 _ _ _ _ _ _ _ (by decide) (by decide), pClaim_0 _ _ _ _ (by decide) (by decide), e0 _ (by decide) (by decide)]
    · rw [pWrite_3, pClaim_0 _ _ _ _ (by decide) (by decide), pErase_3]; split <;> omega
    · rw [pWrite_4, pClaim_0 _ _ _ _ (by decide) (by decide), pErase_4]; unfold pBytes; rfl
    · rw [pWrite_0 _ _ _ _ _ _ _ (by decide) (by decide), pClaim_5, e0 _ (by decide) (by decide), e0 _ (by decide) (by decide), pErase_4]; unfold nEnd pBytes; split <;> split <;> omega
    · rw [pWrite_0 _ _ _ _ _ _ _ (by decide) (by decide), pClaim_0 _ _ _ _ (by decide) (by decide), e0 _ (by decide) (by decide)]
    · rw [pWrite_0 _ _ _ _ _ _ _ (by decide) (by decide), pClaim_0 _ _ _ _ (by decide) (by decide), e0 _ (by decide) (by decide)]
    · rw [pWrite_0 _ _ _ _ _ _ _ (by decide) (by decide), pClaim_8, e0 _ (by decide) (by decide), e0 _ (by decide) (by decide), e0 _ (by decide) (by decide)]; unfold nCmp; split <;> split <;> omega
    · rw [pWrite_t1, pClaim_t _ _ _ _ _ (by decide), pErase_1]; split <;> rfl
    · rw [pWrite_t2, pClaim_t _ _ _ _ _ (by decide), pErase_t _ _ _ _ (by decide) (by decide)]
    · rw [pWrite_t3, pClaim_t _ _ _ _ _ (by decide), pErase_t _ _ _ _ (by decide) (by decide)]
    · rw [pWrite_t4, pClaim_t _ _ _ _ _ (by decide), pErase_t _ _ _ _ (by decide) (by decide)]
theorem pRem_f (w : Int → Int → Int) (s n : Int) :
    pRem w s n 0 0 = (if w 0 2 = 1 then 0 else w 0 0) ∧ pRem w s n 0 1 = n ∧ pRem w s n 0 2 = w 0 2 - 1 ∧ pRem w s n 0 3 = w 0 3 - (if w 1 s = 2 then 1 else 0) ∧ pRem w s n 0 4 = w 0 4 - pBytes w s ∧
    pRem w s n 0 5 = (if w 0 2 = 1 then 0 else w 0 5) ∧ pRem w s n 0 6 = w 0 6 ∧ pRem w s n 0 7 = w 0 7 ∧ pRem w s n 0 8 = w 0 8 ∧
    (∀ j, pRem w s n 1 j = if j = s then 0 else w 1 j) ∧ (∀ j, pRem w s n 2 j = w 2 j) ∧ (∀ j, pRem w s n 3 j = w 3 j) ∧ (∀ j, pRem w s n 4 j = w 4 j) := by
  have e0 := pErase_0 w s
  have e2 : pErase w s 0 2 = w 0 2 := e0 2 (by decide) (by decide)
  unfold pRem
  rw [e2]
  by_cases hq : w 0 2 = 1
  · simp only [if_pos hq, if_pos (show w 0 2 - 1 = 0 by omega)]
    unfold pFree
    refine ⟨?_, ?_, ?_, ?_, ?_, ?_, ?_, ?_, ?_, fun j => ?_, fun j => ?_, fun j => ?_, fun j => ?_⟩
    · simp [upw]
    · simp [upw]
    · simp [upw]
    · rw [upw_j (by decide), upw_j (by decide), upw_j (by decide), upw_j (by decide), pErase_3]; split <;> omega
    · rw [upw_j (by decide), upw_j (by decide), upw_j (by decide), upw_j (by decide), pErase_4]; rfl
    · simp [upw]
    · rw [upw_j (by decide), upw_j (by decide), upw_j (by decide), upw_j (by decide), e0 _ (by decide) (by decide)]
    · rw [upw_j (by decide), upw_j (by decide), upw_j (by decide), upw_j (by decide), e0 _ (by decide) (by decide)]
    · rw [upw_j (by decide), upw_j (by decide), upw_j (by decide), upw_j (by decide), e0 _ (by decide) (by decide)]
    · rw [upw_t (by decide), upw_t (by decide), upw_t (by decide), upw_t (by decide), pErase_1]
    · rw [upw_t (by decide), upw_t (by decide), upw_t (by decide), upw_t (by decide), pErase_t _ _ _ _ (by decide) (by decide)]
    · rw [upw_t (by decide), upw_t (by decide), upw_t (by decide), upw_t (by decide), pErase_t _ _ _ _ (by decide) (by decide)]
    · rw [upw_t (by decide), upw_t (by decide), upw_t (by decide), upw_t (by decide), pErase_t _ _ _ _ (by decide) (by decide)]
  · simp only [if_neg hq, if_neg (show ¬ w 0 2 - 1 = 0 by omega)]
    refine ⟨?_, ?_, ?_, ?_, ?_, ?_, ?_, ?_, ?_, fun j => ?_, fun j => ?_, fun j => ?_, fun j => ?_⟩
    · rw [upw_j (by decide), upw_j (by decide), e0 _ (by decide) (by decide)]
    · simp [upw]
    · simp [upw]
    · rw [upw_j (by decide), upw_j (by decide), pErase_3]; split <;> omega
    · rw [upw_j (by decide), upw_j (by decide), pErase_4]; rfl
    · rw [upw_j (by decide), upw_j (by decide), e0 _ (by decide) (by decide)]
    · rw [upw_j (by decide), upw_j (by decide), e0 _ (by decide) (by decide)]
    · rw [upw_j (by decide), upw_j (by decide), e0 _ (by decide) (by decide)]
    · rw [upw_j (by decide), upw_j (by decide), e0 _ (by decide) (by decide)]
    · rw [upw_t (by decide), upw_t (by decide), pErase_1]
    · rw [upw_t (by decide), upw_t (by decide), pErase_t _ _ _ _ (by decide) (by decide)]
    · rw [upw_t (by decide), upw_t (by decide), pErase_t _ _ _ _ (by decide) (by decide)]
    · rw [upw_t (by decide), upw_t (by decide), pErase_t _ _ _ _ (by decide) (by decide)]
