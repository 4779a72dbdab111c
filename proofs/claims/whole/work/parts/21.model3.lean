/-- bounds of the model's pages -/
def MB (w : Int → Int → Int) : Prop := ∀ p, 0 ≤ p → p < 96 → (0 ≤ mTk w p ∧ mTk w p ≤ 248) ∧ (0 ≤ w 1 (96 + p) ∧ w 1 (96 + p) ≤ 248) ∧ (w 1 p = 1 → 0 ≤ mRoom w p ∧ mRoom w p ≤ 248) ∧ (∀ s, 0 ≤ s → s < 32 → 0 ≤ mSz w p s)
/-- what a chain's taking leaves as it is -/
theorem mt_keep {w : Int → Int → Int} {len : Int} (hw : mwf w) (hn : 0 ≤ len ∧ len ≤ 1200) (m : Nat) (hm5 : m ≤ 5) (hm : (m : Int) ≤ cntK (w 1) 0 96) : ∀ k : Nat, k ≤ m → (∀ t j, t ≠ 1 → (mtN w len k).1 t j = w t j) ∧ (∀ j, (96 ≤ j ∧ j < 192) ∨ 384 ≤ j → (mtN w len k).1 1 j = w 1 j) ∧ (∀ p, 0 ≤ p → p < 96 → w 1 p ≠ 0 → (mtN w len k).1 1 p = w 1 p ∧ (mtN w len k).1 1 (192 + p) = w 1 (192 + p) ∧ (mtN w len k).1 1 (288 + p) = w 1 (288 + p)) ∧ (∀ p, 0 ≤ p → p < 96 → w 1 p = 0 → (mtN w len k).1 1 p = 0 ∨ (mtN w len k).1 1 p = 2) ∧ ((mtN w len k).2.2 = -1 ∨ (0 ≤ (mtN w len k).2.2 ∧ w 1 (mtN w len k).2.2 = 0)) := by
  intro k
  induction k with
  | zero => intro _; exact ⟨fun _ _ _ => rfl, fun _ _ => rfl, fun _ _ _ _ => ⟨rfl, rfl, rfl⟩, fun p _ _ h => Or.inl h, Or.inl rfl⟩
  | succ k ih =>
    intro hk
    obtain ⟨k1, k2, k3, k4, k5⟩ := ih (by omega)
    obtain ⟨i1, i2, i4, i5⟩ := mt_inv hw hn m hm5 hm k (by omega)
    have hpos : 0 < cntK ((mtN w len k).1 1) 0 96 := by rw [i4]; omega
    obtain ⟨f, f1, f2, f3⟩ := cntK_pos hpos
    have hl := lfr_LF ((mtN w len k).1 1)
    have hst : mtN w len (k + 1) = mtStep len k (mtN w len k) := rfl
    rw [hst]
    generalize mtN w len k = S at *
    generalize hr : lfr (S.1 1) = r at *
    rcases hl with ⟨-, kk⟩ | ⟨r1, r2, r3, r4⟩
    · exact absurd f3 (kk f f1 (by omega))
    · have hr0 : w 1 r = 0 := by
        by_cases h : w 1 r = 0
        · exact h
        · have := (k3 r r1 r2 h).1; omega
      unfold mtStep
      rw [hr]
      generalize (if len - 240 * (k : Int) < 240 then len - 240 * k else 240) = q
      split
      · refine ⟨fun t j ht => ?_, fun j hj => ?_, fun p p1 p2 p3 => ?_, fun p p1 p2 p3 => ?_, Or.inr ⟨r1, hr0⟩⟩
        · show upw (upw (upw S.1 1 r 2) 1 (192 + r) (-1)) 1 (288 + r) q t j = w t j
          rw [upw_t ht, upw_t ht, upw_t ht, k1 t j ht]
        · show upw (upw (upw S.1 1 r 2) 1 (192 + r) (-1)) 1 (288 + r) q 1 j = w 1 j
          rw [upw_j (by omega), upw_j (by omega), upw_j (by omega), k2 j hj]
        · obtain ⟨a1, a2, a3⟩ := k3 p p1 p2 p3
          have hpr : p ≠ r := fun e => p3 (e ▸ hr0)
          refine ⟨?_, ?_, ?_⟩
          · show upw (upw (upw S.1 1 r 2) 1 (192 + r) (-1)) 1 (288 + r) q 1 p = w 1 p
            rw [upw_j (by omega), upw_j (by omega), upw_j (by omega), a1]
          · show upw (upw (upw S.1 1 r 2) 1 (192 + r) (-1)) 1 (288 + r) q 1 (192 + p) = _
            rw [upw_j (by omega), upw_j (by omega), upw_j (by omega), a2]
          · show upw (upw (upw S.1 1 r 2) 1 (192 + r) (-1)) 1 (288 + r) q 1 (288 + p) = _
            rw [upw_j (by omega), upw_j (by omega), upw_j (by omega), a3]
        · show upw (upw (upw S.1 1 r 2) 1 (192 + r) (-1)) 1 (288 + r) q 1 p = 0 ∨ upw (upw (upw S.1 1 r 2) 1 (192 + r) (-1)) 1 (288 + r) q 1 p = 2
          rw [upw_j (by omega), upw_j (by omega)]
          by_cases hpr : p = r
          · subst hpr; rw [upw_at]; exact Or.inr rfl
          · rw [upw_j hpr]; exact k4 p p1 p2 p3
      · rename_i hne
        have hl0 : 0 ≤ S.2.2 ∧ w 1 S.2.2 = 0 := k5.resolve_left hne
        refine ⟨fun t j ht => ?_, fun j hj => ?_, fun p p1 p2 p3 => ?_, fun p p1 p2 p3 => ?_, Or.inr ⟨r1, hr0⟩⟩
        · show upw (upw (upw (upw S.1 1 r 2) 1 (192 + r) (-1)) 1 (288 + r) q) 1 (192 + S.2.2) r t j = w t j
          rw [upw_t ht, upw_t ht, upw_t ht, upw_t ht, k1 t j ht]
        · show upw (upw (upw (upw S.1 1 r 2) 1 (192 + r) (-1)) 1 (288 + r) q) 1 (192 + S.2.2) r 1 j = w 1 j
          rw [upw_j (by omega), upw_j (by omega), upw_j (by omega), upw_j (by omega), k2 j hj]
        · obtain ⟨a1, a2, a3⟩ := k3 p p1 p2 p3
          have hpr : p ≠ r := fun e => p3 (e ▸ hr0)
          have hpl : p ≠ S.2.2 := fun e => p3 (e ▸ hl0.2)
          refine ⟨?_, ?_, ?_⟩
          · show upw (upw (upw (upw S.1 1 r 2) 1 (192 + r) (-1)) 1 (288 + r) q) 1 (192 + S.2.2) r 1 p = w 1 p
            rw [upw_j (by omega), upw_j (by omega), upw_j (by omega), upw_j (by omega), a1]
          · show upw (upw (upw (upw S.1 1 r 2) 1 (192 + r) (-1)) 1 (288 + r) q) 1 (192 + S.2.2) r 1 (192 + p) = _
            rw [upw_j (by omega), upw_j (by omega), upw_j (by omega), upw_j (by omega), a2]
          · show upw (upw (upw (upw S.1 1 r 2) 1 (192 + r) (-1)) 1 (288 + r) q) 1 (192 + S.2.2) r 1 (288 + p) = _
            rw [upw_j (by omega), upw_j (by omega), upw_j (by omega), upw_j (by omega), a3]
        · show upw (upw (upw (upw S.1 1 r 2) 1 (192 + r) (-1)) 1 (288 + r) q) 1 (192 + S.2.2) r 1 p = 0 ∨ upw (upw (upw (upw S.1 1 r 2) 1 (192 + r) (-1)) 1 (288 + r) q) 1 (192 + S.2.2) r 1 p = 2
          rw [upw_j (by omega), upw_j (by omega), upw_j (by omega)]
          by_cases hpr : p = r
          · subst hpr; rw [upw_at]; exact Or.inr rfl
          · rw [upw_j hpr]; exact k4 p p1 p2 p3
theorem mSz_eq {w u : Int → Int → Int} (h : ∀ j, 384 ≤ j → j < 3456 → u 1 j = w 1 j) {p s : Int} (hp : 0 ≤ p ∧ p < 96) (hs : 0 ≤ s ∧ s < 32) : mSz u p s = mSz w p s := h _ (by omega) (by omega)
theorem mPg_eq {w u : Int → Int → Int} {p : Int} (h : ∀ s, 0 ≤ s → s < 32 → mSz u p s = mSz w p s) : mSl u p 32 = mSl w p 32 ∧ mTk u p = mTk w p ∧ mCe u p = mCe w p ∧ mRoom u p = mRoom w p := by
  have a := mSl_congr (n := 32) (fun s h1 h2 => h s h1 (by omega))
  have b : mTk u p = mTk w p := sumF_congr (fun s h1 h2 => h s h1 (by omega))
  have c : mCe u p = mCe w p := sumF_congr (fun s h1 h2 => by unfold mCf; rw [h s h1 (by omega)])
  exact ⟨a, b, c, by unfold mRoom; rw [a, b]⟩
theorem mt_MB {w : Int → Int → Int} {len : Int} (hw : mwf w) (hn : 0 ≤ len ∧ len ≤ 1200) (m : Nat) (hm5 : m ≤ 5) (hm : (m : Int) ≤ cntK (w 1) 0 96) (h : MB w) : MB (mtN w len m).1 := by
  obtain ⟨k1, k2, k3, k4, k5⟩ := mt_keep hw hn m hm5 hm m (Nat.le_refl _)
  intro p p1 p2
  obtain ⟨h1, h2, h3, h4⟩ := h p p1 p2
  obtain ⟨e1, e2, e3, e4⟩ := mPg_eq (w := w) (u := (mtN w len m).1) (p := p) (fun s s1 s2 => mSz_eq (fun j j1 j2 => k2 j (Or.inr j1)) ⟨p1, p2⟩ ⟨s1, s2⟩)
  rw [e2, e4, k2 (96 + p) (by omega)]
  refine ⟨h1, h2, fun q => h3 ?_, fun s s1 s2 => by rw [mSz_eq (w := w) (fun j j1 j2 => k2 j (Or.inr j1)) ⟨p1, p2⟩ ⟨s1, s2⟩]; exact h4 s s1 s2⟩
  by_cases hz : w 1 p = 0
  · rcases k4 p p1 p2 hz with e | e <;> omega
  · rw [← (k3 p p1 p2 hz).1]; exact q
theorem mwf_put {w : Int → Int → Int} {p s z ow : Int} (hw : mwf w) (h : MB w) (hp : 0 ≤ p ∧ p < 96) (hs : 0 ≤ s ∧ s < 32) (hz : 0 ≤ z ∧ z ≤ 1000) (ho : sm ow) : mwf (mPut w p s z ow) := by
  obtain ⟨h1, h2, -, h4⟩ := h p hp.1 hp.2
  have hs0 := h4 s hs.1 hs.2
  have hsz : sm (mSz w p s) := hw _ (by omega) (by omega)
  unfold mPut
  refine mwf_up (mwf_up (mwf_up (mwf_up0 (mwf_up hw ⟨by decide, by decide⟩) (by decide)) ?_) (by unfold sm; omega)) ho
  unfold mPutE mE0 sm
  unfold sm at hsz
  repeat' split
  all_goals omega
theorem mwf_take {w : Int → Int → Int} {p s : Int} (hw : mwf w) : mwf (mTake w p s) := by
  unfold mTake
  have h0 : sm 0 := ⟨by decide, by decide⟩
  split
  · exact mwf_up (mwf_up (mwf_up hw h0) h0) h0
  · exact mwf_up hw h0
theorem mwf_keep {w : Int → Int → Int} {x c n sd f : Int} (hw : mwf w) (h1 : sm c) (h2 : sm n) (h3 : sm sd) (h4 : sm f) : mwf (mKeep w x c n sd f) := mwf_up (mwf_up (mwf_up (mwf_up hw h1) h2) h3) h4
theorem mCe_free {w : Int → Int → Int} {p : Int} (h : mCe w p ≠ 32) : ∃ s0, (0 ≤ s0 ∧ s0 < 32) ∧ mSz w p s0 ≤ 0 := by
  by_cases hq : ∃ s0, (0 ≤ s0 ∧ s0 < 32) ∧ mSz w p s0 ≤ 0
  · exact hq
  · exfalso
    apply h
    have : mCe w p = sumF (fun _ => 1) 32 := sumF_congr (fun s h1 h2 => by
      unfold mCf
      rw [if_pos]
      exact Int.not_le.mp (fun h3 => hq ⟨s, ⟨h1, by omega⟩, h3⟩))
    rw [this]
    decide
/-- a place of the model: its page -/
theorem isPlM_ok {w : Int → Int → Int} {q x y r : Int} (h : isPlM w q x y r) : r = -1 ∨ ((0 ≤ r ∧ r < 96) ∧ (w 1 r = 0 ∨ (okm w x y r))) := by
  rcases h with ⟨h1, h2⟩ | ⟨-, ⟨h1, h2⟩ | ⟨-, h2⟩⟩
  · rcases h2 with ⟨e, -⟩ | ⟨k1, k2, k3, -⟩
    · exact absurd e h1
    · exact Or.inr ⟨⟨k1, k2⟩, Or.inr k3⟩
  · rcases h2 with ⟨e, -⟩ | ⟨k1, k2, k3, -⟩
    · exact absurd e h1
    · exact Or.inr ⟨⟨k1, k2⟩, Or.inr k3⟩
  · rcases h2 with ⟨e, -⟩ | ⟨k1, k2, k3, -⟩
    · exact Or.inl e
    · exact Or.inr ⟨⟨k1, k2⟩, Or.inl k3⟩
def mSlot (w : Int → Int → Int) (p t : Int) : Prop := (w 1 p = 0 ∧ t = 0) ∨ (w 1 p ≠ 0 ∧ mEmpty w p t)
def InsM (w : Int → Int → Int) (q sd r : Int) (w' : Int → Int → Int) : Prop :=
  (¬ chP q ≤ cntK (w 1) 0 96 ∧ r = -1 ∧ w' = w) ∨
  (chP q ≤ cntK (w 1) 0 96 ∧ ∃ pl, isPlM (mtN w q (chP q).toNat).1 (cellB 1 q + 4) (-1) (-1) pl ∧
    ((pl = -1 ∧ r = -1 ∧ ∃ L, isCh (mNx (mtN w q (chP q).toNat).1) L (mtN w q (chP q).toNat).2.1 ∧ w' = mFreeL (mtN w q (chP q).toNat).1 L) ∨
     (pl ≠ -1 ∧ ∃ t, mSlot (mtN w q (chP q).toNat).1 pl t ∧ (0 ≤ t ∧ t < 32) ∧ r = 32 * pl + t ∧ w' = mKeep (mPut (mtN w q (chP q).toNat).1 pl t (cellB 1 q) (32 * pl + t)) (32 * pl + t) (32 * pl + t) q sd (mtN w q (chP q).toNat).2.1)))
/-- the update of record x, whose cell is c, from S and first f: what is left ahead of the old chain's freeing -/
def UpdC (S : Int → Int → Int) (x c q sd f r : Int) (u : Int → Int → Int) : Prop :=
  (cellB 1 q ≤ mRoom S (x / 32) + mSz S (x / 32) (x % 32) ∧ r = 1 ∧ u = mKeep (if c = x then mPut S (x / 32) (x % 32) (cellB 1 q) x else mTake (mPut S (x / 32) (x % 32) (cellB 1 q) x) (c / 32) (c % 32)) x x q sd f) ∨
  (¬ cellB 1 q ≤ mRoom S (x / 32) + mSz S (x / 32) (x % 32) ∧ c ≠ x ∧ cellB 3 q ≤ mRoom S (c / 32) + mSz S (c / 32) (c % 32) ∧ r = 1 ∧ u = mKeep (mPut S (c / 32) (c % 32) (cellB 3 q) x) x c q sd f) ∨
  (¬ cellB 1 q ≤ mRoom S (x / 32) + mSz S (x / 32) (x % 32) ∧ (c = x ∨ ¬ cellB 3 q ≤ mRoom S (c / 32) + mSz S (c / 32) (c % 32)) ∧ ∃ pl, isPlM S (cellB 3 q + 4) (x / 32) (c / 32) pl ∧
    ((pl = -1 ∧ r = 0 ∧ u = S) ∨
     (pl ≠ -1 ∧ r = 1 ∧ ∃ t, mSlot S pl t ∧ (0 ≤ t ∧ t < 32) ∧ u = mKeep (if c = x then mPut (mPut S pl t (cellB 3 q) x) (x / 32) (x % 32) 5 x else mTake (mPut S pl t (cellB 3 q) x) (c / 32) (c % 32)) x (32 * pl + t) q sd f)))
def UpdM (w : Int → Int → Int) (x q sd : Int) (L0 : List Int) (r : Int) (w' : Int → Int → Int) : Prop :=
  (¬ chP q ≤ cntK (w 1) 0 96 ∧ r = 0 ∧ w' = w) ∨
  (chP q ≤ cntK (w 1) 0 96 ∧ ∃ u, UpdC (mtN w q (chP q).toNat).1 x (w 1 (6528 + x)) q sd (mtN w q (chP q).toNat).2.1 r u ∧
    ((r = 1 ∧ w' = mFreeL u L0) ∨ (r = 0 ∧ ∃ L, isCh (mNx u) L (mtN w q (chP q).toNat).2.1 ∧ w' = mFreeL u L)))
def mDel (w : Int → Int → Int) (x : Int) (L0 : List Int) : Int → Int → Int :=
  upw (upw (mFreeL (if w 1 (6528 + x) = x then mTake w (x / 32) (x % 32) else mTake (mTake w (w 1 (6528 + x) / 32) (w 1 (6528 + x) % 32)) (x / 32) (x % 32)) L0) 1 (6528 + x) (-1)) 1 (15744 + x) (-1)
theorem mPut_far {w : Int → Int → Int} {p s z ow j : Int} (hp : 0 ≤ p ∧ p < 96) (hs : 0 ≤ s ∧ s < 32) (hj : (192 ≤ j ∧ j < 384) ∨ 6528 ≤ j) : mPut w p s z ow 1 j = w 1 j := by
  unfold mPut
  rw [upw_j (by omega), upw_j (by omega), upw_j (by omega), upw_t (by decide), upw_j (by omega)]
theorem mTake_far {w : Int → Int → Int} {p s j : Int} (hp : 0 ≤ p ∧ p < 96) (hs : 0 ≤ s ∧ s < 32) (hj : (192 ≤ j ∧ j < 384) ∨ 3456 ≤ j) : mTake w p s 1 j = w 1 j := by
  unfold mTake
  split
  · rw [upw_j (by omega), upw_j (by omega), upw_j (by omega)]
  · rw [upw_j (by omega)]
theorem mKeep_far {w : Int → Int → Int} {x c n sd f j : Int} (hx : 0 ≤ x ∧ x < 3072) (hj : j < 6528) : mKeep w x c n sd f 1 j = w 1 j := by
  unfold mKeep
  rw [upw_j (by omega), upw_j (by omega), upw_j (by omega), upw_j (by omega)]
theorem mFreeL_out {w : Int → Int → Int} {L : List Int} {t j : Int} (h : t ≠ 1 ∨ j ∉ L) : mFreeL w L t j = w t j := by
  induction L generalizing w with
  | nil => rfl
  | cons p L ih =>
    show mFreeL (upw w 1 p 0) L t j = w t j
    rw [ih (h.imp id (fun q r => q (List.mem_cons_of_mem _ r)))]
    rcases h with h | h
    · exact upw_t h
    · exact upw_j (fun e => h (e ▸ List.mem_cons_self))
/-- pages of a put page are apart from another page's -/
theorem mPut_MBat {w : Int → Int → Int} {p s z ow p' : Int} (hp : 0 ≤ p ∧ p < 96) (hs : 0 ≤ s ∧ s < 32) (hp' : 0 ≤ p' ∧ p' < 96) (hne : p' ≠ p) : (∀ s', 0 ≤ s' → s' < 32 → mSz (mPut w p s z ow) p' s' = mSz w p' s') ∧ mPut w p s z ow 1 (96 + p') = w 1 (96 + p') ∧ mPut w p s z ow 1 p' = w 1 p' := by
  refine ⟨fun s' h1 h2 => ?_, ?_, ?_⟩
  · unfold mSz mPut
    rw [upw_j (by omega), upw_j (by omega), upw_j (by omega), upw_t (by decide), upw_j (by omega)]
  · unfold mPut
    rw [upw_j (by omega), upw_j (by omega), upw_j (by omega), upw_t (by decide), upw_j (by omega)]
  · unfold mPut
    rw [upw_j (by omega), upw_j (by omega), upw_j (by omega), upw_t (by decide), upw_j (by omega)]
theorem mPut_0 {w : Int → Int → Int} {p s z ow t j : Int} (ht : t ≠ 1) (hj : t ≠ 0 ∨ j ≠ 4) : mPut w p s z ow t j = w t j := by
  unfold mPut
  rw [upw_t ht, upw_t ht, upw_t ht]
  rcases hj with h | h
  · rw [upw_t h, upw_t ht]
  · rw [upw_j h, upw_t ht]
set_option maxHeartbeats 4000000 in
set_option maxRecDepth 100000 in
theorem c_X4_fits (l : Launch) (D : va_G) (cy : ClassId × ClassId) (g : GT) (V : VT) (w : Int → Int → Int) (a : Nat) (o : Int) (p s z : Int) (hap : Apart g) (hm : isMod g a o) (hw : mwf w) (hp : 0 ≤ p ∧ p < 96) (hs : 0 ≤ s ∧ s < 32) (hz : sm z) : MetI l yX4_fits cX4_fits 4 (some .boolean) 3 D cy g [.ref a, vI p, vI s, vI z] (setp V o w) (fun r V' => r = (if z ≤ mRoom w p + mSz w p s then 1 else 0) ∧ V' = setp V o w) := by
  obtain ⟨hm1, r1, r2, r3, ⟨hr1, ha1⟩, ⟨hr2, ha2⟩, ⟨hr3, ha3⟩⟩ := id hm
  simp only [sm] at hz
  refine MetI.of (by decide) (Nat.le_of_ble_eq_true rfl) hap ?_
  intro p_ e_ s_ m_ args_ below_ meth_ c_ C
  refine g_aload_n C 0 rfl dX4_fits_0 ?_
  refine g_iload_n C 1 rfl dX4_fits_1 ?_
  refine g_callI C [vI p] [] (c_X4_room l D cy g V w a o p hap hm hw (by omega)) lm_X4_48 (rcv_Mod hm.1) rfl (Nat.le_of_ble_eq_true rfl) ⟨(Nat.le_of_ble_eq_true rfl), (Nat.le_of_ble_eq_true rfl)⟩ ⟨Nat.zero_le _, Nat.zero_le _⟩ dX4_fits_2 ?_
  rintro _ _ ⟨rfl, rfl⟩
  refine g_aload_n C 0 rfl dX4_fits_5 ?_
  refine g_iload_n C 1 rfl dX4_fits_6 ?_
  refine g_iload_n C 2 rfl dX4_fits_7 ?_
  refine g_callI C [vI p, vI s] [vI (mRoom w p)] (c_X4_sizeOf l D cy g V w a o p s hap hm (by omega) (by omega)) lm_X4_27 (rcv_Mod hm.1) rfl (Nat.le_of_ble_eq_true rfl) ⟨(Nat.le_of_ble_eq_true rfl), (Nat.le_of_ble_eq_true rfl)⟩ ⟨Nat.zero_le _, Nat.zero_le _⟩ dX4_fits_8 ?_
  rintro _ _ ⟨rfl, rfl⟩
  refine g_iadd C dX4_fits_11 ?_
  refine g_iload_n C 3 rfl dX4_fits_12 ?_
  refine g_icmp_lt C (by have t1 := mTk_bd hw hp 32 (by omega); have t2 := mSl_bd w p 32; have t3 : sm (mSz w p s) := hw _ (by omega) (by omega); have t4 : mRoom w p = 248 - 4 * mSl w p 32 - sumF (mSz w p) 32 := rfl; unfold sm at t3; unfold rng; omega) (by unfold rng; omega) 20 dX4_fits_13 (by decide) (fun c13 => ?_) (fun c13 => ?_)
  · refine g_iconst C 0 rfl dX4_fits_20 ?_
    exact g_zret C (by omega) dX4_fits_21 ⟨by first | rw [if_pos (by omega)] | rw [if_neg (by omega)], rfl⟩
  · refine g_iconst C 1 rfl dX4_fits_16 ?_
    refine g_goto C 21 dX4_fits_17 (by decide) ?_
    exact g_zret C (by omega) dX4_fits_21 ⟨by first | rw [if_pos (by omega)] | rw [if_neg (by omega)], rfl⟩
set_option maxHeartbeats 4000000 in
set_option maxRecDepth 100000 in
theorem c_X4_inserts (l : Launch) (D : va_G) (cy : ClassId × ClassId) (g : GT) (V : VT) (w : Int → Int → Int) (a : Nat) (o : Int) (q sd : Int) (hap : Apart g) (hm : isMod g a o) (hw : mwf w) (hB : MB w) (hag : w 0 6 = 0 ∨ w 0 6 = 1) (hn : 0 ≤ q ∧ q ≤ 1200) (hch : chP q ≤ cntK (w 1) 0 96 → ∃ L, isCh (mNx (mtN w q (chP q).toNat).1) L (mtN w q (chP q).toNat).2.1) : MetI l yX4_inserts cX4_inserts 8 (some .int) 4 D cy g [.ref a, vI q, vI sd] (setp V o w) (fun r V' => ∃ w', InsM w q sd r w' ∧ V' = setp V o w') := by
  obtain ⟨hm1, r1, r2, r3, ⟨hr1, ha1⟩, ⟨hr2, ha2⟩, ⟨hr3, ha3⟩⟩ := id hm
  have hc := chP_bd hn
  have hck := cntK_bd (w 1) 0 96
  have hcb := cellB_bd (k := 1) (len := q) ⟨by omega, hn.2⟩
  refine MetI.of (by decide) (Nat.le_of_ble_eq_true rfl) hap ?_
  intro p_ e_ s_ m_ args_ below_ meth_ c_ C
  refine g_iload_n C 1 rfl dX4_inserts_0 ?_
  refine g_callSI C [vI q] [] (c_X4_chainSize l D cy g _ q hap hn) lm_X4_55 rfl (Nat.le_of_ble_eq_true rfl) ⟨(Nat.le_of_ble_eq_true rfl), (Nat.le_of_ble_eq_true rfl)⟩ ⟨Nat.zero_le _, Nat.zero_le _⟩ dX4_inserts_1 ?_
  rintro _ _ ⟨rfl, rfl⟩
  refine g_aload_n C 0 rfl dX4_inserts_4 ?_
  refine g_callI C [] [vI (chP q)] (c_X4_freePages l D cy g V w a o hap hm hw) lm_X4_58 (rcv_Mod hm.1) rfl (Nat.le_of_ble_eq_true rfl) ⟨(Nat.le_of_ble_eq_true rfl), (Nat.le_of_ble_eq_true rfl)⟩ ⟨Nat.zero_le _, Nat.zero_le _⟩ dX4_inserts_5 ?_
  rintro _ _ ⟨rfl, rfl⟩
  refine g_icmp_le C (by unfold rng; omega) (by unfold rng; omega) 13 dX4_inserts_8 (by decide) (fun c8 => ?_) (fun c8 => ?_)
  · have hen : chP q ≤ cntK (w 1) 0 96 := c8
    obtain ⟨i1, i2, i4, i5⟩ := mt_inv hw hn (chP q).toNat (by omega) (by omega) (chP q).toNat (Nat.le_refl _)
    obtain ⟨k1, k2, k3, k4, k5⟩ := mt_keep hw hn (chP q).toNat (by omega) (by omega) (chP q).toNat (Nat.le_refl _)
    have hMS := mt_MB hw hn (chP q).toNat (by omega) (by omega) hB
    obtain ⟨L, hL⟩ := hch hen
    refine g_aload_n C 0 rfl dX4_inserts_13 ?_
    refine g_iload_n C 1 rfl dX4_inserts_14 ?_
    refine g_callI C [vI q] [] (c_X4_takeChain l D cy g V w a o q hap hm hw hn hen) lm_X4_61 (rcv_Mod hm.1) rfl (Nat.le_of_ble_eq_true rfl) ⟨(Nat.le_of_ble_eq_true rfl), (Nat.le_of_ble_eq_true rfl)⟩ ⟨Nat.zero_le _, Nat.zero_le _⟩ dX4_inserts_15 ?_
    rintro _ _ ⟨rfl, rfl⟩
    generalize hTe : mtN w q (chP q).toNat = T at *
    refine g_istore_n C [(3, vI T.2.1), (0, .ref a), (1, vI q), (2, vI sd)] dX4_inserts_18 rfl (by decide) rfl ?_
    refine g_iload_n C 2 rfl dX4_inserts_19 ?_
    refine g_iconst C 0 rfl dX4_inserts_20 ?_
    refine g_callSI C [vI q, vI 0] [] (c_X4_cellSize l D cy g _ q 0 hap (by omega) (by omega)) lm_X4_64 rfl (Nat.le_of_ble_eq_true rfl) ⟨(Nat.le_of_ble_eq_true rfl), (Nat.le_of_ble_eq_true rfl)⟩ ⟨Nat.zero_le _, Nat.zero_le _⟩ dX4_inserts_21 ?_
    rintro _ _ ⟨rfl, rfl⟩
    rw [show (1 : Int) + 2 * 0 = 1 by decide]
    refine g_istore C [(4, vI (cellB 1 q)), (3, vI T.2.1), (0, .ref a), (1, vI q), (2, vI sd)] dX4_inserts_24 (by decide) rfl ?_
    refine g_aload_n C 2 rfl dX4_inserts_26 ?_
    refine g_iload C 0 rfl dX4_inserts_27 ?_
    refine g_iconst C (-1) rfl dX4_inserts_29 ?_
    refine g_iconst C (-1) rfl dX4_inserts_30 ?_
    refine g_callI C [vI (cellB 1 q), vI ((-1)), vI ((-1))] [] (c_X4_placeFor l D cy g V T.1 a o (cellB 1 q) (-1) (-1) hap hm i1 (fun i q1 q2 q3 => (hMS i q1 q2).2.2.1 q3) (by omega) (by omega) (by omega)) lm_X4_68 (rcv_Mod hm.1) rfl (Nat.le_of_ble_eq_true rfl) ⟨(Nat.le_of_ble_eq_true rfl), (Nat.le_of_ble_eq_true rfl)⟩ ⟨Nat.zero_le _, Nat.zero_le _⟩ dX4_inserts_31 ?_
    rintro pl _ ⟨hpl, rfl⟩
    have hok := isPlM_ok hpl
    have hpl9 : -1 ≤ pl ∧ pl < 96 := by rcases hok with k | ⟨k, -⟩ <;> omega
    refine g_istore C [(5, vI pl), (4, vI (cellB 1 q)), (3, vI T.2.1), (0, .ref a), (1, vI q), (2, vI sd)] dX4_inserts_34 (by decide) rfl ?_
    refine g_iload C 0 rfl dX4_inserts_36 ?_
    refine g_iconst C (-1) rfl dX4_inserts_38 ?_
    refine g_icmp_ne C (by unfold rng; omega) (by unfold rng; omega) 49 dX4_inserts_39 (by decide) (fun c39 => ?_) (fun c39 => ?_)
    · have hok2 := hok.resolve_left c39
      refine g_aload_n C 3 rfl dX4_inserts_49 ?_
      refine gf_Mod_d C hm1 hr1 lf_X4_7 dX4_inserts_50 ?_
      refine g_iload C 0 rfl dX4_inserts_53 ?_
      refine s_iald C (T.1 1 pl) ha1 (by omega) (by decide) rfl dX4_inserts_55 ?_
      refine g_if_ne C (by have z9 := i1 pl (by omega) (by omega); unfold sm at z9; unfold rng; omega) 63 dX4_inserts_56 (by decide) (fun c56 => ?_) (fun c56 => ?_)
      · obtain ⟨s0, hs0⟩ := mCe_free (hok2.2.resolve_left c56).2.2.2
        refine g_aload_n C 3 rfl dX4_inserts_63 ?_
        refine g_iload C 0 rfl dX4_inserts_64 ?_
        refine g_callI C [vI pl] [] (c_X4_slotIn l D cy g V T.1 a o pl s0 hap hm i1 (by omega) hs0) lm_X4_76 (rcv_Mod hm.1) rfl (Nat.le_of_ble_eq_true rfl) ⟨(Nat.le_of_ble_eq_true rfl), (Nat.le_of_ble_eq_true rfl)⟩ ⟨Nat.zero_le _, Nat.zero_le _⟩ dX4_inserts_66 ?_
        rintro t _ ⟨ht, rfl⟩
        have hts : mSlot T.1 pl t := Or.inr ⟨c56, ht⟩
        have ht9 := ht.1
        refine g_istore C [(6, vI t), (5, vI pl), (4, vI (cellB 1 q)), (3, vI T.2.1), (0, .ref a), (1, vI q), (2, vI sd)] dX4_inserts_69 (by decide) rfl ?_
        refine g_bipush C 32 rfl dX4_inserts_71 ?_
        refine g_iload C 1 rfl dX4_inserts_73 ?_
        refine g_imul C dX4_inserts_75 ?_
        refine g_iload C 0 rfl dX4_inserts_76 ?_
        refine g_iadd C dX4_inserts_78 ?_
        refine g_istore C [(7, vI ((32 * pl) + t)), (6, vI t), (5, vI pl), (4, vI (cellB 1 q)), (3, vI T.2.1), (0, .ref a), (1, vI q), (2, vI sd)] dX4_inserts_79 (by decide) rfl ?_
        refine g_aload_n C 5 rfl dX4_inserts_81 ?_
        refine g_iload C 2 rfl dX4_inserts_82 ?_
        refine g_iload C 1 rfl dX4_inserts_84 ?_
        refine g_iload C 3 rfl dX4_inserts_86 ?_
        refine g_iload C 0 rfl dX4_inserts_88 ?_
        refine g_callV C [vI pl, vI t, vI (cellB 1 q), vI ((32 * pl) + t)] [] (c_X4_putCell l D cy g V T.1 a o pl t (cellB 1 q) ((32 * pl) + t) hap hm i1 (by omega) (by omega) (by unfold sm; omega) (by rw [k1 0 6 (by decide)]; exact hag)) lm_X4_79 (rcv_Mod hm.1) rfl (Nat.le_of_ble_eq_true rfl) ⟨(Nat.le_of_ble_eq_true rfl), (Nat.le_of_ble_eq_true rfl)⟩ ⟨Nat.zero_le _, Nat.zero_le _⟩ dX4_inserts_90 ?_
        rintro _ rfl
        refine g_aload_n C 5 rfl dX4_inserts_93 ?_
        refine g_iload C 0 rfl dX4_inserts_94 ?_
        refine g_iload C 0 rfl dX4_inserts_96 ?_
        refine g_iload_n C 6 rfl dX4_inserts_98 ?_
        refine g_iload_n C 7 rfl dX4_inserts_99 ?_
        refine g_iload_n C 4 rfl dX4_inserts_100 ?_
        refine g_callV C [vI ((32 * pl) + t), vI ((32 * pl) + t), vI q, vI sd, vI T.2.1] [] (c_X4_keep l D cy g V (mPut T.1 pl t (cellB 1 q) ((32 * pl) + t)) a o ((32 * pl) + t) ((32 * pl) + t) q sd T.2.1 hap hm (by omega)) lm_X4_83 (rcv_Mod hm.1) rfl (Nat.le_of_ble_eq_true rfl) ⟨(Nat.le_of_ble_eq_true rfl), (Nat.le_of_ble_eq_true rfl)⟩ ⟨Nat.zero_le _, Nat.zero_le _⟩ dX4_inserts_101 ?_
        rintro _ rfl
        refine g_iload C 0 rfl dX4_inserts_104 ?_
        exact g_iret C dX4_inserts_106 ⟨_, Or.inr ⟨hen, pl, by rw [hTe]; exact hpl, Or.inr ⟨c39, t, by rw [hTe]; exact hts, ht9, rfl, by rw [hTe]⟩⟩, rfl⟩
      · have hts : mSlot T.1 pl 0 := Or.inl ⟨c56, rfl⟩
        have ht9 : (0 : Int) ≤ 0 ∧ (0 : Int) < 32 := by decide
        refine g_iconst C 0 rfl dX4_inserts_59 ?_
        refine g_goto C 69 dX4_inserts_60 (by decide) ?_
        refine g_istore C [(6, vI 0), (5, vI pl), (4, vI (cellB 1 q)), (3, vI T.2.1), (0, .ref a), (1, vI q), (2, vI sd)] dX4_inserts_69 (by decide) rfl ?_
        refine g_bipush C 32 rfl dX4_inserts_71 ?_
        refine g_iload C 1 rfl dX4_inserts_73 ?_
        refine g_imul C dX4_inserts_75 ?_
        refine g_iload C 0 rfl dX4_inserts_76 ?_
        refine g_iadd C dX4_inserts_78 ?_
        refine g_istore C [(7, vI ((32 * pl) + 0)), (6, vI 0), (5, vI pl), (4, vI (cellB 1 q)), (3, vI T.2.1), (0, .ref a), (1, vI q), (2, vI sd)] dX4_inserts_79 (by decide) rfl ?_
        refine g_aload_n C 5 rfl dX4_inserts_81 ?_
        refine g_iload C 2 rfl dX4_inserts_82 ?_
        refine g_iload C 1 rfl dX4_inserts_84 ?_
        refine g_iload C 3 rfl dX4_inserts_86 ?_
        refine g_iload C 0 rfl dX4_inserts_88 ?_
        refine g_callV C [vI pl, vI 0, vI (cellB 1 q), vI ((32 * pl) + 0)] [] (c_X4_putCell l D cy g V T.1 a o pl 0 (cellB 1 q) ((32 * pl) + 0) hap hm i1 (by omega) (by omega) (by unfold sm; omega) (by rw [k1 0 6 (by decide)]; exact hag)) lm_X4_79 (rcv_Mod hm.1) rfl (Nat.le_of_ble_eq_true rfl) ⟨(Nat.le_of_ble_eq_true rfl), (Nat.le_of_ble_eq_true rfl)⟩ ⟨Nat.zero_le _, Nat.zero_le _⟩ dX4_inserts_90 ?_
        rintro _ rfl
        refine g_aload_n C 5 rfl dX4_inserts_93 ?_
        refine g_iload C 0 rfl dX4_inserts_94 ?_
        refine g_iload C 0 rfl dX4_inserts_96 ?_
        refine g_iload_n C 6 rfl dX4_inserts_98 ?_
        refine g_iload_n C 7 rfl dX4_inserts_99 ?_
        refine g_iload_n C 4 rfl dX4_inserts_100 ?_
        refine g_callV C [vI ((32 * pl) + 0), vI ((32 * pl) + 0), vI q, vI sd, vI T.2.1] [] (c_X4_keep l D cy g V (mPut T.1 pl 0 (cellB 1 q) ((32 * pl) + 0)) a o ((32 * pl) + 0) ((32 * pl) + 0) q sd T.2.1 hap hm (by omega)) lm_X4_83 (rcv_Mod hm.1) rfl (Nat.le_of_ble_eq_true rfl) ⟨(Nat.le_of_ble_eq_true rfl), (Nat.le_of_ble_eq_true rfl)⟩ ⟨Nat.zero_le _, Nat.zero_le _⟩ dX4_inserts_101 ?_
        rintro _ rfl
        refine g_iload C 0 rfl dX4_inserts_104 ?_
        exact g_iret C dX4_inserts_106 ⟨_, Or.inr ⟨hen, pl, by rw [hTe]; exact hpl, Or.inr ⟨c39, 0, by rw [hTe]; exact hts, ht9, rfl, by rw [hTe]⟩⟩, rfl⟩
    · refine g_aload_n C 3 rfl dX4_inserts_42 ?_
      refine g_iload_n C 2 rfl dX4_inserts_43 ?_
      refine g_callV C [vI T.2.1] [] (c_X4_freeChain l D cy g V T.1 a o T.2.1 L hap hm hL) lm_X4_72 (rcv_Mod hm.1) rfl (Nat.le_of_ble_eq_true rfl) ⟨(Nat.le_of_ble_eq_true rfl), (Nat.le_of_ble_eq_true rfl)⟩ ⟨Nat.zero_le _, Nat.zero_le _⟩ dX4_inserts_44 ?_
      rintro _ rfl
      refine g_iconst C (-1) rfl dX4_inserts_47 ?_
      exact g_iret C dX4_inserts_48 ⟨_, Or.inr ⟨hen, pl, by rw [hTe]; exact hpl, Or.inl ⟨c39, rfl, L, by rw [hTe]; exact hL, by rw [hTe]⟩⟩, rfl⟩
  · refine g_iconst C (-1) rfl dX4_inserts_11 ?_
    exact g_iret C dX4_inserts_12 ⟨w, Or.inl ⟨by omega, rfl, rfl⟩, rfl⟩
set_option maxHeartbeats 4000000 in
set_option maxRecDepth 100000 in
theorem c_X4_updates (l : Launch) (D : va_G) (cy : ClassId × ClassId) (g : GT) (V : VT) (w : Int → Int → Int) (a : Nat) (o : Int) (x q sd c old : Int) (L0 : List Int) (hap : Apart g) (hm : isMod g a o) (hw : mwf w) (hB : MB w) (hag : w 0 6 = 0 ∨ w 0 6 = 1) (hn : 0 ≤ q ∧ q ≤ 1200) (hx : 0 ≤ x ∧ x < 3072) (hcc : w 1 (6528 + x) = c) (hc9 : 0 ≤ c ∧ c < 3072) (hpx : w 1 (x / 32) = 1) (hpc : w 1 (c / 32) = 1) (hcx : c = x ∨ c / 32 ≠ x / 32) (hold : w 1 (15744 + x) = old) (hL0 : isCh (mNx w) L0 old) (hL2 : ∀ p ∈ L0, w 1 p = 2) (hch : chP q ≤ cntK (w 1) 0 96 → ∃ L, isCh (mNx (mtN w q (chP q).toNat).1) L (mtN w q (chP q).toNat).2.1) : MetI l yX4_updates cX4_updates 14 (some .boolean) 4 D cy g [.ref a, vI x, vI q, vI sd] (setp V o w) (fun r V' => ∃ w', UpdM w x q sd L0 r w' ∧ V' = setp V o w') := by
  obtain ⟨hm1, r1, r2, r3, ⟨hr1, ha1⟩, ⟨hr2, ha2⟩, ⟨hr3, ha3⟩⟩ := id hm
  have hc := chP_bd hn
  have hck := cntK_bd (w 1) 0 96
  have hcb := cellB_bd (k := 1) (len := q) ⟨by omega, hn.2⟩
  have hcb3 := cellB_bd (k := 3) (len := q) ⟨by omega, hn.2⟩
  refine MetI.of (by decide) (Nat.le_of_ble_eq_true rfl) hap ?_
  intro p_ e_ s_ m_ args_ below_ meth_ c_ C
  refine g_iload_n C 2 rfl dX4_updates_0 ?_
  refine g_callSI C [vI q] [] (c_X4_chainSize l D cy g _ q hap hn) lm_X4_55 rfl (Nat.le_of_ble_eq_true rfl) ⟨(Nat.le_of_ble_eq_true rfl), (Nat.le_of_ble_eq_true rfl)⟩ ⟨Nat.zero_le _, Nat.zero_le _⟩ dX4_updates_1 ?_
  rintro _ _ ⟨rfl, rfl⟩
  refine g_aload_n C 0 rfl dX4_updates_4 ?_
  refine g_callI C [] [vI (chP q)] (c_X4_freePages l D cy g V w a o hap hm hw) lm_X4_58 (rcv_Mod hm.1) rfl (Nat.le_of_ble_eq_true rfl) ⟨(Nat.le_of_ble_eq_true rfl), (Nat.le_of_ble_eq_true rfl)⟩ ⟨Nat.zero_le _, Nat.zero_le _⟩ dX4_updates_5 ?_
  rintro _ _ ⟨rfl, rfl⟩
  refine g_icmp_le C (by unfold rng; omega) (by unfold rng; omega) 13 dX4_updates_8 (by decide) (fun c8 => ?_) (fun c8 => ?_)
  · have hen : chP q ≤ cntK (w 1) 0 96 := c8
    obtain ⟨i1, i2, i4, i5⟩ := mt_inv hw hn (chP q).toNat (by omega) (by omega) (chP q).toNat (Nat.le_refl _)
    obtain ⟨k1, k2, k3, k4, k5⟩ := mt_keep hw hn (chP q).toNat (by omega) (by omega) (chP q).toNat (Nat.le_refl _)
    have hMS := mt_MB hw hn (chP q).toNat (by omega) (by omega) hB
    obtain ⟨L, hL⟩ := hch hen
    refine g_aload_n C 0 rfl dX4_updates_13 ?_
    refine g_iload_n C 2 rfl dX4_updates_14 ?_
    refine g_callI C [vI q] [] (c_X4_takeChain l D cy g V w a o q hap hm hw hn hen) lm_X4_61 (rcv_Mod hm.1) rfl (Nat.le_of_ble_eq_true rfl) ⟨(Nat.le_of_ble_eq_true rfl), (Nat.le_of_ble_eq_true rfl)⟩ ⟨Nat.zero_le _, Nat.zero_le _⟩ dX4_updates_15 ?_
    rintro _ _ ⟨rfl, rfl⟩
    generalize hTe : mtN w q (chP q).toNat = T at *
    refine g_istore C [(4, vI T.2.1), (0, .ref a), (1, vI x), (2, vI q), (3, vI sd)] dX4_updates_18 (by decide) rfl ?_
    refine g_aload_n C 1 rfl dX4_updates_20 ?_
    refine gf_Mod_d C hm1 hr1 lf_X4_7 dX4_updates_21 ?_
    refine g_sipush C 15744 rfl dX4_updates_24 ?_
    refine g_iload_n C 2 rfl dX4_updates_27 ?_
    refine g_iadd C dX4_updates_28 ?_
    refine s_iald C old ha1 (by omega) (by decide) (show T.1 1 (15744 + x) = old by rw [k2 _ (by omega)]; exact hold) dX4_updates_29 ?_
    refine g_istore C [(5, vI old), (4, vI T.2.1), (0, .ref a), (1, vI x), (2, vI q), (3, vI sd)] dX4_updates_30 (by decide) rfl ?_
    refine g_iload_n C 3 rfl dX4_updates_32 ?_
    refine g_bipush C 32 rfl dX4_updates_33 ?_
    refine g_idiv C (by omega) (by omega) dX4_updates_35 ?_
    refine g_istore C [(6, vI (x / 32)), (5, vI old), (4, vI T.2.1), (0, .ref a), (1, vI x), (2, vI q), (3, vI sd)] dX4_updates_36 (by decide) rfl ?_
    refine g_aload_n C 3 rfl dX4_updates_38 ?_
    refine gf_Mod_d C hm1 hr1 lf_X4_7 dX4_updates_39 ?_
    refine g_sipush C 6528 rfl dX4_updates_42 ?_
    refine g_iload_n C 4 rfl dX4_updates_45 ?_
    refine g_iadd C dX4_updates_46 ?_
    refine s_iald C c ha1 (by omega) (by decide) (show T.1 1 (6528 + x) = c by rw [k2 _ (by omega)]; exact hcc) dX4_updates_47 ?_
    refine g_istore C [(7, vI c), (6, vI (x / 32)), (5, vI old), (4, vI T.2.1), (0, .ref a), (1, vI x), (2, vI q), (3, vI sd)] dX4_updates_48 (by decide) rfl ?_
    refine g_iload C 0 rfl dX4_updates_50 ?_
    refine g_bipush C 32 rfl dX4_updates_52 ?_
    refine g_idiv C (by omega) (by omega) dX4_updates_54 ?_
    refine g_istore C [(8, vI (c / 32)), (7, vI c), (6, vI (x / 32)), (5, vI old), (4, vI T.2.1), (0, .ref a), (1, vI x), (2, vI q), (3, vI sd)] dX4_updates_55 (by decide) rfl ?_
    refine g_iload C 1 rfl dX4_updates_57 ?_
    refine g_iload_n C 6 rfl dX4_updates_59 ?_
    refine g_icmp_eq C (by unfold rng; omega) (by unfold rng; omega) 67 dX4_updates_60 (by decide) (fun c60 => ?_) (fun c60 => ?_)
    · refine g_iconst C 0 rfl dX4_updates_67 ?_
      refine g_istore C [(9, vI 0), (8, vI (c / 32)), (7, vI c), (6, vI (x / 32)), (5, vI old), (4, vI T.2.1), (0, .ref a), (1, vI x), (2, vI q), (3, vI sd)] dX4_updates_68 (by decide) rfl ?_
      refine g_iload_n C 8 rfl dX4_updates_70 ?_
      refine g_iconst C 0 rfl dX4_updates_71 ?_
      refine g_callSI C [vI q, vI 0] [] (c_X4_cellSize l D cy g _ q 0 hap (by omega) (by omega)) lm_X4_64 rfl (Nat.le_of_ble_eq_true rfl) ⟨(Nat.le_of_ble_eq_true rfl), (Nat.le_of_ble_eq_true rfl)⟩ ⟨Nat.zero_le _, Nat.zero_le _⟩ dX4_updates_72 ?_
      rintro _ _ ⟨rfl, rfl⟩
      rw [show (1 : Int) + 2 * 0 = 1 by decide]
      refine g_istore C [(10, vI (cellB 1 q)), (9, vI 0), (8, vI (c / 32)), (7, vI c), (6, vI (x / 32)), (5, vI old), (4, vI T.2.1), (0, .ref a), (1, vI x), (2, vI q), (3, vI sd)] dX4_updates_75 (by decide) rfl ?_
      refine g_iload_n C 9 rfl dX4_updates_77 ?_
      refine g_iconst C 1 rfl dX4_updates_78 ?_
      refine g_callSI C [vI q, vI 1] [] (c_X4_cellSize l D cy g _ q 1 hap (by omega) (by omega)) lm_X4_64 rfl (Nat.le_of_ble_eq_true rfl) ⟨(Nat.le_of_ble_eq_true rfl), (Nat.le_of_ble_eq_true rfl)⟩ ⟨Nat.zero_le _, Nat.zero_le _⟩ dX4_updates_79 ?_
      rintro _ _ ⟨rfl, rfl⟩
      rw [show (1 : Int) + 2 * 1 = 3 by decide]
      refine g_istore C [(11, vI (cellB 3 q)), (10, vI (cellB 1 q)), (9, vI 0), (8, vI (c / 32)), (7, vI c), (6, vI (x / 32)), (5, vI old), (4, vI T.2.1), (0, .ref a), (1, vI x), (2, vI q), (3, vI sd)] dX4_updates_82 (by decide) rfl ?_
      refine g_aload_n C 8 rfl dX4_updates_84 ?_
      refine g_iload C 5 rfl dX4_updates_85 ?_
      refine g_iload_n C 9 rfl dX4_updates_87 ?_
      refine g_bipush C 32 rfl dX4_updates_88 ?_
      refine g_irem C (by omega) (by omega) dX4_updates_90 ?_
      refine g_iload C 1 rfl dX4_updates_91 ?_
      refine g_callI C [vI (x / 32), vI (x % 32), vI (cellB 1 q)] [] (c_X4_fits l D cy g V T.1 a o (x / 32) (x % 32) (cellB 1 q) hap hm i1 (by omega) (by omega) (by unfold sm; omega)) lm_X4_87 (rcv_Mod hm.1) rfl (Nat.le_of_ble_eq_true rfl) ⟨(Nat.le_of_ble_eq_true rfl), (Nat.le_of_ble_eq_true rfl)⟩ ⟨Nat.zero_le _, Nat.zero_le _⟩ dX4_updates_93 ?_
      rintro _ _ ⟨rfl, rfl⟩
      refine g_if_eq C (by split <;> exact ⟨by decide, by decide⟩) 141 dX4_updates_96 (by decide) (fun c96 => ?_) (fun c96 => ?_)
      · have hA : ¬ cellB 1 q ≤ mRoom T.1 (x / 32) + mSz T.1 (x / 32) (x % 32) := by
          intro hh; rw [if_pos hh] at c96; exact absurd c96 (by decide)
        refine g_iload C 2 rfl dX4_updates_141 ?_
        refine g_if_eq C (by unfold rng; omega) 190 dX4_updates_143 (by decide) (fun c143 => ?_) (fun c143 => absurd c143 (by omega))
        have hBc : c = x ∨ ¬ cellB 3 q ≤ mRoom T.1 (c / 32) + mSz T.1 (c / 32) (c % 32) := Or.inl c60
        refine g_aload_n C 8 rfl dX4_updates_190 ?_
        refine g_iload C 0 rfl dX4_updates_191 ?_
        refine g_iload C 5 rfl dX4_updates_193 ?_
        refine g_iload C 3 rfl dX4_updates_195 ?_
        refine g_callI C [vI (cellB 3 q), vI (x / 32), vI (c / 32)] [] (c_X4_placeFor l D cy g V T.1 a o (cellB 3 q) (x / 32) (c / 32) hap hm i1 (fun i q1 q2 q3 => (hMS i q1 q2).2.2.1 q3) (by omega) (by omega) (by omega)) lm_X4_68 (rcv_Mod hm.1) rfl (Nat.le_of_ble_eq_true rfl) ⟨(Nat.le_of_ble_eq_true rfl), (Nat.le_of_ble_eq_true rfl)⟩ ⟨Nat.zero_le _, Nat.zero_le _⟩ dX4_updates_197 ?_
        rintro pl _ ⟨hpl, rfl⟩
        have hok := isPlM_ok hpl
        have hpl9 : -1 ≤ pl ∧ pl < 96 := by rcases hok with k | ⟨k, -⟩ <;> omega
        refine g_istore C [(12, vI pl), (11, vI (cellB 3 q)), (10, vI (cellB 1 q)), (9, vI 0), (8, vI (c / 32)), (7, vI c), (6, vI (x / 32)), (5, vI old), (4, vI T.2.1), (0, .ref a), (1, vI x), (2, vI q), (3, vI sd)] dX4_updates_200 (by decide) rfl ?_
        refine g_iload C 0 rfl dX4_updates_202 ?_
        refine g_iconst C (-1) rfl dX4_updates_204 ?_
        refine g_icmp_ne C (by unfold rng; omega) (by unfold rng; omega) 216 dX4_updates_205 (by decide) (fun c205 => ?_) (fun c205 => ?_)
        · have hTx : T.1 1 (x / 32) = 1 := by rw [(k3 (x / 32) (by omega) (by omega) (by omega)).1]; exact hpx
          have hTc : T.1 1 (c / 32) = 1 := by rw [(k3 (c / 32) (by omega) (by omega) (by omega)).1]; exact hpc
          have hok2 := hok.resolve_left c205
          have hne : pl ≠ x / 32 ∧ pl ≠ c / 32 := by
            rcases hok2.2 with k | k
            · exact ⟨fun e => by rw [e] at k; omega, fun e => by rw [e] at k; omega⟩
            · exact ⟨k.2.1, k.2.2.1⟩
          refine g_aload_n C 9 rfl dX4_updates_216 ?_
          refine gf_Mod_d C hm1 hr1 lf_X4_7 dX4_updates_217 ?_
          refine g_iload C 0 rfl dX4_updates_220 ?_
          refine s_iald C (T.1 1 pl) ha1 (by omega) (by decide) rfl dX4_updates_222 ?_
          refine g_if_ne C (by have z9 := i1 pl (by omega) (by omega); unfold sm at z9; unfold rng; omega) 230 dX4_updates_223 (by decide) (fun c223 => ?_) (fun c223 => ?_)
          · obtain ⟨s0, hs0⟩ := mCe_free (hok2.2.resolve_left c223).2.2.2
            refine g_aload_n C 9 rfl dX4_updates_230 ?_
            refine g_iload C 0 rfl dX4_updates_231 ?_
            refine g_callI C [vI pl] [] (c_X4_slotIn l D cy g V T.1 a o pl s0 hap hm i1 (by omega) hs0) lm_X4_76 (rcv_Mod hm.1) rfl (Nat.le_of_ble_eq_true rfl) ⟨(Nat.le_of_ble_eq_true rfl), (Nat.le_of_ble_eq_true rfl)⟩ ⟨Nat.zero_le _, Nat.zero_le _⟩ dX4_updates_233 ?_
            rintro t _ ⟨ht, rfl⟩
            have hts : mSlot T.1 pl t := Or.inr ⟨c223, ht⟩
            have ht9 := ht.1
            refine g_istore C [(13, vI t), (12, vI pl), (11, vI (cellB 3 q)), (10, vI (cellB 1 q)), (9, vI 0), (8, vI (c / 32)), (7, vI c), (6, vI (x / 32)), (5, vI old), (4, vI T.2.1), (0, .ref a), (1, vI x), (2, vI q), (3, vI sd)] dX4_updates_236 (by decide) rfl ?_
            refine g_aload_n C 10 rfl dX4_updates_238 ?_
            refine g_iload C 1 rfl dX4_updates_239 ?_
            refine g_iload C 0 rfl dX4_updates_241 ?_
            refine g_iload C 2 rfl dX4_updates_243 ?_
            refine g_iload_n C 11 rfl dX4_updates_245 ?_
            refine g_callV C [vI pl, vI t, vI (cellB 3 q), vI x] [] (c_X4_putCell l D cy g V T.1 a o pl t (cellB 3 q) x hap hm i1 (by omega) (by omega) (by unfold sm; omega) (by rw [k1 0 6 (by decide)]; exact hag)) lm_X4_79 (rcv_Mod hm.1) rfl (Nat.le_of_ble_eq_true rfl) ⟨(Nat.le_of_ble_eq_true rfl), (Nat.le_of_ble_eq_true rfl)⟩ ⟨Nat.zero_le _, Nat.zero_le _⟩ dX4_updates_246 ?_
            rintro _ rfl
            have hwp := mwf_put (p := pl) (s := t) (z := cellB 3 q) (ow := x) i1 hMS (by omega) (by omega) (by omega) (by unfold sm; omega)
            refine g_iload C 4 rfl dX4_updates_249 ?_
            refine g_if_eq C (by unfold rng; omega) 268 dX4_updates_251 (by decide) (fun c251 => ?_) (fun c251 => absurd c251 (by omega))
            refine g_aload_n C 10 rfl dX4_updates_268 ?_
            refine g_iload C 7 rfl dX4_updates_269 ?_
            refine g_iload_n C 11 rfl dX4_updates_271 ?_
            refine g_bipush C 32 rfl dX4_updates_272 ?_
            refine g_irem C (by omega) (by omega) dX4_updates_274 ?_
            refine g_iconst C 5 rfl dX4_updates_275 ?_
            refine g_iload_n C 11 rfl dX4_updates_276 ?_
            refine g_callV C [vI (x / 32), vI (x % 32), vI 5, vI x] [] (c_X4_putCell l D cy g V (mPut T.1 pl t (cellB 3 q) x) a o (x / 32) (x % 32) 5 x hap hm hwp (by omega) (by omega) (by unfold sm; omega) (by rw [mPut_0 (by decide) (Or.inr (by decide)), k1 0 6 (by decide)]; exact hag)) lm_X4_79 (rcv_Mod hm.1) rfl (Nat.le_of_ble_eq_true rfl) ⟨(Nat.le_of_ble_eq_true rfl), (Nat.le_of_ble_eq_true rfl)⟩ ⟨Nat.zero_le _, Nat.zero_le _⟩ dX4_updates_277 ?_
            rintro _ rfl
            refine g_aload_n C 10 rfl dX4_updates_280 ?_
            refine g_iload_n C 11 rfl dX4_updates_281 ?_
            refine g_bipush C 32 rfl dX4_updates_282 ?_
            refine g_iload C 1 rfl dX4_updates_284 ?_
            refine g_imul C dX4_updates_286 ?_
            refine g_iload C 0 rfl dX4_updates_287 ?_
            refine g_iadd C dX4_updates_289 ?_
            refine g_iload_n C 12 rfl dX4_updates_290 ?_
            refine g_iload_n C 13 rfl dX4_updates_291 ?_
            refine g_iload C 9 rfl dX4_updates_292 ?_
            refine g_callV C [vI x, vI ((32 * pl) + t), vI q, vI sd, vI T.2.1] [] (c_X4_keep l D cy g V (mPut (mPut T.1 pl t (cellB 3 q) x) (x / 32) (x % 32) 5 x) a o x ((32 * pl) + t) q sd T.2.1 hap hm (by omega)) lm_X4_83 (rcv_Mod hm.1) rfl (Nat.le_of_ble_eq_true rfl) ⟨(Nat.le_of_ble_eq_true rfl), (Nat.le_of_ble_eq_true rfl)⟩ ⟨Nat.zero_le _, Nat.zero_le _⟩ dX4_updates_294 ?_
            rintro _ rfl
            refine g_aload_n C 10 rfl dX4_updates_297 ?_
            refine g_iload C 8 rfl dX4_updates_298 ?_
            refine g_callV C [vI old] [] (c_X4_freeChain l D cy g V (mKeep (mPut (mPut T.1 pl t (cellB 3 q) x) (x / 32) (x % 32) 5 x) x ((32 * pl) + t) q sd T.2.1) a o old L0 hap hm (isCh_congr (fun z hz => by have z1 := (isCh_rng hL0).1 z hz; show (mKeep (mPut (mPut T.1 pl t (cellB 3 q) x) (x / 32) (x % 32) 5 x) x ((32 * pl) + t) q sd T.2.1) 1 (192 + z) = w 1 (192 + z); rw [mKeep_far hx (by omega), mPut_far (by omega) (by omega) (by omega), mPut_far (by omega) (by omega) (by omega), (k3 z z1.1 z1.2 (by rw [hL2 z hz]; decide)).2.1]) hL0)) lm_X4_72 (rcv_Mod hm.1) rfl (Nat.le_of_ble_eq_true rfl) ⟨(Nat.le_of_ble_eq_true rfl), (Nat.le_of_ble_eq_true rfl)⟩ ⟨Nat.zero_le _, Nat.zero_le _⟩ dX4_updates_300 ?_
            rintro _ rfl
            refine g_iconst C 1 rfl dX4_updates_303 ?_
            refine g_zret C (by omega) dX4_updates_304 ⟨_, Or.inr ⟨hen, _, ?_, Or.inl ⟨rfl, rfl⟩⟩, rfl⟩
            rw [hTe, hcc]
            exact Or.inr (Or.inr ⟨hA, hBc, pl, hpl, Or.inr ⟨c205, rfl, t, hts, ht9, by rw [if_pos c60]⟩⟩)
          · have hts : mSlot T.1 pl 0 := Or.inl ⟨c223, rfl⟩
            have ht9 : (0 : Int) ≤ 0 ∧ (0 : Int) < 32 := by decide
            refine g_iconst C 0 rfl dX4_updates_226 ?_
            refine g_goto C 236 dX4_updates_227 (by decide) ?_
            refine g_istore C [(13, vI 0), (12, vI pl), (11, vI (cellB 3 q)), (10, vI (cellB 1 q)), (9, vI 0), (8, vI (c / 32)), (7, vI c), (6, vI (x / 32)), (5, vI old), (4, vI T.2.1), (0, .ref a), (1, vI x), (2, vI q), (3, vI sd)] dX4_updates_236 (by decide) rfl ?_
            refine g_aload_n C 10 rfl dX4_updates_238 ?_
            refine g_iload C 1 rfl dX4_updates_239 ?_
            refine g_iload C 0 rfl dX4_updates_241 ?_
            refine g_iload C 2 rfl dX4_updates_243 ?_
            refine g_iload_n C 11 rfl dX4_updates_245 ?_
            refine g_callV C [vI pl, vI 0, vI (cellB 3 q), vI x] [] (c_X4_putCell l D cy g V T.1 a o pl 0 (cellB 3 q) x hap hm i1 (by omega) (by omega) (by unfold sm; omega) (by rw [k1 0 6 (by decide)]; exact hag)) lm_X4_79 (rcv_Mod hm.1) rfl (Nat.le_of_ble_eq_true rfl) ⟨(Nat.le_of_ble_eq_true rfl), (Nat.le_of_ble_eq_true rfl)⟩ ⟨Nat.zero_le _, Nat.zero_le _⟩ dX4_updates_246 ?_
            rintro _ rfl
            have hwp := mwf_put (p := pl) (s := 0) (z := cellB 3 q) (ow := x) i1 hMS (by omega) (by omega) (by omega) (by unfold sm; omega)
            refine g_iload C 4 rfl dX4_updates_249 ?_
            refine g_if_eq C (by unfold rng; omega) 268 dX4_updates_251 (by decide) (fun c251 => ?_) (fun c251 => absurd c251 (by omega))
            refine g_aload_n C 10 rfl dX4_updates_268 ?_
            refine g_iload C 7 rfl dX4_updates_269 ?_
            refine g_iload_n C 11 rfl dX4_updates_271 ?_
            refine g_bipush C 32 rfl dX4_updates_272 ?_
            refine g_irem C (by omega) (by omega) dX4_updates_274 ?_
            refine g_iconst C 5 rfl dX4_updates_275 ?_
            refine g_iload_n C 11 rfl dX4_updates_276 ?_
            refine g_callV C [vI (x / 32), vI (x % 32), vI 5, vI x] [] (c_X4_putCell l D cy g V (mPut T.1 pl 0 (cellB 3 q) x) a o (x / 32) (x % 32) 5 x hap hm hwp (by omega) (by omega) (by unfold sm; omega) (by rw [mPut_0 (by decide) (Or.inr (by decide)), k1 0 6 (by decide)]; exact hag)) lm_X4_79 (rcv_Mod hm.1) rfl (Nat.le_of_ble_eq_true rfl) ⟨(Nat.le_of_ble_eq_true rfl), (Nat.le_of_ble_eq_true rfl)⟩ ⟨Nat.zero_le _, Nat.zero_le _⟩ dX4_updates_277 ?_
            rintro _ rfl
            refine g_aload_n C 10 rfl dX4_updates_280 ?_
            refine g_iload_n C 11 rfl dX4_updates_281 ?_
            refine g_bipush C 32 rfl dX4_updates_282 ?_
            refine g_iload C 1 rfl dX4_updates_284 ?_
            refine g_imul C dX4_updates_286 ?_
            refine g_iload C 0 rfl dX4_updates_287 ?_
            refine g_iadd C dX4_updates_289 ?_
            refine g_iload_n C 12 rfl dX4_updates_290 ?_
            refine g_iload_n C 13 rfl dX4_updates_291 ?_
            refine g_iload C 9 rfl dX4_updates_292 ?_
            refine g_callV C [vI x, vI ((32 * pl) + 0), vI q, vI sd, vI T.2.1] [] (c_X4_keep l D cy g V (mPut (mPut T.1 pl 0 (cellB 3 q) x) (x / 32) (x % 32) 5 x) a o x ((32 * pl) + 0) q sd T.2.1 hap hm (by omega)) lm_X4_83 (rcv_Mod hm.1) rfl (Nat.le_of_ble_eq_true rfl) ⟨(Nat.le_of_ble_eq_true rfl), (Nat.le_of_ble_eq_true rfl)⟩ ⟨Nat.zero_le _, Nat.zero_le _⟩ dX4_updates_294 ?_
            rintro _ rfl
            refine g_aload_n C 10 rfl dX4_updates_297 ?_
            refine g_iload C 8 rfl dX4_updates_298 ?_
            refine g_callV C [vI old] [] (c_X4_freeChain l D cy g V (mKeep (mPut (mPut T.1 pl 0 (cellB 3 q) x) (x / 32) (x % 32) 5 x) x ((32 * pl) + 0) q sd T.2.1) a o old L0 hap hm (isCh_congr (fun z hz => by have z1 := (isCh_rng hL0).1 z hz; show (mKeep (mPut (mPut T.1 pl 0 (cellB 3 q) x) (x / 32) (x % 32) 5 x) x ((32 * pl) + 0) q sd T.2.1) 1 (192 + z) = w 1 (192 + z); rw [mKeep_far hx (by omega), mPut_far (by omega) (by omega) (by omega), mPut_far (by omega) (by omega) (by omega), (k3 z z1.1 z1.2 (by rw [hL2 z hz]; decide)).2.1]) hL0)) lm_X4_72 (rcv_Mod hm.1) rfl (Nat.le_of_ble_eq_true rfl) ⟨(Nat.le_of_ble_eq_true rfl), (Nat.le_of_ble_eq_true rfl)⟩ ⟨Nat.zero_le _, Nat.zero_le _⟩ dX4_updates_300 ?_
            rintro _ rfl
            refine g_iconst C 1 rfl dX4_updates_303 ?_
            refine g_zret C (by omega) dX4_updates_304 ⟨_, Or.inr ⟨hen, _, ?_, Or.inl ⟨rfl, rfl⟩⟩, rfl⟩
            rw [hTe, hcc]
            exact Or.inr (Or.inr ⟨hA, hBc, pl, hpl, Or.inr ⟨c205, rfl, 0, hts, ht9, by rw [if_pos c60]⟩⟩)
        · refine g_aload_n C 9 rfl dX4_updates_208 ?_
          refine g_iload C 8 rfl dX4_updates_209 ?_
          refine g_callV C [vI T.2.1] [] (c_X4_freeChain l D cy g V T.1 a o T.2.1 L hap hm hL) lm_X4_72 (rcv_Mod hm.1) rfl (Nat.le_of_ble_eq_true rfl) ⟨(Nat.le_of_ble_eq_true rfl), (Nat.le_of_ble_eq_true rfl)⟩ ⟨Nat.zero_le _, Nat.zero_le _⟩ dX4_updates_211 ?_
          rintro _ rfl
          refine g_iconst C 0 rfl dX4_updates_214 ?_
          exact g_zret C (by omega) dX4_updates_215 ⟨_, Or.inr ⟨hen, T.1, by rw [hTe, hcc]; exact Or.inr (Or.inr ⟨hA, hBc, pl, hpl, Or.inl ⟨c205, rfl, rfl⟩⟩), Or.inr ⟨rfl, L, by rw [hTe]; exact hL, rfl⟩⟩, rfl⟩
      · have hA : cellB 1 q ≤ mRoom T.1 (x / 32) + mSz T.1 (x / 32) (x % 32) := by
          by_cases hh : cellB 1 q ≤ mRoom T.1 (x / 32) + mSz T.1 (x / 32) (x % 32)
          · exact hh
          · exfalso; rw [if_neg hh] at c96; exact c96 rfl
        refine g_aload_n C 8 rfl dX4_updates_99 ?_
        refine g_iload C 5 rfl dX4_updates_100 ?_
        refine g_iload_n C 9 rfl dX4_updates_102 ?_
        refine g_bipush C 32 rfl dX4_updates_103 ?_
        refine g_irem C (by omega) (by omega) dX4_updates_105 ?_
        refine g_iload C 1 rfl dX4_updates_106 ?_
        refine g_iload_n C 9 rfl dX4_updates_108 ?_
        refine g_callV C [vI (x / 32), vI (x % 32), vI (cellB 1 q), vI x] [] (c_X4_putCell l D cy g V T.1 a o (x / 32) (x % 32) (cellB 1 q) x hap hm i1 (by omega) (by omega) (by unfold sm; omega) (by rw [k1 0 6 (by decide)]; exact hag)) lm_X4_79 (rcv_Mod hm.1) rfl (Nat.le_of_ble_eq_true rfl) ⟨(Nat.le_of_ble_eq_true rfl), (Nat.le_of_ble_eq_true rfl)⟩ ⟨Nat.zero_le _, Nat.zero_le _⟩ dX4_updates_109 ?_
        rintro _ rfl
        have hwp := mwf_put (p := x / 32) (s := x % 32) (z := cellB 1 q) (ow := x) i1 hMS (by omega) (by omega) (by omega) (by unfold sm; omega)
        refine g_iload C 2 rfl dX4_updates_112 ?_
        refine g_if_eq C (by unfold rng; omega) 128 dX4_updates_114 (by decide) (fun c114 => ?_) (fun c114 => absurd c114 (by omega))
        refine g_aload_n C 8 rfl dX4_updates_128 ?_
        refine g_iload_n C 9 rfl dX4_updates_129 ?_
        refine g_iload_n C 9 rfl dX4_updates_130 ?_
        refine g_iload_n C 10 rfl dX4_updates_131 ?_
        refine g_iload_n C 11 rfl dX4_updates_132 ?_
        refine g_iload C 7 rfl dX4_updates_133 ?_
        refine g_callV C [vI x, vI x, vI q, vI sd, vI T.2.1] [] (c_X4_keep l D cy g V (mPut T.1 (x / 32) (x % 32) (cellB 1 q) x) a o x x q sd T.2.1 hap hm (by omega)) lm_X4_83 (rcv_Mod hm.1) rfl (Nat.le_of_ble_eq_true rfl) ⟨(Nat.le_of_ble_eq_true rfl), (Nat.le_of_ble_eq_true rfl)⟩ ⟨Nat.zero_le _, Nat.zero_le _⟩ dX4_updates_135 ?_
        rintro _ rfl
        refine g_goto C 297 dX4_updates_138 (by decide) ?_
        refine g_aload_n C 8 rfl dX4_updates_297 ?_
        refine g_iload C 6 rfl dX4_updates_298 ?_
        refine g_callV C [vI old] [] (c_X4_freeChain l D cy g V (mKeep (mPut T.1 (x / 32) (x % 32) (cellB 1 q) x) x x q sd T.2.1) a o old L0 hap hm (isCh_congr (fun z hz => by have z1 := (isCh_rng hL0).1 z hz; show (mKeep (mPut T.1 (x / 32) (x % 32) (cellB 1 q) x) x x q sd T.2.1) 1 (192 + z) = w 1 (192 + z); rw [mKeep_far hx (by omega), mPut_far (by omega) (by omega) (by omega), (k3 z z1.1 z1.2 (by rw [hL2 z hz]; decide)).2.1]) hL0)) lm_X4_72 (rcv_Mod hm.1) rfl (Nat.le_of_ble_eq_true rfl) ⟨(Nat.le_of_ble_eq_true rfl), (Nat.le_of_ble_eq_true rfl)⟩ ⟨Nat.zero_le _, Nat.zero_le _⟩ dX4_updates_300 ?_
        rintro _ rfl
        refine g_iconst C 1 rfl dX4_updates_303 ?_
        refine g_zret C (by omega) dX4_updates_304 ⟨_, Or.inr ⟨hen, _, ?_, Or.inl ⟨rfl, rfl⟩⟩, rfl⟩
        rw [hTe, hcc]
        exact Or.inl ⟨hA, rfl, by rw [if_pos c60]⟩
    · refine g_iconst C 1 rfl dX4_updates_63 ?_
      refine g_goto C 68 dX4_updates_64 (by decide) ?_
      refine g_istore C [(9, vI 1), (8, vI (c / 32)), (7, vI c), (6, vI (x / 32)), (5, vI old), (4, vI T.2.1), (0, .ref a), (1, vI x), (2, vI q), (3, vI sd)] dX4_updates_68 (by decide) rfl ?_
      refine g_iload_n C 8 rfl dX4_updates_70 ?_
      refine g_iconst C 0 rfl dX4_updates_71 ?_
      refine g_callSI C [vI q, vI 0] [] (c_X4_cellSize l D cy g _ q 0 hap (by omega) (by omega)) lm_X4_64 rfl (Nat.le_of_ble_eq_true rfl) ⟨(Nat.le_of_ble_eq_true rfl), (Nat.le_of_ble_eq_true rfl)⟩ ⟨Nat.zero_le _, Nat.zero_le _⟩ dX4_updates_72 ?_
      rintro _ _ ⟨rfl, rfl⟩
      rw [show (1 : Int) + 2 * 0 = 1 by decide]
      refine g_istore C [(10, vI (cellB 1 q)), (9, vI 1), (8, vI (c / 32)), (7, vI c), (6, vI (x / 32)), (5, vI old), (4, vI T.2.1), (0, .ref a), (1, vI x), (2, vI q), (3, vI sd)] dX4_updates_75 (by decide) rfl ?_
      refine g_iload_n C 9 rfl dX4_updates_77 ?_
      refine g_iconst C 1 rfl dX4_updates_78 ?_
      refine g_callSI C [vI q, vI 1] [] (c_X4_cellSize l D cy g _ q 1 hap (by omega) (by omega)) lm_X4_64 rfl (Nat.le_of_ble_eq_true rfl) ⟨(Nat.le_of_ble_eq_true rfl), (Nat.le_of_ble_eq_true rfl)⟩ ⟨Nat.zero_le _, Nat.zero_le _⟩ dX4_updates_79 ?_
      rintro _ _ ⟨rfl, rfl⟩
      rw [show (1 : Int) + 2 * 1 = 3 by decide]
      refine g_istore C [(11, vI (cellB 3 q)), (10, vI (cellB 1 q)), (9, vI 1), (8, vI (c / 32)), (7, vI c), (6, vI (x / 32)), (5, vI old), (4, vI T.2.1), (0, .ref a), (1, vI x), (2, vI q), (3, vI sd)] dX4_updates_82 (by decide) rfl ?_
      refine g_aload_n C 8 rfl dX4_updates_84 ?_
      refine g_iload C 5 rfl dX4_updates_85 ?_
      refine g_iload_n C 9 rfl dX4_updates_87 ?_
      refine g_bipush C 32 rfl dX4_updates_88 ?_
      refine g_irem C (by omega) (by omega) dX4_updates_90 ?_
      refine g_iload C 1 rfl dX4_updates_91 ?_
      refine g_callI C [vI (x / 32), vI (x % 32), vI (cellB 1 q)] [] (c_X4_fits l D cy g V T.1 a o (x / 32) (x % 32) (cellB 1 q) hap hm i1 (by omega) (by omega) (by unfold sm; omega)) lm_X4_87 (rcv_Mod hm.1) rfl (Nat.le_of_ble_eq_true rfl) ⟨(Nat.le_of_ble_eq_true rfl), (Nat.le_of_ble_eq_true rfl)⟩ ⟨Nat.zero_le _, Nat.zero_le _⟩ dX4_updates_93 ?_
      rintro _ _ ⟨rfl, rfl⟩
      refine g_if_eq C (by split <;> exact ⟨by decide, by decide⟩) 141 dX4_updates_96 (by decide) (fun c96 => ?_) (fun c96 => ?_)
      · have hA : ¬ cellB 1 q ≤ mRoom T.1 (x / 32) + mSz T.1 (x / 32) (x % 32) := by
          intro hh; rw [if_pos hh] at c96; exact absurd c96 (by decide)
        refine g_iload C 2 rfl dX4_updates_141 ?_
        refine g_if_eq C (by unfold rng; omega) 190 dX4_updates_143 (by decide) (fun c143 => absurd c143 (by omega)) (fun c143 => ?_)
        refine g_aload_n C 8 rfl dX4_updates_146 ?_
        refine g_iload C 3 rfl dX4_updates_147 ?_
        refine g_iload C 4 rfl dX4_updates_149 ?_
        refine g_bipush C 32 rfl dX4_updates_151 ?_
        refine g_irem C (by omega) (by omega) dX4_updates_153 ?_
        refine g_iload C 0 rfl dX4_updates_154 ?_
        refine g_callI C [vI (c / 32), vI (c % 32), vI (cellB 3 q)] [] (c_X4_fits l D cy g V T.1 a o (c / 32) (c % 32) (cellB 3 q) hap hm i1 (by omega) (by omega) (by unfold sm; omega)) lm_X4_87 (rcv_Mod hm.1) rfl (Nat.le_of_ble_eq_true rfl) ⟨(Nat.le_of_ble_eq_true rfl), (Nat.le_of_ble_eq_true rfl)⟩ ⟨Nat.zero_le _, Nat.zero_le _⟩ dX4_updates_156 ?_
        rintro _ _ ⟨rfl, rfl⟩
        refine g_if_eq C (by split <;> exact ⟨by decide, by decide⟩) 190 dX4_updates_159 (by decide) (fun c159 => ?_) (fun c159 => ?_)
        · have hBc : c = x ∨ ¬ cellB 3 q ≤ mRoom T.1 (c / 32) + mSz T.1 (c / 32) (c % 32) := by
            refine Or.inr (fun hh => ?_); rw [if_pos hh] at c159; exact absurd c159 (by decide)
          refine g_aload_n C 8 rfl dX4_updates_190 ?_
          refine g_iload C 0 rfl dX4_updates_191 ?_
          refine g_iload C 5 rfl dX4_updates_193 ?_
          refine g_iload C 3 rfl dX4_updates_195 ?_
          refine g_callI C [vI (cellB 3 q), vI (x / 32), vI (c / 32)] [] (c_X4_placeFor l D cy g V T.1 a o (cellB 3 q) (x / 32) (c / 32) hap hm i1 (fun i q1 q2 q3 => (hMS i q1 q2).2.2.1 q3) (by omega) (by omega) (by omega)) lm_X4_68 (rcv_Mod hm.1) rfl (Nat.le_of_ble_eq_true rfl) ⟨(Nat.le_of_ble_eq_true rfl), (Nat.le_of_ble_eq_true rfl)⟩ ⟨Nat.zero_le _, Nat.zero_le _⟩ dX4_updates_197 ?_
          rintro pl _ ⟨hpl, rfl⟩
          have hok := isPlM_ok hpl
          have hpl9 : -1 ≤ pl ∧ pl < 96 := by rcases hok with k | ⟨k, -⟩ <;> omega
          refine g_istore C [(12, vI pl), (11, vI (cellB 3 q)), (10, vI (cellB 1 q)), (9, vI 1), (8, vI (c / 32)), (7, vI c), (6, vI (x / 32)), (5, vI old), (4, vI T.2.1), (0, .ref a), (1, vI x), (2, vI q), (3, vI sd)] dX4_updates_200 (by decide) rfl ?_
          refine g_iload C 0 rfl dX4_updates_202 ?_
          refine g_iconst C (-1) rfl dX4_updates_204 ?_
          refine g_icmp_ne C (by unfold rng; omega) (by unfold rng; omega) 216 dX4_updates_205 (by decide) (fun c205 => ?_) (fun c205 => ?_)
          · have hTx : T.1 1 (x / 32) = 1 := by rw [(k3 (x / 32) (by omega) (by omega) (by omega)).1]; exact hpx
            have hTc : T.1 1 (c / 32) = 1 := by rw [(k3 (c / 32) (by omega) (by omega) (by omega)).1]; exact hpc
            have hok2 := hok.resolve_left c205
            have hne : pl ≠ x / 32 ∧ pl ≠ c / 32 := by
              rcases hok2.2 with k | k
              · exact ⟨fun e => by rw [e] at k; omega, fun e => by rw [e] at k; omega⟩
              · exact ⟨k.2.1, k.2.2.1⟩
            refine g_aload_n C 9 rfl dX4_updates_216 ?_
            refine gf_Mod_d C hm1 hr1 lf_X4_7 dX4_updates_217 ?_
            refine g_iload C 0 rfl dX4_updates_220 ?_
            refine s_iald C (T.1 1 pl) ha1 (by omega) (by decide) rfl dX4_updates_222 ?_
            refine g_if_ne C (by have z9 := i1 pl (by omega) (by omega); unfold sm at z9; unfold rng; omega) 230 dX4_updates_223 (by decide) (fun c223 => ?_) (fun c223 => ?_)
            · obtain ⟨s0, hs0⟩ := mCe_free (hok2.2.resolve_left c223).2.2.2
              refine g_aload_n C 9 rfl dX4_updates_230 ?_
              refine g_iload C 0 rfl dX4_updates_231 ?_
              refine g_callI C [vI pl] [] (c_X4_slotIn l D cy g V T.1 a o pl s0 hap hm i1 (by omega) hs0) lm_X4_76 (rcv_Mod hm.1) rfl (Nat.le_of_ble_eq_true rfl) ⟨(Nat.le_of_ble_eq_true rfl), (Nat.le_of_ble_eq_true rfl)⟩ ⟨Nat.zero_le _, Nat.zero_le _⟩ dX4_updates_233 ?_
              rintro t _ ⟨ht, rfl⟩
              have hts : mSlot T.1 pl t := Or.inr ⟨c223, ht⟩
              have ht9 := ht.1
              refine g_istore C [(13, vI t), (12, vI pl), (11, vI (cellB 3 q)), (10, vI (cellB 1 q)), (9, vI 1), (8, vI (c / 32)), (7, vI c), (6, vI (x / 32)), (5, vI old), (4, vI T.2.1), (0, .ref a), (1, vI x), (2, vI q), (3, vI sd)] dX4_updates_236 (by decide) rfl ?_
              refine g_aload_n C 10 rfl dX4_updates_238 ?_
              refine g_iload C 1 rfl dX4_updates_239 ?_
              refine g_iload C 0 rfl dX4_updates_241 ?_
              refine g_iload C 2 rfl dX4_updates_243 ?_
              refine g_iload_n C 11 rfl dX4_updates_245 ?_
              refine g_callV C [vI pl, vI t, vI (cellB 3 q), vI x] [] (c_X4_putCell l D cy g V T.1 a o pl t (cellB 3 q) x hap hm i1 (by omega) (by omega) (by unfold sm; omega) (by rw [k1 0 6 (by decide)]; exact hag)) lm_X4_79 (rcv_Mod hm.1) rfl (Nat.le_of_ble_eq_true rfl) ⟨(Nat.le_of_ble_eq_true rfl), (Nat.le_of_ble_eq_true rfl)⟩ ⟨Nat.zero_le _, Nat.zero_le _⟩ dX4_updates_246 ?_
              rintro _ rfl
              have hwp := mwf_put (p := pl) (s := t) (z := cellB 3 q) (ow := x) i1 hMS (by omega) (by omega) (by omega) (by unfold sm; omega)
              refine g_iload C 4 rfl dX4_updates_249 ?_
              refine g_if_eq C (by unfold rng; omega) 268 dX4_updates_251 (by decide) (fun c251 => absurd c251 (by omega)) (fun c251 => ?_)
              refine g_aload_n C 10 rfl dX4_updates_254 ?_
              refine g_iload C 5 rfl dX4_updates_255 ?_
              refine g_iload C 6 rfl dX4_updates_257 ?_
              refine g_bipush C 32 rfl dX4_updates_259 ?_
              refine g_irem C (by omega) (by omega) dX4_updates_261 ?_
              refine g_callV C [vI (c / 32), vI (c % 32)] [] (c_X4_takeCell l D cy g V (mPut T.1 pl t (cellB 3 q) x) a o (c / 32) (c % 32) hap hm hwp (by omega) (by omega)) lm_X4_91 (rcv_Mod hm.1) rfl (Nat.le_of_ble_eq_true rfl) ⟨(Nat.le_of_ble_eq_true rfl), (Nat.le_of_ble_eq_true rfl)⟩ ⟨Nat.zero_le _, Nat.zero_le _⟩ dX4_updates_262 ?_
              rintro _ rfl
              refine g_goto C 280 dX4_updates_265 (by decide) ?_
              refine g_aload_n C 10 rfl dX4_updates_280 ?_
              refine g_iload_n C 11 rfl dX4_updates_281 ?_
              refine g_bipush C 32 rfl dX4_updates_282 ?_
              refine g_iload C 1 rfl dX4_updates_284 ?_
              refine g_imul C dX4_updates_286 ?_
              refine g_iload C 0 rfl dX4_updates_287 ?_
              refine g_iadd C dX4_updates_289 ?_
              refine g_iload_n C 12 rfl dX4_updates_290 ?_
              refine g_iload_n C 13 rfl dX4_updates_291 ?_
              refine g_iload C 9 rfl dX4_updates_292 ?_
              refine g_callV C [vI x, vI ((32 * pl) + t), vI q, vI sd, vI T.2.1] [] (c_X4_keep l D cy g V (mTake (mPut T.1 pl t (cellB 3 q) x) (c / 32) (c % 32)) a o x ((32 * pl) + t) q sd T.2.1 hap hm (by omega)) lm_X4_83 (rcv_Mod hm.1) rfl (Nat.le_of_ble_eq_true rfl) ⟨(Nat.le_of_ble_eq_true rfl), (Nat.le_of_ble_eq_true rfl)⟩ ⟨Nat.zero_le _, Nat.zero_le _⟩ dX4_updates_294 ?_
              rintro _ rfl
              refine g_aload_n C 10 rfl dX4_updates_297 ?_
              refine g_iload C 8 rfl dX4_updates_298 ?_
              refine g_callV C [vI old] [] (c_X4_freeChain l D cy g V (mKeep (mTake (mPut T.1 pl t (cellB 3 q) x) (c / 32) (c % 32)) x ((32 * pl) + t) q sd T.2.1) a o old L0 hap hm (isCh_congr (fun z hz => by have z1 := (isCh_rng hL0).1 z hz; show (mKeep (mTake (mPut T.1 pl t (cellB 3 q) x) (c / 32) (c % 32)) x ((32 * pl) + t) q sd T.2.1) 1 (192 + z) = w 1 (192 + z); rw [mKeep_far hx (by omega), mTake_far (by omega) (by omega) (by omega), mPut_far (by omega) (by omega) (by omega), (k3 z z1.1 z1.2 (by rw [hL2 z hz]; decide)).2.1]) hL0)) lm_X4_72 (rcv_Mod hm.1) rfl (Nat.le_of_ble_eq_true rfl) ⟨(Nat.le_of_ble_eq_true rfl), (Nat.le_of_ble_eq_true rfl)⟩ ⟨Nat.zero_le _, Nat.zero_le _⟩ dX4_updates_300 ?_
              rintro _ rfl
              refine g_iconst C 1 rfl dX4_updates_303 ?_
              refine g_zret C (by omega) dX4_updates_304 ⟨_, Or.inr ⟨hen, _, ?_, Or.inl ⟨rfl, rfl⟩⟩, rfl⟩
              rw [hTe, hcc]
              exact Or.inr (Or.inr ⟨hA, hBc, pl, hpl, Or.inr ⟨c205, rfl, t, hts, ht9, by rw [if_neg c60]⟩⟩)
            · have hts : mSlot T.1 pl 0 := Or.inl ⟨c223, rfl⟩
              have ht9 : (0 : Int) ≤ 0 ∧ (0 : Int) < 32 := by decide
              refine g_iconst C 0 rfl dX4_updates_226 ?_
              refine g_goto C 236 dX4_updates_227 (by decide) ?_
              refine g_istore C [(13, vI 0), (12, vI pl), (11, vI (cellB 3 q)), (10, vI (cellB 1 q)), (9, vI 1), (8, vI (c / 32)), (7, vI c), (6, vI (x / 32)), (5, vI old), (4, vI T.2.1), (0, .ref a), (1, vI x), (2, vI q), (3, vI sd)] dX4_updates_236 (by decide) rfl ?_
              refine g_aload_n C 10 rfl dX4_updates_238 ?_
              refine g_iload C 1 rfl dX4_updates_239 ?_
              refine g_iload C 0 rfl dX4_updates_241 ?_
              refine g_iload C 2 rfl dX4_updates_243 ?_
              refine g_iload_n C 11 rfl dX4_updates_245 ?_
              refine g_callV C [vI pl, vI 0, vI (cellB 3 q), vI x] [] (c_X4_putCell l D cy g V T.1 a o pl 0 (cellB 3 q) x hap hm i1 (by omega) (by omega) (by unfold sm; omega) (by rw [k1 0 6 (by decide)]; exact hag)) lm_X4_79 (rcv_Mod hm.1) rfl (Nat.le_of_ble_eq_true rfl) ⟨(Nat.le_of_ble_eq_true rfl), (Nat.le_of_ble_eq_true rfl)⟩ ⟨Nat.zero_le _, Nat.zero_le _⟩ dX4_updates_246 ?_
              rintro _ rfl
              have hwp := mwf_put (p := pl) (s := 0) (z := cellB 3 q) (ow := x) i1 hMS (by omega) (by omega) (by omega) (by unfold sm; omega)
              refine g_iload C 4 rfl dX4_updates_249 ?_
              refine g_if_eq C (by unfold rng; omega) 268 dX4_updates_251 (by decide) (fun c251 => absurd c251 (by omega)) (fun c251 => ?_)
              refine g_aload_n C 10 rfl dX4_updates_254 ?_
              refine g_iload C 5 rfl dX4_updates_255 ?_
              refine g_iload C 6 rfl dX4_updates_257 ?_
              refine g_bipush C 32 rfl dX4_updates_259 ?_
              refine g_irem C (by omega) (by omega) dX4_updates_261 ?_
              refine g_callV C [vI (c / 32), vI (c % 32)] [] (c_X4_takeCell l D cy g V (mPut T.1 pl 0 (cellB 3 q) x) a o (c / 32) (c % 32) hap hm hwp (by omega) (by omega)) lm_X4_91 (rcv_Mod hm.1) rfl (Nat.le_of_ble_eq_true rfl) ⟨(Nat.le_of_ble_eq_true rfl), (Nat.le_of_ble_eq_true rfl)⟩ ⟨Nat.zero_le _, Nat.zero_le _⟩ dX4_updates_262 ?_
              rintro _ rfl
              refine g_goto C 280 dX4_updates_265 (by decide) ?_
              refine g_aload_n C 10 rfl dX4_updates_280 ?_
              refine g_iload_n C 11 rfl dX4_updates_281 ?_
              refine g_bipush C 32 rfl dX4_updates_282 ?_
              refine g_iload C 1 rfl dX4_updates_284 ?_
              refine g_imul C dX4_updates_286 ?_
              refine g_iload C 0 rfl dX4_updates_287 ?_
              refine g_iadd C dX4_updates_289 ?_
              refine g_iload_n C 12 rfl dX4_updates_290 ?_
              refine g_iload_n C 13 rfl dX4_updates_291 ?_
              refine g_iload C 9 rfl dX4_updates_292 ?_
              refine g_callV C [vI x, vI ((32 * pl) + 0), vI q, vI sd, vI T.2.1] [] (c_X4_keep l D cy g V (mTake (mPut T.1 pl 0 (cellB 3 q) x) (c / 32) (c % 32)) a o x ((32 * pl) + 0) q sd T.2.1 hap hm (by omega)) lm_X4_83 (rcv_Mod hm.1) rfl (Nat.le_of_ble_eq_true rfl) ⟨(Nat.le_of_ble_eq_true rfl), (Nat.le_of_ble_eq_true rfl)⟩ ⟨Nat.zero_le _, Nat.zero_le _⟩ dX4_updates_294 ?_
              rintro _ rfl
              refine g_aload_n C 10 rfl dX4_updates_297 ?_
              refine g_iload C 8 rfl dX4_updates_298 ?_
              refine g_callV C [vI old] [] (c_X4_freeChain l D cy g V (mKeep (mTake (mPut T.1 pl 0 (cellB 3 q) x) (c / 32) (c % 32)) x ((32 * pl) + 0) q sd T.2.1) a o old L0 hap hm (isCh_congr (fun z hz => by have z1 := (isCh_rng hL0).1 z hz; show (mKeep (mTake (mPut T.1 pl 0 (cellB 3 q) x) (c / 32) (c % 32)) x ((32 * pl) + 0) q sd T.2.1) 1 (192 + z) = w 1 (192 + z); rw [mKeep_far hx (by omega), mTake_far (by omega) (by omega) (by omega), mPut_far (by omega) (by omega) (by omega), (k3 z z1.1 z1.2 (by rw [hL2 z hz]; decide)).2.1]) hL0)) lm_X4_72 (rcv_Mod hm.1) rfl (Nat.le_of_ble_eq_true rfl) ⟨(Nat.le_of_ble_eq_true rfl), (Nat.le_of_ble_eq_true rfl)⟩ ⟨Nat.zero_le _, Nat.zero_le _⟩ dX4_updates_300 ?_
              rintro _ rfl
              refine g_iconst C 1 rfl dX4_updates_303 ?_
              refine g_zret C (by omega) dX4_updates_304 ⟨_, Or.inr ⟨hen, _, ?_, Or.inl ⟨rfl, rfl⟩⟩, rfl⟩
              rw [hTe, hcc]
              exact Or.inr (Or.inr ⟨hA, hBc, pl, hpl, Or.inr ⟨c205, rfl, 0, hts, ht9, by rw [if_neg c60]⟩⟩)
          · refine g_aload_n C 9 rfl dX4_updates_208 ?_
            refine g_iload C 8 rfl dX4_updates_209 ?_
            refine g_callV C [vI T.2.1] [] (c_X4_freeChain l D cy g V T.1 a o T.2.1 L hap hm hL) lm_X4_72 (rcv_Mod hm.1) rfl (Nat.le_of_ble_eq_true rfl) ⟨(Nat.le_of_ble_eq_true rfl), (Nat.le_of_ble_eq_true rfl)⟩ ⟨Nat.zero_le _, Nat.zero_le _⟩ dX4_updates_211 ?_
            rintro _ rfl
            refine g_iconst C 0 rfl dX4_updates_214 ?_
            exact g_zret C (by omega) dX4_updates_215 ⟨_, Or.inr ⟨hen, T.1, by rw [hTe, hcc]; exact Or.inr (Or.inr ⟨hA, hBc, pl, hpl, Or.inl ⟨c205, rfl, rfl⟩⟩), Or.inr ⟨rfl, L, by rw [hTe]; exact hL, rfl⟩⟩, rfl⟩
        · have hBc : cellB 3 q ≤ mRoom T.1 (c / 32) + mSz T.1 (c / 32) (c % 32) := by
            by_cases hh : cellB 3 q ≤ mRoom T.1 (c / 32) + mSz T.1 (c / 32) (c % 32)
            · exact hh
            · exfalso; rw [if_neg hh] at c159; exact c159 rfl
          refine g_aload_n C 8 rfl dX4_updates_162 ?_
          refine g_iload C 3 rfl dX4_updates_163 ?_
          refine g_iload C 4 rfl dX4_updates_165 ?_
          refine g_bipush C 32 rfl dX4_updates_167 ?_
          refine g_irem C (by omega) (by omega) dX4_updates_169 ?_
          refine g_iload C 0 rfl dX4_updates_170 ?_
          refine g_iload_n C 9 rfl dX4_updates_172 ?_
          refine g_callV C [vI (c / 32), vI (c % 32), vI (cellB 3 q), vI x] [] (c_X4_putCell l D cy g V T.1 a o (c / 32) (c % 32) (cellB 3 q) x hap hm i1 (by omega) (by omega) (by unfold sm; omega) (by rw [k1 0 6 (by decide)]; exact hag)) lm_X4_79 (rcv_Mod hm.1) rfl (Nat.le_of_ble_eq_true rfl) ⟨(Nat.le_of_ble_eq_true rfl), (Nat.le_of_ble_eq_true rfl)⟩ ⟨Nat.zero_le _, Nat.zero_le _⟩ dX4_updates_173 ?_
          rintro _ rfl
          have hwp := mwf_put (p := c / 32) (s := c % 32) (z := cellB 3 q) (ow := x) i1 hMS (by omega) (by omega) (by omega) (by unfold sm; omega)
          refine g_aload_n C 8 rfl dX4_updates_176 ?_
          refine g_iload_n C 9 rfl dX4_updates_177 ?_
          refine g_iload C 4 rfl dX4_updates_178 ?_
          refine g_iload_n C 10 rfl dX4_updates_180 ?_
          refine g_iload_n C 11 rfl dX4_updates_181 ?_
          refine g_iload C 7 rfl dX4_updates_182 ?_
          refine g_callV C [vI x, vI c, vI q, vI sd, vI T.2.1] [] (c_X4_keep l D cy g V (mPut T.1 (c / 32) (c % 32) (cellB 3 q) x) a o x c q sd T.2.1 hap hm (by omega)) lm_X4_83 (rcv_Mod hm.1) rfl (Nat.le_of_ble_eq_true rfl) ⟨(Nat.le_of_ble_eq_true rfl), (Nat.le_of_ble_eq_true rfl)⟩ ⟨Nat.zero_le _, Nat.zero_le _⟩ dX4_updates_184 ?_
          rintro _ rfl
          refine g_goto C 297 dX4_updates_187 (by decide) ?_
          refine g_aload_n C 8 rfl dX4_updates_297 ?_
          refine g_iload C 6 rfl dX4_updates_298 ?_
          refine g_callV C [vI old] [] (c_X4_freeChain l D cy g V (mKeep (mPut T.1 (c / 32) (c % 32) (cellB 3 q) x) x c q sd T.2.1) a o old L0 hap hm (isCh_congr (fun z hz => by have z1 := (isCh_rng hL0).1 z hz; show (mKeep (mPut T.1 (c / 32) (c % 32) (cellB 3 q) x) x c q sd T.2.1) 1 (192 + z) = w 1 (192 + z); rw [mKeep_far hx (by omega), mPut_far (by omega) (by omega) (by omega), (k3 z z1.1 z1.2 (by rw [hL2 z hz]; decide)).2.1]) hL0)) lm_X4_72 (rcv_Mod hm.1) rfl (Nat.le_of_ble_eq_true rfl) ⟨(Nat.le_of_ble_eq_true rfl), (Nat.le_of_ble_eq_true rfl)⟩ ⟨Nat.zero_le _, Nat.zero_le _⟩ dX4_updates_300 ?_
          rintro _ rfl
          refine g_iconst C 1 rfl dX4_updates_303 ?_
          refine g_zret C (by omega) dX4_updates_304 ⟨_, Or.inr ⟨hen, _, ?_, Or.inl ⟨rfl, rfl⟩⟩, rfl⟩
          rw [hTe, hcc]
          exact Or.inr (Or.inl ⟨hA, c60, hBc, rfl, rfl⟩)
      · have hA : cellB 1 q ≤ mRoom T.1 (x / 32) + mSz T.1 (x / 32) (x % 32) := by
          by_cases hh : cellB 1 q ≤ mRoom T.1 (x / 32) + mSz T.1 (x / 32) (x % 32)
          · exact hh
          · exfalso; rw [if_neg hh] at c96; exact c96 rfl
        refine g_aload_n C 8 rfl dX4_updates_99 ?_
        refine g_iload C 5 rfl dX4_updates_100 ?_
        refine g_iload_n C 9 rfl dX4_updates_102 ?_
        refine g_bipush C 32 rfl dX4_updates_103 ?_
        refine g_irem C (by omega) (by omega) dX4_updates_105 ?_
        refine g_iload C 1 rfl dX4_updates_106 ?_
        refine g_iload_n C 9 rfl dX4_updates_108 ?_
        refine g_callV C [vI (x / 32), vI (x % 32), vI (cellB 1 q), vI x] [] (c_X4_putCell l D cy g V T.1 a o (x / 32) (x % 32) (cellB 1 q) x hap hm i1 (by omega) (by omega) (by unfold sm; omega) (by rw [k1 0 6 (by decide)]; exact hag)) lm_X4_79 (rcv_Mod hm.1) rfl (Nat.le_of_ble_eq_true rfl) ⟨(Nat.le_of_ble_eq_true rfl), (Nat.le_of_ble_eq_true rfl)⟩ ⟨Nat.zero_le _, Nat.zero_le _⟩ dX4_updates_109 ?_
        rintro _ rfl
        have hwp := mwf_put (p := x / 32) (s := x % 32) (z := cellB 1 q) (ow := x) i1 hMS (by omega) (by omega) (by omega) (by unfold sm; omega)
        refine g_iload C 2 rfl dX4_updates_112 ?_
        refine g_if_eq C (by unfold rng; omega) 128 dX4_updates_114 (by decide) (fun c114 => absurd c114 (by omega)) (fun c114 => ?_)
        refine g_aload_n C 8 rfl dX4_updates_117 ?_
        refine g_iload C 3 rfl dX4_updates_118 ?_
        refine g_iload C 4 rfl dX4_updates_120 ?_
        refine g_bipush C 32 rfl dX4_updates_122 ?_
        refine g_irem C (by omega) (by omega) dX4_updates_124 ?_
        refine g_callV C [vI (c / 32), vI (c % 32)] [] (c_X4_takeCell l D cy g V (mPut T.1 (x / 32) (x % 32) (cellB 1 q) x) a o (c / 32) (c % 32) hap hm hwp (by omega) (by omega)) lm_X4_91 (rcv_Mod hm.1) rfl (Nat.le_of_ble_eq_true rfl) ⟨(Nat.le_of_ble_eq_true rfl), (Nat.le_of_ble_eq_true rfl)⟩ ⟨Nat.zero_le _, Nat.zero_le _⟩ dX4_updates_125 ?_
        rintro _ rfl
        refine g_aload_n C 8 rfl dX4_updates_128 ?_
        refine g_iload_n C 9 rfl dX4_updates_129 ?_
        refine g_iload_n C 9 rfl dX4_updates_130 ?_
        refine g_iload_n C 10 rfl dX4_updates_131 ?_
        refine g_iload_n C 11 rfl dX4_updates_132 ?_
        refine g_iload C 7 rfl dX4_updates_133 ?_
        refine g_callV C [vI x, vI x, vI q, vI sd, vI T.2.1] [] (c_X4_keep l D cy g V (mTake (mPut T.1 (x / 32) (x % 32) (cellB 1 q) x) (c / 32) (c % 32)) a o x x q sd T.2.1 hap hm (by omega)) lm_X4_83 (rcv_Mod hm.1) rfl (Nat.le_of_ble_eq_true rfl) ⟨(Nat.le_of_ble_eq_true rfl), (Nat.le_of_ble_eq_true rfl)⟩ ⟨Nat.zero_le _, Nat.zero_le _⟩ dX4_updates_135 ?_
        rintro _ rfl
        refine g_goto C 297 dX4_updates_138 (by decide) ?_
        refine g_aload_n C 8 rfl dX4_updates_297 ?_
        refine g_iload C 6 rfl dX4_updates_298 ?_
        refine g_callV C [vI old] [] (c_X4_freeChain l D cy g V (mKeep (mTake (mPut T.1 (x / 32) (x % 32) (cellB 1 q) x) (c / 32) (c % 32)) x x q sd T.2.1) a o old L0 hap hm (isCh_congr (fun z hz => by have z1 := (isCh_rng hL0).1 z hz; show (mKeep (mTake (mPut T.1 (x / 32) (x % 32) (cellB 1 q) x) (c / 32) (c % 32)) x x q sd T.2.1) 1 (192 + z) = w 1 (192 + z); rw [mKeep_far hx (by omega), mTake_far (by omega) (by omega) (by omega), mPut_far (by omega) (by omega) (by omega), (k3 z z1.1 z1.2 (by rw [hL2 z hz]; decide)).2.1]) hL0)) lm_X4_72 (rcv_Mod hm.1) rfl (Nat.le_of_ble_eq_true rfl) ⟨(Nat.le_of_ble_eq_true rfl), (Nat.le_of_ble_eq_true rfl)⟩ ⟨Nat.zero_le _, Nat.zero_le _⟩ dX4_updates_300 ?_
        rintro _ rfl
        refine g_iconst C 1 rfl dX4_updates_303 ?_
        refine g_zret C (by omega) dX4_updates_304 ⟨_, Or.inr ⟨hen, _, ?_, Or.inl ⟨rfl, rfl⟩⟩, rfl⟩
        rw [hTe, hcc]
        exact Or.inl ⟨hA, rfl, by rw [if_neg c60]⟩
  · refine g_iconst C 0 rfl dX4_updates_11 ?_
    exact g_zret C (by omega) dX4_updates_12 ⟨w, Or.inl ⟨by omega, rfl, rfl⟩, rfl⟩
