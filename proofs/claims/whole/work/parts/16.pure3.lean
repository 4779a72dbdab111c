/-! chains: segments -/
def isSeg (N : Int → Int) : List Int → Int → Int → Prop
  | [], f, z => f = z
  | p :: L, f, z => f = p ∧ (0 ≤ p ∧ p < 96) ∧ isSeg N L (N p) z
theorem isSeg_ch {N : Int → Int} {L : List Int} {f : Int} (h : isSeg N L f (-1)) : isCh N L f := by
  induction L generalizing f with
  | nil => exact h
  | cons p L ih => exact ⟨h.1, h.2.1, ih h.2.2⟩
theorem isSeg_congr {N N' : Int → Int} {L : List Int} {f z : Int} (hN : ∀ p ∈ L, N' p = N p) (h : isSeg N L f z) : isSeg N' L f z := by
  induction L generalizing f with
  | nil => exact h
  | cons p L ih => exact ⟨h.1, h.2.1, by rw [hN p List.mem_cons_self]; exact ih (fun q hq => hN q (List.mem_cons_of_mem _ hq)) h.2.2⟩
theorem isCh_congr {N N' : Int → Int} {L : List Int} {f : Int} (hN : ∀ p ∈ L, N' p = N p) (h : isCh N L f) : isCh N' L f := by
  induction L generalizing f with
  | nil => exact h
  | cons p L ih => exact ⟨h.1, h.2.1, by rw [hN p List.mem_cons_self]; exact ih (fun q hq => hN q (List.mem_cons_of_mem _ hq)) h.2.2⟩
theorem isSeg_snoc {N : Int → Int} {L : List Int} {f z : Int} (hz : 0 ≤ z ∧ z < 96) (h : isSeg N L f z) : isSeg N (L ++ [z]) f (N z) := by
  induction L generalizing f with
  | nil => exact ⟨h, hz, rfl⟩
  | cons p L ih => exact ⟨h.1, h.2.1, ih h.2.2⟩
theorem isCh_rng {N : Int → Int} {L : List Int} {f : Int} (h : isCh N L f) : (∀ p ∈ L, 0 ≤ p ∧ p < 96) ∧ -1 ≤ f ∧ f < 96 := by
  induction L generalizing f with
  | nil => have : f = -1 := h; exact ⟨fun _ hp => absurd hp List.not_mem_nil, by omega, by omega⟩
  | cons p L ih =>
    obtain ⟨h1, h2, h3⟩ := h
    refine ⟨fun q hq => ?_, by omega, by omega⟩
    rcases List.mem_cons.mp hq with rfl | hq
    · exact h2
    · exact (ih h3).1 q hq
/-- the chain that is taken: L its pages -/
theorem tc_chain {b : Int} {V : VT} {len : Int} (hw : swf V b) (m : Nat) (hm : (m : Int) ≤ cntK (kd V b) 0 96) : ∀ k : Nat, k ≤ m → ∃ L : List Int, L.length = k ∧ isCh (nx (tcN b V len k).1 b) L (tcN b V len k).2.1 ∧ (∀ p ∈ L, (0 ≤ p ∧ p < 96) ∧ kd V b p = 0 ∧ kd (tcN b V len k).1 b p = 2 ∧ p ≤ (tcN b V len k).2.2.1) ∧ L.Nodup ∧
    (∀ o, (∀ p ∈ L, o ≠ b + p) → (tcN b V len k).1 o = V o) ∧ (∀ p ∈ L, ∀ t j, (t ≠ 0 ∨ (j ≠ 0 ∧ j ≠ 6 ∧ j ≠ 7)) → (tcN b V len k).1 (b + p) t j = V (b + p) t j) ∧
    ((k = 0 ∧ L = [] ∧ (tcN b V len k).2.2.1 = -1 ∧ (tcN b V len k).2.1 = -1) ∨ (0 < k ∧ ∃ L', L = L' ++ [(tcN b V len k).2.2.1] ∧ isSeg (nx (tcN b V len k).1 b) L' (tcN b V len k).2.1 (tcN b V len k).2.2.1 ∧ nx (tcN b V len k).1 b (tcN b V len k).2.2.1 = -1 ∧ 0 ≤ (tcN b V len k).2.2.1)) := by
  intro k
  induction k with
  | zero => intro _; exact ⟨[], rfl, rfl, fun _ hp => absurd hp List.not_mem_nil, List.nodup_nil, fun _ _ => rfl, fun _ hp => absurd hp List.not_mem_nil, Or.inl ⟨rfl, rfl, rfl, rfl⟩⟩
  | succ k ih =>
    intro hk
    obtain ⟨L, l1, l2, l3, l4, l5, l6, l7⟩ := ih (by omega)
    obtain ⟨i1, i2, i3, i4, i5⟩ := tc_inv (len := len) hw m hm k (by omega)
    have hpos : 0 < cntK (kd (tcN b V len k).1 b) 0 96 := by rw [i4]; omega
    obtain ⟨f, f1, f2, f3⟩ := cntK_pos hpos
    have hl := lfr_LF (kd (tcN b V len k).1 b)
    have hst : tcN b V len (k + 1) = tcStep b (tcN b V len k) := rfl
    rw [hst]
    generalize tcN b V len k = S at *
    generalize hr : lfr (kd S.1 b) = r at *
    rcases hl with ⟨-, kk⟩ | ⟨k1, k2, k3, k4⟩
    · exact absurd f3 (kk f f1 (by omega))
    · have hrl : S.2.2.1 < r := by
        by_cases hq : S.2.2.1 < r
        · exact hq
        · exact absurd k3 (i3 r k1 (by omega))
      have hrL : r ∉ L := fun hp => by have := (l3 r hp).2.2.2; omega
      have hV0 : kd V b r = 0 := by
        have := l5 (b + r) (fun p hp q => hrL ((show p = r by omega) ▸ hp))
        simp only [kd] at k3 ⊢
        rw [← this]; exact k3
      refine ⟨L ++ [r], by simp [l1], ?_, ?_, ?_, ?_, ?_, ?_⟩
      -- the chain
      all_goals
        try unfold tcStep
        try rw [hr]
      · rcases l7 with ⟨e1, e2, e3, e4⟩ | ⟨e1, L', e2, e3, e4, e5⟩
        · rw [if_pos e3]
          subst e2
          refine ⟨rfl, ⟨k1, k2⟩, ?_⟩
          show nx (setp S.1 (b + r) (pChain (S.1 (b + r)) _)) b r = -1
          simp [nx, setp_at, pChain, upw]
        · rw [if_neg (by omega)]
          refine isSeg_ch ?_
          have hN : ∀ q p, p ≠ r → p ≠ S.2.2.1 → nx (up (setp S.1 (b + r) (pChain (S.1 (b + r)) q)) (b + S.2.2.1) 0 6 r) b p = nx S.1 b p := by
            intro q p h1 h2
            simp only [nx]
            rw [up_o (by omega), setp_ne (by omega)]
          have hNl : ∀ q, nx (up (setp S.1 (b + r) (pChain (S.1 (b + r)) q)) (b + S.2.2.1) 0 6 r) b S.2.2.1 = r := fun q => by simp [nx, up]
          have hNr : ∀ q, nx (up (setp S.1 (b + r) (pChain (S.1 (b + r)) q)) (b + S.2.2.1) 0 6 r) b r = -1 := by
            intro q
            simp only [nx]
            rw [up_o (by omega), setp_at]
            simp [pChain, upw]
          have hL' : ∀ p ∈ L', p ≠ r ∧ p ≠ S.2.2.1 := by
            intro p hp
            have hpL : p ∈ L := by rw [e2]; exact List.mem_append_left _ hp
            refine ⟨fun q => hrL (q ▸ hpL), fun q => ?_⟩
            rw [e2] at l4
            have := (List.nodup_append.mp l4).2.2 p hp S.2.2.1 (List.mem_singleton.mpr rfl)
            exact this q
          have s1 := isSeg_congr (N' := nx (up (setp S.1 (b + r) (pChain (S.1 (b + r)) (if 240 < S.2.2.2 then 240 else S.2.2.2))) (b + S.2.2.1) 0 6 r) b) (fun p hp => hN _ p (hL' p hp).1 (hL' p hp).2) e3
          have s2 := isSeg_snoc ⟨e5, i2.2⟩ s1
          rw [hNl, ← e2] at s2
          have s3 := isSeg_snoc ⟨k1, k2⟩ s2
          rw [hNr] at s3
          exact s3
      · intro p hp
        have hk2 : ∀ q, kd (setp S.1 (b + r) (pChain (S.1 (b + r)) q)) b r = 2 := fun q => by simp [kd, setp_at, pChain, upw]
        have hup : ∀ (U : VT) o v, kd (up U o 0 6 v) b = kd U b := by intro U o v; funext i; simp [kd, up]
        have hoth : ∀ q, p ≠ r → kd (setp S.1 (b + r) (pChain (S.1 (b + r)) q)) b p = kd S.1 b p := by intro q hi; simp only [kd]; rw [setp_ne (by omega)]
        rcases List.mem_append.mp hp with h | h
        · have hpr : p ≠ r := fun q => hrL (q ▸ h)
          obtain ⟨a1, a2, a3, a4⟩ := l3 p h
          split
          · exact ⟨a1, a2, (hoth _ hpr).trans a3, by show p ≤ r; omega⟩
          · exact ⟨a1, a2, (congrFun (hup _ _ _) p).trans ((hoth _ hpr).trans a3), by show p ≤ r; omega⟩
        · have hpr : p = r := List.mem_singleton.mp h
          subst hpr
          split
          · exact ⟨⟨k1, k2⟩, hV0, hk2 _, Int.le_refl _⟩
          · exact ⟨⟨k1, k2⟩, hV0, (congrFun (hup _ _ _) p).trans (hk2 _), Int.le_refl _⟩
      · exact List.nodup_append.mpr ⟨l4, List.nodup_cons.mpr ⟨List.not_mem_nil, List.nodup_nil⟩, fun p hp q hq e => hrL (by rw [List.mem_singleton] at hq; rw [← hq, ← e]; exact hp)⟩
      · intro o ho
        have h1 : o ≠ b + r := ho r (List.mem_append_right _ (List.mem_singleton.mpr rfl))
        have h2 := l5 o (fun p hp => ho p (List.mem_append_left _ hp))
        split
        · show setp S.1 (b + r) _ o = V o
          rw [setp_ne h1, h2]
        · rename_i hne
          show up (setp S.1 (b + r) _) (b + S.2.2.1) 0 6 r o = V o
          have h3 : o ≠ b + S.2.2.1 := by
            rcases l7 with ⟨-, -, e3, -⟩ | ⟨e1, L', e2, -⟩
            · exact absurd e3 hne
            · exact ho _ (List.mem_append_left _ (by rw [e2]; exact List.mem_append_right _ (List.mem_singleton.mpr rfl)))
          funext t j
          rw [up_o h3, setp_ne h1, h2]
      · intro p hp t j htj
        have hb : ∀ q, setp S.1 (b + r) (pChain (S.1 (b + r)) q) (b + p) t j = V (b + p) t j := by
          intro q
          rcases List.mem_append.mp hp with h | h
          · have hpr : p ≠ r := fun q => hrL (q ▸ h)
            rw [setp_ne (by omega)]
            exact l6 p h t j htj
          · have hpr : p = r := List.mem_singleton.mp h
            subst hpr
            rw [setp_at]
            have hs : S.1 (b + p) = V (b + p) := l5 (b + p) (fun p' hp' q => hrL ((show p' = p by omega) ▸ hp'))
            rw [hs]
            unfold pChain upw
            rcases htj with h | ⟨h1, h2, h3⟩
            · simp [h]
            · simp [h1, h2, h3]
        split
        · exact hb _
        · show up _ _ 0 6 r (b + p) t j = _
          have : up (setp S.1 (b + r) (pChain (S.1 (b + r)) (if 240 < S.2.2.2 then 240 else S.2.2.2))) (b + S.2.2.1) 0 6 r (b + p) t j = setp S.1 (b + r) (pChain (S.1 (b + r)) (if 240 < S.2.2.2 then 240 else S.2.2.2)) (b + p) t j := by
            rcases htj with h | ⟨h1, h2, h3⟩
            · exact up_t h
            · exact up_j h2
          rw [this]
          exact hb _
      · refine Or.inr ⟨by omega, L, ?_⟩
        rcases l7 with ⟨e1, e2, e3, e4⟩ | ⟨e1, L', e2, e3, e4, e5⟩
        · rw [if_pos e3]
          subst e2
          refine ⟨rfl, rfl, ?_, k1⟩
          show nx (setp S.1 (b + r) (pChain (S.1 (b + r)) _)) b r = -1
          simp [nx, setp_at, pChain, upw]
        · rw [if_neg (by omega)]
          refine ⟨rfl, ?_, ?_, k1⟩
          · have hL' : ∀ p ∈ L', p ≠ r ∧ p ≠ S.2.2.1 := by
              intro p hp
              have hpL : p ∈ L := by rw [e2]; exact List.mem_append_left _ hp
              refine ⟨fun q => hrL (q ▸ hpL), fun q => ?_⟩
              rw [e2] at l4
              have := (List.nodup_append.mp l4).2.2 p hp S.2.2.1 (List.mem_singleton.mpr rfl)
              exact this q
            have s1 : isSeg (nx (up (setp S.1 (b + r) (pChain (S.1 (b + r)) (if 240 < S.2.2.2 then 240 else S.2.2.2))) (b + S.2.2.1) 0 6 r) b) L' S.2.1 S.2.2.1 := isSeg_congr (fun p hp => by
              simp only [nx]
              have := hL' p hp
              rw [up_o (by omega), setp_ne (by omega)]) e3
            have s2 := isSeg_snoc ⟨e5, i2.2⟩ s1
            have hNl : nx (up (setp S.1 (b + r) (pChain (S.1 (b + r)) (if 240 < S.2.2.2 then 240 else S.2.2.2))) (b + S.2.2.1) 0 6 r) b S.2.2.1 = r := by simp [nx, up]
            rw [hNl, ← e2] at s2
            exact s2
          · show nx (up (setp S.1 (b + r) (pChain (S.1 (b + r)) _)) (b + S.2.2.1) 0 6 r) b r = -1
            simp only [nx]
            rw [up_o (by omega), setp_at]
            simp [pChain, upw]
theorem freeL_out {V : VT} {b : Int} {L : List Int} {o : Int} (h : ∀ p ∈ L, o ≠ b + p) : freeL V b L o = V o := by
  induction L generalizing V with
  | nil => rfl
  | cons p L ih =>
    show freeL (setp V (b + p) (pFree (V (b + p)))) b L o = V o
    rw [ih (fun q hq => h q (List.mem_cons_of_mem _ hq)), setp_ne (h p List.mem_cons_self)]
theorem freeL_SI {V : VT} {b : Int} {L : List Int} (h : SI V b) (hk : ∀ p ∈ L, (0 ≤ p ∧ p < 96) ∧ kd V b p ≠ 1) : SI (freeL V b L) b := by
  induction L generalizing V with
  | nil => exact h
  | cons p L ih =>
    refine ih (SI_setp h (PI_free (h p (hk p List.mem_cons_self).1.1 (hk p List.mem_cons_self).1.2) (hk p List.mem_cons_self).2)) (fun q hq => ⟨(hk q (List.mem_cons_of_mem _ hq)).1, ?_⟩)
    simp only [kd]
    by_cases hqp : q = p
    · subst hqp; rw [setp_at]; simp [pFree, upw]
    · rw [setp_ne (by omega)]; exact (hk q (List.mem_cons_of_mem _ hq)).2
theorem nx_setp {V : VT} {b p : Int} {w : Int → Int → Int} (h : w 0 6 = V (b + p) 0 6) : nx (setp V (b + p) w) b = nx V b := by
  funext i
  simp only [nx]
  by_cases hi : i = p
  · subst hi; rw [setp_at]; exact h
  · rw [setp_ne (by omega)]
/-- a place: its page -/
theorem isPl_ok {V : VT} {b q x y r : Int} (h : SI V b) (hq : q ≤ 248) (hp : isPl V b q x y r) : (r = -1 ∨ ((0 ≤ r ∧ r < 96) ∧ q ≤ pRoom (V (b + r)) ∧ (V (b + r) 0 0 = 0 ∨ (V (b + r) 0 0 = 1 ∧ r ≠ x ∧ r ≠ y)))) := by
  rcases hp with ⟨c, h1, h2⟩ | ⟨-, ⟨h1, h2⟩ | ⟨-, h2⟩⟩
  · rcases h2 with ⟨e, -⟩ | ⟨k1, k2, k3, k4, k5, -⟩
    · exact absurd e h1
    · refine Or.inr ⟨⟨k1, k2⟩, ?_, Or.inr ⟨k3.2.2.1, k3.1, k3.2.1⟩⟩
      have := PI_room (h r k1 k2)
      have e : pCls (V (b + r)) = pRoom (V (b + r)) / 31 := rfl
      omega
  · rcases h2 with ⟨e, -⟩ | ⟨k1, k2, k3, k4, -⟩
    · exact absurd e h1
    · exact Or.inr ⟨⟨k1, k2⟩, k4, Or.inr ⟨k3.2.2.1, k3.1, k3.2.1⟩⟩
  · rcases h2 with ⟨e, -⟩ | ⟨k1, k2, k3, -⟩
    · exact Or.inl e
    · refine Or.inr ⟨⟨k1, k2⟩, ?_, Or.inl k3⟩
      have hPI := h r k1 k2
      have hbd := PI_bd hPI
      obtain ⟨h1, ⟨g2, g3, g4⟩, h5, h6, h7, h8, h9⟩ := hPI
      have hk : kd V b r = V (b + r) 0 0 := rfl
      have h80 := h8.2.2 (by omega)
      unfold pRoom
      have hz := sumF_zero (F := cef (V (b + r))) (n := 32) (fun i _ _ => by unfold cef; split <;> omega) (by omega)
      have hs0 : V (b + r) 0 1 = 0 := by
        by_cases hp : 0 < V (b + r) 0 1
        · exfalso
          have h10 := hz (V (b + r) 0 1 - 1) (by omega) (by omega)
          unfold cef at h10
          rw [if_neg (g4 hp)] at h10
          exact absurd h10 (by decide)
        · omega
      omega
