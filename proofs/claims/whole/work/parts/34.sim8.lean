theorem sim_home {T V1 V' : VT} {b : Int} {S u w' : Int → Int → Int} {ch : Int → List Int} {L : List Int} {f x q sd r r' : Int} (h : Rel T b (S 1) ch) (hw : mwf S) (hq : 0 ≤ q ∧ q ≤ 1200) (hsd : 0 ≤ sd ∧ sd ≤ 255) (hL : newCh T b ch L f) (hf : -1 ≤ f ∧ f < 96) (hx : 0 ≤ x ∧ x < 3072) (hk : cK T b x = 1) (hA : HomeP T b x q sd f r V1) (hM : UpdC S x x q sd f r' u)
    (hV : (r = 1 ∧ V' = freeL V1 b (ch x)) ∨ (r = 0 ∧ ∃ L, isCh (nx V1 b) L f ∧ V' = freeL V1 b L)) (hW : (r' = 1 ∧ w' = mFreeL u (ch x)) ∨ (r' = 0 ∧ ∃ L, isCh (mNx u) L f ∧ w' = mFreeL u L)) : r = r' ∧ SimC T V' b S w' := by
  have hc1 := cellB_bd (k := 1) (len := q) ⟨by omega, hq.2⟩
  have hc3 := cellB_bd (k := 3) (len := q) ⟨by omega, hq.2⟩
  have hp : 0 ≤ x / 32 ∧ x / 32 < 96 := by omega
  have hs : 0 ≤ x % 32 ∧ x % 32 < 32 := by omega
  have hxe : 32 * (x / 32) + x % 32 = x := by omega
  have hkx : T (b + x / 32) 1 (x % 32) = 1 := hk
  have hfit := fit_sim h.1 h.2.1 hp hs (by omega)
  have hMB := MB_of h.1 h.2.1
  rcases hA with ⟨a1, rfl, rfl⟩ | ⟨a1, pl, a2, a3⟩
  · rcases hM with ⟨m1, rfl, rfl⟩ | ⟨m1, -⟩ | ⟨m1, -⟩
    · obtain ⟨-, rfl⟩ := hV.resolve_right (fun z => absurd z.1 (by decide))
      obtain ⟨-, rfl⟩ := hW.resolve_right (fun z => absurd z.1 (by decide))
      rw [if_pos rfl]
      obtain ⟨ch', s1, s2, δ, s3, s4⟩ := sim_homeA h hq hsd hL hx hk a1
      have hwr := wrc_change (V := T) (b := b) (p := x / 32) (t := x % 32) (k := 1) (n := q) (sd := sd) (lk := f) hs
      rw [hxe] at hwr
      refine ⟨rfl, fin_ok (v := x) h hL hx (Or.inl hk) s1 (mwf_keep (mwf_put hw hMB hp hs (by omega) (by unfold sm; omega)) (by unfold sm; omega) (by unfold sm; omega) (by unfold sm; omega) (by unfold sm; omega)) (fun y _ _ _ => s2 y) (fun y y1 y2 hy hv => ?_) (fun i hi => ?_) (fun o ho => setp_out hp ho) ⟨δ, s3, s4⟩⟩
      · have := (hwr y).1
        rw [if_neg hy] at this
        rw [this] at hv
        exact ⟨hv, hy⟩
      · by_cases he : i = x / 32
        · subst he
          simp only [kd] at hi ⊢
          rw [setp_at, (pChange_f _ _ _ _ _ _).1]
          exact hi
        · rw [kd_setp he]; exact hi
    · exact absurd (hfit.symm ▸ a1) m1
    · exact absurd (hfit.symm ▸ a1) m1
  · rcases hM with ⟨m1, -⟩ | ⟨-, m1, -⟩ | ⟨m1, -, pl', m2, m3⟩
    · exact absurd (hfit ▸ m1) a1
    · exact absurd rfl m1
    · have hpp : pl = pl' := place_sim h.1 h.2.1 (fun i i1 i2 => by constructor <;> intro z <;> omega) a2 m2
      subst hpp
      rcases a3 with ⟨e, rfl, rfl⟩ | ⟨e, rfl, t, ht, rfl⟩
      · rcases m3 with ⟨-, rfl, rfl⟩ | ⟨e', -⟩
        · obtain ⟨-, L1, h1, rfl⟩ := hV.resolve_left (fun z => absurd z.1 (by decide))
          obtain ⟨-, L2, h2, rfl⟩ := hW.resolve_left (fun z => absurd z.1 (by decide))
          exact ⟨rfl, fin_bad h hw hL h1 h2⟩
        · exact absurd e e'
      · rcases m3 with ⟨e', -⟩ | ⟨-, rfl, t', ht', hr', rfl⟩
        · exact absurd e' e
        · obtain ⟨-, rfl⟩ := hV.resolve_right (fun z => absurd z.1 (by decide))
          obtain ⟨-, rfl⟩ := hW.resolve_right (fun z => absurd z.1 (by decide))
          rw [if_pos rfl]
          obtain ⟨o1, o2, o3⟩ := (isPl_ok h.1 (by omega) a2).resolve_left e
          have hkd : T (b + pl) 0 0 = 0 ∨ T (b + pl) 0 0 = 1 := o3.imp id (fun z => z.1)
          have htt : t = t' := slot_sim h.1 h.2.1 o1 ht ht' hkd
          subst htt
          have hk1 : T (b + x / 32) 0 0 = 1 := by
            by_cases hz : T (b + x / 32) 0 0 = 1
            · exact hz
            · exfalso
              have hH := h.1 (x / 32) hp.1 hp.2
              have h8 := (hH.2.2.2.2.2.1.2.2 hz).1
              have hz9 := sumF_zero (F := cef (T (b + x / 32))) (n := 32) (fun i _ _ => by unfold cef; split <;> omega) (by have := hH.2.2.1; omega) (x % 32) hs.1 (by omega)
              unfold cef at hz9
              rw [if_neg (by omega)] at hz9
              exact absurd hz9 (by decide)
          have hne : pl ≠ x / 32 := by
            rcases o3 with z | z
            · intro e9; rw [e9] at z; omega
            · exact z.2.1
          obtain ⟨ch', s1, s2, s3, s4, s5, δ, s6, s7⟩ := sim_homeB h hq hsd hL hx hk o1 hkd o2 ht hne
          obtain ⟨hPR, -⟩ := PRel_put (k := 3) (n := q) (sd := sd) (lk := f) (ow := x) h.1 h.2.1 o1 ht hkd (Or.inr rfl)
          have hSI1 := SI_setp (i := pl) h.1 (PI_put (sd := sd) (lk := f) (h.1 pl o1.1 o1.2) ht (Or.inr rfl) hq o2 (by omega))
          refine ⟨rfl, fin_ok (v := 32 * pl + t) h hL hx (Or.inl hk) s1 (mwf_keep (mwf_put (mwf_put hw hMB o1 hr' (by omega) (by unfold sm; omega)) (MB_of hSI1 hPR) hp hs (by omega) (by unfold sm; omega)) (by unfold sm; omega) (by unfold sm; omega) (by unfold sm; omega) (by unfold sm; omega)) (fun y _ _ _ => s2 y) (fun y y1 y2 hy hv => ?_) (fun i hi => ?_) (fun o ho => (setp_out hp ho).trans (setp_out o1 ho)) ⟨δ, s6, s7⟩⟩
          · by_cases hyx : y = x
            · subst hyx; rw [s4] at hv; omega
            · rw [s5 y hyx hy] at hv; exact ⟨hv, hyx⟩
          · rw [s3, if_neg (fun e9 => by subst e9; simp only [kd] at hi; omega)]; exact hi
theorem sim_away {T V1 V' : VT} {b : Int} {S u w' : Int → Int → Int} {ch : Int → List Int} {L : List Int} {f x c q sd r r' : Int} (h : Rel T b (S 1) ch) (hw : mwf S) (hq : 0 ≤ q ∧ q ≤ 1200) (hsd : 0 ≤ sd ∧ sd ≤ 255) (hL : newCh T b ch L f) (hf : -1 ≤ f ∧ f < 96) (hx : 0 ≤ x ∧ x < 3072) (hk : cK T b x = 2) (hc : cN T b x = c) (hA : AwayP T b x c q sd f r V1) (hM : UpdC S x c q sd f r' u)
    (hV : (r = 1 ∧ V' = freeL V1 b (ch c)) ∨ (r = 0 ∧ ∃ L, isCh (nx V1 b) L f ∧ V' = freeL V1 b L)) (hW : (r' = 1 ∧ w' = mFreeL u (ch c)) ∨ (r' = 0 ∧ ∃ L, isCh (mNx u) L f ∧ w' = mFreeL u L)) : r = r' ∧ SimC T V' b S w' := by
  have hc1 := cellB_bd (k := 1) (len := q) ⟨by omega, hq.2⟩
  have hc3 := cellB_bd (k := 3) (len := q) ⟨by omega, hq.2⟩
  have hp : 0 ≤ x / 32 ∧ x / 32 < 96 := by omega
  have hs : 0 ≤ x % 32 ∧ x % 32 < 32 := by omega
  have hkx : T (b + x / 32) 1 (x % 32) = 2 := hk
  obtain ⟨k1, k2, k3, k4⟩ := (h.2.2.1 x hx.1 hx.2).2.2.2.1 hk
  rw [hc] at k1 k2 k3 k4
  have hcx : c ≠ x := fun e => k2 (by rw [e])
  have hpc : 0 ≤ c / 32 ∧ c / 32 < 96 := by omega
  have hsc : 0 ≤ c % 32 ∧ c % 32 < 32 := by omega
  have hkc : T (b + c / 32) 1 (c % 32) = 3 := k3
  have hfit := fit_sim h.1 h.2.1 hp hs (by omega)
  have hfit2 := fit_sim h.1 h.2.1 hpc hsc (by omega)
  have hMB := MB_of h.1 h.2.1
  have hcel : ∀ p s, 0 ≤ p ∧ p < 96 → 0 ≤ s ∧ s < 32 → T (b + p) 1 s ≠ 0 → T (b + p) 0 0 = 1 := by
    intro p s hp hs h0
    by_cases hz : T (b + p) 0 0 = 1
    · exact hz
    · exfalso
      have hH := h.1 p hp.1 hp.2
      have h8 := (hH.2.2.2.2.2.1.2.2 hz).1
      have hz9 := sumF_zero (F := cef (T (b + p))) (n := 32) (fun i _ _ => by unfold cef; split <;> omega) (by have := hH.2.2.1; omega) s hs.1 (by omega)
      unfold cef at hz9
      rw [if_neg h0] at hz9
      exact absurd hz9 (by decide)
  have hx1 := hcel _ _ hp hs (by omega)
  have hcc1 := hcel _ _ hpc hsc (by omega)
  rcases hA with ⟨a1, rfl, n9, hn9, rfl⟩ | ⟨a1, a2, rfl, rfl⟩ | ⟨a1, a2, pl, a3, a4⟩
  · rcases hM with ⟨m1, rfl, rfl⟩ | ⟨m1, -⟩ | ⟨m1, -⟩
    · obtain ⟨-, rfl⟩ := hV.resolve_right (fun z => absurd z.1 (by decide))
      obtain ⟨-, rfl⟩ := hW.resolve_right (fun z => absurd z.1 (by decide))
      rw [if_neg hcx]
      obtain ⟨ch', s1, s2, s3, s4, s5⟩ := sim_awayA h hq hsd hL hx hk hc a1 hn9 rfl rfl
      exact ⟨rfl, fin_ok (v := x) h hL k1 (Or.inr k3) s1 (mwf_keep (mwf_take (mwf_put hw hMB hp hs (by omega) (by unfold sm; omega))) (by unfold sm; omega) (by unfold sm; omega) (by unfold sm; omega) (by unfold sm; omega)) s2 s3 s4 (fun o ho => (setp_out hpc ho).trans (setp_out hp ho)) s5⟩
    · exact absurd (hfit.symm ▸ a1) m1
    · exact absurd (hfit.symm ▸ a1) m1
  · rcases hM with ⟨m1, -⟩ | ⟨m1, -, m2, rfl, rfl⟩ | ⟨-, m1, -⟩
    · exact absurd (hfit ▸ m1) a1
    · obtain ⟨-, rfl⟩ := hV.resolve_right (fun z => absurd z.1 (by decide))
      obtain ⟨-, rfl⟩ := hW.resolve_right (fun z => absurd z.1 (by decide))
      obtain ⟨ch', s1, s2, s3, s4, s5⟩ := sim_awayB h hq hsd hL hx hk hc a2 rfl rfl
      exact ⟨rfl, fin_ok (v := c) h hL k1 (Or.inr k3) s1 (mwf_keep (mwf_put hw hMB hpc hsc (by omega) (by unfold sm; omega)) (by unfold sm; omega) (by unfold sm; omega) (by unfold sm; omega) (by unfold sm; omega)) s2 (fun y _ _ hy hv => ⟨by rw [s3] at hv; exact hv, hy⟩) s4 (fun o ho => setp_out hpc ho) s5⟩
    · exact absurd (hfit2.symm ▸ a2) (m1.resolve_left hcx)
  · rcases hM with ⟨m1, -⟩ | ⟨-, -, m1, -⟩ | ⟨m1, -, pl', m2, m3⟩
    · exact absurd (hfit ▸ m1) a1
    · exact absurd (hfit2 ▸ m1) a2
    · have hpp : pl = pl' := place_sim h.1 h.2.1 (fun _ _ _ => Iff.rfl) a3 m2
      subst hpp
      rcases a4 with ⟨e, rfl, rfl⟩ | ⟨e, rfl, t, n9, ht, hn9, rfl⟩
      · rcases m3 with ⟨-, rfl, rfl⟩ | ⟨e', -⟩
        · obtain ⟨-, L1, h1, rfl⟩ := hV.resolve_left (fun z => absurd z.1 (by decide))
          obtain ⟨-, L2, h2, rfl⟩ := hW.resolve_left (fun z => absurd z.1 (by decide))
          exact ⟨rfl, fin_bad h hw hL h1 h2⟩
        · exact absurd e e'
      · rcases m3 with ⟨e', -⟩ | ⟨-, rfl, t', ht', hr', rfl⟩
        · exact absurd e' e
        · obtain ⟨-, rfl⟩ := hV.resolve_right (fun z => absurd z.1 (by decide))
          obtain ⟨-, rfl⟩ := hW.resolve_right (fun z => absurd z.1 (by decide))
          rw [if_neg hcx]
          obtain ⟨o1, o2, o3⟩ := (isPl_ok h.1 (by omega) a3).resolve_left e
          have hkd : T (b + pl) 0 0 = 0 ∨ T (b + pl) 0 0 = 1 := o3.imp id (fun z => z.1)
          have htt : t = t' := slot_sim h.1 h.2.1 o1 ht ht' hkd
          subst htt
          have hne : pl ≠ x / 32 ∧ pl ≠ c / 32 := by
            rcases o3 with z | z
            · exact ⟨fun e9 => by rw [e9] at z; omega, fun e9 => by rw [e9] at z; omega⟩
            · exact z.2
          obtain ⟨ch', s1, s2, s3, s4, s5⟩ := sim_awayC h hq hsd hL hx hk hc o1 hkd o2 ht hne hn9 rfl rfl
          exact ⟨rfl, fin_ok (v := 32 * pl + t) h hL k1 (Or.inr k3) s1 (mwf_keep (mwf_take (mwf_put hw hMB o1 hr' (by omega) (by unfold sm; omega))) (by unfold sm; omega) (by unfold sm; omega) (by unfold sm; omega) (by unfold sm; omega)) s2 s3 s4 (fun o ho => ((setp_out hp ho).trans (setp_out hpc ho)).trans (setp_out o1 ho)) s5⟩
/-- the cell of a record's value, and its chain -/
theorem rec_cell {V : VT} {b : Int} {d : Int → Int} {ch : Int → List Int} {x : Int} (h : Rel V b d ch) (hx : 0 ≤ x ∧ x < 3072) (hk : cK V b x = 1 ∨ cK V b x = 2) : (0 ≤ vcel V b x ∧ vcel V b x < 3072) ∧ d (6528 + x) = vcel V b x ∧ (cK V b (vcel V b x) = 1 ∨ cK V b (vcel V b x) = 3) ∧ d (15744 + x) = cN V b (vcel V b x) ∧ d (9600 + x) = cL V b (vcel V b x) ∧ d (12672 + x) = cS V b (vcel V b x) ∧ isCh (nx V b) (ch (vcel V b x)) (cN V b (vcel V b x)) ∧ ((cK V b x = 1 ∧ vcel V b x = x) ∨ (cK V b x = 2 ∧ vcel V b x = cN V b x ∧ vcel V b x / 32 ≠ x / 32)) := by
  obtain ⟨r1, r2, r3, r4, r5, r6, r7⟩ := h.2.2.1 x hx.1 hx.2
  obtain ⟨s1, s2, s3⟩ := r5 hk
  have hv : vcel V b x = if cK V b x = 2 then cN V b x else x := rfl
  by_cases h2 : cK V b x = 2
  · rw [if_neg (by omega), if_pos h2] at r3
    rw [if_pos h2] at hv
    obtain ⟨q1, q2, q3, q4⟩ := r4 h2
    rw [r3] at s1 s2 s3
    rw [hv]
    exact ⟨q1, r3, Or.inr q3, s3, s1, s2, ((h.2.2.1 _ q1.1 q1.2).2.2.2.2.2.1 (Or.inr q3)).1, Or.inr ⟨h2, rfl, q2⟩⟩
  · have h1 : cK V b x = 1 := hk.resolve_right h2
    rw [if_pos h1] at r3
    rw [if_neg h2] at hv
    rw [r3] at s1 s2 s3
    rw [hv]
    exact ⟨hx, r3, Or.inl h1, s3, s1, s2, (r6 (Or.inl h1)).1, Or.inl ⟨h1, rfl⟩⟩
theorem sim_chg {V : VT} {b : Int} {w : Int → Int → Int} {ch : Int → List Int} {x q sd r r' : Int} {L0 L0' : List Int} {V' : VT} {w' : Int → Int → Int} (h : Rel V b (w 1) ch) (hw : mwf w) (hq : 0 ≤ q ∧ q ≤ 1200) (hsd : 0 ≤ sd ∧ sd ≤ 255) (hx : 0 ≤ x ∧ x < 3072) (hk : cK V b x = 1 ∨ cK V b x = 2) (hL0 : isCh (nx V b) L0 (cN V b (vcel V b x))) (hL0' : isCh (mNx w) L0' (w 1 (15744 + x))) (hA : ChgP V b x q sd L0 r V') (hM : UpdM w x q sd L0' r' w') : r = r' ∧ SimC V V' b w w' := by
  have hcnt := cnt_sim h.2.1
  obtain ⟨c1, c2, c3, c4, -, -, c5, c6⟩ := rec_cell h hx hk
  have e1 : L0 = ch (vcel V b x) := isCh_uniq hL0 c5
  have e2 : L0' = ch (vcel V b x) := by
    refine isCh_uniq hL0' ?_
    rw [c4]; exact ch_sim' h.2.1 c5 ((h.2.2.1 _ c1.1 c1.2).2.2.2.2.2.1 c3).2.1
  subst e1
  subst e2
  rcases hA with ⟨a1, rfl, rfl⟩ | ⟨a1, V1, a2, a3⟩
  · rcases hM with ⟨-, rfl, rfl⟩ | ⟨m1, -⟩
    · exact ⟨rfl, hw, ⟨ch, h⟩, fun _ _ => rfl, 0, by omega, by split <;> omega⟩
    · exact absurd (hcnt ▸ m1) a1
  · rcases hM with ⟨m1, -⟩ | ⟨m1, u, m2, m3⟩
    · exact absurd (hcnt.symm ▸ a1) m1
    · obtain ⟨t1, t2, t3, t4, t5, t6, t7, t8, t9, t10, L, t11, t12⟩ := tc_pack h hw hq a1
      rw [← t2] at m2 m3 t10 t12
      rw [c2] at m2
      generalize vcel V b x = c at *
      generalize tcN b V q (chP q).toNat = T at *
      generalize mtN w q (chP q).toNat = S at *
      suffices hs : r = r' ∧ SimC T.1 V' b S.1 w' by
        obtain ⟨e, s1, s2, s3, δ, s4, s5⟩ := hs
        exact ⟨e, s1, s2, fun o ho => (s3 o ho).trans (t8 o ho), δ, by rw [s4, t3], by rw [s5, t4, t5]⟩
      have hkk : cK T.1 b x = cK V b x := t7 _ 1 _ (by decide)
      have hnn : cN T.1 b x = cN V b x := t7 _ 4 _ (by decide)
      rcases c6 with ⟨z1, z2⟩ | ⟨z1, z2, z3⟩
      · subst z2
        obtain ⟨-, a4⟩ := a2.resolve_right (fun z => z.1 rfl)
        exact sim_home t1 t9 hq hsd t11 t10 hx (hkk.trans z1) a4 m2 a3 m3
      · obtain ⟨-, a4⟩ := a2.resolve_left (fun z => z3 (by rw [z.1]))
        exact sim_away t1 t9 hq hsd t11 t10 hx (hkk.trans z1) (hnn.trans z2.symm) a4 m2 a3 m3
theorem setp_comm {V : VT} {o o' : Int} {w w' : Int → Int → Int} (h : o ≠ o') : setp (setp V o w) o' w' = setp (setp V o' w') o w := by
  funext a
  by_cases h1 : a = o
  · subst h1; rw [setp_ne h, setp_at, setp_at]
  · by_cases h2 : a = o'
    · subst h2; rw [setp_at, setp_ne h1, setp_at]
    · rw [setp_ne h2, setp_ne h1, setp_ne h1, setp_ne h2]
theorem freeL_setp {V : VT} {b p : Int} {W : Int → Int → Int} {L : List Int} (h : p ∉ L) : freeL (setp V (b + p) W) b L = setp (freeL V b L) (b + p) W := by
  induction L generalizing V with
  | nil => rfl
  | cons a L ih =>
    have hpa : p ≠ a := fun e => h (e ▸ List.mem_cons_self)
    show freeL (setp (setp V (b + p) W) (b + a) (pFree (setp V (b + p) W (b + a)))) b L = setp (freeL (setp V (b + a) (pFree (V (b + a)))) b L) (b + p) W
    rw [setp_ne (show b + a ≠ b + p by omega), setp_comm (show b + p ≠ b + a by omega)]
    exact ih (fun z => h (List.mem_cons_of_mem _ z))
theorem upw_comm {w : Int → Int → Int} {t j j' v v' : Int} (h : j ≠ j') : upw (upw w t j v) t j' v' = upw (upw w t j' v') t j v := by
  funext a c
  unfold upw
  by_cases h1 : a = t ∧ c = j
  · rw [if_neg (fun z => h (h1.2.symm.trans z.2)), if_pos h1, if_pos h1]
  · rw [if_neg h1, if_neg h1]
theorem mFreeL_upw {w : Int → Int → Int} {L : List Int} {j v : Int} (h : j ∉ L) : mFreeL (upw w 1 j v) L = upw (mFreeL w L) 1 j v := by
  induction L generalizing w with
  | nil => rfl
  | cons a L ih =>
    have hja : j ≠ a := fun e => h (e ▸ List.mem_cons_self)
    show mFreeL (upw (upw w 1 j v) 1 a 0) L = upw (mFreeL (upw w 1 a 0) L) 1 j v
    rw [upw_comm hja]
    exact ih (fun z => h (List.mem_cons_of_mem _ z))
theorem sim_rem {V : VT} {b : Int} {w : Int → Int → Int} {ch : Int → List Int} {x : Int} {L0 L0' : List Int} {V' : VT} (h : Rel V b (w 1) ch) (hw : mwf w) (hx : 0 ≤ x ∧ x < 3072) (hk : cK V b x = 1 ∨ cK V b x = 2) (hL0 : isCh (nx V b) L0 (cN V b (vcel V b x))) (hL0' : isCh (mNx w) L0' (w 1 (15744 + x))) (hA : RemP V b x L0 V') : SimC V V' b w (mDel w x L0') := by
  obtain ⟨c1, c2, c3, c4, -, -, c5, c6⟩ := rec_cell h hx hk
  have e1 : L0 = ch (vcel V b x) := isCh_uniq hL0 c5
  have e2 : L0' = ch (vcel V b x) := by
    refine isCh_uniq hL0' ?_
    rw [c4]; exact ch_sim' h.2.1 c5 ((h.2.2.1 _ c1.1 c1.2).2.2.2.2.2.1 c3).2.1
  subst e1
  subst e2
  unfold RemP at hA
  unfold mDel
  rw [c2]
  have h6 := (h.2.2.1 _ c1.1 c1.2).2.2.2.2.2.1 c3
  have hrg := (isCh_rng c5).1
  generalize vcel V b x = c at *
  have hp : 0 ≤ x / 32 ∧ x / 32 < 96 := by omega
  have hs : 0 ≤ x % 32 ∧ x % 32 < 32 := by omega
  have hpc : 0 ≤ c / 32 ∧ c / 32 < 96 := by omega
  have hsc : 0 ≤ c % 32 ∧ c % 32 < 32 := by omega
  have hcel : ∀ p s, 0 ≤ p ∧ p < 96 → 0 ≤ s ∧ s < 32 → V (b + p) 1 s ≠ 0 → V (b + p) 0 0 = 1 := by
    intro p s hp hs h0
    by_cases hz : V (b + p) 0 0 = 1
    · exact hz
    · exfalso
      have hH := h.1 p hp.1 hp.2
      have h8 := (hH.2.2.2.2.2.1.2.2 hz).1
      have hz9 := sumF_zero (F := cef (V (b + p))) (n := 32) (fun i _ _ => by unfold cef; split <;> omega) (by have := hH.2.2.1; omega) s hs.1 (by omega)
      unfold cef at hz9
      rw [if_neg h0] at hz9
      exact absurd hz9 (by decide)
  have hxL : x / 32 ∉ ch c := fun hm => by
    have z1 := h6.2.1 _ hm
    have z2 := hcel _ _ hp hs (by rcases hk with z | z <;> (have z9 : V (b + x / 32) 1 (x % 32) = _ := z; omega))
    simp only [kd] at z1
    omega
  have hcL : c / 32 ∉ ch c := fun hm => by
    have z1 := h6.2.1 _ hm
    have z2 := hcel _ _ hpc hsc (by rcases c3 with z | z <;> (have z9 : V (b + c / 32) 1 (c % 32) = _ := z; omega))
    simp only [kd] at z1
    omega
  have hj : ∀ j, 96 ≤ j → j ∉ ch c := fun j hj hm => by have := hrg j hm; omega
  rw [← mFreeL_upw (hj _ (by omega)), ← mFreeL_upw (hj _ (by omega))]
  have fin : ∀ (V1 : VT) (u : Int → Int → Int), Rel V1 b (u 1) ch → mwf u → sumC V1 b = sumC V b → (∀ i, kd V b i = 2 → kd V1 b i = 2) → (∀ y, (cK V1 b y = 1 ∨ cK V1 b y = 3) → (cK V b y = 1 ∨ cK V b y = 3) ∧ y ≠ c) → (∀ o, o < b ∨ b + 96 ≤ o → V1 o = V o) → u 0 4 = w 0 4 → SimC V (freeL V1 b (ch c)) b w (mFreeL u (ch c)) := by
    intro V1 u q1 q2 q3 q4 q5 q6 q7
    obtain ⟨r1, r2⟩ := Rel_free (L := ch c) q1 (fun p hp => ⟨hrg p hp, q4 p (h6.2.1 p hp)⟩) (fun y y1 y2 hy p hp hq => by
      obtain ⟨z1, z2⟩ := q5 y hy
      exact (h.2.2.1 y y1 y2).2.2.2.2.2.2 c c1.1 c1.2 (fun e => z2 e.symm) z1 c3 p hp hq)
    exact ⟨mwf_free q2, ⟨ch, r1⟩, fun o ho => (free_out hrg ho).trans (q6 o ho), 0, by rw [r2, q3]; omega, by rw [mFreeL_out (Or.inl (by decide)), q7]; split <;> omega⟩
  have hm1 : sm (-1) := ⟨by decide, by decide⟩
  rcases c6 with ⟨z1, z2⟩ | ⟨z1, z2, z3⟩
  · subst z2
    rw [if_pos rfl]
    obtain ⟨-, n9, hn9, rfl⟩ := hA.resolve_right (fun z => z.1 rfl)
    rw [← freeL_setp hxL]
    obtain ⟨s1, s2, s3, s4⟩ := sim_rem1 h hx z1 hn9 rfl (u := upw (upw (mTake w (c / 32) (c % 32)) 1 (6528 + c) (-1)) 1 (15744 + c) (-1)) (fun j hj => by rw [upw_j (by omega), upw_j (by omega)]) (fun y y1 y2 => ⟨by rw [upw_j (by omega), upw_j (by omega), mTake_far hp hs (by omega)], by
      rw [upw_j (by omega)]
      by_cases hy : y = c
      · subst hy; rw [upw_at, if_pos rfl]
      · rw [upw_j (by omega), if_neg hy, mTake_far hp hs (by omega)], by rw [upw_j (by omega), upw_j (by omega), mTake_far hp hs (by omega)], by rw [upw_j (by omega), upw_j (by omega), mTake_far hp hs (by omega)], fun hy => by rw [upw_j (by omega), upw_j (by omega), mTake_far hp hs (by omega)]⟩)
    refine fin _ _ s1 (mwf_up (mwf_up (mwf_take hw) hm1) hm1) s2 s3 (fun y hy => ?_) (fun o ho => setp_out hp ho) (by rw [upw_t (by decide), upw_t (by decide), mTake_0 (by decide)])
    rw [s4] at hy
    by_cases hyx : y = c
    · rw [if_pos hyx] at hy; omega
    · rw [if_neg hyx] at hy; exact ⟨hy, hyx⟩
  · have hcx : c ≠ x := fun e => z3 (by rw [e])
    rw [if_neg hcx]
    obtain ⟨-, n8, n9, hn8, hn9, rfl⟩ := hA.resolve_left (fun z => hcx z.1)
    rw [← freeL_setp hcL, ← freeL_setp hxL]
    obtain ⟨s1, s2, s3, s4⟩ := sim_rem2 h hx z1 z2.symm hn8 hn9 rfl (u := upw (upw (mTake (mTake w (c / 32) (c % 32)) (x / 32) (x % 32)) 1 (6528 + x) (-1)) 1 (15744 + x) (-1)) (fun j hj => by rw [upw_j (by omega), upw_j (by omega)]) (fun y y1 y2 => ⟨by rw [upw_j (by omega), upw_j (by omega), mTake_far hp hs (by omega), mTake_far hpc hsc (by omega)], by
      rw [upw_j (by omega)]
      by_cases hy : y = x
      · subst hy; rw [upw_at, if_pos rfl]
      · rw [upw_j (by omega), if_neg hy, mTake_far hp hs (by omega), mTake_far hpc hsc (by omega)], by rw [upw_j (by omega), upw_j (by omega), mTake_far hp hs (by omega), mTake_far hpc hsc (by omega)], by rw [upw_j (by omega), upw_j (by omega), mTake_far hp hs (by omega), mTake_far hpc hsc (by omega)], fun hy => by rw [upw_j (by omega), upw_j (by omega), mTake_far hp hs (by omega), mTake_far hpc hsc (by omega)]⟩)
    refine fin _ _ s1 (mwf_up (mwf_up (mwf_take (mwf_take hw)) hm1) hm1) s2 s3 (fun y hy => ?_) (fun o ho => (setp_out hp ho).trans (setp_out hpc ho)) (by rw [upw_t (by decide), upw_t (by decide), mTake_0 (by decide), mTake_0 (by decide)])
    rw [s4] at hy
    by_cases hyx : y = x
    · rw [if_pos hyx] at hy; omega
    · rw [if_neg hyx] at hy
      by_cases hyc : y = c
      · rw [if_pos hyc] at hy; omega
      · rw [if_neg hyc] at hy; exact ⟨hy, hyc⟩
