section
variable {p : Program} {l : Launch} {e : Env} {R : Room} {s : State} {m : MethodId} {args : Array Value} {below : List Frame} {meth : Method} {c : Code} {cells slots nL : Nat} {Q : State → Prop}
variable {cc : ByteArray} {own : String} {ret : Option FieldType} {D : va_G} {cy : ClassId × ClassId} {g : GT} {A : Nat → Prop} {H0 : Heap} {V : VT} {pc : Nat} {lv : List (Nat × Value)} {st : List Value}
theorem g_iincW (C : Cx p s m args meth c cc nL own ret D cy g A) {i : Nat} {n x : Int} (lv' : List (Nat × Value)) (j : Nat) (hk : lv[j]? = some (i, vI x)) (hd : decode cc pc = .ok (.iinc i n, 6)) (hn : i < nL) (hl' : (i, vI (x + n)) :: lv.filter (fun q => !(q.1 == i) && !(q.1 + 1 == i && q.2.category == 2)) = lv') (kk : G p l e R s m args below meth c nL cells slots Q D cy g A H0 V (pc + 6) lv' st) : G p l e R s m args below meth c nL cells slots Q D cy g A H0 V pc lv st := by
  intro H locs ls hP hS hl
  exact lv_iincW (x := iI x) (v := iI (x + n)) C.1.1 C.1.2.1 hd hl hk (iI_add x n) hn hl' (fun ls' hl2 => kk H locs ls' hP hS hl2)
end
theorem isLF_uniq {K : Int → Int} {f r r' : Int} (hf : 0 ≤ f) (h : isLF K f r) (h' : isLF K f r') : r = r' := by
  rcases h with ⟨e, k⟩ | ⟨k1, k2, k3, k4⟩ <;> rcases h' with ⟨e', k'⟩ | ⟨k1', k2', k3', k4'⟩
  · omega
  · exact absurd k3' (k r' k1' k2')
  · exact absurd k3 (k' r k1 k2)
  · rcases Int.lt_trichotomy r r' with q | q | q
    · exact absurd k3 (k4' r k1 q)
    · exact q
    · exact absurd k3' (k4 r' k1' q)
def lfn (K : Int → Int) : Nat → Int
  | 0 => -1
  | n + 1 => if lfn K n = -1 then (if K n = 0 then n else -1) else lfn K n
theorem lfn_ok (K : Int → Int) (n : Nat) : (lfn K n = -1 ∧ ∀ i : Int, 0 ≤ i → i < n → K i ≠ 0) ∨ (0 ≤ lfn K n ∧ lfn K n < n ∧ K (lfn K n) = 0 ∧ ∀ i : Int, 0 ≤ i → i < lfn K n → K i ≠ 0) := by
  induction n with
  | zero => exact Or.inl ⟨rfl, fun i h1 h2 => absurd h2 (by omega)⟩
  | succ n ih =>
    unfold lfn
    rcases ih with ⟨e, k⟩ | ⟨k1, k2, k3, k4⟩
    · rw [if_pos e]
      by_cases h : K n = 0
      · rw [if_pos h]
        exact Or.inr ⟨by omega, by omega, h, fun i h1 h2 => k i h1 h2⟩
      · rw [if_neg h]
        refine Or.inl ⟨rfl, fun i h1 h2 => ?_⟩
        by_cases hi : i = n
        · subst hi; exact h
        · exact k i h1 (by omega)
    · rw [if_neg (by omega)]
      exact Or.inr ⟨k1, by omega, k3, k4⟩
def lfr (K : Int → Int) : Int := lfn K 96
theorem lfr_LF (K : Int → Int) : isLF K 0 (lfr K) := by
  rcases lfn_ok K 96 with ⟨e, k⟩ | ⟨k1, k2, k3, k4⟩
  · exact Or.inl ⟨e, fun i h1 h2 => k i h1 (by omega)⟩
  · exact Or.inr ⟨k1, by unfold lfr; omega, k3, k4⟩
theorem cntK_congr {K K' : Int → Int} {k : Int} {n : Nat} (h : ∀ i : Int, 0 ≤ i → i < n → K i = K' i) : cntK K k n = cntK K' k n := by
  induction n with
  | zero => rfl
  | succ n ih =>
    unfold cntK
    rw [ih (fun i h1 h2 => h i h1 (by omega)), h n (by omega) (by omega)]
theorem cntK_set {K K' : Int → Int} {k r : Int} {n : Nat} (hr : 0 ≤ r ∧ r < n) (h1 : K r = k) (h2 : K' r ≠ k) (h : ∀ i : Int, 0 ≤ i → i < n → i ≠ r → K' i = K i) : cntK K' k n = cntK K k n - 1 := by
  induction n with
  | zero => omega
  | succ n ih =>
    unfold cntK
    by_cases hn : r = n
    · subst hn
      rw [if_neg h2, if_pos h1, cntK_congr (fun i q1 q2 => h i q1 (by omega) (by omega))]
      omega
    · rw [ih ⟨hr.1, by omega⟩ (fun i q1 q2 q3 => h i q1 (by omega) q3), h n (by omega) (by omega) (fun q => hn q.symm)]
      split <;> omega
theorem cntK_pos {K : Int → Int} {k : Int} {n : Nat} (h : 0 < cntK K k n) : ∃ i : Int, 0 ≤ i ∧ i < n ∧ K i = k := by
  induction n with
  | zero => exact absurd h (Int.lt_irrefl 0)
  | succ n ih =>
    unfold cntK at h
    by_cases hk : K n = k
    · exact ⟨n, by omega, by omega, hk⟩
    · rw [if_neg hk] at h
      obtain ⟨i, h1, h2, h3⟩ := ih h
      exact ⟨i, h1, by omega, h3⟩
/-- one page more of a chain: V, first, last, left -/
def tcStep (b : Int) (S : VT × Int × Int × Int) : VT × Int × Int × Int :=
  if S.2.2.1 = -1 then (setp S.1 (b + lfr (kd S.1 b)) (pChain (S.1 (b + lfr (kd S.1 b))) (if 240 < S.2.2.2 then 240 else S.2.2.2)), lfr (kd S.1 b), lfr (kd S.1 b), S.2.2.2 + (-240))
  else (up (setp S.1 (b + lfr (kd S.1 b)) (pChain (S.1 (b + lfr (kd S.1 b))) (if 240 < S.2.2.2 then 240 else S.2.2.2))) (b + S.2.2.1) 0 6 (lfr (kd S.1 b)), S.2.1, lfr (kd S.1 b), S.2.2.2 + (-240))
def tcN (b : Int) (V : VT) (len : Int) : Nat → VT × Int × Int × Int
  | 0 => (V, -1, -1, len)
  | k + 1 => tcStep b (tcN b V len k)
theorem pwf_chain {w : Int → Int → Int} (h : pwf w) (q : Int) : pwf (pChain w q) := by
  obtain ⟨z0, z1, z2, z3, z4, z5, z6⟩ := h
  refine ⟨by simp [pChain, upw, sm], by simpa [pChain, upw] using z1, by simpa [pChain, upw] using z2, by simpa [pChain, upw] using z3, by simpa [pChain, upw] using z4, by simpa [pChain, upw] using z5, fun s h1 h2 => by simpa [pChain, upw] using z6 s h1 h2⟩
theorem pwf_free {w : Int → Int → Int} (h : pwf w) : pwf (pFree w) := by
  obtain ⟨z0, z1, z2, z3, z4, z5, z6⟩ := h
  refine ⟨by simp [pFree, upw, sm], by simpa [pFree, upw] using z1, by simpa [pFree, upw] using z2, by simpa [pFree, upw] using z3, by simpa [pFree, upw] using z4, by simp [pFree, upw, sm], fun s h1 h2 => by simpa [pFree, upw] using z6 s h1 h2⟩
theorem pwf_next {V : VT} {o o' : Int} {v : Int} (h : pwf (V o)) : pwf (up V o' 0 6 v o) := by
  obtain ⟨z0, z1, z2, z3, z4, z5, z6⟩ := h
  refine ⟨by simpa [up] using z0, by simpa [up] using z1, by simpa [up] using z2, by simpa [up] using z3, by simpa [up] using z4, by simpa [up] using z5, fun s h1 h2 => by simpa [up] using z6 s h1 h2⟩
theorem swf_setp {V : VT} {b i : Int} {w : Int → Int → Int} (h : swf V b) (hw : pwf w) : swf (setp V (b + i) w) b := by
  intro j h1 h2
  by_cases hj : j = i
  · subst hj; rw [setp_at]; exact hw
  · rw [setp_ne (by omega)]; exact h j h1 h2
theorem swf_next {V : VT} {b o' v : Int} (h : swf V b) : swf (up V o' 0 6 v) b := fun j h1 h2 => pwf_next (h j h1 h2)
/-- what holds while a chain is taken -/
theorem tc_inv {b : Int} {V : VT} {len : Int} (hw : swf V b) (m : Nat) (hm : (m : Int) ≤ cntK (kd V b) 0 96) : ∀ k : Nat, k ≤ m → swf (tcN b V len k).1 b ∧ (-1 ≤ (tcN b V len k).2.2.1 ∧ (tcN b V len k).2.2.1 < 96) ∧ (∀ i, 0 ≤ i → i ≤ (tcN b V len k).2.2.1 → kd (tcN b V len k).1 b i ≠ 0) ∧ cntK (kd (tcN b V len k).1 b) 0 96 = cntK (kd V b) 0 96 - k ∧ (tcN b V len k).2.2.2 = len - 240 * k := by
  intro k
  induction k with
  | zero => intro _; exact ⟨hw, ⟨by simp only [tcN]; omega, by simp only [tcN]; omega⟩, fun i h1 h2 => absurd h2 (by simp only [tcN]; omega), by simp [tcN], by simp [tcN]⟩
  | succ k ih =>
    intro hk
    obtain ⟨i1, i2, i3, i4, i5⟩ := ih (by omega)
    have hpos : 0 < cntK (kd (tcN b V len k).1 b) 0 96 := by rw [i4]; omega
    obtain ⟨f, f1, f2, f3⟩ := cntK_pos hpos
    have hl := lfr_LF (kd (tcN b V len k).1 b)
    show swf (tcStep b (tcN b V len k)).1 b ∧ _
    simp only [tcN]
    generalize hS : tcN b V len k = S at *
    generalize hr : lfr (kd S.1 b) = r at *
    rcases hl with ⟨-, kk⟩ | ⟨k1, k2, k3, k4⟩
    · exact absurd f3 (kk f f1 (by omega))
    · have hne : ∀ q, kd (setp S.1 (b + r) (pChain (S.1 (b + r)) q)) b r ≠ 0 := by intro q; simp [kd, setp_at, pChain, upw]
      have hoth : ∀ q i, i ≠ r → kd (setp S.1 (b + r) (pChain (S.1 (b + r)) q)) b i = kd S.1 b i := by intro q i hi; simp only [kd]; rw [setp_ne (by omega)]
      have hup : ∀ (U : VT) o v, kd (up U o 0 6 v) b = kd U b := by intro U o v; funext i; simp [kd, up]
      have hfr : ∀ q i, 0 ≤ i → i ≤ r → kd (setp S.1 (b + r) (pChain (S.1 (b + r)) q)) b i ≠ 0 := by
        intro q i q1 q2
        by_cases hi : i = r
        · subst hi; exact hne q
        · rw [hoth q i hi]; exact k4 i q1 (by omega)
      have hct : ∀ q, cntK (kd (setp S.1 (b + r) (pChain (S.1 (b + r)) q)) b) 0 96 = cntK (kd S.1 b) 0 96 - 1 := fun q => cntK_set ⟨k1, by omega⟩ k3 (hne q) (fun i _ _ hi => hoth q i hi)
      have hsw : ∀ q, swf (setp S.1 (b + r) (pChain (S.1 (b + r)) q)) b := fun q => swf_setp i1 (pwf_chain (i1 r k1 k2) q)
      unfold tcStep
      rw [hr]
      split
      · exact ⟨hsw _, ⟨by show -1 ≤ r; omega, by show r < 96; omega⟩, fun i q1 q2 => hfr _ i q1 q2, by rw [hct, i4]; omega, by simp only; rw [i5]; omega⟩
      · exact ⟨swf_next (hsw _), ⟨by show -1 ≤ r; omega, by show r < 96; omega⟩, fun i q1 q2 hh => hfr _ i q1 q2 ((congrFun (hup (setp S.1 (b + r) (pChain (S.1 (b + r)) (if 240 < S.2.2.2 then 240 else S.2.2.2))) (b + S.2.2.1) r) i).symm.trans hh), by simp only [hup]; rw [hct, i4]; omega, by simp only; rw [i5]; omega⟩
theorem nx_free (V : VT) (b p : Int) : nx (setp V (b + p) (pFree (V (b + p)))) b = nx V b := by
  funext i
  simp only [nx]
  by_cases h : i = p
  · subst h; rw [setp_at]; simp [pFree, upw]
  · rw [setp_ne (by omega)]
set_option maxHeartbeats 4000000 in
set_option maxRecDepth 100000 in
theorem c_X2_takeChain (l : Launch) (D : va_G) (cy : ClassId × ClassId) (g : GT) (V : VT) (a : Nat) (b : Int) (q : Int) (hap : Apart g) (hS : isSt g a b) (hw : swf V b) (hn : 0 ≤ q ∧ q ≤ 1200) (hfree : chP q ≤ cntK (kd V b) 0 96) : MetI l yX2_takeChain cX2_takeChain 8 (some .int) 1 D cy g [.ref a, vI q] V (fun r V' => r = (tcN b V q (chP q).toNat).2.1 ∧ V' = (tcN b V q (chP q).toNat).1) := by
  obtain ⟨⟨ob, hob⟩, ps, hps, hq, hpgs⟩ := id hS
  have hc := chP_bd hn
  refine MetI.of (by decide) (Nat.le_of_ble_eq_true rfl) hap ?_
  intro p_ e_ s_ m_ args_ below_ meth_ c_ C
  have loop : ∀ (n : Nat) (k : Nat), k + n = (chP q).toNat → G p_ l e_ (rmd 1) s_ m_ args_ below_ meth_ c_ 8 0 0 (MQ below_ (QcI D cy g (fun r V' => r = (tcN b V q (chP q).toNat).2.1 ∧ V' = (tcN b V q (chP q).toNat).1)) args_ s_ 0 0 (fun q => q ∈ gL g)) D cy g (fun q => q ∈ gL g) s_.heap (tcN b V q k).1 16 [(6, vI ((k : Int))), (5, vI ((tcN b V q k).2.2.2)), (4, vI ((tcN b V q k).2.2.1)), (3, vI ((tcN b V q k).2.1)), (2, vI (chP q)), (0, .ref a), (1, vI q)] [] := by
    intro n
    induction n with
    | zero =>
      intro k hkn
      obtain ⟨i1, i2, i3, i4, i5⟩ := tc_inv (len := q) hw (chP q).toNat (by omega) k (by omega)
      generalize hSe : tcN b V q k = S at *
      refine g_iload C 0 rfl dX2_takeChain_16 ?_
      refine g_iload_n C 4 rfl dX2_takeChain_18 ?_
      refine g_icmp_ge C (by unfold rng; omega) (by unfold rng; omega) 99 dX2_takeChain_19 (by decide) (fun c19 => ?_) (fun c19 => absurd c19 (by omega))
      refine g_iload_n C 3 rfl dX2_takeChain_99 ?_
      have hkk : k = (chP q).toNat := by omega
      subst hkk
      rw [← hSe]
      exact g_iret C dX2_takeChain_100 ⟨rfl, rfl⟩
    | succ n ih =>
      intro k hkn
      obtain ⟨i1, i2, i3, i4, i5⟩ := tc_inv (len := q) hw (chP q).toNat (by omega) k (by omega)
      generalize hSe : tcN b V q k = S at *
      refine g_iload C 0 rfl dX2_takeChain_16 ?_
      refine g_iload_n C 4 rfl dX2_takeChain_18 ?_
      refine g_icmp_ge C (by unfold rng; omega) (by unfold rng; omega) 99 dX2_takeChain_19 (by decide) (fun c19 => absurd c19 (by omega)) (fun c19 => ?_)
      refine g_aload_n C 5 rfl dX2_takeChain_22 ?_
      refine g_iload C 2 rfl dX2_takeChain_23 ?_
      refine g_iconst C 1 rfl dX2_takeChain_25 ?_
      refine g_iadd C dX2_takeChain_26 ?_
      refine g_callI C [vI (S.2.2.1 + 1)] [] (c_X2_leastFreePage l D cy g S.1 a b (S.2.2.1 + 1) hap hS i1 (by omega)) lm_X2_95 (rcv_Store hob) rfl (Nat.le_of_ble_eq_true rfl) ⟨(Nat.le_of_ble_eq_true rfl), (Nat.le_of_ble_eq_true rfl)⟩ ⟨Nat.zero_le _, Nat.zero_le _⟩ dX2_takeChain_27 ?_
      rintro r V1 ⟨hr, hV1⟩
      refine g_V hV1 ?_
      clear hV1 V1
      have hr0 : isLF (kd S.1 b) 0 r := by
        rcases hr with ⟨e1, k2⟩ | ⟨k1, k2, k3, k4⟩
        · refine Or.inl ⟨e1, fun i q1 q2 => ?_⟩
          by_cases hi : i ≤ S.2.2.1
          · exact i3 i q1 hi
          · exact k2 i (by omega) q2
        · refine Or.inr ⟨by omega, k2, k3, fun i q1 q2 => ?_⟩
          by_cases hi : i ≤ S.2.2.1
          · exact i3 i q1 hi
          · exact k4 i (by omega) q2
      have hrl : r = lfr (kd S.1 b) := isLF_uniq (by decide) hr0 (lfr_LF _)
      have hrr : 0 ≤ r ∧ r < 96 := by
        rcases hr0 with ⟨e1, k2⟩ | ⟨k1, k2, -⟩
        · exfalso
          obtain ⟨f, f1, f2, f3⟩ := cntK_pos (K := kd S.1 b) (k := 0) (n := 96) (by rw [i4]; omega)
          exact k2 f f1 (by omega) f3
        · exact ⟨k1, k2⟩
      refine g_istore C [(7, vI r), (6, vI ((k : Int))), (5, vI S.2.2.2), (4, vI S.2.2.1), (3, vI S.2.1), (2, vI (chP q)), (0, .ref a), (1, vI q)] dX2_takeChain_30 (by decide) rfl ?_
      refine g_iload C 0 rfl dX2_takeChain_32 ?_
      refine g_iconst C (-1) rfl dX2_takeChain_34 ?_
      refine g_icmp_ne C (by unfold rng; omega) (by unfold rng; omega) 41 dX2_takeChain_35 (by decide) (fun c35 => ?_) (fun c35 => absurd c35 (by omega))
      refine g_aload_n C 6 rfl dX2_takeChain_41 ?_
      refine gf_Store_pages C hob hps lf_X2_11 dX2_takeChain_42 ?_
      refine g_iload C 0 rfl dX2_takeChain_45 ?_
      obtain ⟨pg1, pg1e, pg1h⟩ := hpgs r (by omega) (by omega)
      obtain ⟨-, pg1r1, pg1r2, pg1r3, pg1r4, ⟨pg1hr1, pg1ha1⟩, ⟨pg1hr2, pg1ha2⟩, ⟨pg1hr3, pg1ha3⟩, ⟨pg1hr4, pg1ha4⟩⟩ := id pg1h
      refine g_aald C hq ⟨by omega, by omega⟩ (by decide) pg1e dX2_takeChain_47 ?_
      refine g_iload C 2 rfl dX2_takeChain_48 ?_
      refine g_sipush C 240 rfl dX2_takeChain_50 ?_
      refine g_mmin C (by unfold rng; omega) (by unfold rng; omega) lmin1 lmin2 lmth lmin4 (Nat.le_of_ble_eq_true rfl) (Nat.le_of_ble_eq_true rfl) ⟨Nat.zero_le _, Nat.zero_le _⟩ dX2_takeChain_53 ?_
      refine g_callV C [vI (if 240 < S.2.2.2 then 240 else S.2.2.2)] [] (cv_X1_becomeChain l D cy g S.1 pg1 _ (if 240 < S.2.2.2 then 240 else S.2.2.2) hap pg1h) lm_X2_121 (rcv_Page pg1h.1) rfl (Nat.le_of_ble_eq_true rfl) ⟨(Nat.le_of_ble_eq_true rfl), (Nat.le_of_ble_eq_true rfl)⟩ ⟨Nat.zero_le _, Nat.zero_le _⟩ dX2_takeChain_56 ?_
      rintro V2 hV2
      refine g_iincW C [(5, vI (S.2.2.2 + (-240))), (7, vI r), (6, vI ((k : Int))), (4, vI S.2.2.1), (3, vI S.2.1), (2, vI (chP q)), (0, .ref a), (1, vI q)] 2 rfl dX2_takeChain_59 (by decide) rfl ?_
      refine g_iload C 3 rfl dX2_takeChain_65 ?_
      refine g_iconst C (-1) rfl dX2_takeChain_67 ?_
      refine g_icmp_ne C (by unfold rng; omega) (by unfold rng; omega) 77 dX2_takeChain_68 (by decide) (fun c68 => ?_) (fun c68 => ?_)
      · refine g_aload_n C 6 rfl dX2_takeChain_77 ?_
        refine gf_Store_pages C hob hps lf_X2_11 dX2_takeChain_78 ?_
        refine g_iload C 3 rfl dX2_takeChain_81 ?_
        obtain ⟨pg2, pg2e, pg2h⟩ := hpgs S.2.2.1 (by omega) (by omega)
        obtain ⟨-, pg2r1, pg2r2, pg2r3, pg2r4, ⟨pg2hr1, pg2ha1⟩, ⟨pg2hr2, pg2ha2⟩, ⟨pg2hr3, pg2ha3⟩, ⟨pg2hr4, pg2ha4⟩⟩ := id pg2h
        refine g_aald C hq ⟨by omega, by omega⟩ (by decide) pg2e dX2_takeChain_83 ?_
        refine g_iload C 1 rfl dX2_takeChain_84 ?_
        refine gpN_Page_chainNext C pg2h.1 lf_X2_124 dX2_takeChain_86 ?_
        refine g_iload C 1 rfl dX2_takeChain_89 ?_
        refine g_istore C [(4, vI r), (5, vI (S.2.2.2 + (-240))), (7, vI r), (6, vI ((k : Int))), (3, vI S.2.1), (2, vI (chP q)), (0, .ref a), (1, vI q)] dX2_takeChain_91 (by decide) rfl ?_
        refine g_iinc C [(6, vI (((k : Int)) + 1)), (4, vI r), (5, vI (S.2.2.2 + (-240))), (7, vI r), (3, vI S.2.1), (2, vI (chP q)), (0, .ref a), (1, vI q)] 3 rfl dX2_takeChain_93 (by decide) rfl ?_
        refine g_goto C 16 dX2_takeChain_96 (by decide) ?_
        refine g_sub [0, 2, 1, 4, 5, 6, 7] rfl ?_
        have hst : tcN b V q (k + 1) = tcStep b S := by rw [← hSe]; rfl
        have h9 := ih (k + 1) (by omega)
        rw [hst] at h9
        unfold tcStep at h9
        rw [if_neg c68, ← hrl] at h9
        rw [hV2]
        exact h9
      · refine g_iload C 1 rfl dX2_takeChain_71 ?_
        refine g_istore_n C [(3, vI r), (5, vI (S.2.2.2 + (-240))), (7, vI r), (6, vI ((k : Int))), (4, vI S.2.2.1), (2, vI (chP q)), (0, .ref a), (1, vI q)] dX2_takeChain_73 rfl (by decide) rfl ?_
        refine g_goto C 89 dX2_takeChain_74 (by decide) ?_
        refine g_iload C 2 rfl dX2_takeChain_89 ?_
        refine g_istore C [(4, vI r), (3, vI r), (5, vI (S.2.2.2 + (-240))), (7, vI r), (6, vI ((k : Int))), (2, vI (chP q)), (0, .ref a), (1, vI q)] dX2_takeChain_91 (by decide) rfl ?_
        refine g_iinc C [(6, vI (((k : Int)) + 1)), (4, vI r), (3, vI r), (5, vI (S.2.2.2 + (-240))), (7, vI r), (2, vI (chP q)), (0, .ref a), (1, vI q)] 4 rfl dX2_takeChain_93 (by decide) rfl ?_
        refine g_goto C 16 dX2_takeChain_96 (by decide) ?_
        refine g_sub [0, 3, 1, 2, 5, 6, 7] rfl ?_
        have hst : tcN b V q (k + 1) = tcStep b S := by rw [← hSe]; rfl
        have h9 := ih (k + 1) (by omega)
        rw [hst] at h9
        unfold tcStep at h9
        rw [if_pos c68, ← hrl] at h9
        rw [hV2]
        exact h9
  refine g_iload_n C 1 rfl dX2_takeChain_0 ?_
  refine g_callNI C [vI q] [] (c_X3_chainPages l D cy g _ q hap hn) lm_X2_110 rfl (Nat.le_of_ble_eq_true rfl) ⟨(Nat.le_of_ble_eq_true rfl), (Nat.le_of_ble_eq_true rfl)⟩ ⟨Nat.zero_le _, Nat.zero_le _⟩ dX2_takeChain_1 ?_
  rintro _ V1 ⟨rfl, hV1⟩
  refine g_V hV1 ?_
  clear hV1 V1
  refine g_istore_n C [(2, vI (chP q)), (0, .ref a), (1, vI q)] dX2_takeChain_4 rfl (by decide) rfl ?_
  refine g_iconst C (-1) rfl dX2_takeChain_5 ?_
  refine g_istore_n C [(3, vI ((-1))), (2, vI (chP q)), (0, .ref a), (1, vI q)] dX2_takeChain_6 rfl (by decide) rfl ?_
  refine g_iconst C (-1) rfl dX2_takeChain_7 ?_
  refine g_istore C [(4, vI ((-1))), (3, vI ((-1))), (2, vI (chP q)), (0, .ref a), (1, vI q)] dX2_takeChain_8 (by decide) rfl ?_
  refine g_iload_n C 4 rfl dX2_takeChain_10 ?_
  refine g_istore C [(5, vI q), (4, vI ((-1))), (3, vI ((-1))), (2, vI (chP q)), (0, .ref a), (1, vI q)] dX2_takeChain_11 (by decide) rfl ?_
  refine g_iconst C 0 rfl dX2_takeChain_13 ?_
  refine g_istore C [(6, vI 0), (5, vI q), (4, vI ((-1))), (3, vI ((-1))), (2, vI (chP q)), (0, .ref a), (1, vI q)] dX2_takeChain_14 (by decide) rfl ?_
  refine g_sub [0, 1, 2, 3, 4, 5, 6] rfl ?_
  exact loop (chP q).toNat 0 (by omega)
set_option maxHeartbeats 4000000 in
set_option maxRecDepth 100000 in
theorem c_X2_freeChain (l : Launch) (D : va_G) (cy : ClassId × ClassId) (g : GT) (V : VT) (a : Nat) (b : Int) (q : Int) (L0 : List Int) (hap : Apart g) (hS : isSt g a b) (hw : swf V b) (hq9 : -1 ≤ q ∧ q < 96) (hL : isCh (nx V b) L0 q) (hlen : L0.length ≤ 96) : MetV l yX2_freeChain cX2_freeChain 5 none 1 D cy g [.ref a, vI q] V (fun V' => V' = freeL V b L0) := by
  obtain ⟨⟨ob, hob⟩, ps, hps, hq, hpgs⟩ := id hS
  refine MetV.of (by decide) (Nat.le_of_ble_eq_true rfl) hap ?_
  intro p_ e_ s_ m_ args_ below_ meth_ c_ C
  have loop : ∀ (L : List Int) (U : VT) (f i : Int), isCh (nx U b) L f → swf U b → 0 ≤ i → i + L.length ≤ 96 → freeL U b L = freeL V b L0 → G p_ l e_ (rmd 1) s_ m_ args_ below_ meth_ c_ 5 0 0 (MQ below_ (QcV D cy g (fun V' => V' = freeL V b L0)) args_ s_ 0 0 (fun q => q ∈ gL g)) D cy g (fun q => q ∈ gL g) s_.heap U 4 [(3, vI i), (2, vI f), (0, .ref a), (1, vI q)] [] := by
    intro L
    induction L with
    | nil =>
      intro U f i h1 h2 h3 h4 h5
      have hf : f = -1 := h1
      simp only [List.length_nil] at h4
      refine g_iload_n C 0 rfl dX2_freeChain_4 ?_
      refine g_bipush C 96 rfl dX2_freeChain_5 ?_
      refine g_icmp_ge C (by unfold rng; omega) (by unfold rng; omega) 44 dX2_freeChain_7 (by decide) (fun c7 => ?_) (fun c7 => ?_)
      · exact g_vret C dX2_freeChain_44 h5
      · refine g_iload_n C 1 rfl dX2_freeChain_10 ?_
        refine g_iconst C (-1) rfl dX2_freeChain_11 ?_
        refine g_icmp_eq C (by unfold rng; omega) (by unfold rng; omega) 44 dX2_freeChain_12 (by decide) (fun c12 => ?_) (fun c12 => absurd c12 (by omega))
        exact g_vret C dX2_freeChain_44 h5
    | cons p L ih =>
      intro U f i h1 h2 h3 h4 h5
      obtain ⟨rfl, hp9, h1'⟩ := h1
      simp only [List.length_cons] at h4
      refine g_iload_n C 0 rfl dX2_freeChain_4 ?_
      refine g_bipush C 96 rfl dX2_freeChain_5 ?_
      refine g_icmp_ge C (by unfold rng; omega) (by unfold rng; omega) 44 dX2_freeChain_7 (by decide) (fun c7 => absurd c7 (by omega)) (fun c7 => ?_)
      refine g_iload_n C 1 rfl dX2_freeChain_10 ?_
      refine g_iconst C (-1) rfl dX2_freeChain_11 ?_
      refine g_icmp_eq C (by unfold rng; omega) (by unfold rng; omega) 44 dX2_freeChain_12 (by decide) (fun c12 => absurd c12 (by omega)) (fun c12 => ?_)
      refine g_aload_n C 2 rfl dX2_freeChain_15 ?_
      refine gf_Store_pages C hob hps lf_X2_11 dX2_freeChain_16 ?_
      refine g_iload_n C 1 rfl dX2_freeChain_19 ?_
      obtain ⟨pg1, pg1e, pg1h⟩ := hpgs f (by omega) (by omega)
      obtain ⟨-, pg1r1, pg1r2, pg1r3, pg1r4, ⟨pg1hr1, pg1ha1⟩, ⟨pg1hr2, pg1ha2⟩, ⟨pg1hr3, pg1ha3⟩, ⟨pg1hr4, pg1ha4⟩⟩ := id pg1h
      refine g_aald C hq ⟨by omega, by omega⟩ (by decide) pg1e dX2_freeChain_20 ?_
      refine gfN_Page_chainNext C pg1h.1 lf_X2_124 dX2_freeChain_21 ?_
      refine g_istore C [(4, vI (U (b + f) 0 6)), (3, vI i), (2, vI f), (0, .ref a), (1, vI q)] dX2_freeChain_24 (by decide) rfl ?_
      refine g_aload_n C 3 rfl dX2_freeChain_26 ?_
      refine gf_Store_pages C hob hps lf_X2_11 dX2_freeChain_27 ?_
      refine g_iload_n C 2 rfl dX2_freeChain_30 ?_
      obtain ⟨pg2, pg2e, pg2h⟩ := hpgs f (by omega) (by omega)
      obtain ⟨-, pg2r1, pg2r2, pg2r3, pg2r4, ⟨pg2hr1, pg2ha1⟩, ⟨pg2hr2, pg2ha2⟩, ⟨pg2hr3, pg2ha3⟩, ⟨pg2hr4, pg2ha4⟩⟩ := id pg2h
      refine g_aald C hq ⟨by omega, by omega⟩ (by decide) pg2e dX2_freeChain_31 ?_
      refine g_callV C [] [] (cv_X1_becomeFree l D cy g U pg2 _ hap pg2h) lm_X2_127 (rcv_Page pg2h.1) rfl (Nat.le_of_ble_eq_true rfl) ⟨(Nat.le_of_ble_eq_true rfl), (Nat.le_of_ble_eq_true rfl)⟩ ⟨Nat.zero_le _, Nat.zero_le _⟩ dX2_freeChain_32 ?_
      rintro V2 hV2
      refine g_iload C 0 rfl dX2_freeChain_35 ?_
      refine g_istore_n C [(2, vI (U (b + f) 0 6)), (4, vI (U (b + f) 0 6)), (3, vI i), (0, .ref a), (1, vI q)] dX2_freeChain_37 rfl (by decide) rfl ?_
      refine g_iinc C [(3, vI (i + 1)), (2, vI (U (b + f) 0 6)), (4, vI (U (b + f) 0 6)), (0, .ref a), (1, vI q)] 2 rfl dX2_freeChain_38 (by decide) rfl ?_
      refine g_goto C 4 dX2_freeChain_41 (by decide) ?_
      refine g_sub [0, 1, 3, 4] rfl ?_
      rw [hV2]
      exact ih _ _ _ (by rw [nx_free]; exact h1') (swf_setp h2 (pwf_free (h2 f hp9.1 hp9.2))) (by omega) (by omega) h5
  refine g_iload_n C 1 rfl dX2_freeChain_0 ?_
  refine g_istore_n C [(2, vI q), (0, .ref a), (1, vI q)] dX2_freeChain_1 rfl (by decide) rfl ?_
  refine g_iconst C 0 rfl dX2_freeChain_2 ?_
  refine g_istore_n C [(3, vI 0), (2, vI q), (0, .ref a), (1, vI q)] dX2_freeChain_3 rfl (by decide) rfl ?_
  refine g_sub [0, 1, 2, 3] rfl ?_
  exact loop L0 V q 0 hL hw (by omega) (by omega) rfl
set_option maxHeartbeats 4000000 in
set_option maxRecDepth 100000 in
theorem c_X2_firstRecordFrom (l : Launch) (D : va_G) (cy : ClassId × ClassId) (g : GT) (V : VT) (a : Nat) (b : Int) (q : Int) (hap : Apart g) (hS : isSt g a b) (hw : swf V b) (hsl : ∀ i s, 0 ≤ i → i < 96 → V (b + i) 0 1 ≤ s → s < 32 → V (b + i) 1 s = 0) (hq9 : 0 ≤ q ∧ q ≤ 3072) : MetI l yX2_firstRecordFrom cX2_firstRecordFrom 5 (some .int) 2 D cy g [.ref a, vI q] V (fun r V' => ((r = -1 ∧ ∀ j, q ≤ j → j < 3072 → ¬ isRec V b j) ∨ (q ≤ r ∧ r < 3072 ∧ isRec V b r ∧ ∀ j, q ≤ j → j < r → ¬ isRec V b j)) ∧ V' = V) := by
  obtain ⟨⟨ob, hob⟩, ps, hps, hq, hpgs⟩ := id hS
  refine MetI.of (by decide) (Nat.le_of_ble_eq_true rfl) hap ?_
  intro p_ e_ s_ m_ args_ below_ meth_ c_ C
  have loop : ∀ (n : Nat) (i sl : Int), 0 ≤ i ∧ i ≤ 96 ∧ q ≤ 32 * i + sl → 0 ≤ sl ∧ sl < 32 ∧ (i = 96 → sl = 0) → 96 - i ≤ n → (∀ j, q ≤ j → j < 32 * i + sl → ¬ isRec V b j) → G p_ l e_ (rmd 2) s_ m_ args_ below_ meth_ c_ 5 0 0 (MQ below_ (QcI D cy g (fun r V' => ((r = -1 ∧ ∀ j, q ≤ j → j < 3072 → ¬ isRec V b j) ∨ (q ≤ r ∧ r < 3072 ∧ isRec V b r ∧ ∀ j, q ≤ j → j < r → ¬ isRec V b j)) ∧ V' = V)) args_ s_ 0 0 (fun q => q ∈ gL g)) D cy g (fun q => q ∈ gL g) s_.heap V 10 [(3, vI i), (2, vI sl), (0, .ref a), (1, vI q)] [] := by
    intro n
    induction n with
    | zero =>
      intro i sl h1 h2 h3 h4
      refine g_iload_n C 0 rfl dX2_firstRecordFrom_10 ?_
      refine g_bipush C 96 rfl dX2_firstRecordFrom_11 ?_
      refine g_icmp_ge C (by unfold rng; omega) (by unfold rng; omega) 50 dX2_firstRecordFrom_13 (by decide) (fun c13 => ?_) (fun c13 => absurd c13 (by omega))
      refine g_iconst C (-1) rfl dX2_firstRecordFrom_50 ?_
      exact g_iret C dX2_firstRecordFrom_51 ⟨Or.inl ⟨rfl, fun j q1 q2 => h4 j q1 (by omega)⟩, rfl⟩
    | succ n ih =>
      intro i sl h1 h2 h3 h4
      refine g_iload_n C 0 rfl dX2_firstRecordFrom_10 ?_
      refine g_bipush C 96 rfl dX2_firstRecordFrom_11 ?_
      refine g_icmp_ge C (by unfold rng; omega) (by unfold rng; omega) 50 dX2_firstRecordFrom_13 (by decide) (fun c13 => ?_) (fun c13 => ?_)
      · refine g_iconst C (-1) rfl dX2_firstRecordFrom_50 ?_
        exact g_iret C dX2_firstRecordFrom_51 ⟨Or.inl ⟨rfl, fun j q1 q2 => h4 j q1 (by omega)⟩, rfl⟩
      · refine g_aload_n C 2 rfl dX2_firstRecordFrom_16 ?_
        refine gf_Store_pages C hob hps lf_X2_11 dX2_firstRecordFrom_17 ?_
        refine g_iload_n C 0 rfl dX2_firstRecordFrom_20 ?_
        obtain ⟨pg1, pg1e, pg1h⟩ := hpgs i (by omega) (by omega)
        obtain ⟨-, pg1r1, pg1r2, pg1r3, pg1r4, ⟨pg1hr1, pg1ha1⟩, ⟨pg1hr2, pg1ha2⟩, ⟨pg1hr3, pg1ha3⟩, ⟨pg1hr4, pg1ha4⟩⟩ := id pg1h
        refine g_aald C hq ⟨by omega, by omega⟩ (by decide) pg1e dX2_firstRecordFrom_21 ?_
        refine g_iload_n C 1 rfl dX2_firstRecordFrom_22 ?_
        refine g_callI C [vI sl] [] (cv_X1_firstHomeFrom l D cy g V pg1 _ sl hap pg1h (by omega) (hw _ (by omega) (by omega))) lm_X2_26 (rcv_Page pg1h.1) rfl (Nat.le_of_ble_eq_true rfl) ⟨(Nat.le_of_ble_eq_true rfl), (Nat.le_of_ble_eq_true rfl)⟩ ⟨Nat.zero_le _, Nat.zero_le _⟩ dX2_firstRecordFrom_23 ?_
        rintro r V1 ⟨hV1, hr⟩
        refine g_V hV1 ?_
        clear hV1 V1
        have z1 := (hw i (by omega) (by omega)).2.1
        have hr9 : -1 ≤ r ∧ r < 1000 := by rcases hr with ⟨k, -⟩ | ⟨k1, k2, -⟩ <;> omega
        refine g_istore C [(4, vI r), (3, vI i), (2, vI sl), (0, .ref a), (1, vI q)] dX2_firstRecordFrom_26 (by decide) rfl ?_
        refine g_iload C 0 rfl dX2_firstRecordFrom_28 ?_
        refine g_iconst C (-1) rfl dX2_firstRecordFrom_30 ?_
        refine g_icmp_eq C (by unfold rng; omega) (by unfold rng; omega) 42 dX2_firstRecordFrom_31 (by decide) (fun c31 => ?_) (fun c31 => ?_)
        · refine g_iconst C 0 rfl dX2_firstRecordFrom_42 ?_
          refine g_istore_n C [(2, vI 0), (4, vI r), (3, vI i), (0, .ref a), (1, vI q)] dX2_firstRecordFrom_43 rfl (by decide) rfl ?_
          refine g_iinc C [(3, vI (i + 1)), (2, vI 0), (4, vI r), (0, .ref a), (1, vI q)] 2 rfl dX2_firstRecordFrom_44 (by decide) rfl ?_
          refine g_goto C 10 dX2_firstRecordFrom_47 (by decide) ?_
          refine g_sub [0, 1, 3, 4] rfl ?_
          refine ih (i + 1) 0 (by omega) (by omega) (by omega) (fun j q1 q2 => ?_)
          by_cases hj : j < 32 * i + sl
          · exact h4 j q1 hj
          · rcases hr with ⟨-, k2⟩ | ⟨k1, -⟩
            · unfold isRec
              rw [show j / 32 = i by omega]
              by_cases hj2 : j % 32 < V (b + i) 0 1
              · exact k2 (j % 32) (by omega) hj2
              · intro hh; have := hsl i (j % 32) (by omega) (by omega) (by omega) (by omega); unfold pHome at hh; omega
            · exfalso; omega
        · refine g_iload_n C 1 rfl dX2_firstRecordFrom_34 ?_
          refine g_bipush C 32 rfl dX2_firstRecordFrom_35 ?_
          refine g_imul C dX2_firstRecordFrom_37 ?_
          refine g_iload C 0 rfl dX2_firstRecordFrom_38 ?_
          refine g_iadd C dX2_firstRecordFrom_40 ?_
          rcases hr with ⟨k1, -⟩ | ⟨k1, k2, k3, k4⟩
          · exact absurd k1 c31
          · refine g_iret C dX2_firstRecordFrom_41 ⟨Or.inr ⟨by omega, by omega, ?_, fun j q1 q2 => ?_⟩, rfl⟩
            · unfold isRec; rw [show (i * 32 + r) / 32 = i by omega, show (i * 32 + r) % 32 = r by omega]; exact k3
            · by_cases hj : j < 32 * i + sl
              · exact h4 j q1 hj
              · unfold isRec; rw [show j / 32 = i by omega]; exact k4 (j % 32) (by omega) (by omega)
  refine g_iload_n C 1 rfl dX2_firstRecordFrom_0 ?_
  refine g_bipush C 32 rfl dX2_firstRecordFrom_1 ?_
  refine g_irem C (by omega) (by omega) dX2_firstRecordFrom_3 ?_
  refine g_istore_n C [(2, vI (q % 32)), (0, .ref a), (1, vI q)] dX2_firstRecordFrom_4 rfl (by decide) rfl ?_
  refine g_iload_n C 2 rfl dX2_firstRecordFrom_5 ?_
  refine g_bipush C 32 rfl dX2_firstRecordFrom_6 ?_
  refine g_idiv C (by omega) (by omega) dX2_firstRecordFrom_8 ?_
  refine g_istore_n C [(3, vI (q / 32)), (2, vI (q % 32)), (0, .ref a), (1, vI q)] dX2_firstRecordFrom_9 rfl (by decide) rfl ?_
  refine g_sub [0, 1, 2, 3] rfl ?_
  exact loop 96 (q / 32) (q % 32) (by omega) (by omega) (by omega) (fun j q1 q2 => absurd q1 (by omega))
