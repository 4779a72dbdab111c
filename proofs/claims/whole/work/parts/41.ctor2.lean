set_option maxHeartbeats 4000000 in
set_option maxRecDepth 100000 in
theorem c_X0_init (l : Launch) (D : va_G) (cy : ClassId × ClassId) (g : GT) (V : VT) (a : Nat) (o : Int) (n0 : Nat) (hap : Apart g) (ho0 : isO g 0 a o) (hf : ∀ b ∈ gL g, gO g b = o → b = a) : MetN l yX0_init cX0_init 1 1 3 1536 D cy g [.ref a] (setp V o z0) n0 (fun g' V' => Gro a (fun x => x = o) g g' ∧ isLg g' a o ∧ V' = setp V o z0) := by
  have hT : gT g a = 0 := ho0.2.2.2
  have hft : ∀ t : Int, t ≠ 0 → ∀ b ∈ gL g, ¬ (gO g b = o ∧ gT g b = t) := fun t ht b hb z => ht (by rw [← z.2, hf b hb z.1]; exact hT)
  have hf1 := hft 1 (by decide)
  have hf2 := hft 2 (by decide)
  have hf3 := hft 3 (by decide)
  have hG : Gro a (fun x => x = o) g g := Gro.rfl
  have ho := ho0
  refine MetN.of (by decide) rfl (Nat.le_of_ble_eq_true rfl) hap ?_
  intro p_ e_ s_ m_ args_ below_ meth_ c_ C hnm hAO hA
  refine g_aload_n C 0 rfl dX0_init_0 ?_
  refine g_objI C lo_X0 (Nat.le_of_ble_eq_true rfl) (Nat.le_of_ble_eq_true rfl) dX0_init_1 ?_
  refine g_aload_n C 0 rfl dX0_init_4 ?_
  refine g_sipush C 512 rfl dX0_init_5 ?_
  refine g_newI C hA o 1 512 (by decide) hf1 (fun j => by rw [setp_at]; rfl) (Nat.le_of_ble_eq_true rfl) (Nat.le_of_ble_eq_true rfl) dX0_init_8 ?_
  intro q1 hq1 hAq1 C
  have ha1 : a ∈ _ := isO_in (show isO _ 0 a o from (hG.add (k := 5) (n := 512) (t := 1) hq1 rfl).isO ho0)
  have hG := hG.add (k := 5) (n := 512) (t := 1) hq1 rfl
  have ho := hG.isO ho0
  have hf2 := fr_add (q := q1) (k := 5) (n := 512) (o' := o) (t' := 1) hf2 (Or.inr (by decide))
  have hf3 := fr_add (q := q1) (k := 5) (n := 512) (o' := o) (t' := 1) hf3 (Or.inr (by decide))
  refine gr_Log_records C hnm ho lf_X0_9 rfl dX0_init_10 ?_
  intro C
  have hG := hG.ref (x := a) (j := 0) (v := q1) (Or.inl rfl)
  have ho := hG.isO ho0
  refine g_aload_n C 0 rfl dX0_init_13 ?_
  refine g_sipush C 512 rfl dX0_init_14 ?_
  refine g_newI C hA o 2 512 (by decide) hf2 (fun j => by rw [setp_at]; rfl) (Nat.le_of_ble_eq_true rfl) (Nat.le_of_ble_eq_true rfl) dX0_init_17 ?_
  intro q2 hq2 hAq2 C
  have ha2 : a ∈ _ := isO_in (show isO _ 0 a o from (hG.add (k := 5) (n := 512) (t := 2) hq2 rfl).isO ho0)
  have hG := hG.add (k := 5) (n := 512) (t := 2) hq2 rfl
  have ho := hG.isO ho0
  have hf3 := fr_add (q := q2) (k := 5) (n := 512) (o' := o) (t' := 2) hf3 (Or.inr (by decide))
  refine gr_Log_lengths C hnm ho lf_X0_15 rfl dX0_init_19 ?_
  intro C
  have hG := hG.ref (x := a) (j := 1) (v := q2) (Or.inl rfl)
  have ho := hG.isO ho0
  refine g_aload_n C 0 rfl dX0_init_22 ?_
  refine g_sipush C 512 rfl dX0_init_23 ?_
  refine g_newI C hA o 3 512 (by decide) hf3 (fun j => by rw [setp_at]; rfl) (Nat.le_of_ble_eq_true rfl) (Nat.le_of_ble_eq_true rfl) dX0_init_26 ?_
  intro q3 hq3 hAq3 C
  have ha3 : a ∈ _ := isO_in (show isO _ 0 a o from (hG.add (k := 5) (n := 512) (t := 3) hq3 rfl).isO ho0)
  have hG := hG.add (k := 5) (n := 512) (t := 3) hq3 rfl
  have ho := hG.isO ho0
  refine gr_Log_seeds C hnm ho lf_X0_18 rfl dX0_init_28 ?_
  intro C
  have hG := hG.ref (x := a) (j := 2) (v := q3) (Or.inl rfl)
  have ho := hG.isO ho0
  refine g_aload_n C 0 rfl dX0_init_31 ?_
  refine g_iconst C 0 rfl dX0_init_32 ?_
  refine sp_Log_size C ho lf_X0_21 dX0_init_33 ?_
  have fr1 : gR (gRef (gAdd (gRef (gAdd (gRef (gAdd g q1 5 512 o 1) a 0 q1) q2 5 512 o 2) a 1 q2) q3 5 512 o 3) a 2 q3) a 0 = some q1 := by rw [R_ne (Or.inr (by decide)), R_add (show a ≠ q3 from fun e => hq3 (e ▸ (ha2))), R_ne (Or.inr (by decide)), R_add (show a ≠ q2 from fun e => hq2 (e ▸ (ha1))), R_at]
  have fa1 : isA (gRef (gAdd (gRef (gAdd (gRef (gAdd g q1 5 512 o 1) a 0 q1) q2 5 512 o 2) a 1 q2) q3 5 512 o 3) a 2 q3) q1 o 1 512 := ((((Gro.rfl (a := a) (P := fun _ => True)).add (k := 5) (n := 512) (o := o) (t := 3) hq3 trivial).ref (x := a) (j := 2) (v := q3) (Or.inl rfl)).isA ((((Gro.rfl (a := a) (P := fun _ => True)).add (k := 5) (n := 512) (o := o) (t := 2) hq2 trivial).ref (x := a) (j := 1) (v := q2) (Or.inl rfl)).isA isA_new))
  have fr2 : gR (gRef (gAdd (gRef (gAdd (gRef (gAdd g q1 5 512 o 1) a 0 q1) q2 5 512 o 2) a 1 q2) q3 5 512 o 3) a 2 q3) a 1 = some q2 := by rw [R_ne (Or.inr (by decide)), R_add (show a ≠ q3 from fun e => hq3 (e ▸ (ha2))), R_at]
  have fa2 : isA (gRef (gAdd (gRef (gAdd (gRef (gAdd g q1 5 512 o 1) a 0 q1) q2 5 512 o 2) a 1 q2) q3 5 512 o 3) a 2 q3) q2 o 2 512 := ((((Gro.rfl (a := a) (P := fun _ => True)).add (k := 5) (n := 512) (o := o) (t := 3) hq3 trivial).ref (x := a) (j := 2) (v := q3) (Or.inl rfl)).isA isA_new)
  have fr3 : gR (gRef (gAdd (gRef (gAdd (gRef (gAdd g q1 5 512 o 1) a 0 q1) q2 5 512 o 2) a 1 q2) q3 5 512 o 3) a 2 q3) a 2 = some q3 := by rw [R_at]
  have fa3 : isA (gRef (gAdd (gRef (gAdd (gRef (gAdd g q1 5 512 o 1) a 0 q1) q2 5 512 o 2) a 1 q2) q3 5 512 o 3) a 2 q3) q3 o 3 512 := isA_new
  exact g_nret C (Nat.le_of_ble_eq_true rfl) (Nat.le_of_ble_eq_true rfl) dX0_init_36 ⟨hG, ⟨ho, q1, q2, q3, ⟨fr1, fa1⟩, ⟨fr2, fa2⟩, ⟨fr3, fa3⟩⟩, congrArg (setp V o) (by funext t j; unfold upw z0; split <;> rfl)⟩
theorem stI_0 (V : VT) (b : Int) : stI V b 0 = V := by funext o; unfold stI; rw [if_neg (by omega)]
theorem stI_s (V : VT) (b k : Int) (hk : 0 ≤ k) : setp (stI V b k) (b + k) pgI = stI V b (k + 1) := by
  funext o
  by_cases h : o = b + k
  · subst h; rw [setp_at]; unfold stI; rw [if_pos (by omega)]
  · rw [setp_ne h]; unfold stI
    by_cases h2 : b ≤ o ∧ o < b + k
    · rw [if_pos h2, if_pos (by omega)]
    · rw [if_neg h2, if_neg (by omega)]
theorem stI_at (V : VT) (b k : Int) (h : V (b + k) = z0) : setp (stI V b k) (b + k) z0 = stI V b k := by
  have e : stI V b k (b + k) = z0 := by unfold stI; rw [if_neg (by omega)]; exact h
  rw [← e, setp_self]
set_option maxHeartbeats 4000000 in
set_option maxRecDepth 100000 in
theorem c_X2_init (l : Launch) (D : va_G) (cy : ClassId × ClassId) (g : GT) (V : VT) (a : Nat) (ob oq b : Int) (n0 : Nat) (hap : Apart g) (ho0 : isO g 2 a ob) (hfo : ∀ x ∈ gL g, gO g x ≠ oq ∧ ¬ (b ≤ gO g x ∧ gO g x < b + 96)) (hoq : ¬ (b ≤ oq ∧ oq < b + 96)) (hV : ∀ i, 0 ≤ i → i < 96 → V (b + i) = z0) : MetN l yX2_init cX2_init 2 2 481 13632 D cy g [.ref a] V n0 (fun g' V' => Gro a (fun x => x = oq ∨ (b ≤ x ∧ x < b + 96)) g g' ∧ isSt g' a b ∧ V' = stI V b 96) := by
  refine MetN.of (by decide) rfl (Nat.le_of_ble_eq_true rfl) hap ?_
  intro p_ e_ s_ m_ args_ below_ meth_ c_ C hnm hAO hA
  have loop : ∀ (n k : Nat) (gk : GT), k + n = 96 → Gro a (fun x => x = oq ∨ (b ≤ x ∧ x < b + k)) g gk → (∃ ps, ps ∉ gL g ∧ gR gk a 0 = some ps ∧ isQ gk ps 96 ∧ ∀ i : Int, 0 ≤ i → i < k → ∃ pg, gR gk ps i.toNat = some pg ∧ isPg gk pg (b + i)) → Cx p_ s_ m_ args_ meth_ c_ cX2_init 2 RX2 none D cy gk (AN g n0) → G p_ l e_ (rmn 2 481 13632) s_ m_ args_ below_ meth_ c_ 2 (1 + 5 * k) (96 + 141 * k) (MQ below_ (QcN D cy g n0 (fun g' V' => Gro a (fun x => x = oq ∨ (b ≤ x ∧ x < b + 96)) g g' ∧ isSt g' a b ∧ V' = stI V b 96)) args_ s_ 481 13632 (AN g n0)) D cy gk (AN g n0) s_.heap (stI V b k) 15 [(1, vI (k : Int)), (0, .ref a)] [] := by
    intro n
    induction n with
    | zero =>
      intro k gk hk hG hps C
      have hk9 : k = 96 := by omega
      subst hk9
      refine g_iload_n C 0 rfl dX2_init_15 ?_
      refine g_bipush C 96 rfl dX2_init_16 ?_
      refine g_icmp_ge C (by unfold rng; omega) (by unfold rng; omega) 40 dX2_init_18 (by decide) (fun c18 => ?_) (fun c18 => absurd c18 (by omega))
      obtain ⟨ps, -, h2, h3, h4⟩ := hps
      exact g_nret C (Nat.le_of_ble_eq_true rfl) (Nat.le_of_ble_eq_true rfl) dX2_init_40 ⟨hG, ⟨⟨ob, hG.isO ho0⟩, ps, h2, h3, h4⟩, rfl⟩
    | succ n ih =>
      intro k gk hk hG hps C
      obtain ⟨ps, h1, h2, h3, h4⟩ := hps
      have hok := hG.isO ho0
      have hfk : ∀ x ∈ gL gk, gO gk x ≠ b + k := by
        intro x hx e
        rcases hG.2 x hx with z | z
        · have e2 := (hG.1 x z).2.2.2.1
          have := hfo x z
          omega
        · omega
      have hz : stI V b k (b + k) = z0 := by unfold stI; rw [if_neg (by omega)]; exact hV k (by omega) (by omega)
      refine g_iload_n C 0 rfl dX2_init_15 ?_
      refine g_bipush C 96 rfl dX2_init_16 ?_
      refine g_icmp_ge C (by unfold rng; omega) (by unfold rng; omega) 40 dX2_init_18 (by decide) (fun c18 => absurd c18 (by omega)) (fun c18 => ?_)
      refine g_aload_n C 1 rfl dX2_init_21 ?_
      refine gf_Store_pages C hok h2 lf_X2_11 dX2_init_22 ?_
      refine g_iload_n C 0 rfl dX2_init_25 ?_
      refine gn_Page C hA lc_29 (b + k) (fun x hx z => hfk x hx z.1) (fun j => by rw [hz]; rfl) (by simp only [rmn]; omega) (by simp only [rmn]; omega) dX2_init_26 ?_
      intro q hq hAq C
      have hG1 : Gro a (fun x => x = b + k) gk (gAdd gk q 1 0 (b + k) 0) := Gro.rfl.add hq rfl
      have hqa : q ≠ a := fun e => hq (e ▸ hok.1)
      have hqp : q ≠ ps := fun e => hq (e ▸ h3.1)
      have hq0 : q ∉ gL g := fun e => hq (hG.1 q e).1
      have hap9 : a ≠ ps := fun e => by have z1 := hok.2.1; have z2 := h3.2.1; rw [e] at z1; omega
      refine g_dupR C dX2_init_29 ?_
      refine g_V (stI_at V b k (hV k (by omega) (by omega))).symm ?_
      refine g_callNN C hA hAO [.ref q, vI (k : Int), .ref ps] (fun n9 => c_X1_init l D cy (gAdd gk q 1 0 (b + k) 0) (stI V b k) q (b + k) n9 C.2.2.2.1 isO_new (fun x hx e => ?_)) lki_X2_17 (Nat.le_of_ble_eq_true rfl) ⟨(Nat.le_of_ble_eq_true rfl), (Nat.le_of_ble_eq_true rfl)⟩ ⟨(by simp only [rmn]; omega), (by simp only [rmn]; omega)⟩ dX2_init_30 ?_
      · by_cases hx9 : x = q
        · exact hx9
        · exfalso
          have eO : gO (gAdd gk q 1 0 (b + k) 0) x = gO gk x := if_neg hx9
          rw [eO] at e
          rcases List.mem_append.mp hx with z | z
          · exact hfk x z e
          · exact hx9 (List.mem_singleton.mp z)
      rintro g2 V2 ⟨hG2, hpg, rfl⟩ C
      have hq2 : isQ g2 ps 96 := hG2.isQ (hG1.isQ h3)
      refine g_aast C hq2 ⟨by omega, by omega⟩ (by decide) hpg.1 dX2_init_33 ?_
      intro C
      refine g_iinc C [(1, vI ((k : Int) + 1)), (0, .ref a)] 0 rfl dX2_init_34 (by decide) rfl ?_
      refine g_goto C 15 dX2_init_37 (by decide) ?_
      refine g_V (stI_s V b k (by omega)) ?_
      have e1 : 1 + 5 * k + 1 + 4 = 1 + 5 * (k + 1) := by omega
      have e2 : 96 + 141 * k + 13 + 128 = 96 + 141 * (k + 1) := by omega
      rw [e1, e2]
      have hGN : Gro q (fun x => x = b + k) gk (gAdd gk q 1 0 (b + k) 0) := Gro.rfl.add hq rfl
      have hGr : Gro ps (fun _ => True) g2 (gRef g2 ps ((k : Int)).toNat q) := Gro.rfl.ref (Or.inl rfl)
      have hRa : gR (gRef g2 ps ((k : Int)).toNat q) a 0 = some ps := by
        rw [R_ne (Or.inl hap9)]
        exact hG2.R (hG1.isO hok).1 (fun e => hqa e.symm) ((R_add (fun e => hqa e.symm)).trans h2)
      refine ih (k + 1) _ (by omega) ?_ ⟨ps, h1, hRa, hGr.isQ hq2, ?_⟩ C
      · refine Gro.ref (Gro.trans (Gro.trans (hG.mono (fun o z => ?_)) hG1 (Or.inl rfl) (fun o z => ?_)) hG2 (Or.inr hq0) (fun o z => ?_)) (Or.inr h1)
        · rcases z with z | z
          · exact Or.inl z
          · exact Or.inr (by omega)
        · exact Or.inr (by omega)
        · exact Or.inr (by omega)
      · intro i i1 i2
        by_cases hi : i = k
        · subst hi
          exact ⟨q, R_at, hGr.isPg hpg (fun e => hqp e)⟩
        · obtain ⟨pg, e3, e4⟩ := h4 i i1 (by omega)
          have hpq : pg ≠ q := fun e => hq (e ▸ e4.1.1)
          have hpp : pg ≠ ps := fun e => by have z1 := e4.1.2.1; have z2 := h3.2.1; rw [e] at z1; omega
          refine ⟨pg, ?_, hGr.isPg (hG2.isPg (hGN.isPg e4 hpq) hpq) hpp⟩
          rw [R_ne (Or.inr (by omega))]
          exact hG2.R (hG1.isQ h3).1 (fun e => hqp e.symm) ((R_add (fun e => hqp e.symm)).trans e3)
  refine g_aload_n C 0 rfl dX2_init_0 ?_
  refine g_objI C lo_X2 (Nat.le_of_ble_eq_true rfl) (Nat.le_of_ble_eq_true rfl) dX2_init_1 ?_
  refine g_aload_n C 0 rfl dX2_init_4 ?_
  refine g_bipush C 96 rfl dX2_init_5 ?_
  refine g_newQ C hA hAO lc_29 oq 96 (by decide) (fun x hx z => (hfo x hx).1 z.1) (Nat.le_of_ble_eq_true rfl) (Nat.le_of_ble_eq_true rfl) dX2_init_7 ?_
  intro ps hps hAps C
  have hG1 : Gro a (fun x => x = oq ∨ (b ≤ x ∧ x < b + (0 : Nat))) g (gAdd g ps 6 96 oq 0) := Gro.rfl.add hps (Or.inl rfl)
  refine gr_Store_pages C hnm (hG1.isO ho0) lf_X2_11 rfl dX2_init_10 ?_
  intro C
  refine g_iconst C 0 rfl dX2_init_13 ?_
  refine g_istore_n C [(1, vI 0), (0, .ref a)] dX2_init_14 rfl (by decide) rfl ?_
  refine g_V (stI_0 V b).symm ?_
  exact loop 96 0 _ (by omega) (hG1.ref (Or.inl rfl)) ⟨ps, hps, R_at, isQ_new, fun i i1 i2 => absurd i2 (by omega)⟩ C
