theorem setp_z {V : VT} {o : Int} (h : V o = z0) : setp V o z0 = V := by rw [← h, setp_self]
theorem O_add {g : GT} {q k n : Nat} {o t : Int} {P : Int → Prop} (h : ∀ x ∈ gL g, P (gO g x)) (ho : P o) : ∀ x ∈ gL (gAdd g q k n o t), P (gO (gAdd g q k n o t) x) := by
  intro x hx
  by_cases hne : x = q
  · have e : gO (gAdd g q k n o t) x = o := if_pos hne
    rw [e]; exact ho
  · have e : gO (gAdd g q k n o t) x = gO g x := if_neg hne
    rw [e]
    rcases List.mem_append.mp hx with z | z
    · exact h x z
    · exact absurd (List.mem_singleton.mp z) hne
theorem O_gro {a : Nat} {g g' : GT} {P P' : Int → Prop} (hG : Gro a P' g g') (h : ∀ x ∈ gL g, P (gO g x)) (hP : ∀ o, P' o → P o) : ∀ x ∈ gL g', P (gO g' x) := by
  intro x hx
  rcases hG.2 x hx with z | z
  · rw [(hG.1 x z).2.2.2.1]; exact h x z
  · exact hP _ z
def V0 : VT := fun _ _ _ => 0
def VI : VT := stI (stI V0 0 96) 96 96
theorem mI_1 (k : Int) (hk : 0 ≤ k ∧ k < 96) : upw (mI k 0) 1 (192 + k) (-1) = mI (k + 1) 0 := by
  funext t j
  unfold upw mI
  by_cases h : t = 1 ∧ j = 192 + k
  · rw [if_pos h, if_pos ⟨h.1, Or.inl (by omega)⟩]
  · rw [if_neg h]
    by_cases h2 : t = 1 ∧ ((192 ≤ j ∧ j < 192 + k) ∨ (6528 ≤ j ∧ j < 6528 + 0) ∨ (15744 ≤ j ∧ j < 15744 + 0))
    · rw [if_pos h2, if_pos (by omega)]
    · rw [if_neg h2, if_neg (by omega)]
theorem mI_2 (k : Int) (hk : 0 ≤ k ∧ k < 3072) : upw (upw (mI 96 k) 1 (6528 + k) (-1)) 1 (15744 + k) (-1) = mI 96 (k + 1) := by
  funext t j
  unfold upw mI
  by_cases h : t = 1 ∧ j = 15744 + k
  · rw [if_pos h, if_pos ⟨h.1, Or.inr (Or.inr (by omega))⟩]
  · rw [if_neg h]
    by_cases h1 : t = 1 ∧ j = 6528 + k
    · rw [if_pos h1, if_pos ⟨h1.1, Or.inr (Or.inl (by omega))⟩]
    · rw [if_neg h1]
      by_cases h2 : t = 1 ∧ ((192 ≤ j ∧ j < 192 + 96) ∨ (6528 ≤ j ∧ j < 6528 + k) ∨ (15744 ≤ j ∧ j < 15744 + k))
      · rw [if_pos h2, if_pos (by omega)]
      · rw [if_neg h2, if_neg (by omega)]
theorem mI_0 : mI 0 0 = z0 := by
  funext t j
  unfold mI z0
  rw [if_neg (by omega)]
def mInit : Int → Int → Int := updt (mI 96 3072) 2 (mI 96 3072 1)
set_option maxHeartbeats 4000000 in
set_option maxRecDepth 100000 in
theorem c_X3_init (l : Launch) (D : va_G) (cy : ClassId × ClassId) (g : GT) (a : Nat) (n0 : Nat) (hap : Apart g) (ho0 : isO g 3 a 193) (hf : ∀ x ∈ gL g, gO g x = 193) : MetN l yX3_init cX3_init 1 3 968 28806 D cy g [.ref a] V0 n0 (fun g' V' => isSf g' a ∧ V' = VI ∧ ∀ x ∈ gL g', gO g' x < 194 ∨ 200 ≤ gO g' x) := by
  refine MetN.of (by decide) rfl (Nat.le_of_ble_eq_true rfl) hap ?_
  intro p_ e_ s_ m_ args_ below_ meth_ c_ C hnm hAO hA
  refine g_aload_n C 0 rfl dX3_init_0 ?_
  refine g_objI C lo_X3 (Nat.le_of_ble_eq_true rfl) (Nat.le_of_ble_eq_true rfl) dX3_init_1 ?_
  refine g_aload_n C 0 rfl dX3_init_4 ?_
  refine gn_Store C hA lc_39 200 (fun x hx z => by have := hf x hx; omega) (fun j => rfl) (Nat.le_of_ble_eq_true rfl) (Nat.le_of_ble_eq_true rfl) dX3_init_5 ?_
  intro q1 hq1 hA1 C
  have a1 : Gro a (fun _ => True) g (gAdd g q1 2 0 200 0) := Gro.rfl.add hq1 trivial
  have o1 := a1.isO ho0
  have n1 : a ≠ q1 := fun e => hq1 (e ▸ ho0.1)
  have hO1 : ∀ x ∈ gL (gAdd g q1 2 0 200 0), (fun y => y = 193 ∨ y = 200) (gO (gAdd g q1 2 0 200 0) x) := O_add (P := fun y => y = 193 ∨ y = 200) (fun x hx => Or.inl (hf x hx)) (Or.inr rfl)
  refine g_dupR C dX3_init_8 ?_
  refine g_callN C hA hAO [.ref q1, .ref a] (fun n9 => c_X2_init l D cy (gAdd g q1 2 0 200 0) V0 q1 200 201 0 n9 C.2.2.2.1 isO_new (fun x hx => by have := hO1 x hx; omega) (by omega) (fun i _ _ => rfl)) lki_X3_11 (Nat.le_of_ble_eq_true rfl) ⟨(Nat.le_of_ble_eq_true rfl), (Nat.le_of_ble_eq_true rfl)⟩ ⟨(Nat.le_of_ble_eq_true rfl), (Nat.le_of_ble_eq_true rfl)⟩ dX3_init_9 ?_
  rintro g2 V2 ⟨hG2, hs2, rfl⟩ C
  have o2 := hG2.isO o1
  have k1 : isO g2 2 q1 200 := hG2.isO isO_new
  have hO2 : ∀ x ∈ gL g2, (fun y => y = 193 ∨ y = 200 ∨ y = 201 ∨ (0 ≤ y ∧ y < 96)) (gO g2 x) := O_gro (P := fun y => y = 193 ∨ y = 200 ∨ y = 201 ∨ (0 ≤ y ∧ y < 96)) hG2 (fun x hx => by have := hO1 x hx; omega) (fun o z => by omega)
  refine gr_Sf_live C hnm o2 lf_X3_12 rfl dX3_init_12 ?_
  intro C
  have b2 : Gro a (fun _ => True) g2 (gRef g2 a 0 q1) := Gro.rfl.ref (Or.inl rfl)
  have o3 := b2.isO o2
  have s3 : isSt (gRef g2 a 0 q1) q1 0 := b2.isSt hs2 (by have := o2.2.1; omega) (fun e => n1 e.symm)
  have r3 : gR (gRef g2 a 0 q1) a 0 = some q1 := R_at
  have k3 : isO (gRef g2 a 0 q1) 2 q1 200 := k1
  have hO3 : ∀ x ∈ gL (gRef g2 a 0 q1), (fun y => y = 193 ∨ y = 200 ∨ y = 201 ∨ (0 ≤ y ∧ y < 96)) (gO (gRef g2 a 0 q1) x) := hO2
  generalize gRef g2 a 0 q1 = g3 at *
  refine g_aload_n C 0 rfl dX3_init_15 ?_
  refine gn_Store C hA lc_39 202 (fun x hx z => by have := hO3 x hx; omega) (fun j => by unfold stI; rw [if_neg (by omega)]; rfl) (Nat.le_of_ble_eq_true rfl) (Nat.le_of_ble_eq_true rfl) dX3_init_16 ?_
  intro q2 hq2 hA2 C
  have a4 : Gro a (fun _ => True) g3 (gAdd g3 q2 2 0 202 0) := Gro.rfl.add hq2 trivial
  have n2 : a ≠ q2 := fun e => hq2 (e ▸ o3.1)
  have m2 : q1 ≠ q2 := fun e => hq2 (e ▸ k3.1)
  have s4 := a4.isSt s3 (by have := o3.2.1; omega) (fun e => n1 e.symm)
  have r4 : gR (gAdd g3 q2 2 0 202 0) a 0 = some q1 := (R_add n2).trans r3
  have o4 := a4.isO o3
  have hO4 : ∀ x ∈ gL (gAdd g3 q2 2 0 202 0), (fun y => y = 193 ∨ y = 200 ∨ y = 201 ∨ y = 202 ∨ (0 ≤ y ∧ y < 96)) (gO (gAdd g3 q2 2 0 202 0) x) := O_add (P := fun y => y = 193 ∨ y = 200 ∨ y = 201 ∨ y = 202 ∨ (0 ≤ y ∧ y < 96)) (fun x hx => by have := hO3 x hx; omega) (by omega)
  have k4 : isO (gAdd g3 q2 2 0 202 0) 2 q2 202 := isO_new
  generalize gAdd g3 q2 2 0 202 0 = g4 at *
  refine g_dupR C dX3_init_19 ?_
  refine g_callN C hA hAO [.ref q2, .ref a] (fun n9 => c_X2_init l D cy g4 (stI V0 0 96) q2 202 203 96 n9 C.2.2.2.1 k4 (fun x hx => by have := hO4 x hx; omega) (by omega) (fun i _ _ => by unfold stI; rw [if_neg (by omega)]; rfl)) lki_X3_11 (Nat.le_of_ble_eq_true rfl) ⟨(Nat.le_of_ble_eq_true rfl), (Nat.le_of_ble_eq_true rfl)⟩ ⟨(Nat.le_of_ble_eq_true rfl), (Nat.le_of_ble_eq_true rfl)⟩ dX3_init_20 ?_
  rintro g5 V5 ⟨hG5, hs5, rfl⟩ C
  have o5 := hG5.isO o4
  have k5 : isO g5 2 q2 202 := hG5.isO k4
  have s5 := hG5.isSt s4 (by have := k4.2.1; omega) m2
  have r5 := hG5.R o4.1 n2 r4
  have hO5 : ∀ x ∈ gL g5, (fun y => y = 193 ∨ y = 200 ∨ y = 201 ∨ y = 202 ∨ y = 203 ∨ (0 ≤ y ∧ y < 192)) (gO g5 x) := O_gro (P := fun y => y = 193 ∨ y = 200 ∨ y = 201 ∨ y = 202 ∨ y = 203 ∨ (0 ≤ y ∧ y < 192)) hG5 (fun x hx => by have := hO4 x hx; omega) (fun o z => by omega)
  refine gr_Sf_synced C hnm o5 lf_X3_16 rfl dX3_init_23 ?_
  intro C
  have b6 : Gro a (fun _ => True) g5 (gRef g5 a 1 q2) := Gro.rfl.ref (Or.inl rfl)
  have o6 := b6.isO o5
  have s6 := b6.isSt s5 (by have := o5.2.1; omega) (fun e => n1 e.symm)
  have t6 := b6.isSt hs5 (by have := o5.2.1; omega) (fun e => n2 e.symm)
  have r6 : gR (gRef g5 a 1 q2) a 0 = some q1 := (R_ne (Or.inr (by decide))).trans r5
  have u6 : gR (gRef g5 a 1 q2) a 1 = some q2 := R_at
  have k6 : isO (gRef g5 a 1 q2) 2 q2 202 := k5
  have j6 : q1 ∈ gL (gRef g5 a 1 q2) := s6.1.choose_spec.1
  have hO6 : ∀ x ∈ gL (gRef g5 a 1 q2), (fun y => y = 193 ∨ y = 200 ∨ y = 201 ∨ y = 202 ∨ y = 203 ∨ (0 ≤ y ∧ y < 192)) (gO (gRef g5 a 1 q2) x) := hO5
  generalize gRef g5 a 1 q2 = g6 at *
  refine g_V (show _ = VI from rfl) ?_
  refine g_aload_n C 0 rfl dX3_init_26 ?_
  refine gn_Log C hA lc_319 192 (fun x hx z => by have := hO6 x hx; omega) (fun j => by unfold VI stI; rw [if_neg (by omega), if_neg (by omega)]; rfl) (Nat.le_of_ble_eq_true rfl) (Nat.le_of_ble_eq_true rfl) dX3_init_27 ?_
  intro q3 hq3 hA3 C
  have a7 : Gro a (fun _ => True) g6 (gAdd g6 q3 0 0 192 0) := Gro.rfl.add hq3 trivial
  have n3 : a ≠ q3 := fun e => hq3 (e ▸ o6.1)
  have m3 : q1 ≠ q3 := fun e => hq3 (e ▸ j6)
  have l3 : q2 ≠ q3 := fun e => hq3 (e ▸ k6.1)
  have s7 := a7.isSt s6 (by have := o6.2.1; omega) (fun e => n1 e.symm)
  have t7 := a7.isSt t6 (by have := o6.2.1; omega) (fun e => n2 e.symm)
  have r7 : gR (gAdd g6 q3 0 0 192 0) a 0 = some q1 := (R_add n3).trans r6
  have u7 : gR (gAdd g6 q3 0 0 192 0) a 1 = some q2 := (R_add n3).trans u6
  have o7 := a7.isO o6
  have k7 : isO (gAdd g6 q3 0 0 192 0) 0 q3 192 := isO_new
  have f7 : ∀ b ∈ gL (gAdd g6 q3 0 0 192 0), gO (gAdd g6 q3 0 0 192 0) b = 192 → b = q3 := by
    intro x hx e9
    by_cases hx9 : x = q3
    · exact hx9
    · exfalso
      have eO : gO (gAdd g6 q3 0 0 192 0) x = gO g6 x := if_neg hx9
      rw [eO] at e9
      rcases List.mem_append.mp hx with z | z
      · have := hO6 x z; omega
      · exact hx9 (List.mem_singleton.mp z)
  have hO7 : ∀ x ∈ gL (gAdd g6 q3 0 0 192 0), (fun y => y < 194 ∨ 200 ≤ y) (gO (gAdd g6 q3 0 0 192 0) x) := O_add (P := fun y => y < 194 ∨ 200 ≤ y) (fun x hx => by have := hO6 x hx; omega) (by omega)
  generalize gAdd g6 q3 0 0 192 0 = g7 at *
  refine g_dupR C dX3_init_30 ?_
  have hz : VI 192 = z0 := by unfold VI stI; rw [if_neg (by omega), if_neg (by omega)]; rfl
  refine g_V (setp_z hz).symm ?_
  refine g_callNN C hA hAO [.ref q3, .ref a] (fun n9 => c_X0_init l D cy g7 VI q3 192 n9 C.2.2.2.1 k7 f7) lki_X3_21 (Nat.le_of_ble_eq_true rfl) ⟨(Nat.le_of_ble_eq_true rfl), (Nat.le_of_ble_eq_true rfl)⟩ ⟨(Nat.le_of_ble_eq_true rfl), (Nat.le_of_ble_eq_true rfl)⟩ dX3_init_31 ?_
  rintro g8 V8 ⟨hG8, hl8, rfl⟩ C
  refine g_V (setp_z hz) ?_
  have o8 := hG8.isO o7
  have s8 := hG8.isSt s7 (by have := k7.2.1; omega) m3
  have t8 := hG8.isSt t7 (by have := k7.2.1; omega) l3
  have r8 := hG8.R o7.1 n3 r7
  have u8 := hG8.R o7.1 n3 u7
  have hO8 : ∀ x ∈ gL g8, (fun y => y < 194 ∨ 200 ≤ y) (gO g8 x) := O_gro (P := fun y => y < 194 ∨ 200 ≤ y) hG8 hO7 (fun o z => by omega)
  refine gr_Sf_log C hnm o8 lf_X3_22 rfl dX3_init_34 ?_
  intro C
  have b9 : Gro a (fun _ => True) g8 (gRef g8 a 2 q3) := Gro.rfl.ref (Or.inl rfl)
  have o9 := b9.isO o8
  refine g_aload_n C 0 rfl dX3_init_37 ?_
  refine g_iconst C 0 rfl dX3_init_38 ?_
  refine gp_Sf_crashes C o9 lf_X3_26 dX3_init_39 ?_
  refine g_V (show up VI 193 0 3 0 = VI from ?_) ?_
  · funext x y z
    unfold up
    split
    · rename_i h9
      obtain ⟨rfl, rfl, rfl⟩ := h9
      unfold VI stI; rw [if_neg (by omega), if_neg (by omega)]; rfl
    · rfl
  exact g_nret C (Nat.le_of_ble_eq_true rfl) (Nat.le_of_ble_eq_true rfl) dX3_init_42 ⟨⟨o9, q1, q2, q3, ⟨(R_ne (Or.inr (by decide))).trans r8, b9.isSt s8 (by have := o8.2.1; omega) (fun e => n1 e.symm)⟩, ⟨(R_ne (Or.inr (by decide))).trans u8, b9.isSt t8 (by have := o8.2.1; omega) (fun e => n2 e.symm)⟩, ⟨R_at, b9.isLg hl8 (fun e => n3 e.symm)⟩⟩, rfl, hO8⟩
set_option maxHeartbeats 4000000 in
set_option maxRecDepth 100000 in
theorem c_X4_init (l : Launch) (D : va_G) (cy : ClassId × ClassId) (g : GT) (V : VT) (a : Nat) (o : Int) (n0 : Nat) (hap : Apart g) (ho0 : isO g 4 a o) (hf : ∀ b ∈ gL g, gO g b = o → b = a) : MetN l yX4_init cX4_init 2 1 3 53632 D cy g [.ref a] (setp V o z0) n0 (fun g' V' => Gro a (fun x => x = o) g g' ∧ isMod g' a o ∧ V' = setp V o mInit) := by
  have hT : gT g a = 0 := ho0.2.2.2
  have hft : ∀ t : Int, t ≠ 0 → ∀ b ∈ gL g, ¬ (gO g b = o ∧ gT g b = t) := fun t ht b hb z => ht (by rw [← z.2, hf b hb z.1]; exact hT)
  have hf1 := hft 1 (by decide)
  have hf2 := hft 2 (by decide)
  have hf3 := hft 3 (by decide)
  have hG : Gro a (fun x => x = o) g g := Gro.rfl
  have ho := ho0
  refine MetN.of (by decide) rfl (Nat.le_of_ble_eq_true rfl) hap ?_
  intro p_ e_ s_ m_ args_ below_ meth_ c_ C hnm hAO hA
  refine g_aload_n C 0 rfl dX4_init_0 ?_
  refine g_objI C lo_X4 (Nat.le_of_ble_eq_true rfl) (Nat.le_of_ble_eq_true rfl) dX4_init_1 ?_
  refine g_aload_n C 0 rfl dX4_init_4 ?_
  refine g_sipush C 18816 rfl dX4_init_5 ?_
  refine g_newI C hA o 1 18816 (by decide) hf1 (fun j => by rw [setp_at]; rfl) (Nat.le_of_ble_eq_true rfl) (Nat.le_of_ble_eq_true rfl) dX4_init_8 ?_
  intro q1 hq1 hAq1 C
  have ha1 : a ∈ _ := isO_in (show isO _ 4 a o from (hG.add (k := 5) (n := 18816) (t := 1) hq1 rfl).isO ho0)
  have hG := hG.add (k := 5) (n := 18816) (t := 1) hq1 rfl
  have ho := hG.isO ho0
  have hf2 := fr_add (q := q1) (k := 5) (n := 18816) (o' := o) (t' := 1) hf2 (Or.inr (by decide))
  have hf3 := fr_add (q := q1) (k := 5) (n := 18816) (o' := o) (t' := 1) hf3 (Or.inr (by decide))
  refine gr_Mod_d C hnm ho lf_X4_7 rfl dX4_init_10 ?_
  intro C
  have hG := hG.ref (x := a) (j := 0) (v := q1) (Or.inl rfl)
  have ho := hG.isO ho0
  refine g_aload_n C 0 rfl dX4_init_13 ?_
  refine g_sipush C 18816 rfl dX4_init_14 ?_
  refine g_newI C hA o 2 18816 (by decide) hf2 (fun j => by rw [setp_at]; rfl) (Nat.le_of_ble_eq_true rfl) (Nat.le_of_ble_eq_true rfl) dX4_init_17 ?_
  intro q2 hq2 hAq2 C
  have ha2 : a ∈ _ := isO_in (show isO _ 4 a o from (hG.add (k := 5) (n := 18816) (t := 2) hq2 rfl).isO ho0)
  have hG := hG.add (k := 5) (n := 18816) (t := 2) hq2 rfl
  have ho := hG.isO ho0
  have hf3 := fr_add (q := q2) (k := 5) (n := 18816) (o' := o) (t' := 2) hf3 (Or.inr (by decide))
  refine gr_Mod_synced C hnm ho lf_X4_13 rfl dX4_init_19 ?_
  intro C
  have hG := hG.ref (x := a) (j := 1) (v := q2) (Or.inl rfl)
  have ho := hG.isO ho0
  refine g_aload_n C 0 rfl dX4_init_22 ?_
  refine g_sipush C 16000 rfl dX4_init_23 ?_
  refine g_newI C hA o 3 16000 (by decide) hf3 (fun j => by rw [setp_at]; rfl) (Nat.le_of_ble_eq_true rfl) (Nat.le_of_ble_eq_true rfl) dX4_init_26 ?_
  intro q3 hq3 hAq3 C
  have ha3 : a ∈ _ := isO_in (show isO _ 4 a o from (hG.add (k := 5) (n := 16000) (t := 3) hq3 rfl).isO ho0)
  have hG := hG.add (k := 5) (n := 16000) (t := 3) hq3 rfl
  have ho := hG.isO ho0
  refine gr_Mod_changes C hnm ho lf_X4_16 rfl dX4_init_28 ?_
  intro C
  have hG := hG.ref (x := a) (j := 2) (v := q3) (Or.inl rfl)
  have ho := hG.isO ho0
  have fr1 : gR (gRef (gAdd (gRef (gAdd (gRef (gAdd g q1 5 18816 o 1) a 0 q1) q2 5 18816 o 2) a 1 q2) q3 5 16000 o 3) a 2 q3) a 0 = some q1 := by rw [R_ne (Or.inr (by decide)), R_add (show a ≠ q3 from fun e => hq3 (e ▸ (ha2))), R_ne (Or.inr (by decide)), R_add (show a ≠ q2 from fun e => hq2 (e ▸ (ha1))), R_at]
  have fa1 : isA (gRef (gAdd (gRef (gAdd (gRef (gAdd g q1 5 18816 o 1) a 0 q1) q2 5 18816 o 2) a 1 q2) q3 5 16000 o 3) a 2 q3) q1 o 1 18816 := ((((Gro.rfl (a := a) (P := fun _ => True)).add (k := 5) (n := 16000) (o := o) (t := 3) hq3 trivial).ref (x := a) (j := 2) (v := q3) (Or.inl rfl)).isA ((((Gro.rfl (a := a) (P := fun _ => True)).add (k := 5) (n := 18816) (o := o) (t := 2) hq2 trivial).ref (x := a) (j := 1) (v := q2) (Or.inl rfl)).isA isA_new))
  have fr2 : gR (gRef (gAdd (gRef (gAdd (gRef (gAdd g q1 5 18816 o 1) a 0 q1) q2 5 18816 o 2) a 1 q2) q3 5 16000 o 3) a 2 q3) a 1 = some q2 := by rw [R_ne (Or.inr (by decide)), R_add (show a ≠ q3 from fun e => hq3 (e ▸ (ha2))), R_at]
  have fa2 : isA (gRef (gAdd (gRef (gAdd (gRef (gAdd g q1 5 18816 o 1) a 0 q1) q2 5 18816 o 2) a 1 q2) q3 5 16000 o 3) a 2 q3) q2 o 2 18816 := ((((Gro.rfl (a := a) (P := fun _ => True)).add (k := 5) (n := 16000) (o := o) (t := 3) hq3 trivial).ref (x := a) (j := 2) (v := q3) (Or.inl rfl)).isA isA_new)
  have fr3 : gR (gRef (gAdd (gRef (gAdd (gRef (gAdd g q1 5 18816 o 1) a 0 q1) q2 5 18816 o 2) a 1 q2) q3 5 16000 o 3) a 2 q3) a 2 = some q3 := by rw [R_at]
  have fa3 : isA (gRef (gAdd (gRef (gAdd (gRef (gAdd g q1 5 18816 o 1) a 0 q1) q2 5 18816 o 2) a 1 q2) q3 5 16000 o 3) a 2 q3) q3 o 3 16000 := isA_new
  generalize (gRef (gAdd (gRef (gAdd (gRef (gAdd g q1 5 18816 o 1) a 0 q1) q2 5 18816 o 2) a 1 q2) q3 5 16000 o 3) a 2 q3) = gM at *
  have hmod : isMod gM a o := ⟨ho, q1, q2, q3, ⟨fr1, fa1⟩, ⟨fr2, fa2⟩, ⟨fr3, fa3⟩⟩
  have loop2 : ∀ (n k : Nat), k + n = 3072 → G p_ l e_ (rmn 1 3 53632) s_ m_ args_ below_ meth_ c_ 2 3 53632 (MQ below_ (QcN D cy g n0 (fun g' V' => Gro a (fun x => x = o) g g' ∧ isMod g' a o ∧ V' = setp V o mInit)) args_ s_ 3 53632 (AN g n0)) D cy gM (AN g n0) s_.heap (setp V o (mI 96 k)) 58 [(1, vI (k : Int)), (0, .ref a)] [] := by
    intro n
    induction n with
    | zero =>
      intro k hk
      have hk9 : k = 3072 := by omega
      subst hk9
      refine g_iload_n C 0 rfl dX4_init_58 ?_
      refine g_sipush C 3072 rfl dX4_init_59 ?_
      refine g_icmp_ge C (by unfold rng; omega) (by unfold rng; omega) 93 dX4_init_62 (by decide) (fun c62 => ?_) (fun c62 => absurd c62 (by omega))
      refine g_aload_n C 1 rfl dX4_init_93 ?_
      refine gf_Mod_d C ho fr1 lf_X4_7 dX4_init_94 ?_
      refine g_aload_n C 1 rfl dX4_init_97 ?_
      refine gf_Mod_synced C ho fr2 lf_X4_13 dX4_init_98 ?_
      refine g_callSV C [.ref q1, .ref q2] [] (c_X4_copy l D cy gM V (mI 96 3072) q1 q2 o 1 2 C.2.2.2.1 fa1 fa2 (by decide)) lm_X4_19 rfl (Nat.le_of_ble_eq_true rfl) ⟨(Nat.le_of_ble_eq_true rfl), (Nat.le_of_ble_eq_true rfl)⟩ ⟨(Nat.le_of_ble_eq_true rfl), (Nat.le_of_ble_eq_true rfl)⟩ dX4_init_101 ?_
      rintro _ rfl
      exact g_nret C (Nat.le_of_ble_eq_true rfl) (Nat.le_of_ble_eq_true rfl) dX4_init_104 ⟨hG, hmod, rfl⟩
    | succ n ih =>
      intro k hk
      refine g_iload_n C 0 rfl dX4_init_58 ?_
      refine g_sipush C 3072 rfl dX4_init_59 ?_
      refine g_icmp_ge C (by unfold rng; omega) (by unfold rng; omega) 93 dX4_init_62 (by decide) (fun c62 => absurd c62 (by omega)) (fun c62 => ?_)
      refine g_aload_n C 1 rfl dX4_init_65 ?_
      refine gf_Mod_d C ho fr1 lf_X4_7 dX4_init_66 ?_
      refine g_sipush C 6528 rfl dX4_init_69 ?_
      refine g_iload_n C 0 rfl dX4_init_72 ?_
      refine g_iadd C dX4_init_73 ?_
      refine g_iconst C (-1) rfl dX4_init_74 ?_
      refine s_iast C fa1 ⟨by omega, by omega⟩ (by decide) dX4_init_75 ?_
      refine g_aload_n C 1 rfl dX4_init_76 ?_
      refine gf_Mod_d C ho fr1 lf_X4_7 dX4_init_77 ?_
      refine g_sipush C 15744 rfl dX4_init_80 ?_
      refine g_iload_n C 0 rfl dX4_init_83 ?_
      refine g_iadd C dX4_init_84 ?_
      refine g_iconst C (-1) rfl dX4_init_85 ?_
      refine s_iast C fa1 ⟨by omega, by omega⟩ (by decide) dX4_init_86 ?_
      refine g_iinc C [(1, vI ((k : Int) + 1)), (0, .ref a)] 0 rfl dX4_init_87 (by decide) rfl ?_
      refine g_goto C 58 dX4_init_90 (by decide) ?_
      refine g_V (congrArg (setp V o) (mI_2 k (by omega))) ?_
      exact ih (k + 1) (by omega)
  have loop1 : ∀ (n k : Nat), k + n = 96 → G p_ l e_ (rmn 1 3 53632) s_ m_ args_ below_ meth_ c_ 2 3 53632 (MQ below_ (QcN D cy g n0 (fun g' V' => Gro a (fun x => x = o) g g' ∧ isMod g' a o ∧ V' = setp V o mInit)) args_ s_ 3 53632 (AN g n0)) D cy gM (AN g n0) s_.heap (setp V o (mI k 0)) 33 [(1, vI (k : Int)), (0, .ref a)] [] := by
    intro n
    induction n with
    | zero =>
      intro k hk
      have hk9 : k = 96 := by omega
      subst hk9
      refine g_iload_n C 0 rfl dX4_init_33 ?_
      refine g_bipush C 96 rfl dX4_init_34 ?_
      refine g_icmp_ge C (by unfold rng; omega) (by unfold rng; omega) 56 dX4_init_36 (by decide) (fun c36 => ?_) (fun c36 => absurd c36 (by omega))
      refine g_iconst C 0 rfl dX4_init_56 ?_
      refine g_istore_n C [(1, vI 0), (0, .ref a)] dX4_init_57 rfl (by decide) rfl ?_
      exact loop2 3072 0 (by omega)
    | succ n ih =>
      intro k hk
      refine g_iload_n C 0 rfl dX4_init_33 ?_
      refine g_bipush C 96 rfl dX4_init_34 ?_
      refine g_icmp_ge C (by unfold rng; omega) (by unfold rng; omega) 56 dX4_init_36 (by decide) (fun c36 => absurd c36 (by omega)) (fun c36 => ?_)
      refine g_aload_n C 1 rfl dX4_init_39 ?_
      refine gf_Mod_d C ho fr1 lf_X4_7 dX4_init_40 ?_
      refine g_sipush C 192 rfl dX4_init_43 ?_
      refine g_iload_n C 0 rfl dX4_init_46 ?_
      refine g_iadd C dX4_init_47 ?_
      refine g_iconst C (-1) rfl dX4_init_48 ?_
      refine s_iast C fa1 ⟨by omega, by omega⟩ (by decide) dX4_init_49 ?_
      refine g_iinc C [(1, vI ((k : Int) + 1)), (0, .ref a)] 0 rfl dX4_init_50 (by decide) rfl ?_
      refine g_goto C 33 dX4_init_53 (by decide) ?_
      refine g_V (congrArg (setp V o) (mI_1 k (by omega))) ?_
      exact ih (k + 1) (by omega)
  refine g_iconst C 0 rfl dX4_init_31 ?_
  refine g_istore_n C [(1, vI 0), (0, .ref a)] dX4_init_32 rfl (by decide) rfl ?_
  refine g_V (congrArg (setp V o) mI_0.symm) ?_
  exact loop1 96 0 (by omega)
