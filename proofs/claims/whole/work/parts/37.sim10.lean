theorem tc_out {V : VT} {b q : Int} (hI : SI V b) (hq : 0 ≤ q ∧ q ≤ 1200) (hf : chP q ≤ cntK (kd V b) 0 96) : (∀ o, o < b ∨ b + 96 ≤ o → (tcN b V q (chP q).toNat).1 o = V o) ∧ SI (tcN b V q (chP q).toNat).1 b := by
  have hc := chP_bd hq
  obtain ⟨L', -, -, k3, -, k5, -, -⟩ := tc_chain (len := q) (SI_swf hI) (chP q).toNat (by omega) (chP q).toNat (Nat.le_refl _)
  exact ⟨fun o ho => k5 o (fun p hp => by have := (k3 p hp).1; omega), tc_SI (len := q) hI (chP q).toNat (by omega) (chP q).toNat (Nat.le_refl _)⟩
theorem AddP_out {V V' : VT} {b q sd r : Int} (hI : SI V b) (hq : 0 ≤ q ∧ q ≤ 1200) (h : AddP V b q sd r V') : ∀ o, o < b ∨ b + 96 ≤ o → V' o = V o := by
  have hcb := cellB_bd (k := 1) (len := q) ⟨by omega, hq.2⟩
  rcases h with ⟨-, -, rfl⟩ | ⟨a1, pl, a2, a3⟩
  · exact fun _ _ => rfl
  · obtain ⟨t1, t2⟩ := tc_out hI hq a1
    have hok := isPl_ok t2 (by omega) a2
    rcases a3 with ⟨-, -, L, hL, rfl⟩ | ⟨e, t, -, -, rfl⟩
    · exact fun o ho => (free_out (isCh_rng hL).1 ho).trans (t1 o ho)
    · exact fun o ho => (setp_out (hok.resolve_left e).1 ho).trans (t1 o ho)
theorem AddP_r {V V' : VT} {b q sd r : Int} (hI : SI V b) (hq : 0 ≤ q ∧ q ≤ 1200) (h : AddP V b q sd r V') : -1 ≤ r ∧ r < 3072 := by
  have hcb := cellB_bd (k := 1) (len := q) ⟨by omega, hq.2⟩
  rcases h with ⟨-, rfl, -⟩ | ⟨a1, pl, a2, a3⟩
  · omega
  · obtain ⟨t1, t2⟩ := tc_out hI hq a1
    have hok := isPl_ok t2 (by omega) a2
    rcases a3 with ⟨-, rfl, -⟩ | ⟨e, t, ht, rfl, -⟩
    · omega
    · have h1 := (hok.resolve_left e).1
      have h2 := PI_slot (t2 pl h1.1 h1.2) ht
      have h3 := ht.1.1
      omega
theorem ChgP_r {V V' : VT} {b x q sd r : Int} {L0 : List Int} (h : ChgP V b x q sd L0 r V') : r = 0 ∨ r = 1 := by
  rcases h with ⟨-, e, -⟩ | ⟨-, V1, -, ⟨e, -⟩ | ⟨e, -⟩⟩
  · exact Or.inl e
  · exact Or.inr e
  · exact Or.inl e
theorem ChgP_out {V V' : VT} {b x q sd r : Int} {L0 : List Int} (hI : SI V b) (hq : 0 ≤ q ∧ q ≤ 1200) (hR : recOK V b x L0) (h : ChgP V b x q sd L0 r V') : ∀ o, o < b ∨ b + 96 ≤ o → V' o = V o := by
  have hcb := cellB_bd (k := 3) (len := q) ⟨by omega, hq.2⟩
  have hc := (recOK_vc hR).1
  have hx := hR.1
  have hL0 := (isCh_rng hR.2.2.2.2.1).1
  have hpx : 0 ≤ x / 32 ∧ x / 32 < 96 := by omega
  have hpc : 0 ≤ vcel V b x / 32 ∧ vcel V b x / 32 < 96 := by omega
  rcases h with ⟨-, -, rfl⟩ | ⟨a1, V1, a2, a3⟩
  · exact fun _ _ => rfl
  · obtain ⟨t1, t2⟩ := tc_out hI hq a1
    generalize (tcN b V q (chP q).toNat) = T at *
    generalize vcel V b x = c at *
    have key : ∀ o, o < b ∨ b + 96 ≤ o → V1 o = T.1 o := by
      intro o ho
      rcases a2 with ⟨-, h⟩ | ⟨-, h⟩
      · rcases h with ⟨-, -, rfl⟩ | ⟨-, pl, h2, ⟨-, -, rfl⟩ | ⟨e, -, t, -, rfl⟩⟩
        · exact setp_out hpx ho
        · rfl
        · exact (setp_out hpx ho).trans (setp_out ((isPl_ok t2 (by omega) h2).resolve_left e).1 ho)
      · rcases h with ⟨-, -, n, -, rfl⟩ | ⟨-, -, -, rfl⟩ | ⟨-, -, pl, h2, ⟨-, -, rfl⟩ | ⟨e, -, t, n, -, -, rfl⟩⟩
        · exact (setp_out hpc ho).trans (setp_out hpx ho)
        · exact setp_out hpc ho
        · rfl
        · exact ((setp_out hpx ho).trans (setp_out hpc ho)).trans (setp_out ((isPl_ok t2 (by omega) h2).resolve_left e).1 ho)
    rcases a3 with ⟨-, rfl⟩ | ⟨-, L, hL, rfl⟩
    · exact fun o ho => (free_out hL0 ho).trans ((key o ho).trans (t1 o ho))
    · exact fun o ho => (free_out (isCh_rng hL).1 ho).trans ((key o ho).trans (t1 o ho))
theorem RemP_out {V V' : VT} {b x : Int} {L0 : List Int} (hR : recOK V b x L0) (h : RemP V b x L0 V') : ∀ o, o < b ∨ b + 96 ≤ o → V' o = V o := by
  have hc := (recOK_vc hR).1
  have hx := hR.1
  have hL0 := (isCh_rng hR.2.2.2.2.1).1
  rcases h with ⟨-, n, -, rfl⟩ | ⟨-, n, n', -, -, rfl⟩
  · exact fun o ho => (setp_out (by omega) ho).trans (free_out hL0 ho)
  · exact fun o ho => ((setp_out (by omega) ho).trans (setp_out (by omega) ho)).trans (free_out hL0 ho)
theorem ite_ne {P : Prop} [Decidable P] (h : ¬ (if P then (1 : Int) else 0) = 0) : P := by
  by_cases hP : P
  · exact hP
  · rw [if_neg hP] at h; exact absurd rfl h
theorem ite_eq {P : Prop} [Decidable P] (h : (if P then (1 : Int) else 0) = 0) : ¬ P := by
  intro hP
  rw [if_pos hP] at h
  exact absurd h (by decide)
def isRc (V : VT) (x : Int) : Prop := 0 ≤ x ∧ x < 3072 ∧ (V (0 + x / 32) 1 (x % 32) = 1 ∨ V (0 + x / 32) 1 (x % 32) = 2)
def cLen (V : VT) (x : Int) : Int := V (0 + vcel V 0 x / 32) 2 (vcel V 0 x % 32)
def cSd (V : VT) (x : Int) : Int := V (0 + vcel V 0 x / 32) 3 (vcel V 0 x % 32)
def cChn (V : VT) (x : Int) : Int := V (0 + vcel V 0 x / 32) 4 (vcel V 0 x % 32)
def cWhere (V : VT) (x k : Int) : Int := if k = 0 then vcel V 0 x / 32 else if k = 1 then vcel V 0 x % 32 else if k = 2 then chP (cLen V x) else cChn V x
def cTotal (V : VT) (k : Int) : Int :=
  if k = 0 then sumF (fun i => V (0 + i) 0 2) 96 - sumF (fun i => V (0 + i) 0 3) 96 else if k = 1 then cntK (kd V 0) 0 96 else if k = 2 then cntK (kd V 0) 1 96 else if k = 3 then cntK (kd V 0) 2 96 else if k = 4 then sumF (fun i => V (0 + i) 0 3) 96 else if k = 5 then V 192 0 3 else if k = 6 then sumF (fun i => V (0 + i) 0 8) 96 else V 193 0 3
/-- what a settling leaves -/
def sett' (V : VT) : VT := up (cpS V 96 0 96) 192 0 3 0
