/-! the law's start -/
theorem K_arr {args : Array Value} {s : State} {t : FieldType} (ht : ∀ C, t ≠ .object C) (h : (Cond.arrayClass t).before args s = true) : ∃ cA, ArrOfT s cA t ∧ va_RA s cA t := by
  obtain ⟨c, k, comp, h1, h2, h3⟩ := Cond.arrayClass_spec (args := args) (first := s) (o := none) (s := s) (idx := []) h
  refine ⟨c, fun n z => ⟨fun k h => (by cases h), k, h2, comp, h3⟩, ?_⟩
  cases t with
  | object C => exact absurd rfl (ht C)
  | _ => exact h1
theorem K_page {s : State} (h : va_AO RX1 s) : ∃ cA, ArrOfT s cA (.object RX1) ∧ va_RA s cA (.object RX1) := by
  obtain ⟨comp, c, k, h1, h2, h3, h4, h5⟩ := Cond.arrayOver_spec (args := #[]) (first := s) (o := none) (s := s) (idx := []) h
  exact ⟨c, fun n z => ⟨fun k h => (by cases h), k, h3, comp, h4⟩, k, comp, h3, h4, h1, h5⟩
def g0 : GT := ([], fun _ => 0, fun _ _ => none, fun _ => 0, fun _ => 0, fun _ => 0)
theorem g0_L : gL g0 = [] := rfl
theorem lkI_43 : LkI RL 43 yX3_init cX3_init 1 := ⟨⟨List.mem_filter.mpr ⟨by decide +kernel, rfl⟩, List.mem_filter.mpr ⟨by decide +kernel, rfl⟩, List.mem_filter.mpr ⟨by decide +kernel, rfl⟩, List.mem_filter.mpr ⟨by decide +kernel, rfl⟩⟩, ⟨by decide +kernel, by decide +kernel, by decide +kernel⟩, rfl⟩
theorem lkI_46 : LkI RL 46 yX4_init cX4_init 2 := ⟨⟨List.mem_filter.mpr ⟨by decide +kernel, rfl⟩, List.mem_filter.mpr ⟨by decide +kernel, rfl⟩, List.mem_filter.mpr ⟨by decide +kernel, rfl⟩, List.mem_filter.mpr ⟨by decide +kernel, rfl⟩⟩, ⟨by decide +kernel, by decide +kernel, by decide +kernel⟩, rfl⟩
theorem lcl_8 : Cond.classLink RL 8 RX3 ∈ wsG := List.mem_filter.mpr ⟨by decide +kernel, rfl⟩
theorem lcl_44 : Cond.classLink RL 44 RX4 ∈ wsG := List.mem_filter.mpr ⟨by decide +kernel, rfl⟩
theorem nest_in : ∀ w ∈ nestL, w ∈ lw_tbl := by decide +kernel
theorem nest_on : ∀ w ∈ nestL, w.onTables = true := by decide +kernel
theorem xw_in : ∀ w ∈ xwL, w ∈ lw_tbl := by decide +kernel
theorem str_in : ∀ q ∈ strL, Cond.stringRef RX3 q.1 q.2 ∈ lw_tbl := by decide +kernel
theorem str_ex : ∀ q ∈ strL, Cond.exactly (Term.string RX3 q.1) "java/lang/String" ∈ flatC (Jvm.Cond.and given_1 narrow_1) := by decide +kernel
theorem sf_gro {x a : Nat} {P : Int → Prop} {g g' : GT} (h : Gro x P g g') (hx : x ∉ gL g) (hs : isSf g a) : isSf g' a := by
  have ne : ∀ b, b ∈ gL g → b ≠ x := fun b hb e => hx (e ▸ hb)
  have hSt : ∀ s b, isSt g s b → isSt g' s b := by
    rintro s b ⟨⟨ob, h0⟩, ps, h1, h2, h3⟩
    refine ⟨⟨ob, h.isO h0⟩, ps, h.R h0.1 (ne _ h0.1) h1, h.isQ h2, fun i i1 i2 => ?_⟩
    obtain ⟨pg, e1, e2⟩ := h3 i i1 i2
    exact ⟨pg, h.R h2.1 (ne _ h2.1) e1, h.isPg e2 (ne _ e2.1.1)⟩
  obtain ⟨h0, s1, s2, lg, ⟨a1, b1⟩, ⟨a2, b2⟩, ⟨a3, b3⟩⟩ := hs
  exact ⟨h.isO h0, s1, s2, lg, ⟨h.R h0.1 (ne _ h0.1) a1, hSt _ _ b1⟩, ⟨h.R h0.1 (ne _ h0.1) a2, hSt _ _ b2⟩, ⟨h.R h0.1 (ne _ h0.1) a3, h.isLg b3 (ne _ b3.1.1)⟩⟩
section
variable {p : Program} {l : Launch} {e : Env} {R : Room} {s : State} {m : MethodId} {args : Array Value} {below : List Frame} {meth : Method} {c : Code} {cells slots nL : Nat} {Q : State → Prop}
variable {cc : ByteArray} {own : String} {ret : Option FieldType} {D : va_G} {cy : ClassId × ClassId} {g : GT} {V : VT} {pc : Nat} {lv : List (Nat × Value)} {st : List Value}
/-- the array for answers; from here nothing else comes but what a throw makes -/
theorem g_newL (C : Cx p s m args meth c cc nL own ret D cy g (fun q => s.heap.size ≤ q)) (harr : (Cond.arrayClass .long).before args s = true) (hc : cells + 1 ≤ R.cells) (hs : slots + 1 ≤ R.slots) (hd : decode cc pc = .ok (.newarray .long, 2))
    (kk : ∀ (oa : Nat) (cA : ClassId) (H1 : Heap), oa ∉ gL g → s.heap.size ≤ oa → LO oa cA 0 H1 → va_K D vwCl [(cA, .long)] s → (∀ q, q < s.heap.size → H1[q]? = s.heap[q]?) → G p l e R s m args below meth c nL (cells + 1) (slots + 1) Q D cy g (fun q => q ∈ gL g) H1 V (pc + 2) lv (.ref oa :: st)) : G p l e R s m args below meth c nL cells slots Q D cy g (fun q => s.heap.size ≤ q) s.heap V pc lv (vI 1 :: st) := by
  intro H locs ls hP hS hl
  refine va_newa (atype := .long) C.1.1 C.1.2.1 harr (ty := .long) rfl C.2.1 hP (pw_D C.2.2.2.1 C.2.2.2.2.1) hS (fun _ h => h) (N' := 1) (a0 := (1, .inr (.inl (fun _ => 0)))) (fun cA => rfl) (by decide) (by decide) (by decide) hc hs hd (fun q cA H1 hK1 hP1 hD1 hS1 => ?_)
  obtain ⟨hq, hAq⟩ := new_out hD1
  refine va_forget (fun q hq => hS1.2.2 q hq) ?_
  refine kk q cA H1 hq hAq ?_ ⟨hK1.1, fun k x hx => ?_⟩ (fun q hq => hS1.2.1 q hq (Nat.not_le.mpr hq)) H1 [] ls ?_ va_S.rf hl
  · have h9 : va_at D vwCl (q, .inl (cA, 1, .inr (.inl (fun _ => 0)))) H1 := hP1 (pw cy g V).length _ (by rw [List.getElem?_append_right (Nat.le_refl _)]; simp)
    exact h9
  · have hz : k < 1 := (List.getElem?_eq_some_iff.mp hx).1
    rw [show k = 0 by omega] at hx
    cases hx
    exact hK1.2 2 (cA, .long) rfl
  · exact fun k q hk => hP1 k q (by rw [List.getElem?_append_left (List.getElem?_eq_some_iff.mp hk).1]; exact hk)
end
/-- what the tables and the start give -/
theorem lw_know {p : Program} {s : State} {m : MethodId} {meth : Method} {c : Code} {b L : Nat} {xs : Nat → Int32} (C0 : lw_At p s m meth c b L xs) : ∃ (D : va_G) (cy : ClassId × ClassId), Cx p s m #[Value.ref b] meth c cL_law 7 RL (some .boolean) D cy g0 (fun q => s.heap.size ≤ q) ∧ va_AO RX1 s ∧ (Cond.arrayClass .long).before #[Value.ref b] s = true ∧ va_Nc xIAE xNSE s ∧ TXq (fun q => s.heap.size ≤ q) s s.heap := by
  obtain ⟨hx, hb, hr, hml, hown, hts, hX, hbl, hlocks, hgv⟩ := C0
  have hs := flat_of_before _ hgv
  have htsG : ∀ w ∈ wsG, w.before #[Value.ref b] s = true := fun w hw => hts w (List.mem_filter.mp hw).1
  have hNW : NW s := fun w hw => va_Nw.of (nest_on w hw) (hts w (nest_in w hw))
  have hAO : va_AO RX1 s := va_AO.of (hts (.arrayOver (.object RX1)) (by decide +kernel))
  obtain ⟨cI, i1, i2⟩ := K_arr (t := .int) (fun C h => by cases h) (hts (.arrayClass .int) (by decide +kernel))
  obtain ⟨cP, p1, p2⟩ := K_page hAO
  obtain ⟨c0, iS0, hKn0⟩ := u_known (C := RX0) (T := TX0) (N := 4) (n := 4) htsG in_Log (htsG _ li_Log)
  obtain ⟨c1, iS1, hKn1⟩ := u_known (C := RX1) (T := TX1) (N := 13) (n := 13) htsG in_Page (htsG _ li_Page)
  obtain ⟨c2, iS2, hKn2⟩ := u_known (C := RX2) (T := TX2) (N := 1) (n := 1) htsG in_Store (htsG _ li_Store)
  obtain ⟨c3, iS3, hKn3⟩ := u_known (C := RX3) (T := TX3) (N := 4) (n := 4) htsG in_Sf (htsG _ li_Sf)
  obtain ⟨c4, iS4, hKn4⟩ := u_known (C := RX4) (T := TX4) (N := 8) (n := 8) htsG in_Mod (htsG _ li_Mod)
  obtain ⟨dC, dI, hKc⟩ : ∃ (dC : Nat → ClassId) (dI : Nat → Nat → Nat), ∀ (k : Nat) (q : vw_C), vwCl[k]? = some q → u_Kn s q.1 q.2.1 q.2.2 (dC k) (dI k) := by
    refine ⟨fun k => if k = 0 then c0 else if k = 1 then c1 else if k = 2 then c2 else if k = 3 then c3 else c4, fun k => if k = 0 then iS0 else if k = 1 then iS1 else if k = 2 then iS2 else if k = 3 then iS3 else iS4, ?_⟩
    intro k q hq
    match k, hq with
    | 0, hq => cases hq; exact hKn0
    | 1, hq => cases hq; exact hKn1
    | 2, hq => cases hq; exact hKn2
    | 3, hq => cases hq; exact hKn3
    | 4, hq => cases hq; exact hKn4
    | k + 5, hq => simp at hq
  have hK : va_K (dC, dI) vwCl (tyc (cI, cP)) s := ⟨hKc, fun k q hk => by
    match k, hk with
    | 0, hk => cases hk; exact ⟨i1, i2⟩
    | 1, hk => cases hk; exact ⟨p1, p2⟩
    | k + 2, hk => simp at hk⟩
  refine ⟨(dC, dI), (cI, cP), ⟨⟨hx, hb, hml, hown, htsG⟩, hK, hNW, ⟨List.nodup_nil, fun a h => absurd h List.not_mem_nil⟩, fun a h => absurd h List.not_mem_nil, hr, hlocks⟩, hAO, hts _ (by decide +kernel), va_Nc.of (hs _ (by decide +kernel)), ?_⟩
  refine ⟨fun w hw => va_Nw.of (xwL_on w hw) (hts w (xw_in w hw)), ⟨vx_Zqof (hts _ (by decide +kernel)) (hts _ (by decide +kernel)) (hs _ (by decide +kernel)) (fun a h => Nat.not_le.mpr h), vx_Zqof (hts _ (by decide +kernel)) (hts _ (by decide +kernel)) (hs _ (by decide +kernel)) (fun a h => Nat.not_le.mpr h)⟩, fun q hq => ?_⟩
  obtain ⟨a, c', cell, k, h1, -⟩ := Cond.exactly_spec (args := #[Value.ref b]) (first := s) (o := none) (s := s) (idx := []) (hs _ (str_ex q hq))
  exact ⟨a, vk_R.of (hts _ (str_in q hq)) h1⟩
set_option maxHeartbeats 4000000 in
theorem whole_start {p : Program} {e : Env} {s : State} {m : MethodId} {below : List Frame} {meth : Method} {c : Code} (l : Launch) (hl : l.stackTraces = false) {b L : Nat} {xs : Nat → Int32} (hL : L ≤ 2048) (C0 : lw_At p s m meth c b L xs) : W p l e room_1 s m #[Value.ref b] below meth c s.heap [] 0 0 (lw_Z below #[Value.ref b] s) (entryFrame m ([Value.ref b] : List Value).toArray 7) := by
  obtain ⟨D, cy, C, hAO, harr, hNc, hTX⟩ := lw_know C0
  have hX := C0.2.2.2.2.2.2.1
  have hbl := C0.2.2.2.2.2.2.2.1
  have hA : ∀ q, s.heap.size ≤ q → (fun q => s.heap.size ≤ q) q := fun _ h => h
  have main : G p l e room_1 s m #[Value.ref b] below meth c 7 0 0 (lw_Z below #[Value.ref b] s) D cy g0 (fun q => s.heap.size ≤ q) s.heap V0 0 (lv_args 0 [.ref b]) [] := by
    refine gn_Sf C hA lcl_8 193 (fun b hb => absurd hb List.not_mem_nil) (fun _ => rfl) (by decide) (by decide) dL_law_0 (fun a ha hAa C1 => ?_)
    refine g_dupR C1 dL_law_3 ?_
    refine g_callN C1 hA hAO [.ref a] (fun n0 => c_X3_init l D cy _ a n0 C1.2.2.2.1 isO_new (fun x hx => ?_)) lkI_43 (by simp [Value.category]) ⟨by decide, by decide⟩ ⟨by decide, by decide⟩ dL_law_4 ?_
    · have : x = a := by
        rcases List.mem_append.mp hx with z | z
        · exact absurd z List.not_mem_nil
        · exact List.mem_singleton.mp z
      exact if_pos this
    rintro g1 V1 ⟨hsf, rfl, hO1⟩ C2
    refine g_astore_n C2 [(1, .ref a), (0, .ref b)] dL_law_7 rfl (by decide) rfl ?_
    have hV9 : VI 194 = z0 := by
      unfold VI stI
      rw [if_neg (by omega), if_neg (by omega)]; rfl
    refine gn_Mod C2 hA lcl_44 194 (fun x hx z => by have := hO1 x hx; omega) (fun j => by rw [hV9]; rfl) (by decide) (by decide) dL_law_8 (fun am ham hAm C3 => ?_)
    refine g_dupR C3 dL_law_11 ?_
    refine g_V (setp_z hV9).symm ?_
    refine g_callN C3 hA hAO [.ref am] (fun n0 => c_X4_init l D cy _ VI am 194 n0 C3.2.2.2.1 isO_new (fun x hx hO => ?_)) lkI_46 (by simp [Value.category]) ⟨by decide, by decide⟩ ⟨by decide, by decide⟩ dL_law_12 ?_
    · rcases List.mem_append.mp hx with z | z
      · have hne : x ≠ am := fun e => ham (e ▸ z)
        have e1 : gO (gAdd g1 am 4 0 194 0) x = gO g1 x := if_neg hne
        have := hO1 x z
        omega
      · exact List.mem_singleton.mp z
    rintro g2 V2 ⟨hG, hmod, rfl⟩ C4
    have hsf2 : isSf g2 a := sf_gro ((Gro.add (a := am) (P := fun x => x = 194) Gro.rfl ham rfl).trans hG (Or.inl rfl) (fun _ h => h)) ham hsf
    refine g_astore_n C4 [(2, .ref am), (1, .ref a), (0, .ref b)] dL_law_15 rfl (by decide) rfl ?_
    refine g_iconst C4 1 rfl dL_law_16 ?_
    refine g_newL C4 harr (by decide) (by decide) dL_law_17 (fun oa cL H1 hno hAoa hO hKL hkeep => ?_)
    have hge : ∀ q, AL g2 oa q → s.heap.size ≤ q := fun q hq => hq.elim (C4.2.2.2.2.1 q) (fun z => by rw [z]; exact hAoa)
    have hb2 : b ∉ gL g2 := fun z => absurd (C4.2.2.2.2.1 b z) (Nat.not_le.mpr hbl)
    have C5 : Cx p s m #[Value.ref b] meth c cL_law 7 RL (some .boolean) D cy g2 (fun q => q ∈ gL g2) := ⟨C4.1, C4.2.1, C4.2.2.1, C4.2.2.2.1, fun _ h => h, C4.2.2.2.2.2⟩
    have K : LwC p l s m meth c D cy g2 a am oa cL b L := ⟨⟨hl, hL⟩, C5, hsf2, hmod, hno, hb2, fun z => absurd hAoa (by rw [← z]; exact Nat.not_le.mpr hbl), hge, hKL, hNc⟩
    have F : FH g2 oa cL b L xs s 0 H1 := ⟨hO, hX.kept (hkeep b hbl), TXq.warm (State.WarmedH.refl s) (TXq.narrow hge hTX) (fun q h _ => hkeep q h)⟩
    refine g_astore_n C5 [(3, .ref oa), (2, .ref am), (1, .ref a), (0, .ref b)] dL_law_19 rfl (by decide) rfl ?_
    refine g_iconst C5 0 rfl dL_law_20 ?_
    refine g_istore C5 [(4, vI 0), (3, .ref oa), (2, .ref am), (1, .ref a), (0, .ref b)] dL_law_21 (by decide) rfl ?_
    exact lw_loop K L 0 (by omega) (by omega) _ 0 H1 F inv_start
  rw [lg_entry_eq]
  exact main s.heap [] _ (fun k q h => by simp [pw, va_pl, g0, gL] at h) va_S.rf (lv_entry [.ref b] (Nat.le_of_ble_eq_true rfl))
