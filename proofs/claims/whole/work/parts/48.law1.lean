theorem crash_c {V : VT} {k : Int} (h : Inv V k) (c : Int) : ∃ D : Nat → Int → Int, (0 ≤ c ∧ c ≤ V 192 0 3 → (0 ≤ c ∧ c ≤ V 192 0 3) ∧ JC V D 0 V) ∧ (∀ (i : Nat) (U : VT), ((0 ≤ c ∧ c ≤ V 192 0 3) ∧ JC V D i U) → U 192 = V 192 ∧ SI U 96) ∧ (∀ (i : Nat) (U : VT), (i : Int) < c → ((0 ≤ c ∧ c ≤ V 192 0 3) ∧ JC V D i U) → cStep (fun i U => (0 ≤ c ∧ c ≤ V 192 0 3) ∧ JC V D i U) 96 (V 192) i U) ∧ ∀ i : Nat, (i : Int) < V 192 0 3 → HSt D (V 192) (V 194 3) i := by
  obtain ⟨-, ⟨c2, h2⟩, -, -, D, d1, d2, d3⟩ := h
  refine ⟨D, fun hc => ⟨hc, fun _ => V, rfl, rfl, fun j hj => absurd hj (Nat.not_lt_zero _), fun j hj => ⟨⟨c2, ?_⟩, fun _ _ => rfl⟩⟩, ?_, fun i U hi hJ => JC_cStep hJ.1 hJ.2 (d3 i (by omega)), d3⟩
  · have : j = 0 := by omega
    subst this
    exact Rel_eqv h2 d1
  · rintro i U ⟨-, Us, u1, u2, u3, u4⟩
    obtain ⟨⟨ch, b1⟩, b2⟩ := u4 i (Nat.le_refl _)
    rw [u2] at b1 b2
    exact ⟨b2 192 (by decide), b1.1⟩
theorem crash_m {V : VT} {k c : Int} {D : Nat → Int → Int} {Us : Nat → VT} (h : Inv V k) (u1 : Us 0 = V) (u3 : (0 ≤ c ∧ c ≤ V 192 0 3) → ∀ j : Nat, j < c.toNat → ∃ r, CSt 96 (V 192 1 j) (V 192 2 j) (V 192 3 j) r (Us j) (Us (j + 1))) (hH : ∀ i : Nat, (i : Int) < V 192 0 3 → HSt D (V 192) (V 194 3) i) :
    (0 ≤ c ∧ c ≤ V 194 0 3 → (0 ≤ c ∧ c ≤ V 194 0 3) ∧ JM Us (V 194) 0 (upw (updt (upw (V 194) 0 7 0) 1 ((upw (V 194) 0 7 0) 2)) 0 6 1)) ∧ (∀ (i : Nat) (u : Int → Int → Int), ((0 ≤ c ∧ c ≤ V 194 0 3) ∧ JM Us (V 194) i u) → (∀ j, u 3 j = V 194 3 j) ∧ mwf u ∧ MB u ∧ u 0 6 = 1) ∧ (∀ (i : Nat) (u : Int → Int → Int), (i : Int) < c → ((0 ≤ c ∧ c ≤ V 194 0 3) ∧ JM Us (V 194) i u) → mStep (fun i u => (0 ≤ c ∧ c ≤ V 194 0 3) ∧ JM Us (V 194) i u) (V 194 3) i u) := by
  obtain ⟨-, ⟨c2, h2⟩, ⟨h3, h4, h5, h6⟩, ⟨g1, g2, g3, g4, g5, g6⟩, -⟩ := h
  have e1 : (upw (updt (upw (V 194) 0 7 0) 1 ((upw (V 194) 0 7 0) 2)) 0 6 1) 1 = V 194 2 := funext fun j => by
    rw [upw_t (by decide)]; unfold updt; rw [if_pos rfl, upw_t (by decide)]
  have e3 : ∀ j, (upw (updt (upw (V 194) 0 7 0) 1 ((upw (V 194) 0 7 0) 2)) 0 6 1) 3 j = V 194 3 j := fun j => by
    rw [upw_t (by decide)]; unfold updt; rw [if_neg (by decide), upw_t (by decide)]
  have e0 : ∀ j, j ≠ 6 → j ≠ 7 → (upw (updt (upw (V 194) 0 7 0) 1 ((upw (V 194) 0 7 0) 2)) 0 6 1) 0 j = V 194 0 j := fun j n6 n7 => by
    rw [upw_j n6]; unfold updt; rw [if_neg (by decide), upw_j n7]
  refine ⟨fun hc => ⟨hc, ⟨c2, by rw [e1, u1]; exact h2⟩, e3, fun j j1 j2 => by rw [e1]; exact h4 j j1 j2, upw_at _ _ _ _, e0 4 (by decide) (by decide), e0 5 (by decide) (by decide)⟩, ?_, ?_⟩
  · rintro i u ⟨-, ⟨ch, j1⟩, j2, j3, j4, j5, j6⟩
    exact ⟨j2, j3, MB_of j1.1 j1.2.1, j4⟩
  · rintro i u hi ⟨hc, hJ⟩
    obtain ⟨r, hC⟩ := u3 (by omega) i (by omega)
    exact JM_mStep hc hJ (hH i (by omega)) hC
theorem crsh_194 {U : VT} : crsh U 194 = U 194 := by
  unfold crsh
  rw [up_oth _ _ _ _ _ _ (by decide), up_oth _ _ _ _ _ _ (by decide), cpS_out (by decide)]
theorem mask15 (x : Int32) : 0 ≤ (x &&& iI 15).toInt ∧ (x &&& iI 15).toInt ≤ 15 := by
  have h1 : (x &&& iI 15).toBitVec.toNat ≤ 15 := by
    rw [Int32.toBitVec_and, BitVec.toNat_and]
    exact Nat.le_trans Nat.and_le_right (by decide)
  have h2 : (x &&& iI 15).toInt = ((x &&& iI 15).toBitVec.toNat : Int) := by
    show (x &&& iI 15).toBitVec.toInt = _
    exact BitVec.toInt_eq_toNat_of_lt (by omega)
  omega
/-- what lies beside the pool: out, the script, what throws need -/
def FH (g : GT) (oa : Nat) (cL : ClassId) (b L : Nat) (xs : Nat → Int32) (s : State) (v : Int64) (H : Heap) : Prop := LO oa cL v H ∧ va_X b L xs s H ∧ TXq (AL g oa) s H
def LkW (own : String) (idx : Nat) (y : MethodName) (ccy : ByteArray) (maxL : Nat) (hh : List (Nat × Nat × Nat × Nat)) (n : Nat) : Prop :=
  (Cond.methodLink own idx y ∈ wsG ∧ Cond.static y ∈ wsG ∧ Cond.initialized y.cls ∈ wsG ∧ Cond.codeWith y ccy maxL (some .int) hh ∈ wsG) ∧ (y.cls ≠ "java/lang/invoke/MethodHandle" ∧ y.cls ≠ "java/lang/invoke/VarHandle" ∧ (parseMethodDescriptor y.desc).map (fun d => d.parameters.length) = some n)
section
variable {p : Program} {l : Launch} {e : Env} {R : Room} {s : State} {m : MethodId} {args : Array Value} {below : List Frame} {meth : Method} {c : Code} {cells slots nL : Nat} {Q : State → Prop}
variable {cc : ByteArray} {own : String} {ret : Option FieldType} {D : va_G} {cy : ClassId × ClassId} {g : GT} {A : Nat → Prop} {H0 : Heap} {V : VT} {pc : Nat} {lv : List (Nat × Value)} {st : List Value}
theorem FH.kept {oa : Nat} {cL : ClassId} {b L : Nat} {xs : Nat → Int32} {v : Int64} {H : Heap} {locs : List Loc} (F : FH g oa cL b L xs s v H0) (hno : oa ∉ gL g) (hb : b ∉ gL g) (hS : va_S (fun q => q ∈ gL g) H0 H locs) : FH g oa cL b L xs s v H := by
  obtain ⟨f1, f2, f3⟩ := F
  have hbl : b < H0.size := by obtain ⟨scr, h1, -⟩ := f2; exact (Array.getElem?_eq_some_iff.mp h1).1
  exact ⟨LO_at f1 hno hS, f2.kept (hS.2.1 b hbl hb), TXq.warm (State.WarmedH.refl s) f3 (fun q h1 h2 => hS.2.1 q h1 (fun z => h2 (Or.inl z)))⟩
theorem g_sld (C : Cx p s m args meth c cc nL own ret D cy g (fun q => q ∈ gL g)) {b L : Nat} {xs : Nat → Int32} {i : Int} (x : Int) (hx : (xs i.toNat).toInt = x) (hX : va_X b L xs s H0) (hb : b ∉ gL g) (hi : 0 ≤ i ∧ i < L) (hL : L ≤ 2048) (hd : decode cc pc = .ok (.iaload, 1)) (kk : G p l e R s m args below meth c nL cells slots Q D cy g (fun q => q ∈ gL g) H0 V (pc + 1) lv (vI x :: st)) : G p l e R s m args below meth c nL cells slots Q D cy g (fun q => q ∈ gL g) H0 V pc lv (vI i :: .ref b :: st) := by
  intro H locs ls hP hS hl
  have hr : rng i := ⟨by omega, by omega⟩
  have hbl : b < H0.size := by obtain ⟨scr, h1, -⟩ := hX; exact (Array.getElem?_eq_some_iff.mp h1).1
  refine va_sld C.1.1 C.1.2.1 hX hbl hb hS (iI_in hi.1 hi.2 hr) hd ?_
  rw [iI_clamp hi.1 hr, iI_of (xs i.toNat), hx]
  exact kk H locs ls hP hS hl
theorem g_slen (C : Cx p s m args meth c cc nL own ret D cy g (fun q => q ∈ gL g)) {b L : Nat} {xs : Nat → Int32} (hX : va_X b L xs s H0) (hb : b ∉ gL g) (hd : decode cc pc = .ok (.arraylength, 1)) (kk : G p l e R s m args below meth c nL cells slots Q D cy g (fun q => q ∈ gL g) H0 V (pc + 1) lv (vI (L : Int) :: st)) : G p l e R s m args below meth c nL cells slots Q D cy g (fun q => q ∈ gL g) H0 V pc lv (.ref b :: st) := by
  intro H locs ls hP hS hl
  have hbl : b < H0.size := by obtain ⟨scr, h1, -⟩ := hX; exact (Array.getElem?_eq_some_iff.mp h1).1
  refine va_slen C.1.1 C.1.2.1 hX hbl hb hS hd ?_
  exact kk H locs ls hP hS hl
theorem g_iand15 (C : Cx p s m args meth c cc nL own ret D cy g A) {x : Int} (hd : decode cc pc = .ok (.iand, 1)) (kk : ∀ y : Int, 0 ≤ y → y ≤ 15 → G p l e R s m args below meth c nL cells slots Q D cy g A H0 V (pc + 1) lv (vI y :: st)) : G p l e R s m args below meth c nL cells slots Q D cy g A H0 V pc lv (vI 15 :: vI x :: st) := by
  intro H locs ls hP hS hl
  refine lv_iand C.1.1 C.1.2.1 hd ?_
  rw [iI_of (iI x &&& iI 15)]
  exact kk _ (mask15 _).1 (mask15 _).2 H locs ls hP hS hl
theorem g_oald (C : Cx p s m args meth c cc nL own ret D cy g (fun q => q ∈ gL g)) {oa : Nat} {cL : ClassId} {v : Int64} (hO : LO oa cL v H0) (hno : oa ∉ gL g) (hKL : va_K D vwCl [(cL, .long)] s) (hd : decode cc pc = .ok (.laload, 1)) (kk : G p l e R s m args below meth c nL cells slots Q D cy g (fun q => q ∈ gL g) H0 V (pc + 1) lv (.long v :: st)) : G p l e R s m args below meth c nL cells slots Q D cy g (fun q => q ∈ gL g) H0 V pc lv (vI 0 :: .ref oa :: st) := by
  intro H locs ls hP hS hl
  have hOH := LO_at hO hno hS
  have hP1 : va_P D vwCl [(oa, .inl (cL, 1, .inr (.inl (fun _ => v))))] H := fun k q hk => by
    have hz : k < 1 := (List.getElem?_eq_some_iff.mp hk).1
    rw [show k = 0 by omega] at hk
    cases hk
    exact hOH
  refine va_lald C.1.1 C.1.2.1 hKL hP1 0 0 rfl rfl (iI_in (i := 0) (n := 1) (by decide) (by decide) rng0) hd ?_
  exact kk H locs ls hP hS hl
theorem lcmp_self (x : Int64) : lg_cmp x x = 0 := by
  unfold lg_cmp
  simp
theorem g_lcmpT (C : Cx p s m args meth c cc nL own ret D cy g A) {x y : Int64} (hxy : x = y) (hd : decode cc pc = .ok (.lcmp, 1)) (kk : G p l e R s m args below meth c nL cells slots Q D cy g A H0 V (pc + 1) lv (vI 0 :: st)) : G p l e R s m args below meth c nL cells slots Q D cy g A H0 V pc lv (.long y :: .long x :: st) := by
  intro H locs ls hP hS hl
  refine W.lcmp C.1.1 C.1.2.1 hd ?_
  rw [hxy, lcmp_self]
  exact kk H locs ls hP hS hl
theorem g_icmpT (C : Cx p s m args meth c cc nL own ret D cy g A) {x y : Int} (hxy : x = y) {off : Int} (tgt : Nat) (hd : decode cc pc = .ok (.if_icmp .eq off, 3)) (ht : (pc : Int) + off = (tgt : Int)) (kk : G p l e R s m args below meth c nL cells slots Q D cy g A H0 V tgt lv st) : G p l e R s m args below meth c nL cells slots Q D cy g A H0 V pc lv (vI y :: vI x :: st) := by
  intro H locs ls hP hS hl
  subst hxy
  exact lv_icmp_eq C.1.1 C.1.2.1 hd ht (fun _ => kk H locs ls hP hS hl) (fun z => absurd rfl z)
theorem g_wcall (C : Cx p s m args meth c cc nL own ret D cy g (fun q => q ∈ gL g)) {oa : Nat} {cL : ClassId} {b L : Nat} {xs : Nat → Int32} {v : Int64} (F : FH g oa cL b L xs s v H0) (hno : oa ∉ gL g) (hb : b ∉ gL g) (hbo : b ≠ oa) (hge : ∀ q, AL g oa q → s.heap.size ≤ q) (hKL : va_K D vwCl [(cL, .long)] s) (hNc : va_Nc xIAE xNSE s)
    {y : MethodName} {ccy : ByteArray} {maxLy index : Nat} {hh : List (Nat × Nat × Nat × Nat)} (av : List Value) (rest : List Value) {post : Int → VT → Int64 → Prop}
    (hM : MetL l y ccy maxLy hh D cy g oa cL av V v post) (hLk : LkW own index y ccy maxLy hh av.length) (hst : st = av.reverse ++ rest) (hw : (rest.map fun v => v.category).sum ≤ 8) (hR : 9 + 1 ≤ R.frames ∧ 8 + (maxLy + 11) + 33 * 9 ≤ R.locals) (hcl : cells + 2 ≤ R.cells ∧ slots + 12 ≤ R.slots) (hd : decode cc pc = .ok (.invokestatic index, 3))
    (kk : ∀ (r : Int) (V' : VT) (v' : Int64) (H1 : Heap), post r V' v' → FH g oa cL b L xs s v' H1 → G p l e R s m args below meth c nL (cells + 2) (slots + 12) Q D cy g (fun q => q ∈ gL g) H1 V' (pc + 3) lv (vI r :: rest)) : G p l e R s m args below meth c nL cells slots Q D cy g (fun q => q ∈ gL g) H0 V pc lv st := by
  intro H locs ls hP hS hl
  obtain ⟨⟨l1, l2, l3, l4⟩, l6⟩ := hLk
  have cw : vx_CSW R s args own index y ccy maxLy (some .int) hh (.codeWith y ccy maxLy (some .int) hh :: wsG) (rmx 9 2) 2 12 av.length :=
    vx_cwSW av.length C.1.2.2.2.2 (wsG_all (fun w hw => by
      simp only [va_wsS, List.mem_append, List.mem_cons, List.not_mem_nil, or_false] at hw
      rcases hw with (rfl | rfl | rfl) | rfl | h
      · exact l1
      · exact l2
      · exact l3
      · exact l4
      · exact h)) rfl rfl rfl l6 hR
  have F1 := F.kept hno hb hS
  refine va_calli (A0 := AL g oa) (vx_runSW (As := av) (rest := rest) C.1 hM cw ⟨PcL_blind, fun U hU hW => ⟨rfl, by rw [hU]; exact hP, va_K.moved hW.alike C.2.1, NW_warm hW C.2.2.1, by rw [hU]; exact TXq.warm hW F1.2.2 (fun _ _ _ => rfl), by rw [hU]; exact F1.1, va_K.moved hW.alike hKL, va_Nc.moved hW.alike hNc⟩⟩ rfl rfl hl.1 hst (lv_room (m := m) (pc := pc) (ls := ls) (rest := st) hw) hd hcl) (S_al hS) (fun q _ h => h) (fun q h => h) ?_
  rintro r ⟨x, V', v'⟩ t H1 locs1 ht _ ⟨rfl, hp⟩ ⟨hB1, hB2⟩ hz hk hS1
  refine va_forget (fun q hq => hge _ (hS1.2.2 q hq)) ?_
  have hbl : b < H.size := by obtain ⟨scr, h1, -⟩ := F1.2.1; exact (Array.getElem?_eq_some_iff.mp h1).1
  refine kk x V' v' H1 hp ⟨by rw [← ht]; exact hB2, F1.2.1.kept (hk b hbl (fun z => z.elim hb hbo)), TXq.warm (State.WarmedH.refl s) F1.2.2 hk⟩ H1 [] ls (by rw [← ht]; exact hB1) va_S.rf hl
end
