/-! the law's wrappers: out[0] = x.f(..), or a number for what it threw -/
def LO (oa : Nat) (cL : ClassId) (v : Int64) (H : Heap) : Prop := H[oa]? = some (vp_cell cL (1, .inr (.inl (fun _ => v))))
def AL (g : GT) (oa : Nat) : Nat → Prop := fun q => q ∈ gL g ∨ q = oa
def PcL (D : va_G) (cy : ClassId × ClassId) (g : GT) (V : VT) (oa : Nat) (cL : ClassId) (v : Int64) (av : List Value) : Array Value → State → Prop :=
  va_Pc av (fun U => va_P D vwCl (pw cy g V) U.heap ∧ va_K D vwCl (tyc cy) U ∧ NW U ∧ TXq (AL g oa) U U.heap ∧ LO oa cL v U.heap ∧ va_K D vwCl [(cL, .long)] U ∧ va_Nc xIAE xNSE U)
def QcL (D : va_G) (cy : ClassId × ClassId) (g : GT) (oa : Nat) (cL : ClassId) (post : Int → VT → Int64 → Prop) : Array Value → State → Outcome → State → Prop :=
  va_Qi (S := Int × VT × Int64) (fun r u => r = iI u.1 ∧ post u.1 u.2.1 u.2.2) (fun u t => va_P D vwCl (pw cy g u.2.1) t.heap ∧ LO oa cL u.2.2 t.heap) (AL g oa)
def MetL (l : Launch) (y : MethodName) (cc : ByteArray) (maxL : Nat) (hh : List (Nat × Nat × Nat × Nat)) (D : va_G) (cy : ClassId × ClassId) (g : GT) (oa : Nat) (cL : ClassId) (av : List Value) (V : VT) (v : Int64) (post : Int → VT → Int64 → Prop) : Prop :=
  Met l y (.codeWith y cc maxL (some .int) hh :: wsG) (rmx 9 2) (PcL D cy g V oa cL v av) (QcL D cy g oa cL post) 2 12 (AL g oa)
theorem PcL_blind {D : va_G} {cy : ClassId × ClassId} {g : GT} {V : VT} {oa : Nat} {cL : ClassId} {v : Int64} {av : List Value} : FrameBlind (PcL D cy g V oa cL v av) := by
  rintro a U f mk ⟨h1, h2, h3, h4, h5, h6, h7, h8⟩
  exact ⟨h1, h2, va_K.moved (u := U) (U := U.calling f mk a) (Vm.Alike.refl U.vm) h3, NW_same (u := U) (U := U.calling f mk a) rfl h4, TXq.same (s := U) (U := U.calling f mk a) rfl h5, h6, va_K.moved (u := U) (U := U.calling f mk a) (Vm.Alike.refl U.vm) h7, va_Nc.moved (u := U) (U := U.calling f mk a) (Vm.Alike.refl U.vm) h8⟩
def lL (r : Int) : Int64 := (iI r).toInt64
theorem lcn_13 : Cond.classLink RL 13 xIAE ∈ wsG := List.mem_filter.mpr ⟨by decide +kernel, rfl⟩
theorem lcn_19 : Cond.classLink RL 19 xNSE ∈ wsG := List.mem_filter.mpr ⟨by decide +kernel, rfl⟩
theorem D_out {cy : ClassId × ClassId} {g : GT} {V : VT} {oa : Nat} {e : va_E} (hA : Apart g) (h : oa ∉ gL g) : va_D (AL g oa) (pw cy g V ++ [(oa, e)]) := by
  have hD : va_D (AL g oa) (pw cy g V) := pw_D hA (fun q hq => Or.inl hq)
  have inL : ∀ (k : Nat) (q : Nat × va_E), (pw cy g V)[k]? = some q → q.1 ∈ gL g := by
    intro k q hk
    simp only [pw, va_pl, List.getElem?_map, Option.map_eq_some_iff] at hk
    obtain ⟨x, hx, rfl⟩ := hk
    exact List.mem_of_getElem? hx
  have spl : ∀ (k : Nat) (q : Nat × va_E), (pw cy g V ++ [(oa, e)])[k]? = some q → (pw cy g V)[k]? = some q ∨ (k = (pw cy g V).length ∧ q = (oa, e)) := by
    intro k q hk
    by_cases hl : k < (pw cy g V).length
    · rw [List.getElem?_append_left hl] at hk; exact Or.inl hk
    · rw [List.getElem?_append_right (by omega)] at hk
      have hz : k - (pw cy g V).length < 1 := (List.getElem?_eq_some_iff.mp hk).1
      rw [show k - (pw cy g V).length = 0 by omega] at hk
      exact Or.inr ⟨by omega, (Option.some.inj hk).symm⟩
  refine ⟨fun i j x y hi hj hxy => ?_, fun k q hk => ?_⟩
  · rcases spl i x hi with z | ⟨z1, z2⟩ <;> rcases spl j y hj with w | ⟨w1, w2⟩
    · exact hD.1 i j x y z w hxy
    · exact absurd (inL i x z) (by rw [hxy, w2]; exact h)
    · exact absurd (inL j y w) (by rw [← hxy, z2]; exact h)
    · rw [z1, w1]
  · rcases spl k q hk with z | ⟨z1, z2⟩
    · exact Or.inl (inL k q z)
    · rw [z2]; exact Or.inr rfl
section
variable {p : Program} {l : Launch} {e : Env} {R : Room} {s : State} {m : MethodId} {args : Array Value} {below : List Frame} {meth : Method} {c : Code} {cells slots nL : Nat} {Q : State → Prop}
variable {cc : ByteArray} {own : String} {ret : Option FieldType} {D : va_G} {cy : ClassId × ClassId} {g : GT} {A : Nat → Prop} {H0 : Heap} {V : VT} {pc : Nat} {lv : List (Nat × Value)} {st : List Value}
theorem MetL.of {y : MethodName} {maxL oa : Nat} {cL : ClassId} {v : Int64} {hh : List (Nat × Nat × Nat × Nat)} {av : List Value} {post : Int → VT → Int64 → Prop} (hy : plainName y.cls = true) (hlen : (lg_sl av).length ≤ maxL) (hap : Apart g)
    (body : ∀ (p : Program) (e : Env) (s : State) (m : MethodId) (args : Array Value) (below : List Frame) (meth : Method) (c : Code), Cx p s m args meth c cc maxL y.cls (some .int) D cy g (fun q => q ∈ gL g) → TX g s → c.exceptionTable.toList = tableOf hh → LO oa cL v s.heap → va_K D vwCl [(cL, .long)] s → va_Nc xIAE xNSE s →
      G p l e (rmx 9 2) s m args below meth c maxL 0 0 (MQ below (QcL D cy g oa cL post) args s 2 12 (AL g oa)) D cy g (fun q => q ∈ gL g) s.heap V 0 (lv_args 0 av) []) : MetL l y cc maxL hh D cy g oa cL av V v post := by
  refine va_MetW (cc := cc) (maxL := maxL) (ret := some .int) (hh := hh) hy rfl ?_
  intro p e s m args below meth c s₁ B hml hv
  obtain ⟨rfl, hP, hK, hN, hT, hO, hKL, hNc⟩ := hv
  have hts := atoms_spec (ws := .codeWith y cc maxL (some .int) hh :: wsG) B.pre
  have hown : s.vm.findClass y.cls = some m.cls := findClass_of_methodNamed B.named
  have C : Cx p s m av.toArray meth c cc maxL y.cls (some .int) D cy g (fun q => q ∈ gL g) := ⟨⟨B.exec, B.bytes, hml, hown, fun w hw => hts w (List.mem_cons_of_mem _ hw)⟩, hK, hN, hap, fun _ h => h, B.returns, B.notSynchronized⟩
  rw [lg_entry_eq]
  exact body p e s m av.toArray below meth c C (TXq.narrow (fun q h => Or.inl h) hT) (vx_table (x := y) B (hts _ List.mem_cons_self)) hO hKL hNc s.heap [] _ hP va_S.rf (lv_entry av hlen)
theorem g_i2l (C : Cx p s m args meth c cc nL own ret D cy g A) {x : Int} (hd : decode cc pc = .ok (.i2l, 1)) (k : G p l e R s m args below meth c nL cells slots Q D cy g A H0 V (pc + 1) lv (.long (lL x) :: st)) : G p l e R s m args below meth c nL cells slots Q D cy g A H0 V pc lv (vI x :: st) := by
  intro H locs ls hP hS hl
  exact lv_i2l C.1.1 C.1.2.1 hd rfl (k H locs ls hP hS hl)
theorem g_lconst (C : Cx p s m args meth c cc nL own ret D cy g A) {n : Fin 2} (v : Int64) (hv : Int64.ofNat (n : Nat) = v) (hd : decode cc pc = .ok (.lconst n, 1)) (k : G p l e R s m args below meth c nL cells slots Q D cy g A H0 V (pc + 1) lv (.long v :: st)) : G p l e R s m args below meth c nL cells slots Q D cy g A H0 V pc lv st := by
  intro H locs ls hP hS hl
  exact lv_lconst C.1.1 C.1.2.1 hd hv (k H locs ls hP hS hl)
theorem S_al {H : Heap} {locs : List Loc} {oa : Nat} (hS : va_S (fun q => q ∈ gL g) H0 H locs) : va_S (AL g oa) H0 H locs := ⟨hS.1, fun q h1 h2 => hS.2.1 q h1 (fun z => h2 (Or.inl z)), fun q hq => Or.inl (hS.2.2 q hq)⟩
theorem LO_at {H : Heap} {locs : List Loc} {oa : Nat} {cL : ClassId} {v : Int64} (hO : LO oa cL v H0) (hno : oa ∉ gL g) (hS : va_S (fun q => q ∈ gL g) H0 H locs) : LO oa cL v H := by
  unfold LO at *
  rw [hS.2.1 oa (Array.getElem?_eq_some_iff.mp hO).1 hno]; exact hO
theorem gw_iret {oa : Nat} {cL : ClassId} {v : Int64} {post : Int → VT → Int64 → Prop} {x : Int} (C : Cx p s m args meth c cc nL own (some .int) D cy g (fun q => q ∈ gL g)) (hO : LO oa cL v s.heap) (hno : oa ∉ gL g) (h1 : cells ≤ 2) (h2 : slots ≤ 12) (hd : decode cc pc = .ok (.ireturn, 1)) (hp : post x V v) :
    G p l e R s m args below meth c nL cells slots (MQ below (QcL D cy g oa cL post) args s 2 12 (AL g oa)) D cy g (fun q => q ∈ gL g) s.heap V pc lv [vI x] := by
  intro H locs ls hP hS hl
  refine W.widen h1 h2 ?_
  exact W.iret (v := iI x) C.1.1 C.1.2.1 C.2.2.2.2.2.1 (fun t ht hW => ⟨⟨iI x, (x, V, v), rfl, ⟨rfl, hp⟩, by show va_P D vwCl (pw cy g V) t.heap; rw [ht]; exact hP, by show LO oa cL v t.heap; rw [ht]; exact LO_at hO hno hS⟩, (S_al hS).F ht⟩) (S_al hS).2.2 hd C.2.2.2.2.2.2
theorem gw_store {oa : Nat} {cL : ClassId} {v x : Int64} {post : Int → VT → Int64 → Prop} (C : Cx p s m args meth c cc nL own (some .int) D cy g (fun q => q ∈ gL g)) (hO : LO oa cL v s.heap) (hno : oa ∉ gL g) (hKL : va_K D vwCl [(cL, .long)] s) (h1 : cells ≤ 2) (h2 : slots ≤ 12) {off : Int} (tgt : Nat) (d1 : decode cc pc = .ok (.lastore, 1)) (d2 : decode cc (pc + 1) = .ok (.goto off, 3)) (ht : ((pc + 1 : Nat) : Int) + off = (tgt : Int)) (d3 : decode cc tgt = .ok (.iconst 0, 1)) (d4 : decode cc (tgt + 1) = .ok (.ireturn, 1)) (hp : post 0 V x) :
    G p l e R s m args below meth c nL cells slots (MQ below (QcL D cy g oa cL post) args s 2 12 (AL g oa)) D cy g (fun q => q ∈ gL g) s.heap V pc lv [.long x, vI 0, .ref oa] := by
  intro H locs ls hP hS hl
  have hOH := LO_at hO hno hS
  have hP2 : va_P D vwCl (pw cy g V ++ [(oa, .inl (cL, 1, .inr (.inl (fun _ => v))))]) H := hP.app (fun k q hk => by
    have hz : k < 1 := (List.getElem?_eq_some_iff.mp hk).1
    rw [show k = 0 by omega] at hk
    cases hk
    exact hOH)
  refine va_last C.1.1 C.1.2.1 hKL hP2 (D_out C.2.2.2.1 hno) (S_al hS) (pw cy g V).length 0 (by rw [List.getElem?_append_right (Nat.le_refl _)]; simp; rfl) rfl (iI_in (i := 0) (n := 1) (by decide) (by decide) rng0) d1 (fun H1 locs1 hP1 _ hS1 => ?_)
  have hset : (pw cy g V ++ [(oa, (.inl (cL, 1, .inr (.inl (fun _ => v))) : va_E))]).set (pw cy g V).length (oa, .inl (cL, 1, .inr (.inl (vp_updL (fun _ => v) (iI 0).toNatClampNeg x)))) = pw cy g V ++ [(oa, .inl (cL, 1, .inr (.inl (vp_updL (fun _ => v) (iI 0).toNatClampNeg x))))] := by
    rw [List.set_append_right _ _ (Nat.le_refl _)]
    simp
  rw [hset] at hP1
  have hPp : va_P D vwCl (pw cy g V) H1 := fun k q hk => hP1 k q (by rw [List.getElem?_append_left (List.getElem?_eq_some_iff.mp hk).1]; exact hk)
  have hOx : LO oa cL x H1 := by
    have h9 : va_at D vwCl (oa, .inl (cL, 1, .inr (.inl (vp_updL (fun _ => v) (iI 0).toNatClampNeg x)))) H1 := hP1 (pw cy g V).length _ (by rw [List.getElem?_append_right (Nat.le_refl _)]; simp)
    have h8 : H1[oa]? = some (vp_cell cL (1, .inr (.inl (vp_updL (fun _ => v) (iI 0).toNatClampNeg x)))) := h9
    unfold LO
    rw [h8]
    congr 1
  refine lv_goto C.1.1 C.1.2.1 d2 ht ?_
  refine lv_iconst C.1.1 C.1.2.1 d3 rfl ?_
  refine W.widen h1 h2 ?_
  exact W.iret (v := iI 0) C.1.1 C.1.2.1 C.2.2.2.2.2.1 (fun t ht hW => ⟨⟨iI 0, (0, V, x), rfl, ⟨rfl, hp⟩, by show va_P D vwCl (pw cy g V) t.heap; rw [ht]; exact hPp, by show LO oa cL x t.heap; rw [ht]; exact hOx⟩, hS1.F ht⟩) hS1.2.2 d4 C.2.2.2.2.2.2
/-- what takes an exception E at pc: the handler's pc -/
def Tk (s : State) (args : Array Value) (c : Code) (own : String) (pc : Nat) (E : String) (hpc : Nat) : Prop := ∃ (pre : List ExceptionTableEntry) (x : ExceptionTableEntry) (suf : List ExceptionTableEntry) (name : String), c.exceptionTable.toList = pre ++ x :: suf ∧ (∀ z ∈ pre, covers z pc = false ∨ (z.catchType ≠ 0 ∧ ∃ nm : String, (Cond.classLink own z.catchType nm).before args s = true ∧ va_Nc E nm s)) ∧ covers x pc = true ∧ x.catchType ≠ 0 ∧ (Cond.classLink own x.catchType name).before args s = true ∧ (Cond.castable E name).before args s = true ∧ x.handlerPc = hpc
theorem gw_call (C : Cx p s m args meth c cc nL own ret D cy g (fun q => q ∈ gL g)) (hT : TX g s) {y : MethodName} {ccy : ByteArray} {maxLy index b : Nat} {rety : Option FieldType} (av : List Value) (rest : List Value) {post : Int → VT → Prop} {px : String → VT → Prop}
    (hM : MetXI l y ccy maxLy rety 8 2 D cy g (.ref b :: av) V post px) (hL : LkV own index y ccy maxLy rety av.length) (hb : rcv g b y.cls) (hst : st = av.reverse ++ .ref b :: rest) (hw : (rest.map fun v => v.category).sum ≤ 8) (hR : 8 + 1 ≤ R.frames ∧ 8 + (maxLy + 11) + 33 * 8 ≤ R.locals) (hcl : cells + 2 ≤ R.cells ∧ slots + 12 ≤ R.slots) (hd : decode cc pc = .ok (.invokevirtual index, 3))
    (kx : ∀ (E : String) (u : VT), px E u → ∃ hpc, Tk s args c own pc E hpc ∧ ∀ q, G p l e R s m args below meth c nL (cells + 2) (slots + 12) Q D cy g (fun q => q ∈ gL g) s.heap u hpc lv [.ref q])
    (kk : ∀ (r : Int) (V' : VT), post r V' → G p l e R s m args below meth c nL (cells + 2) (slots + 12) Q D cy g (fun q => q ∈ gL g) s.heap V' (pc + 3) lv (vI r :: rest)) : G p l e R s m args below meth c nL cells slots Q D cy g (fun q => q ∈ gL g) s.heap V pc lv st := by
  intro H locs ls hP hS hl
  obtain ⟨⟨l1, l2, l3, l4, l5⟩, l6⟩ := hL
  obtain ⟨hbL, hb2⟩ := hb
  obtain ⟨ci, fs, T, N, hb3, hb4⟩ := hb2 cy V
  have cw : CallW R s args own y.cls index y ccy maxLy rety (.code y ccy maxLy rety :: wsG) (rmx 8 2) 2 12 av.length :=
    cwV (C := y.cls) av.length C.1.2.2.2.2 (wsG_all (fun w hw => by
      simp only [wsV, List.mem_append, List.mem_cons, List.not_mem_nil, or_false] at hw
      rcases hw with (rfl | rfl | rfl | rfl) | rfl | h
      · exact l1
      · exact l2
      · exact l3
      · exact l4
      · exact l5
      · exact h)) rfl rfl rfl ⟨rfl, l6⟩ hR
  refine vx_calli (vx_runV (As := av) (rest := rest) C.1 hM cw ⟨PcX_blind, cls_of (o := 0) C hbL hb3 hb4 hP, fun U hU hW => ⟨rfl, by rw [hU]; exact hP, va_K.moved hW.alike C.2.1, NW_warm hW C.2.2.1, TX_at hT hS hU hW⟩⟩ rfl rfl hl.1 hst (lv_room (m := m) (pc := pc) (ls := ls) (rest := st) hw) hd hcl) hS (fun q _ h => h) (fun q h => h) (fun q _ h => h) ?_ ?_
  · rintro E ce q9 u t H1 locs1 ht hvm - ⟨hpx, hPu⟩ hz hk hS1 hce hcv hcl9
    obtain ⟨hpc, ⟨pre, x, suf, name, t1, t2, t3, t4, t5, t6, t7⟩, kG⟩ := kx E u hpx
    refine vx_catch C.1.2.2.2.1 pre x suf t1 t2 t3 t4 t5 t6 hce hcv hcl9 ?_
    rw [t7]
    exact kG q9 H1 locs1 ls (by rw [← ht]; exact hPu) hS1 hl
  · rintro r ⟨x, V'⟩ t H1 locs1 ht _ ⟨rfl, hp⟩ hB _ _ hS1
    exact kk x V' hp H1 locs1 ls (by rw [← ht]; exact hB) hS1 hl
theorem tk_1 {ks : Nat × Nat × Nat × Nat} {own E : String} (C : Cx p s m args meth c cc nL own ret D cy g A) (hT : TX g s) (htab : c.exceptionTable.toList = tableOf [ks]) (h1 : covers ⟨ks.1, ks.2.1, ks.2.2.1, ks.2.2.2⟩ pc = true) (h2 : ks.2.2.2 ≠ 0) (h3 : Cond.classLink own ks.2.2.2 E ∈ wsG) (h4 : Cond.castable E E ∈ xwL) : Tk s args c own pc E ks.2.2.1 :=
  ⟨[], ⟨ks.1, ks.2.1, ks.2.2.1, ks.2.2.2⟩, [], E, htab, fun z hz => absurd hz List.not_mem_nil, h1, h2, C.1.2.2.2.2 _ h3, va_Nw.use (xwL_on _ h4) (hT.1 _ h4), rfl⟩
theorem tk_2a {ks k2 : Nat × Nat × Nat × Nat} {own E : String} (C : Cx p s m args meth c cc nL own ret D cy g A) (hT : TX g s) (htab : c.exceptionTable.toList = tableOf [ks, k2]) (h1 : covers ⟨ks.1, ks.2.1, ks.2.2.1, ks.2.2.2⟩ pc = true) (h2 : ks.2.2.2 ≠ 0) (h3 : Cond.classLink own ks.2.2.2 E ∈ wsG) (h4 : Cond.castable E E ∈ xwL) : Tk s args c own pc E ks.2.2.1 :=
  ⟨[], ⟨ks.1, ks.2.1, ks.2.2.1, ks.2.2.2⟩, [⟨k2.1, k2.2.1, k2.2.2.1, k2.2.2.2⟩], E, htab, fun z hz => absurd hz List.not_mem_nil, h1, h2, C.1.2.2.2.2 _ h3, va_Nw.use (xwL_on _ h4) (hT.1 _ h4), rfl⟩
theorem tk_2b {ks k2 : Nat × Nat × Nat × Nat} {own E E2 : String} (C : Cx p s m args meth c cc nL own ret D cy g A) (hT : TX g s) (htab : c.exceptionTable.toList = tableOf [ks, k2]) (h0 : ks.2.2.2 ≠ 0) (h00 : Cond.classLink own ks.2.2.2 E2 ∈ wsG) (hNc : va_Nc E E2 s) (h1 : covers ⟨k2.1, k2.2.1, k2.2.2.1, k2.2.2.2⟩ pc = true) (h2 : k2.2.2.2 ≠ 0) (h3 : Cond.classLink own k2.2.2.2 E ∈ wsG) (h4 : Cond.castable E E ∈ xwL) : Tk s args c own pc E k2.2.2.1 :=
  ⟨[⟨ks.1, ks.2.1, ks.2.2.1, ks.2.2.2⟩], ⟨k2.1, k2.2.1, k2.2.2.1, k2.2.2.2⟩, [], E, htab, fun z hz => by rw [List.mem_singleton.mp hz]; exact Or.inr ⟨h0, E2, C.1.2.2.2.2 _ h00, hNc⟩, h1, h2, C.1.2.2.2.2 _ h3, va_Nw.use (xwL_on _ h4) (hT.1 _ h4), rfl⟩
end
def WP1 (post : Int → VT → Prop) (px : String → VT → Prop) (E : String) (v : Int64) : Int → VT → Int64 → Prop := fun k V' v' => (k = 0 ∧ ∃ r, post r V' ∧ v' = lL r) ∨ (k = 1 ∧ px E V' ∧ v' = v)
def WP2 (post : Int → VT → Prop) (px : String → VT → Prop) (v : Int64) : Int → VT → Int64 → Prop := fun k V' v' => (k = 0 ∧ ∃ r, post r V' ∧ v' = lL r) ∨ (k = 1 ∧ px xNSE V' ∧ v' = v) ∨ (k = 2 ∧ px xIAE V' ∧ v' = v)
theorem xw_I : Cond.castable xIAE xIAE ∈ xwL := List.mem_of_getElem? (i := 0) rfl
theorem xw_N : Cond.castable xNSE xNSE ∈ xwL := List.mem_of_getElem? (i := 1) rfl
